section
-- ===== PART A: goes FIRST, ahead of the names: the tables' words, and 'selects' of the private methods out of them =====
/-- a private method of a class that the tables say can be made, by its rows of tables_1 -/
def lw_okq (q : MethodName × Nat) : Prop := (q.1.cls ≠ "java/lang/invoke/MethodHandle" ∧ q.1.cls ≠ "java/lang/invoke/VarHandle") ∧ Cond.instantiable q.1.cls q.2 ∈ tables_1 ∧ Cond.privateMethod q.1 ∈ tables_1 ∧ Cond.instanceMethod q.1 ∈ tables_1
theorem lw_p0 : lw_okq (⟨"GridHouse$Tape", "learn", "(Ljava/lang/String;I)I"⟩, 8) := ⟨⟨by decide +kernel, by decide +kernel⟩, List.mem_of_getElem? (i := 37) (by decide +kernel), List.mem_of_getElem? (i := 45) (by decide +kernel), List.mem_of_getElem? (i := 46) (by decide +kernel)⟩
theorem lw_p1 : lw_okq (⟨"GridHouse$Tape", "readOn", "(I)V"⟩, 8) := ⟨⟨by decide +kernel, by decide +kernel⟩, List.mem_of_getElem? (i := 37) (by decide +kernel), List.mem_of_getElem? (i := 904) (by decide +kernel), List.mem_of_getElem? (i := 905) (by decide +kernel)⟩
theorem lw_p2 : lw_okq (⟨"GridHouse$Net", "readObject", "(LGridHouse$Tape;)Z"⟩, 8) := ⟨⟨by decide +kernel, by decide +kernel⟩, List.mem_of_getElem? (i := 130) (by decide +kernel), List.mem_of_getElem? (i := 909) (by decide +kernel), List.mem_of_getElem? (i := 910) (by decide +kernel)⟩
theorem lw_p3 : lw_okq (⟨"GridHouse$Net", "blank", "(II)V"⟩, 8) := ⟨⟨by decide +kernel, by decide +kernel⟩, List.mem_of_getElem? (i := 130) (by decide +kernel), List.mem_of_getElem? (i := 926) (by decide +kernel), List.mem_of_getElem? (i := 927) (by decide +kernel)⟩
theorem lw_p4 : lw_okq (⟨"GridHouse$Net", "readEnds", "(LGridHouse$Tape;II)Z"⟩, 8) := ⟨⟨by decide +kernel, by decide +kernel⟩, List.mem_of_getElem? (i := 130) (by decide +kernel), List.mem_of_getElem? (i := 938) (by decide +kernel), List.mem_of_getElem? (i := 939) (by decide +kernel)⟩
theorem lw_p5 : lw_okq (⟨"GridHouse$Net", "readState", "(LGridHouse$Tape;I)Z"⟩, 8) := ⟨⟨by decide +kernel, by decide +kernel⟩, List.mem_of_getElem? (i := 130) (by decide +kernel), List.mem_of_getElem? (i := 950) (by decide +kernel), List.mem_of_getElem? (i := 951) (by decide +kernel)⟩
theorem lw_p6 : lw_okq (⟨"GridHouse$Net", "readNumbers", "(LGridHouse$Tape;II)Z"⟩, 8) := ⟨⟨by decide +kernel, by decide +kernel⟩, List.mem_of_getElem? (i := 130) (by decide +kernel), List.mem_of_getElem? (i := 954) (by decide +kernel), List.mem_of_getElem? (i := 955) (by decide +kernel)⟩
theorem lw_p7 : lw_okq (⟨"GridHouse$Net", "agrees", "(III)Z"⟩, 8) := ⟨⟨by decide +kernel, by decide +kernel⟩, List.mem_of_getElem? (i := 130) (by decide +kernel), List.mem_of_getElem? (i := 971) (by decide +kernel), List.mem_of_getElem? (i := 972) (by decide +kernel)⟩
theorem lw_p8 : lw_okq (⟨"GridHouse", "changed", "()V"⟩, 15) := ⟨⟨by decide +kernel, by decide +kernel⟩, List.mem_of_getElem? (i := 29) (by decide +kernel), List.mem_of_getElem? (i := 1006) (by decide +kernel), List.mem_of_getElem? (i := 1007) (by decide +kernel)⟩
theorem lw_p9 : lw_okq (⟨"GridHouse$Rules", "readRule", "(LGridHouse$Tape;LGridHouse$Net;)Z"⟩, 20) := ⟨⟨by decide +kernel, by decide +kernel⟩, List.mem_of_getElem? (i := 757) (by decide +kernel), List.mem_of_getElem? (i := 1020) (by decide +kernel), List.mem_of_getElem? (i := 1021) (by decide +kernel)⟩
theorem lw_p10 : lw_okq (⟨"GridHouse$Rules", "put", "(I)V"⟩, 20) := ⟨⟨by decide +kernel, by decide +kernel⟩, List.mem_of_getElem? (i := 757) (by decide +kernel), List.mem_of_getElem? (i := 1028) (by decide +kernel), List.mem_of_getElem? (i := 1029) (by decide +kernel)⟩
theorem lw_p11 : lw_okq (⟨"GridHouse$Rules", "readCondition", "(LGridHouse$Tape;LGridHouse$Net;I)Z"⟩, 20) := ⟨⟨by decide +kernel, by decide +kernel⟩, List.mem_of_getElem? (i := 757) (by decide +kernel), List.mem_of_getElem? (i := 1032) (by decide +kernel), List.mem_of_getElem? (i := 1033) (by decide +kernel)⟩
theorem lw_p12 : lw_okq (⟨"GridHouse$Rules", "push", "(I)V"⟩, 20) := ⟨⟨by decide +kernel, by decide +kernel⟩, List.mem_of_getElem? (i := 757) (by decide +kernel), List.mem_of_getElem? (i := 1036) (by decide +kernel), List.mem_of_getElem? (i := 1037) (by decide +kernel)⟩
theorem lw_p13 : lw_okq (⟨"GridHouse$Rules", "readAsked", "(LGridHouse$Tape;)I"⟩, 20) := ⟨⟨by decide +kernel, by decide +kernel⟩, List.mem_of_getElem? (i := 757) (by decide +kernel), List.mem_of_getElem? (i := 1041) (by decide +kernel), List.mem_of_getElem? (i := 1042) (by decide +kernel)⟩
theorem lw_p14 : lw_okq (⟨"GridHouse$Rules", "readBound", "(LGridHouse$Tape;)Z"⟩, 20) := ⟨⟨by decide +kernel, by decide +kernel⟩, List.mem_of_getElem? (i := 757) (by decide +kernel), List.mem_of_getElem? (i := 1048) (by decide +kernel), List.mem_of_getElem? (i := 1049) (by decide +kernel)⟩
theorem lw_p15 : lw_okq (⟨"GridHouse$Rules", "readObjects", "(LGridHouse$Tape;LGridHouse$Net;II)Z"⟩, 20) := ⟨⟨by decide +kernel, by decide +kernel⟩, List.mem_of_getElem? (i := 757) (by decide +kernel), List.mem_of_getElem? (i := 1052) (by decide +kernel), List.mem_of_getElem? (i := 1053) (by decide +kernel)⟩
def lw_privs_1 : List (MethodName × Nat) := [(⟨"GridHouse$Tape", "learn", "(Ljava/lang/String;I)I"⟩, 8), (⟨"GridHouse$Tape", "readOn", "(I)V"⟩, 8), (⟨"GridHouse$Net", "readObject", "(LGridHouse$Tape;)Z"⟩, 8), (⟨"GridHouse$Net", "blank", "(II)V"⟩, 8), (⟨"GridHouse$Net", "readEnds", "(LGridHouse$Tape;II)Z"⟩, 8), (⟨"GridHouse$Net", "readState", "(LGridHouse$Tape;I)Z"⟩, 8), (⟨"GridHouse$Net", "readNumbers", "(LGridHouse$Tape;II)Z"⟩, 8), (⟨"GridHouse$Net", "agrees", "(III)Z"⟩, 8), (⟨"GridHouse", "changed", "()V"⟩, 15), (⟨"GridHouse$Rules", "readRule", "(LGridHouse$Tape;LGridHouse$Net;)Z"⟩, 20), (⟨"GridHouse$Rules", "put", "(I)V"⟩, 20), (⟨"GridHouse$Rules", "readCondition", "(LGridHouse$Tape;LGridHouse$Net;I)Z"⟩, 20), (⟨"GridHouse$Rules", "push", "(I)V"⟩, 20), (⟨"GridHouse$Rules", "readAsked", "(LGridHouse$Tape;)I"⟩, 20), (⟨"GridHouse$Rules", "readBound", "(LGridHouse$Tape;)Z"⟩, 20), (⟨"GridHouse$Rules", "readObjects", "(LGridHouse$Tape;LGridHouse$Net;II)Z"⟩, 20)]
theorem lw_r1 : ∀ q ∈ lw_privs_1, lw_okq q := List.forall_mem_cons.mpr ⟨lw_p0, List.forall_mem_cons.mpr ⟨lw_p1, List.forall_mem_cons.mpr ⟨lw_p2, List.forall_mem_cons.mpr ⟨lw_p3, List.forall_mem_cons.mpr ⟨lw_p4, List.forall_mem_cons.mpr ⟨lw_p5, List.forall_mem_cons.mpr ⟨lw_p6, List.forall_mem_cons.mpr ⟨lw_p7, List.forall_mem_cons.mpr ⟨lw_p8, List.forall_mem_cons.mpr ⟨lw_p9, List.forall_mem_cons.mpr ⟨lw_p10, List.forall_mem_cons.mpr ⟨lw_p11, List.forall_mem_cons.mpr ⟨lw_p12, List.forall_mem_cons.mpr ⟨lw_p13, List.forall_mem_cons.mpr ⟨lw_p14, List.forall_mem_cons.mpr ⟨lw_p15, fun _ h => absurd h List.not_mem_nil⟩⟩⟩⟩⟩⟩⟩⟩⟩⟩⟩⟩⟩⟩⟩⟩
theorem lw_p16 : lw_okq (⟨"GridHouse$Rules", "release", "(I)V"⟩, 20) := ⟨⟨by decide +kernel, by decide +kernel⟩, List.mem_of_getElem? (i := 757) (by decide +kernel), List.mem_of_getElem? (i := 1062) (by decide +kernel), List.mem_of_getElem? (i := 1063) (by decide +kernel)⟩
theorem lw_p17 : lw_okq (⟨"GridHouse$Rules", "closeBrackets", "(LGridHouse$Tape;I)I"⟩, 20) := ⟨⟨by decide +kernel, by decide +kernel⟩, List.mem_of_getElem? (i := 757) (by decide +kernel), List.mem_of_getElem? (i := 1066) (by decide +kernel), List.mem_of_getElem? (i := 1067) (by decide +kernel)⟩
theorem lw_p18 : lw_okq (⟨"GridHouse", "now", "()LGridHouse$Flow;"⟩, 15) := ⟨⟨by decide +kernel, by decide +kernel⟩, List.mem_of_getElem? (i := 29) (by decide +kernel), List.mem_of_getElem? (i := 1103) (by decide +kernel), List.mem_of_getElem? (i := 1104) (by decide +kernel)⟩
theorem lw_p19 : lw_okq (⟨"GridHouse$Shape", "tally", "()V"⟩, 12) := ⟨⟨by decide +kernel, by decide +kernel⟩, List.mem_of_getElem? (i := 314) (by decide +kernel), List.mem_of_getElem? (i := 1128) (by decide +kernel), List.mem_of_getElem? (i := 1129) (by decide +kernel)⟩
theorem lw_p20 : lw_okq (⟨"GridHouse$Flow", "addLoads", "()V"⟩, 17) := ⟨⟨by decide +kernel, by decide +kernel⟩, List.mem_of_getElem? (i := 300) (by decide +kernel), List.mem_of_getElem? (i := 1132) (by decide +kernel), List.mem_of_getElem? (i := 1133) (by decide +kernel)⟩
theorem lw_p21 : lw_okq (⟨"GridHouse$Flow", "addMachines", "()V"⟩, 17) := ⟨⟨by decide +kernel, by decide +kernel⟩, List.mem_of_getElem? (i := 300) (by decide +kernel), List.mem_of_getElem? (i := 1141) (by decide +kernel), List.mem_of_getElem? (i := 1142) (by decide +kernel)⟩
theorem lw_p22 : lw_okq (⟨"GridHouse$Flow", "solve", "()V"⟩, 17) := ⟨⟨by decide +kernel, by decide +kernel⟩, List.mem_of_getElem? (i := 300) (by decide +kernel), List.mem_of_getElem? (i := 1158) (by decide +kernel), List.mem_of_getElem? (i := 1159) (by decide +kernel)⟩
theorem lw_p23 : lw_okq (⟨"GridHouse$Flow", "inject", "(I)V"⟩, 17) := ⟨⟨by decide +kernel, by decide +kernel⟩, List.mem_of_getElem? (i := 300) (by decide +kernel), List.mem_of_getElem? (i := 1208) (by decide +kernel), List.mem_of_getElem? (i := 1209) (by decide +kernel)⟩
theorem lw_p24 : lw_okq (⟨"GridHouse$Flow", "given", "(I)I"⟩, 17) := ⟨⟨by decide +kernel, by decide +kernel⟩, List.mem_of_getElem? (i := 300) (by decide +kernel), List.mem_of_getElem? (i := 1216) (by decide +kernel), List.mem_of_getElem? (i := 1217) (by decide +kernel)⟩
theorem lw_p25 : lw_okq (⟨"GridHouse$Solver", "clear", "(IIII)V"⟩, 9) := ⟨⟨by decide +kernel, by decide +kernel⟩, List.mem_of_getElem? (i := 253) (by decide +kernel), List.mem_of_getElem? (i := 1240) (by decide +kernel), List.mem_of_getElem? (i := 1241) (by decide +kernel)⟩
theorem lw_p26 : lw_okq (⟨"GridHouse$Big", "trim", "()V"⟩, 3) := ⟨⟨by decide +kernel, by decide +kernel⟩, List.mem_of_getElem? (i := 191) (by decide +kernel), List.mem_of_getElem? (i := 1264) (by decide +kernel), List.mem_of_getElem? (i := 1265) (by decide +kernel)⟩
theorem lw_p27 : lw_okq (⟨"GridHouse$Big", "shrink", "(LGridHouse$Big;LGridHouse$Big;)V"⟩, 3) := ⟨⟨by decide +kernel, by decide +kernel⟩, List.mem_of_getElem? (i := 191) (by decide +kernel), List.mem_of_getElem? (i := 1291) (by decide +kernel), List.mem_of_getElem? (i := 1292) (by decide +kernel)⟩
theorem lw_p28 : lw_okq (⟨"GridHouse$Flow", "carried", "(ILGridHouse$Big;LGridHouse$Big;)V"⟩, 17) := ⟨⟨by decide +kernel, by decide +kernel⟩, List.mem_of_getElem? (i := 300) (by decide +kernel), List.mem_of_getElem? (i := 1295) (by decide +kernel), List.mem_of_getElem? (i := 1296) (by decide +kernel)⟩
theorem lw_p29 : lw_okq (⟨"GridHouse$Big", "grow", "(LGridHouse$Big;)V"⟩, 3) := ⟨⟨by decide +kernel, by decide +kernel⟩, List.mem_of_getElem? (i := 191) (by decide +kernel), List.mem_of_getElem? (i := 1306) (by decide +kernel), List.mem_of_getElem? (i := 1307) (by decide +kernel)⟩
theorem lw_p30 : lw_okq (⟨"GridHouse$Flow", "note", "(ILGridHouse$Flow;)V"⟩, 17) := ⟨⟨by decide +kernel, by decide +kernel⟩, List.mem_of_getElem? (i := 300) (by decide +kernel), List.mem_of_getElem? (i := 1320) (by decide +kernel), List.mem_of_getElem? (i := 1321) (by decide +kernel)⟩
theorem lw_p31 : lw_okq (⟨"GridHouse", "estimated", "()LGridHouse$Meters;"⟩, 15) := ⟨⟨by decide +kernel, by decide +kernel⟩, List.mem_of_getElem? (i := 29) (by decide +kernel), List.mem_of_getElem? (i := 1328) (by decide +kernel), List.mem_of_getElem? (i := 1329) (by decide +kernel)⟩
def lw_privs_2 : List (MethodName × Nat) := [(⟨"GridHouse$Rules", "release", "(I)V"⟩, 20), (⟨"GridHouse$Rules", "closeBrackets", "(LGridHouse$Tape;I)I"⟩, 20), (⟨"GridHouse", "now", "()LGridHouse$Flow;"⟩, 15), (⟨"GridHouse$Shape", "tally", "()V"⟩, 12), (⟨"GridHouse$Flow", "addLoads", "()V"⟩, 17), (⟨"GridHouse$Flow", "addMachines", "()V"⟩, 17), (⟨"GridHouse$Flow", "solve", "()V"⟩, 17), (⟨"GridHouse$Flow", "inject", "(I)V"⟩, 17), (⟨"GridHouse$Flow", "given", "(I)I"⟩, 17), (⟨"GridHouse$Solver", "clear", "(IIII)V"⟩, 9), (⟨"GridHouse$Big", "trim", "()V"⟩, 3), (⟨"GridHouse$Big", "shrink", "(LGridHouse$Big;LGridHouse$Big;)V"⟩, 3), (⟨"GridHouse$Flow", "carried", "(ILGridHouse$Big;LGridHouse$Big;)V"⟩, 17), (⟨"GridHouse$Big", "grow", "(LGridHouse$Big;)V"⟩, 3), (⟨"GridHouse$Flow", "note", "(ILGridHouse$Flow;)V"⟩, 17), (⟨"GridHouse", "estimated", "()LGridHouse$Meters;"⟩, 15)]
theorem lw_r2 : ∀ q ∈ lw_privs_2, lw_okq q := List.forall_mem_cons.mpr ⟨lw_p16, List.forall_mem_cons.mpr ⟨lw_p17, List.forall_mem_cons.mpr ⟨lw_p18, List.forall_mem_cons.mpr ⟨lw_p19, List.forall_mem_cons.mpr ⟨lw_p20, List.forall_mem_cons.mpr ⟨lw_p21, List.forall_mem_cons.mpr ⟨lw_p22, List.forall_mem_cons.mpr ⟨lw_p23, List.forall_mem_cons.mpr ⟨lw_p24, List.forall_mem_cons.mpr ⟨lw_p25, List.forall_mem_cons.mpr ⟨lw_p26, List.forall_mem_cons.mpr ⟨lw_p27, List.forall_mem_cons.mpr ⟨lw_p28, List.forall_mem_cons.mpr ⟨lw_p29, List.forall_mem_cons.mpr ⟨lw_p30, List.forall_mem_cons.mpr ⟨lw_p31, fun _ h => absurd h List.not_mem_nil⟩⟩⟩⟩⟩⟩⟩⟩⟩⟩⟩⟩⟩⟩⟩⟩
theorem lw_p32 : lw_okq (⟨"GridHouse$Meters", "markSeen", "()V"⟩, 19) := ⟨⟨by decide +kernel, by decide +kernel⟩, List.mem_of_getElem? (i := 457) (by decide +kernel), List.mem_of_getElem? (i := 1336) (by decide +kernel), List.mem_of_getElem? (i := 1337) (by decide +kernel)⟩
theorem lw_p33 : lw_okq (⟨"GridHouse$Meters", "rankByPrime", "(I)I"⟩, 19) := ⟨⟨by decide +kernel, by decide +kernel⟩, List.mem_of_getElem? (i := 457) (by decide +kernel), List.mem_of_getElem? (i := 1348) (by decide +kernel), List.mem_of_getElem? (i := 1349) (by decide +kernel)⟩
theorem lw_p34 : lw_okq (⟨"GridHouse$Meters", "lay", "(I[J)V"⟩, 19) := ⟨⟨by decide +kernel, by decide +kernel⟩, List.mem_of_getElem? (i := 457) (by decide +kernel), List.mem_of_getElem? (i := 1353) (by decide +kernel), List.mem_of_getElem? (i := 1354) (by decide +kernel)⟩
theorem lw_p35 : lw_okq (⟨"GridHouse$Meters", "layLine", "(II[J)V"⟩, 19) := ⟨⟨by decide +kernel, by decide +kernel⟩, List.mem_of_getElem? (i := 457) (by decide +kernel), List.mem_of_getElem? (i := 1357) (by decide +kernel), List.mem_of_getElem? (i := 1358) (by decide +kernel)⟩
theorem lw_p36 : lw_okq (⟨"GridHouse$Meters", "layAngle", "(IJ[J)V"⟩, 19) := ⟨⟨by decide +kernel, by decide +kernel⟩, List.mem_of_getElem? (i := 457) (by decide +kernel), List.mem_of_getElem? (i := 1368) (by decide +kernel), List.mem_of_getElem? (i := 1369) (by decide +kernel)⟩
theorem lw_p37 : lw_okq (⟨"GridHouse$Meters", "isFixed", "(II)Z"⟩, 19) := ⟨⟨by decide +kernel, by decide +kernel⟩, List.mem_of_getElem? (i := 457) (by decide +kernel), List.mem_of_getElem? (i := 1373) (by decide +kernel), List.mem_of_getElem? (i := 1374) (by decide +kernel)⟩
theorem lw_p38 : lw_okq (⟨"GridHouse$Meters", "markWhole", "()V"⟩, 19) := ⟨⟨by decide +kernel, by decide +kernel⟩, List.mem_of_getElem? (i := 457) (by decide +kernel), List.mem_of_getElem? (i := 1379) (by decide +kernel), List.mem_of_getElem? (i := 1380) (by decide +kernel)⟩
theorem lw_p39 : lw_okq (⟨"GridHouse$Meters", "weigh", "()V"⟩, 19) := ⟨⟨by decide +kernel, by decide +kernel⟩, List.mem_of_getElem? (i := 457) (by decide +kernel), List.mem_of_getElem? (i := 1383) (by decide +kernel), List.mem_of_getElem? (i := 1384) (by decide +kernel)⟩
theorem lw_p40 : lw_okq (⟨"GridHouse$Meters", "heaviest", "()I"⟩, 19) := ⟨⟨by decide +kernel, by decide +kernel⟩, List.mem_of_getElem? (i := 457) (by decide +kernel), List.mem_of_getElem? (i := 1391) (by decide +kernel), List.mem_of_getElem? (i := 1392) (by decide +kernel)⟩
theorem lw_p41 : lw_okq (⟨"GridHouse$Meters", "fill", "(I)J"⟩, 19) := ⟨⟨by decide +kernel, by decide +kernel⟩, List.mem_of_getElem? (i := 457) (by decide +kernel), List.mem_of_getElem? (i := 1397) (by decide +kernel), List.mem_of_getElem? (i := 1398) (by decide +kernel)⟩
theorem lw_p42 : lw_okq (⟨"GridHouse$Meters", "islandOf", "(I)I"⟩, 19) := ⟨⟨by decide +kernel, by decide +kernel⟩, List.mem_of_getElem? (i := 457) (by decide +kernel), List.mem_of_getElem? (i := 1405) (by decide +kernel), List.mem_of_getElem? (i := 1406) (by decide +kernel)⟩
theorem lw_p43 : lw_okq (⟨"GridHouse$Meters", "addMeter", "(II)V"⟩, 19) := ⟨⟨by decide +kernel, by decide +kernel⟩, List.mem_of_getElem? (i := 457) (by decide +kernel), List.mem_of_getElem? (i := 1409) (by decide +kernel), List.mem_of_getElem? (i := 1410) (by decide +kernel)⟩
theorem lw_p44 : lw_okq (⟨"GridHouse$Meters", "foldMeters", "(IJ)V"⟩, 19) := ⟨⟨by decide +kernel, by decide +kernel⟩, List.mem_of_getElem? (i := 457) (by decide +kernel), List.mem_of_getElem? (i := 1421) (by decide +kernel), List.mem_of_getElem? (i := 1422) (by decide +kernel)⟩
theorem lw_p45 : lw_okq (⟨"GridHouse$Meters", "dot", "(III)J"⟩, 19) := ⟨⟨by decide +kernel, by decide +kernel⟩, List.mem_of_getElem? (i := 457) (by decide +kernel), List.mem_of_getElem? (i := 1425) (by decide +kernel), List.mem_of_getElem? (i := 1426) (by decide +kernel)⟩
theorem lw_p46 : lw_okq (⟨"GridHouse$Meters", "isWorse", "(II)Z"⟩, 19) := ⟨⟨by decide +kernel, by decide +kernel⟩, List.mem_of_getElem? (i := 457) (by decide +kernel), List.mem_of_getElem? (i := 1439) (by decide +kernel), List.mem_of_getElem? (i := 1440) (by decide +kernel)⟩
theorem lw_p47 : lw_okq (⟨"GridHouse$Meters", "weighed", "(IILGridHouse$Big;)V"⟩, 19) := ⟨⟨by decide +kernel, by decide +kernel⟩, List.mem_of_getElem? (i := 457) (by decide +kernel), List.mem_of_getElem? (i := 1443) (by decide +kernel), List.mem_of_getElem? (i := 1444) (by decide +kernel)⟩
def lw_privs_3 : List (MethodName × Nat) := [(⟨"GridHouse$Meters", "markSeen", "()V"⟩, 19), (⟨"GridHouse$Meters", "rankByPrime", "(I)I"⟩, 19), (⟨"GridHouse$Meters", "lay", "(I[J)V"⟩, 19), (⟨"GridHouse$Meters", "layLine", "(II[J)V"⟩, 19), (⟨"GridHouse$Meters", "layAngle", "(IJ[J)V"⟩, 19), (⟨"GridHouse$Meters", "isFixed", "(II)Z"⟩, 19), (⟨"GridHouse$Meters", "markWhole", "()V"⟩, 19), (⟨"GridHouse$Meters", "weigh", "()V"⟩, 19), (⟨"GridHouse$Meters", "heaviest", "()I"⟩, 19), (⟨"GridHouse$Meters", "fill", "(I)J"⟩, 19), (⟨"GridHouse$Meters", "islandOf", "(I)I"⟩, 19), (⟨"GridHouse$Meters", "addMeter", "(II)V"⟩, 19), (⟨"GridHouse$Meters", "foldMeters", "(IJ)V"⟩, 19), (⟨"GridHouse$Meters", "dot", "(III)J"⟩, 19), (⟨"GridHouse$Meters", "isWorse", "(II)Z"⟩, 19), (⟨"GridHouse$Meters", "weighed", "(IILGridHouse$Big;)V"⟩, 19)]
theorem lw_r3 : ∀ q ∈ lw_privs_3, lw_okq q := List.forall_mem_cons.mpr ⟨lw_p32, List.forall_mem_cons.mpr ⟨lw_p33, List.forall_mem_cons.mpr ⟨lw_p34, List.forall_mem_cons.mpr ⟨lw_p35, List.forall_mem_cons.mpr ⟨lw_p36, List.forall_mem_cons.mpr ⟨lw_p37, List.forall_mem_cons.mpr ⟨lw_p38, List.forall_mem_cons.mpr ⟨lw_p39, List.forall_mem_cons.mpr ⟨lw_p40, List.forall_mem_cons.mpr ⟨lw_p41, List.forall_mem_cons.mpr ⟨lw_p42, List.forall_mem_cons.mpr ⟨lw_p43, List.forall_mem_cons.mpr ⟨lw_p44, List.forall_mem_cons.mpr ⟨lw_p45, List.forall_mem_cons.mpr ⟨lw_p46, List.forall_mem_cons.mpr ⟨lw_p47, fun _ h => absurd h List.not_mem_nil⟩⟩⟩⟩⟩⟩⟩⟩⟩⟩⟩⟩⟩⟩⟩⟩
theorem lw_p48 : lw_okq (⟨"GridHouse$Dispatch", "cut", "()V"⟩, 20) := ⟨⟨by decide +kernel, by decide +kernel⟩, List.mem_of_getElem? (i := 685) (by decide +kernel), List.mem_of_getElem? (i := 1486) (by decide +kernel), List.mem_of_getElem? (i := 1487) (by decide +kernel)⟩
theorem lw_p49 : lw_okq (⟨"GridHouse$Dispatch", "addPart", "(III)V"⟩, 20) := ⟨⟨by decide +kernel, by decide +kernel⟩, List.mem_of_getElem? (i := 685) (by decide +kernel), List.mem_of_getElem? (i := 1493) (by decide +kernel), List.mem_of_getElem? (i := 1494) (by decide +kernel)⟩
theorem lw_p50 : lw_okq (⟨"GridHouse$Dispatch", "share", "(I)Z"⟩, 20) := ⟨⟨by decide +kernel, by decide +kernel⟩, List.mem_of_getElem? (i := 685) (by decide +kernel), List.mem_of_getElem? (i := 1497) (by decide +kernel), List.mem_of_getElem? (i := 1498) (by decide +kernel)⟩
theorem lw_p51 : lw_okq (⟨"GridHouse$Dispatch", "shareIn", "(II)Z"⟩, 20) := ⟨⟨by decide +kernel, by decide +kernel⟩, List.mem_of_getElem? (i := 685) (by decide +kernel), List.mem_of_getElem? (i := 1501) (by decide +kernel), List.mem_of_getElem? (i := 1502) (by decide +kernel)⟩
theorem lw_p52 : lw_okq (⟨"GridHouse$Dispatch", "islandOf", "(I)I"⟩, 20) := ⟨⟨by decide +kernel, by decide +kernel⟩, List.mem_of_getElem? (i := 685) (by decide +kernel), List.mem_of_getElem? (i := 1507) (by decide +kernel), List.mem_of_getElem? (i := 1508) (by decide +kernel)⟩
theorem lw_p53 : lw_okq (⟨"GridHouse$Dispatch", "setOut", "()V"⟩, 20) := ⟨⟨by decide +kernel, by decide +kernel⟩, List.mem_of_getElem? (i := 685) (by decide +kernel), List.mem_of_getElem? (i := 1511) (by decide +kernel), List.mem_of_getElem? (i := 1512) (by decide +kernel)⟩
theorem lw_p54 : lw_okq (⟨"GridHouse$Dispatch", "measureLines", "(I)V"⟩, 20) := ⟨⟨by decide +kernel, by decide +kernel⟩, List.mem_of_getElem? (i := 685) (by decide +kernel), List.mem_of_getElem? (i := 1517) (by decide +kernel), List.mem_of_getElem? (i := 1518) (by decide +kernel)⟩
theorem lw_p55 : lw_okq (⟨"GridHouse$Dispatch", "injectStart", "(II)V"⟩, 20) := ⟨⟨by decide +kernel, by decide +kernel⟩, List.mem_of_getElem? (i := 685) (by decide +kernel), List.mem_of_getElem? (i := 1528) (by decide +kernel), List.mem_of_getElem? (i := 1529) (by decide +kernel)⟩
theorem lw_p56 : lw_okq (⟨"GridHouse$Dispatch", "injectColumn", "(II)V"⟩, 20) := ⟨⟨by decide +kernel, by decide +kernel⟩, List.mem_of_getElem? (i := 685) (by decide +kernel), List.mem_of_getElem? (i := 1536) (by decide +kernel), List.mem_of_getElem? (i := 1537) (by decide +kernel)⟩
theorem lw_p57 : lw_okq (⟨"GridHouse$Dispatch", "foldLines", "(IJ)V"⟩, 20) := ⟨⟨by decide +kernel, by decide +kernel⟩, List.mem_of_getElem? (i := 685) (by decide +kernel), List.mem_of_getElem? (i := 1542) (by decide +kernel), List.mem_of_getElem? (i := 1543) (by decide +kernel)⟩
theorem lw_p58 : lw_okq (⟨"GridHouse$Dispatch", "at", "(II)LGridHouse$Big;"⟩, 20) := ⟨⟨by decide +kernel, by decide +kernel⟩, List.mem_of_getElem? (i := 685) (by decide +kernel), List.mem_of_getElem? (i := 1549) (by decide +kernel), List.mem_of_getElem? (i := 1550) (by decide +kernel)⟩
theorem lw_p59 : lw_okq (⟨"GridHouse$Dispatch", "fillParts", "()V"⟩, 20) := ⟨⟨by decide +kernel, by decide +kernel⟩, List.mem_of_getElem? (i := 685) (by decide +kernel), List.mem_of_getElem? (i := 1556) (by decide +kernel), List.mem_of_getElem? (i := 1557) (by decide +kernel)⟩
theorem lw_p60 : lw_okq (⟨"GridHouse$Dispatch", "add", "(IIJ)V"⟩, 20) := ⟨⟨by decide +kernel, by decide +kernel⟩, List.mem_of_getElem? (i := 685) (by decide +kernel), List.mem_of_getElem? (i := 1560) (by decide +kernel), List.mem_of_getElem? (i := 1561) (by decide +kernel)⟩
theorem lw_p61 : lw_okq (⟨"GridHouse$Dispatch", "takeFromKeeper", "(III)V"⟩, 20) := ⟨⟨by decide +kernel, by decide +kernel⟩, List.mem_of_getElem? (i := 685) (by decide +kernel), List.mem_of_getElem? (i := 1570) (by decide +kernel), List.mem_of_getElem? (i := 1571) (by decide +kernel)⟩
theorem lw_p62 : lw_okq (⟨"GridHouse$Dispatch", "leaving", "()I"⟩, 20) := ⟨⟨by decide +kernel, by decide +kernel⟩, List.mem_of_getElem? (i := 685) (by decide +kernel), List.mem_of_getElem? (i := 1574) (by decide +kernel), List.mem_of_getElem? (i := 1575) (by decide +kernel)⟩
theorem lw_p63 : lw_okq (⟨"GridHouse$Dispatch", "turn", "(I)V"⟩, 20) := ⟨⟨by decide +kernel, by decide +kernel⟩, List.mem_of_getElem? (i := 685) (by decide +kernel), List.mem_of_getElem? (i := 1583) (by decide +kernel), List.mem_of_getElem? (i := 1584) (by decide +kernel)⟩
def lw_privs_4 : List (MethodName × Nat) := [(⟨"GridHouse$Dispatch", "cut", "()V"⟩, 20), (⟨"GridHouse$Dispatch", "addPart", "(III)V"⟩, 20), (⟨"GridHouse$Dispatch", "share", "(I)Z"⟩, 20), (⟨"GridHouse$Dispatch", "shareIn", "(II)Z"⟩, 20), (⟨"GridHouse$Dispatch", "islandOf", "(I)I"⟩, 20), (⟨"GridHouse$Dispatch", "setOut", "()V"⟩, 20), (⟨"GridHouse$Dispatch", "measureLines", "(I)V"⟩, 20), (⟨"GridHouse$Dispatch", "injectStart", "(II)V"⟩, 20), (⟨"GridHouse$Dispatch", "injectColumn", "(II)V"⟩, 20), (⟨"GridHouse$Dispatch", "foldLines", "(IJ)V"⟩, 20), (⟨"GridHouse$Dispatch", "at", "(II)LGridHouse$Big;"⟩, 20), (⟨"GridHouse$Dispatch", "fillParts", "()V"⟩, 20), (⟨"GridHouse$Dispatch", "add", "(IIJ)V"⟩, 20), (⟨"GridHouse$Dispatch", "takeFromKeeper", "(III)V"⟩, 20), (⟨"GridHouse$Dispatch", "leaving", "()I"⟩, 20), (⟨"GridHouse$Dispatch", "turn", "(I)V"⟩, 20)]
theorem lw_r4 : ∀ q ∈ lw_privs_4, lw_okq q := List.forall_mem_cons.mpr ⟨lw_p48, List.forall_mem_cons.mpr ⟨lw_p49, List.forall_mem_cons.mpr ⟨lw_p50, List.forall_mem_cons.mpr ⟨lw_p51, List.forall_mem_cons.mpr ⟨lw_p52, List.forall_mem_cons.mpr ⟨lw_p53, List.forall_mem_cons.mpr ⟨lw_p54, List.forall_mem_cons.mpr ⟨lw_p55, List.forall_mem_cons.mpr ⟨lw_p56, List.forall_mem_cons.mpr ⟨lw_p57, List.forall_mem_cons.mpr ⟨lw_p58, List.forall_mem_cons.mpr ⟨lw_p59, List.forall_mem_cons.mpr ⟨lw_p60, List.forall_mem_cons.mpr ⟨lw_p61, List.forall_mem_cons.mpr ⟨lw_p62, List.forall_mem_cons.mpr ⟨lw_p63, fun _ h => absurd h List.not_mem_nil⟩⟩⟩⟩⟩⟩⟩⟩⟩⟩⟩⟩⟩⟩⟩⟩
theorem lw_p64 : lw_okq (⟨"GridHouse$Dispatch", "entering", "(I)I"⟩, 20) := ⟨⟨by decide +kernel, by decide +kernel⟩, List.mem_of_getElem? (i := 685) (by decide +kernel), List.mem_of_getElem? (i := 1591) (by decide +kernel), List.mem_of_getElem? (i := 1592) (by decide +kernel)⟩
theorem lw_p65 : lw_okq (⟨"GridHouse$Dispatch", "isAhead", "(III)Z"⟩, 20) := ⟨⟨by decide +kernel, by decide +kernel⟩, List.mem_of_getElem? (i := 685) (by decide +kernel), List.mem_of_getElem? (i := 1595) (by decide +kernel), List.mem_of_getElem? (i := 1596) (by decide +kernel)⟩
theorem lw_p66 : lw_okq (⟨"GridHouse$Dispatch", "pivot", "(II)V"⟩, 20) := ⟨⟨by decide +kernel, by decide +kernel⟩, List.mem_of_getElem? (i := 685) (by decide +kernel), List.mem_of_getElem? (i := 1600) (by decide +kernel), List.mem_of_getElem? (i := 1601) (by decide +kernel)⟩
theorem lw_p67 : lw_okq (⟨"GridHouse$Dispatch", "update", "(LGridHouse$Big;LGridHouse$Big;LGridHouse$Big;LGridHouse$Big;)V"⟩, 20) := ⟨⟨by decide +kernel, by decide +kernel⟩, List.mem_of_getElem? (i := 685) (by decide +kernel), List.mem_of_getElem? (i := 1604) (by decide +kernel), List.mem_of_getElem? (i := 1605) (by decide +kernel)⟩
theorem lw_p68 : lw_okq (⟨"GridHouse$Big", "takeOff", "(LGridHouse$Big;I)J"⟩, 3) := ⟨⟨by decide +kernel, by decide +kernel⟩, List.mem_of_getElem? (i := 191) (by decide +kernel), List.mem_of_getElem? (i := 1618) (by decide +kernel), List.mem_of_getElem? (i := 1619) (by decide +kernel)⟩
theorem lw_p69 : lw_okq (⟨"GridHouse$Big", "addBack", "(LGridHouse$Big;I)V"⟩, 3) := ⟨⟨by decide +kernel, by decide +kernel⟩, List.mem_of_getElem? (i := 191) (by decide +kernel), List.mem_of_getElem? (i := 1628) (by decide +kernel), List.mem_of_getElem? (i := 1629) (by decide +kernel)⟩
theorem lw_p70 : lw_okq (⟨"GridHouse$Rules", "firstAgainst", "(IILGridHouse$Flow;LGridHouse$Flow;)I"⟩, 20) := ⟨⟨by decide +kernel, by decide +kernel⟩, List.mem_of_getElem? (i := 757) (by decide +kernel), List.mem_of_getElem? (i := 1649) (by decide +kernel), List.mem_of_getElem? (i := 1650) (by decide +kernel)⟩
theorem lw_p71 : lw_okq (⟨"GridHouse$Rules", "holds", "(IIILGridHouse$Flow;LGridHouse$Flow;)Z"⟩, 20) := ⟨⟨by decide +kernel, by decide +kernel⟩, List.mem_of_getElem? (i := 757) (by decide +kernel), List.mem_of_getElem? (i := 1653) (by decide +kernel), List.mem_of_getElem? (i := 1654) (by decide +kernel)⟩
theorem lw_p72 : lw_okq (⟨"GridHouse$Rules", "isSo", "(IIILGridHouse$Flow;)Z"⟩, 20) := ⟨⟨by decide +kernel, by decide +kernel⟩, List.mem_of_getElem? (i := 757) (by decide +kernel), List.mem_of_getElem? (i := 1658) (by decide +kernel), List.mem_of_getElem? (i := 1659) (by decide +kernel)⟩
theorem lw_p73 : lw_okq (⟨"java/lang/Throwable", "fillInStackTrace", "(I)Ljava/lang/Throwable;"⟩, 6) := ⟨⟨by decide +kernel, by decide +kernel⟩, List.mem_of_getElem? (i := 1725) (by decide +kernel), List.mem_of_getElem? (i := 1723) (by decide +kernel), List.mem_of_getElem? (i := 1724) (by decide +kernel)⟩
theorem lw_p74 : lw_okq (⟨"GridHouse", "countTold", "(I)I"⟩, 15) := ⟨⟨by decide +kernel, by decide +kernel⟩, List.mem_of_getElem? (i := 29) (by decide +kernel), List.mem_of_getElem? (i := 1790) (by decide +kernel), List.mem_of_getElem? (i := 1791) (by decide +kernel)⟩
theorem lw_p75 : lw_okq (⟨"GridHouse", "countFound", "(I)I"⟩, 15) := ⟨⟨by decide +kernel, by decide +kernel⟩, List.mem_of_getElem? (i := 29) (by decide +kernel), List.mem_of_getElem? (i := 1794) (by decide +kernel), List.mem_of_getElem? (i := 1795) (by decide +kernel)⟩
theorem lw_p76 : lw_okq (⟨"GridHouse", "testBar", "(I)V"⟩, 15) := ⟨⟨by decide +kernel, by decide +kernel⟩, List.mem_of_getElem? (i := 29) (by decide +kernel), List.mem_of_getElem? (i := 1859) (by decide +kernel), List.mem_of_getElem? (i := 1860) (by decide +kernel)⟩
theorem lw_p77 : lw_okq (⟨"GridHouse", "maybeLive", "(I)Z"⟩, 15) := ⟨⟨by decide +kernel, by decide +kernel⟩, List.mem_of_getElem? (i := 29) (by decide +kernel), List.mem_of_getElem? (i := 1868) (by decide +kernel), List.mem_of_getElem? (i := 1869) (by decide +kernel)⟩
theorem lw_p78 : lw_okq (⟨"GridHouse", "testLine", "(I)V"⟩, 15) := ⟨⟨by decide +kernel, by decide +kernel⟩, List.mem_of_getElem? (i := 29) (by decide +kernel), List.mem_of_getElem? (i := 1896) (by decide +kernel), List.mem_of_getElem? (i := 1897) (by decide +kernel)⟩
theorem lw_p79 : lw_okq (⟨"GridHouse", "testMachine", "(I)V"⟩, 15) := ⟨⟨by decide +kernel, by decide +kernel⟩, List.mem_of_getElem? (i := 29) (by decide +kernel), List.mem_of_getElem? (i := 1912) (by decide +kernel), List.mem_of_getElem? (i := 1913) (by decide +kernel)⟩
def lw_privs_5 : List (MethodName × Nat) := [(⟨"GridHouse$Dispatch", "entering", "(I)I"⟩, 20), (⟨"GridHouse$Dispatch", "isAhead", "(III)Z"⟩, 20), (⟨"GridHouse$Dispatch", "pivot", "(II)V"⟩, 20), (⟨"GridHouse$Dispatch", "update", "(LGridHouse$Big;LGridHouse$Big;LGridHouse$Big;LGridHouse$Big;)V"⟩, 20), (⟨"GridHouse$Big", "takeOff", "(LGridHouse$Big;I)J"⟩, 3), (⟨"GridHouse$Big", "addBack", "(LGridHouse$Big;I)V"⟩, 3), (⟨"GridHouse$Rules", "firstAgainst", "(IILGridHouse$Flow;LGridHouse$Flow;)I"⟩, 20), (⟨"GridHouse$Rules", "holds", "(IIILGridHouse$Flow;LGridHouse$Flow;)Z"⟩, 20), (⟨"GridHouse$Rules", "isSo", "(IIILGridHouse$Flow;)Z"⟩, 20), (⟨"java/lang/Throwable", "fillInStackTrace", "(I)Ljava/lang/Throwable;"⟩, 6), (⟨"GridHouse", "countTold", "(I)I"⟩, 15), (⟨"GridHouse", "countFound", "(I)I"⟩, 15), (⟨"GridHouse", "testBar", "(I)V"⟩, 15), (⟨"GridHouse", "maybeLive", "(I)Z"⟩, 15), (⟨"GridHouse", "testLine", "(I)V"⟩, 15), (⟨"GridHouse", "testMachine", "(I)V"⟩, 15)]
theorem lw_r5 : ∀ q ∈ lw_privs_5, lw_okq q := List.forall_mem_cons.mpr ⟨lw_p64, List.forall_mem_cons.mpr ⟨lw_p65, List.forall_mem_cons.mpr ⟨lw_p66, List.forall_mem_cons.mpr ⟨lw_p67, List.forall_mem_cons.mpr ⟨lw_p68, List.forall_mem_cons.mpr ⟨lw_p69, List.forall_mem_cons.mpr ⟨lw_p70, List.forall_mem_cons.mpr ⟨lw_p71, List.forall_mem_cons.mpr ⟨lw_p72, List.forall_mem_cons.mpr ⟨lw_p73, List.forall_mem_cons.mpr ⟨lw_p74, List.forall_mem_cons.mpr ⟨lw_p75, List.forall_mem_cons.mpr ⟨lw_p76, List.forall_mem_cons.mpr ⟨lw_p77, List.forall_mem_cons.mpr ⟨lw_p78, List.forall_mem_cons.mpr ⟨lw_p79, fun _ h => absurd h List.not_mem_nil⟩⟩⟩⟩⟩⟩⟩⟩⟩⟩⟩⟩⟩⟩⟩⟩
theorem lw_p80 : lw_okq (⟨"GridHouse$Hand", "bringLow", "()V"⟩, 8) := ⟨⟨by decide +kernel, by decide +kernel⟩, List.mem_of_getElem? (i := 185) (by decide +kernel), List.mem_of_getElem? (i := 1932) (by decide +kernel), List.mem_of_getElem? (i := 1933) (by decide +kernel)⟩
theorem lw_p81 : lw_okq (⟨"GridHouse$Hand", "common", "()LGridHouse$Big;"⟩, 8) := ⟨⟨by decide +kernel, by decide +kernel⟩, List.mem_of_getElem? (i := 185) (by decide +kernel), List.mem_of_getElem? (i := 1936) (by decide +kernel), List.mem_of_getElem? (i := 1937) (by decide +kernel)⟩
theorem lw_p82 : lw_okq (⟨"GridHouse$Hand", "divide", "(LGridHouse$Big;LGridHouse$Big;)V"⟩, 8) := ⟨⟨by decide +kernel, by decide +kernel⟩, List.mem_of_getElem? (i := 185) (by decide +kernel), List.mem_of_getElem? (i := 1954) (by decide +kernel), List.mem_of_getElem? (i := 1955) (by decide +kernel)⟩
theorem lw_p83 : lw_okq (⟨"GridHouse$Hand", "write", "(ILGridHouse$Big;)V"⟩, 8) := ⟨⟨by decide +kernel, by decide +kernel⟩, List.mem_of_getElem? (i := 185) (by decide +kernel), List.mem_of_getElem? (i := 1958) (by decide +kernel), List.mem_of_getElem? (i := 1959) (by decide +kernel)⟩
theorem lw_p84 : lw_okq (⟨"GridHouse", "testMeter", "(I)V"⟩, 15) := ⟨⟨by decide +kernel, by decide +kernel⟩, List.mem_of_getElem? (i := 29) (by decide +kernel), List.mem_of_getElem? (i := 2010) (by decide +kernel), List.mem_of_getElem? (i := 2011) (by decide +kernel)⟩
theorem lw_p85 : lw_okq (⟨"GridHouse", "shorted", "()LGridHouse$Shorts;"⟩, 15) := ⟨⟨by decide +kernel, by decide +kernel⟩, List.mem_of_getElem? (i := 29) (by decide +kernel), List.mem_of_getElem? (i := 2073) (by decide +kernel), List.mem_of_getElem? (i := 2074) (by decide +kernel)⟩
theorem lw_p86 : lw_okq (⟨"GridHouse$Shorts", "isThere", "()Z"⟩, 20) := ⟨⟨by decide +kernel, by decide +kernel⟩, List.mem_of_getElem? (i := 530) (by decide +kernel), List.mem_of_getElem? (i := 2082) (by decide +kernel), List.mem_of_getElem? (i := 2083) (by decide +kernel)⟩
theorem lw_p87 : lw_okq (⟨"GridHouse$Shorts", "isOnLine", "()Z"⟩, 20) := ⟨⟨by decide +kernel, by decide +kernel⟩, List.mem_of_getElem? (i := 530) (by decide +kernel), List.mem_of_getElem? (i := 2086) (by decide +kernel), List.mem_of_getElem? (i := 2087) (by decide +kernel)⟩
theorem lw_p88 : lw_okq (⟨"GridHouse$Shorts", "sequence", "(Z)V"⟩, 20) := ⟨⟨by decide +kernel, by decide +kernel⟩, List.mem_of_getElem? (i := 530) (by decide +kernel), List.mem_of_getElem? (i := 2093) (by decide +kernel), List.mem_of_getElem? (i := 2094) (by decide +kernel)⟩
theorem lw_p89 : lw_okq (⟨"GridHouse$Shorts", "bits", "(Z)I"⟩, 20) := ⟨⟨by decide +kernel, by decide +kernel⟩, List.mem_of_getElem? (i := 530) (by decide +kernel), List.mem_of_getElem? (i := 2098) (by decide +kernel), List.mem_of_getElem? (i := 2099) (by decide +kernel)⟩
theorem lw_p90 : lw_okq (⟨"GridHouse$Shorts", "lay", "(ZI)J"⟩, 20) := ⟨⟨by decide +kernel, by decide +kernel⟩, List.mem_of_getElem? (i := 530) (by decide +kernel), List.mem_of_getElem? (i := 2110) (by decide +kernel), List.mem_of_getElem? (i := 2111) (by decide +kernel)⟩
theorem lw_p91 : lw_okq (⟨"GridHouse$Shorts", "sixteenths", "(I)I"⟩, 20) := ⟨⟨by decide +kernel, by decide +kernel⟩, List.mem_of_getElem? (i := 530) (by decide +kernel), List.mem_of_getElem? (i := 2118) (by decide +kernel), List.mem_of_getElem? (i := 2119) (by decide +kernel)⟩
theorem lw_p92 : lw_okq (⟨"GridHouse$Shorts", "isGrounded", "()Z"⟩, 20) := ⟨⟨by decide +kernel, by decide +kernel⟩, List.mem_of_getElem? (i := 530) (by decide +kernel), List.mem_of_getElem? (i := 2132) (by decide +kernel), List.mem_of_getElem? (i := 2133) (by decide +kernel)⟩
theorem lw_p93 : lw_okq (⟨"GridHouse$Shorts", "isOdd", "()Z"⟩, 20) := ⟨⟨by decide +kernel, by decide +kernel⟩, List.mem_of_getElem? (i := 530) (by decide +kernel), List.mem_of_getElem? (i := 2136) (by decide +kernel), List.mem_of_getElem? (i := 2137) (by decide +kernel)⟩
theorem lw_p94 : lw_okq (⟨"GridHouse$Shorts", "weigh", "()V"⟩, 20) := ⟨⟨by decide +kernel, by decide +kernel⟩, List.mem_of_getElem? (i := 530) (by decide +kernel), List.mem_of_getElem? (i := 2140) (by decide +kernel), List.mem_of_getElem? (i := 2141) (by decide +kernel)⟩
theorem lw_p95 : lw_okq (⟨"GridHouse$Shorts", "weighOdd", "(LGridHouse$Big;LGridHouse$Big;)V"⟩, 20) := ⟨⟨by decide +kernel, by decide +kernel⟩, List.mem_of_getElem? (i := 530) (by decide +kernel), List.mem_of_getElem? (i := 2144) (by decide +kernel), List.mem_of_getElem? (i := 2145) (by decide +kernel)⟩
def lw_privs_6 : List (MethodName × Nat) := [(⟨"GridHouse$Hand", "bringLow", "()V"⟩, 8), (⟨"GridHouse$Hand", "common", "()LGridHouse$Big;"⟩, 8), (⟨"GridHouse$Hand", "divide", "(LGridHouse$Big;LGridHouse$Big;)V"⟩, 8), (⟨"GridHouse$Hand", "write", "(ILGridHouse$Big;)V"⟩, 8), (⟨"GridHouse", "testMeter", "(I)V"⟩, 15), (⟨"GridHouse", "shorted", "()LGridHouse$Shorts;"⟩, 15), (⟨"GridHouse$Shorts", "isThere", "()Z"⟩, 20), (⟨"GridHouse$Shorts", "isOnLine", "()Z"⟩, 20), (⟨"GridHouse$Shorts", "sequence", "(Z)V"⟩, 20), (⟨"GridHouse$Shorts", "bits", "(Z)I"⟩, 20), (⟨"GridHouse$Shorts", "lay", "(ZI)J"⟩, 20), (⟨"GridHouse$Shorts", "sixteenths", "(I)I"⟩, 20), (⟨"GridHouse$Shorts", "isGrounded", "()Z"⟩, 20), (⟨"GridHouse$Shorts", "isOdd", "()Z"⟩, 20), (⟨"GridHouse$Shorts", "weigh", "()V"⟩, 20), (⟨"GridHouse$Shorts", "weighOdd", "(LGridHouse$Big;LGridHouse$Big;)V"⟩, 20)]
theorem lw_r6 : ∀ q ∈ lw_privs_6, lw_okq q := List.forall_mem_cons.mpr ⟨lw_p80, List.forall_mem_cons.mpr ⟨lw_p81, List.forall_mem_cons.mpr ⟨lw_p82, List.forall_mem_cons.mpr ⟨lw_p83, List.forall_mem_cons.mpr ⟨lw_p84, List.forall_mem_cons.mpr ⟨lw_p85, List.forall_mem_cons.mpr ⟨lw_p86, List.forall_mem_cons.mpr ⟨lw_p87, List.forall_mem_cons.mpr ⟨lw_p88, List.forall_mem_cons.mpr ⟨lw_p89, List.forall_mem_cons.mpr ⟨lw_p90, List.forall_mem_cons.mpr ⟨lw_p91, List.forall_mem_cons.mpr ⟨lw_p92, List.forall_mem_cons.mpr ⟨lw_p93, List.forall_mem_cons.mpr ⟨lw_p94, List.forall_mem_cons.mpr ⟨lw_p95, fun _ h => absurd h List.not_mem_nil⟩⟩⟩⟩⟩⟩⟩⟩⟩⟩⟩⟩⟩⟩⟩⟩
theorem lw_p96 : lw_okq (⟨"GridHouse$Shorts", "scaleAll", "(I)V"⟩, 20) := ⟨⟨by decide +kernel, by decide +kernel⟩, List.mem_of_getElem? (i := 530) (by decide +kernel), List.mem_of_getElem? (i := 2170) (by decide +kernel), List.mem_of_getElem? (i := 2171) (by decide +kernel)⟩
theorem lw_p97 : lw_okq (⟨"GridHouse$Shorts", "squares", "()V"⟩, 20) := ⟨⟨by decide +kernel, by decide +kernel⟩, List.mem_of_getElem? (i := 530) (by decide +kernel), List.mem_of_getElem? (i := 2178) (by decide +kernel), List.mem_of_getElem? (i := 2179) (by decide +kernel)⟩
theorem lw_p98 : lw_okq (⟨"GridHouse$Shorts", "belowSquares", "(LGridHouse$Big;)V"⟩, 20) := ⟨⟨by decide +kernel, by decide +kernel⟩, List.mem_of_getElem? (i := 530) (by decide +kernel), List.mem_of_getElem? (i := 2184) (by decide +kernel), List.mem_of_getElem? (i := 2185) (by decide +kernel)⟩
theorem lw_p99 : lw_okq (⟨"GridHouse", "testSwitch", "(I)V"⟩, 15) := ⟨⟨by decide +kernel, by decide +kernel⟩, List.mem_of_getElem? (i := 29) (by decide +kernel), List.mem_of_getElem? (i := 2206) (by decide +kernel), List.mem_of_getElem? (i := 2207) (by decide +kernel)⟩
theorem lw_p100 : lw_okq (⟨"GridHouse$Relays", "look", "(J)I"⟩, 20) := ⟨⟨by decide +kernel, by decide +kernel⟩, List.mem_of_getElem? (i := 603) (by decide +kernel), List.mem_of_getElem? (i := 2282) (by decide +kernel), List.mem_of_getElem? (i := 2283) (by decide +kernel)⟩
theorem lw_p101 : lw_okq (⟨"GridHouse$Relays", "note", "(IZJ)V"⟩, 20) := ⟨⟨by decide +kernel, by decide +kernel⟩, List.mem_of_getElem? (i := 603) (by decide +kernel), List.mem_of_getElem? (i := 2288) (by decide +kernel), List.mem_of_getElem? (i := 2289) (by decide +kernel)⟩
theorem lw_p102 : lw_okq (⟨"GridHouse$Relays", "nextTime", "()J"⟩, 20) := ⟨⟨by decide +kernel, by decide +kernel⟩, List.mem_of_getElem? (i := 603) (by decide +kernel), List.mem_of_getElem? (i := 2305) (by decide +kernel), List.mem_of_getElem? (i := 2306) (by decide +kernel)⟩
theorem lw_p103 : lw_okq (⟨"GridHouse$Relays", "openAll", "(J)I"⟩, 20) := ⟨⟨by decide +kernel, by decide +kernel⟩, List.mem_of_getElem? (i := 603) (by decide +kernel), List.mem_of_getElem? (i := 2311) (by decide +kernel), List.mem_of_getElem? (i := 2312) (by decide +kernel)⟩
theorem lw_p104 : lw_okq (⟨"GridHouse$Relays", "backUpAll", "(J)I"⟩, 20) := ⟨⟨by decide +kernel, by decide +kernel⟩, List.mem_of_getElem? (i := 603) (by decide +kernel), List.mem_of_getElem? (i := 2316) (by decide +kernel), List.mem_of_getElem? (i := 2317) (by decide +kernel)⟩
theorem lw_p105 : lw_okq (⟨"GridHouse$Relays", "backUp", "(IJ)V"⟩, 20) := ⟨⟨by decide +kernel, by decide +kernel⟩, List.mem_of_getElem? (i := 603) (by decide +kernel), List.mem_of_getElem? (i := 2320) (by decide +kernel), List.mem_of_getElem? (i := 2321) (by decide +kernel)⟩
theorem lw_p106 : lw_okq (⟨"GridHouse$Relays", "nodeOf", "(II)I"⟩, 20) := ⟨⟨by decide +kernel, by decide +kernel⟩, List.mem_of_getElem? (i := 603) (by decide +kernel), List.mem_of_getElem? (i := 2324) (by decide +kernel), List.mem_of_getElem? (i := 2325) (by decide +kernel)⟩
theorem lw_p107 : lw_okq (⟨"GridHouse$Relays", "command", "(IJ)Z"⟩, 20) := ⟨⟨by decide +kernel, by decide +kernel⟩, List.mem_of_getElem? (i := 603) (by decide +kernel), List.mem_of_getElem? (i := 2329) (by decide +kernel), List.mem_of_getElem? (i := 2330) (by decide +kernel)⟩
theorem lw_p108 : lw_okq (⟨"GridHouse$Relays", "tripAll", "(J)I"⟩, 20) := ⟨⟨by decide +kernel, by decide +kernel⟩, List.mem_of_getElem? (i := 603) (by decide +kernel), List.mem_of_getElem? (i := 2334) (by decide +kernel), List.mem_of_getElem? (i := 2335) (by decide +kernel)⟩
theorem lw_p109 : lw_okq (⟨"GridHouse", "testDispatch", "()V"⟩, 15) := ⟨⟨by decide +kernel, by decide +kernel⟩, List.mem_of_getElem? (i := 29) (by decide +kernel), List.mem_of_getElem? (i := 2346) (by decide +kernel), List.mem_of_getElem? (i := 2347) (by decide +kernel)⟩
theorem lw_p110 : lw_okq (⟨"GridHouse$Rules", "isFree", "(III)Z"⟩, 20) := ⟨⟨by decide +kernel, by decide +kernel⟩, List.mem_of_getElem? (i := 757) (by decide +kernel), List.mem_of_getElem? (i := 2403) (by decide +kernel), List.mem_of_getElem? (i := 2404) (by decide +kernel)⟩
theorem lw_p111 : lw_okq (⟨"GridHouse$Rules", "weigh", "(II)V"⟩, 20) := ⟨⟨by decide +kernel, by decide +kernel⟩, List.mem_of_getElem? (i := 757) (by decide +kernel), List.mem_of_getElem? (i := 2407) (by decide +kernel), List.mem_of_getElem? (i := 2408) (by decide +kernel)⟩
def lw_privs_7 : List (MethodName × Nat) := [(⟨"GridHouse$Shorts", "scaleAll", "(I)V"⟩, 20), (⟨"GridHouse$Shorts", "squares", "()V"⟩, 20), (⟨"GridHouse$Shorts", "belowSquares", "(LGridHouse$Big;)V"⟩, 20), (⟨"GridHouse", "testSwitch", "(I)V"⟩, 15), (⟨"GridHouse$Relays", "look", "(J)I"⟩, 20), (⟨"GridHouse$Relays", "note", "(IZJ)V"⟩, 20), (⟨"GridHouse$Relays", "nextTime", "()J"⟩, 20), (⟨"GridHouse$Relays", "openAll", "(J)I"⟩, 20), (⟨"GridHouse$Relays", "backUpAll", "(J)I"⟩, 20), (⟨"GridHouse$Relays", "backUp", "(IJ)V"⟩, 20), (⟨"GridHouse$Relays", "nodeOf", "(II)I"⟩, 20), (⟨"GridHouse$Relays", "command", "(IJ)Z"⟩, 20), (⟨"GridHouse$Relays", "tripAll", "(J)I"⟩, 20), (⟨"GridHouse", "testDispatch", "()V"⟩, 15), (⟨"GridHouse$Rules", "isFree", "(III)Z"⟩, 20), (⟨"GridHouse$Rules", "weigh", "(II)V"⟩, 20)]
theorem lw_r7 : ∀ q ∈ lw_privs_7, lw_okq q := List.forall_mem_cons.mpr ⟨lw_p96, List.forall_mem_cons.mpr ⟨lw_p97, List.forall_mem_cons.mpr ⟨lw_p98, List.forall_mem_cons.mpr ⟨lw_p99, List.forall_mem_cons.mpr ⟨lw_p100, List.forall_mem_cons.mpr ⟨lw_p101, List.forall_mem_cons.mpr ⟨lw_p102, List.forall_mem_cons.mpr ⟨lw_p103, List.forall_mem_cons.mpr ⟨lw_p104, List.forall_mem_cons.mpr ⟨lw_p105, List.forall_mem_cons.mpr ⟨lw_p106, List.forall_mem_cons.mpr ⟨lw_p107, List.forall_mem_cons.mpr ⟨lw_p108, List.forall_mem_cons.mpr ⟨lw_p109, List.forall_mem_cons.mpr ⟨lw_p110, List.forall_mem_cons.mpr ⟨lw_p111, fun _ h => absurd h List.not_mem_nil⟩⟩⟩⟩⟩⟩⟩⟩⟩⟩⟩⟩⟩⟩⟩⟩
theorem lw_p112 : lw_okq (⟨"GridHouseModel", "findWords", "()V"⟩, 145) := ⟨⟨by decide +kernel, by decide +kernel⟩, List.mem_of_getElem? (i := 2441) (by decide +kernel), List.mem_of_getElem? (i := 2439) (by decide +kernel), List.mem_of_getElem? (i := 2440) (by decide +kernel)⟩
theorem lw_p113 : lw_okq (⟨"GridHouseModel", "readNet", "()V"⟩, 145) := ⟨⟨by decide +kernel, by decide +kernel⟩, List.mem_of_getElem? (i := 2441) (by decide +kernel), List.mem_of_getElem? (i := 2450) (by decide +kernel), List.mem_of_getElem? (i := 2451) (by decide +kernel)⟩
theorem lw_p114 : lw_okq (⟨"GridHouseModel", "is", "(Ljava/lang/String;)Z"⟩, 145) := ⟨⟨by decide +kernel, by decide +kernel⟩, List.mem_of_getElem? (i := 2441) (by decide +kernel), List.mem_of_getElem? (i := 2455) (by decide +kernel), List.mem_of_getElem? (i := 2456) (by decide +kernel)⟩
theorem lw_p115 : lw_okq (⟨"GridHouseModel", "wrong", "()V"⟩, 145) := ⟨⟨by decide +kernel, by decide +kernel⟩, List.mem_of_getElem? (i := 2441) (by decide +kernel), List.mem_of_getElem? (i := 2468) (by decide +kernel), List.mem_of_getElem? (i := 2469) (by decide +kernel)⟩
theorem lw_p116 : lw_okq (⟨"GridHouseModel", "readObject", "(I)V"⟩, 145) := ⟨⟨by decide +kernel, by decide +kernel⟩, List.mem_of_getElem? (i := 2441) (by decide +kernel), List.mem_of_getElem? (i := 2472) (by decide +kernel), List.mem_of_getElem? (i := 2473) (by decide +kernel)⟩
theorem lw_p117 : lw_okq (⟨"GridHouseModel", "newOne", "(I)V"⟩, 145) := ⟨⟨by decide +kernel, by decide +kernel⟩, List.mem_of_getElem? (i := 2441) (by decide +kernel), List.mem_of_getElem? (i := 2476) (by decide +kernel), List.mem_of_getElem? (i := 2477) (by decide +kernel)⟩
theorem lw_p118 : lw_okq (⟨"GridHouseModel", "isName", "()Z"⟩, 145) := ⟨⟨by decide +kernel, by decide +kernel⟩, List.mem_of_getElem? (i := 2441) (by decide +kernel), List.mem_of_getElem? (i := 2480) (by decide +kernel), List.mem_of_getElem? (i := 2481) (by decide +kernel)⟩
theorem lw_p119 : lw_okq (⟨"GridHouseModel", "isKey", "(I)Z"⟩, 145) := ⟨⟨by decide +kernel, by decide +kernel⟩, List.mem_of_getElem? (i := 2441) (by decide +kernel), List.mem_of_getElem? (i := 2484) (by decide +kernel), List.mem_of_getElem? (i := 2485) (by decide +kernel)⟩
theorem lw_p120 : lw_okq (⟨"GridHouseModel", "isAt", "(II)Z"⟩, 145) := ⟨⟨by decide +kernel, by decide +kernel⟩, List.mem_of_getElem? (i := 2441) (by decide +kernel), List.mem_of_getElem? (i := 2489) (by decide +kernel), List.mem_of_getElem? (i := 2490) (by decide +kernel)⟩
theorem lw_p121 : lw_okq (⟨"GridHouseModel", "named", "(IZ)I"⟩, 145) := ⟨⟨by decide +kernel, by decide +kernel⟩, List.mem_of_getElem? (i := 2441) (by decide +kernel), List.mem_of_getElem? (i := 2493) (by decide +kernel), List.mem_of_getElem? (i := 2494) (by decide +kernel)⟩
theorem lw_p122 : lw_okq (⟨"GridHouseModel", "newBar", "(I)I"⟩, 145) := ⟨⟨by decide +kernel, by decide +kernel⟩, List.mem_of_getElem? (i := 2441) (by decide +kernel), List.mem_of_getElem? (i := 2500) (by decide +kernel), List.mem_of_getElem? (i := 2501) (by decide +kernel)⟩
theorem lw_p123 : lw_okq (⟨"GridHouseModel", "takes", "(Ljava/lang/String;)Z"⟩, 145) := ⟨⟨by decide +kernel, by decide +kernel⟩, List.mem_of_getElem? (i := 2441) (by decide +kernel), List.mem_of_getElem? (i := 2506) (by decide +kernel), List.mem_of_getElem? (i := 2507) (by decide +kernel)⟩
theorem lw_p124 : lw_okq (⟨"GridHouseModel", "number", "(II)I"⟩, 145) := ⟨⟨by decide +kernel, by decide +kernel⟩, List.mem_of_getElem? (i := 2441) (by decide +kernel), List.mem_of_getElem? (i := 2511) (by decide +kernel), List.mem_of_getElem? (i := 2512) (by decide +kernel)⟩
theorem lw_p125 : lw_okq (⟨"GridHouseModel", "readMachine", "(II)V"⟩, 145) := ⟨⟨by decide +kernel, by decide +kernel⟩, List.mem_of_getElem? (i := 2441) (by decide +kernel), List.mem_of_getElem? (i := 2515) (by decide +kernel), List.mem_of_getElem? (i := 2516) (by decide +kernel)⟩
theorem lw_p126 : lw_okq (⟨"GridHouseModel", "want", "(Ljava/lang/String;)V"⟩, 145) := ⟨⟨by decide +kernel, by decide +kernel⟩, List.mem_of_getElem? (i := 2441) (by decide +kernel), List.mem_of_getElem? (i := 2520) (by decide +kernel), List.mem_of_getElem? (i := 2521) (by decide +kernel)⟩
theorem lw_p127 : lw_okq (⟨"GridHouseModel", "changed", "()V"⟩, 145) := ⟨⟨by decide +kernel, by decide +kernel⟩, List.mem_of_getElem? (i := 2441) (by decide +kernel), List.mem_of_getElem? (i := 2525) (by decide +kernel), List.mem_of_getElem? (i := 2526) (by decide +kernel)⟩
def lw_privs_8 : List (MethodName × Nat) := [(⟨"GridHouseModel", "findWords", "()V"⟩, 145), (⟨"GridHouseModel", "readNet", "()V"⟩, 145), (⟨"GridHouseModel", "is", "(Ljava/lang/String;)Z"⟩, 145), (⟨"GridHouseModel", "wrong", "()V"⟩, 145), (⟨"GridHouseModel", "readObject", "(I)V"⟩, 145), (⟨"GridHouseModel", "newOne", "(I)V"⟩, 145), (⟨"GridHouseModel", "isName", "()Z"⟩, 145), (⟨"GridHouseModel", "isKey", "(I)Z"⟩, 145), (⟨"GridHouseModel", "isAt", "(II)Z"⟩, 145), (⟨"GridHouseModel", "named", "(IZ)I"⟩, 145), (⟨"GridHouseModel", "newBar", "(I)I"⟩, 145), (⟨"GridHouseModel", "takes", "(Ljava/lang/String;)Z"⟩, 145), (⟨"GridHouseModel", "number", "(II)I"⟩, 145), (⟨"GridHouseModel", "readMachine", "(II)V"⟩, 145), (⟨"GridHouseModel", "want", "(Ljava/lang/String;)V"⟩, 145), (⟨"GridHouseModel", "changed", "()V"⟩, 145)]
theorem lw_r8 : ∀ q ∈ lw_privs_8, lw_okq q := List.forall_mem_cons.mpr ⟨lw_p112, List.forall_mem_cons.mpr ⟨lw_p113, List.forall_mem_cons.mpr ⟨lw_p114, List.forall_mem_cons.mpr ⟨lw_p115, List.forall_mem_cons.mpr ⟨lw_p116, List.forall_mem_cons.mpr ⟨lw_p117, List.forall_mem_cons.mpr ⟨lw_p118, List.forall_mem_cons.mpr ⟨lw_p119, List.forall_mem_cons.mpr ⟨lw_p120, List.forall_mem_cons.mpr ⟨lw_p121, List.forall_mem_cons.mpr ⟨lw_p122, List.forall_mem_cons.mpr ⟨lw_p123, List.forall_mem_cons.mpr ⟨lw_p124, List.forall_mem_cons.mpr ⟨lw_p125, List.forall_mem_cons.mpr ⟨lw_p126, List.forall_mem_cons.mpr ⟨lw_p127, fun _ h => absurd h List.not_mem_nil⟩⟩⟩⟩⟩⟩⟩⟩⟩⟩⟩⟩⟩⟩⟩⟩
theorem lw_p128 : lw_okq (⟨"GridHouseModel", "isObject", "(II)Z"⟩, 145) := ⟨⟨by decide +kernel, by decide +kernel⟩, List.mem_of_getElem? (i := 2441) (by decide +kernel), List.mem_of_getElem? (i := 2537) (by decide +kernel), List.mem_of_getElem? (i := 2538) (by decide +kernel)⟩
theorem lw_p129 : lw_okq (⟨"GridHouseModel", "of", "(III)I"⟩, 145) := ⟨⟨by decide +kernel, by decide +kernel⟩, List.mem_of_getElem? (i := 2441) (by decide +kernel), List.mem_of_getElem? (i := 2549) (by decide +kernel), List.mem_of_getElem? (i := 2550) (by decide +kernel)⟩
theorem lw_p130 : lw_okq (⟨"GridHouseModel", "mayBe", "(IIII)Z"⟩, 145) := ⟨⟨by decide +kernel, by decide +kernel⟩, List.mem_of_getElem? (i := 2441) (by decide +kernel), List.mem_of_getElem? (i := 2557) (by decide +kernel), List.mem_of_getElem? (i := 2558) (by decide +kernel)⟩
theorem lw_p131 : lw_okq (⟨"GridHouseModel", "netFlows", "()V"⟩, 145) := ⟨⟨by decide +kernel, by decide +kernel⟩, List.mem_of_getElem? (i := 2441) (by decide +kernel), List.mem_of_getElem? (i := 2580) (by decide +kernel), List.mem_of_getElem? (i := 2581) (by decide +kernel)⟩
theorem lw_p132 : lw_okq (⟨"GridHouseModel", "asItIs", "()V"⟩, 145) := ⟨⟨by decide +kernel, by decide +kernel⟩, List.mem_of_getElem? (i := 2441) (by decide +kernel), List.mem_of_getElem? (i := 2584) (by decide +kernel), List.mem_of_getElem? (i := 2585) (by decide +kernel)⟩
theorem lw_p133 : lw_okq (⟨"GridHouseModel", "flows", "()V"⟩, 145) := ⟨⟨by decide +kernel, by decide +kernel⟩, List.mem_of_getElem? (i := 2441) (by decide +kernel), List.mem_of_getElem? (i := 2588) (by decide +kernel), List.mem_of_getElem? (i := 2589) (by decide +kernel)⟩
theorem lw_p134 : lw_okq (⟨"GridHouseModel", "topology", "()V"⟩, 145) := ⟨⟨by decide +kernel, by decide +kernel⟩, List.mem_of_getElem? (i := 2441) (by decide +kernel), List.mem_of_getElem? (i := 2592) (by decide +kernel), List.mem_of_getElem? (i := 2593) (by decide +kernel)⟩
theorem lw_p135 : lw_okq (⟨"GridHouseModel", "merge", "([III)V"⟩, 145) := ⟨⟨by decide +kernel, by decide +kernel⟩, List.mem_of_getElem? (i := 2441) (by decide +kernel), List.mem_of_getElem? (i := 2596) (by decide +kernel), List.mem_of_getElem? (i := 2597) (by decide +kernel)⟩
theorem lw_p136 : lw_okq (⟨"GridHouseModel", "put", "(IJ)V"⟩, 145) := ⟨⟨by decide +kernel, by decide +kernel⟩, List.mem_of_getElem? (i := 2441) (by decide +kernel), List.mem_of_getElem? (i := 2600) (by decide +kernel), List.mem_of_getElem? (i := 2601) (by decide +kernel)⟩
theorem lw_p137 : lw_okq (⟨"GridHouseModel", "flowsOf", "(I)V"⟩, 145) := ⟨⟨by decide +kernel, by decide +kernel⟩, List.mem_of_getElem? (i := 2441) (by decide +kernel), List.mem_of_getElem? (i := 2605) (by decide +kernel), List.mem_of_getElem? (i := 2606) (by decide +kernel)⟩
theorem lw_p138 : lw_okq (⟨"GridHouseModel", "listNodes", "(I)V"⟩, 145) := ⟨⟨by decide +kernel, by decide +kernel⟩, List.mem_of_getElem? (i := 2441) (by decide +kernel), List.mem_of_getElem? (i := 2609) (by decide +kernel), List.mem_of_getElem? (i := 2610) (by decide +kernel)⟩
theorem lw_p139 : lw_okq (⟨"GridHouseModel", "putAllIn", "(I)V"⟩, 145) := ⟨⟨by decide +kernel, by decide +kernel⟩, List.mem_of_getElem? (i := 2441) (by decide +kernel), List.mem_of_getElem? (i := 2613) (by decide +kernel), List.mem_of_getElem? (i := 2614) (by decide +kernel)⟩
theorem lw_p140 : lw_okq (⟨"GridHouseModel", "times", "(I)J"⟩, 145) := ⟨⟨by decide +kernel, by decide +kernel⟩, List.mem_of_getElem? (i := 2441) (by decide +kernel), List.mem_of_getElem? (i := 2617) (by decide +kernel), List.mem_of_getElem? (i := 2618) (by decide +kernel)⟩
theorem lw_p141 : lw_okq (⟨"GridHouseModel", "clearMatrix", "(II)V"⟩, 145) := ⟨⟨by decide +kernel, by decide +kernel⟩, List.mem_of_getElem? (i := 2441) (by decide +kernel), List.mem_of_getElem? (i := 2623) (by decide +kernel), List.mem_of_getElem? (i := 2624) (by decide +kernel)⟩
theorem lw_p142 : lw_okq (⟨"GridHouseModel", "joinLines", "(I)J"⟩, 145) := ⟨⟨by decide +kernel, by decide +kernel⟩, List.mem_of_getElem? (i := 2441) (by decide +kernel), List.mem_of_getElem? (i := 2627) (by decide +kernel), List.mem_of_getElem? (i := 2628) (by decide +kernel)⟩
theorem lw_p143 : lw_okq (⟨"GridHouseModel", "islandOfLine", "(I)I"⟩, 145) := ⟨⟨by decide +kernel, by decide +kernel⟩, List.mem_of_getElem? (i := 2441) (by decide +kernel), List.mem_of_getElem? (i := 2631) (by decide +kernel), List.mem_of_getElem? (i := 2632) (by decide +kernel)⟩
def lw_privs_9 : List (MethodName × Nat) := [(⟨"GridHouseModel", "isObject", "(II)Z"⟩, 145), (⟨"GridHouseModel", "of", "(III)I"⟩, 145), (⟨"GridHouseModel", "mayBe", "(IIII)Z"⟩, 145), (⟨"GridHouseModel", "netFlows", "()V"⟩, 145), (⟨"GridHouseModel", "asItIs", "()V"⟩, 145), (⟨"GridHouseModel", "flows", "()V"⟩, 145), (⟨"GridHouseModel", "topology", "()V"⟩, 145), (⟨"GridHouseModel", "merge", "([III)V"⟩, 145), (⟨"GridHouseModel", "put", "(IJ)V"⟩, 145), (⟨"GridHouseModel", "flowsOf", "(I)V"⟩, 145), (⟨"GridHouseModel", "listNodes", "(I)V"⟩, 145), (⟨"GridHouseModel", "putAllIn", "(I)V"⟩, 145), (⟨"GridHouseModel", "times", "(I)J"⟩, 145), (⟨"GridHouseModel", "clearMatrix", "(II)V"⟩, 145), (⟨"GridHouseModel", "joinLines", "(I)J"⟩, 145), (⟨"GridHouseModel", "islandOfLine", "(I)I"⟩, 145)]
theorem lw_r9 : ∀ q ∈ lw_privs_9, lw_okq q := List.forall_mem_cons.mpr ⟨lw_p128, List.forall_mem_cons.mpr ⟨lw_p129, List.forall_mem_cons.mpr ⟨lw_p130, List.forall_mem_cons.mpr ⟨lw_p131, List.forall_mem_cons.mpr ⟨lw_p132, List.forall_mem_cons.mpr ⟨lw_p133, List.forall_mem_cons.mpr ⟨lw_p134, List.forall_mem_cons.mpr ⟨lw_p135, List.forall_mem_cons.mpr ⟨lw_p136, List.forall_mem_cons.mpr ⟨lw_p137, List.forall_mem_cons.mpr ⟨lw_p138, List.forall_mem_cons.mpr ⟨lw_p139, List.forall_mem_cons.mpr ⟨lw_p140, List.forall_mem_cons.mpr ⟨lw_p141, List.forall_mem_cons.mpr ⟨lw_p142, List.forall_mem_cons.mpr ⟨lw_p143, fun _ h => absurd h List.not_mem_nil⟩⟩⟩⟩⟩⟩⟩⟩⟩⟩⟩⟩⟩⟩⟩⟩
theorem lw_p144 : lw_okq (⟨"GridHouseModel", "isBetween", "(I)Z"⟩, 145) := ⟨⟨by decide +kernel, by decide +kernel⟩, List.mem_of_getElem? (i := 2441) (by decide +kernel), List.mem_of_getElem? (i := 2635) (by decide +kernel), List.mem_of_getElem? (i := 2636) (by decide +kernel)⟩
theorem lw_p145 : lw_okq (⟨"GridHouseModel", "nodeOfLine", "(II)I"⟩, 145) := ⟨⟨by decide +kernel, by decide +kernel⟩, List.mem_of_getElem? (i := 2441) (by decide +kernel), List.mem_of_getElem? (i := 2639) (by decide +kernel), List.mem_of_getElem? (i := 2640) (by decide +kernel)⟩
theorem lw_p146 : lw_okq (⟨"GridHouseModel", "inverse", "(J)J"⟩, 145) := ⟨⟨by decide +kernel, by decide +kernel⟩, List.mem_of_getElem? (i := 2441) (by decide +kernel), List.mem_of_getElem? (i := 2643) (by decide +kernel), List.mem_of_getElem? (i := 2644) (by decide +kernel)⟩
theorem lw_p147 : lw_okq (⟨"GridHouseModel", "mod", "(J)J"⟩, 145) := ⟨⟨by decide +kernel, by decide +kernel⟩, List.mem_of_getElem? (i := 2441) (by decide +kernel), List.mem_of_getElem? (i := 2647) (by decide +kernel), List.mem_of_getElem? (i := 2648) (by decide +kernel)⟩
theorem lw_p148 : lw_okq (⟨"GridHouseModel", "inverse", "(JJ)J"⟩, 145) := ⟨⟨by decide +kernel, by decide +kernel⟩, List.mem_of_getElem? (i := 2441) (by decide +kernel), List.mem_of_getElem? (i := 2651) (by decide +kernel), List.mem_of_getElem? (i := 2652) (by decide +kernel)⟩
theorem lw_p149 : lw_okq (⟨"GridHouseModel", "join", "(IIJ)V"⟩, 145) := ⟨⟨by decide +kernel, by decide +kernel⟩, List.mem_of_getElem? (i := 2441) (by decide +kernel), List.mem_of_getElem? (i := 2655) (by decide +kernel), List.mem_of_getElem? (i := 2656) (by decide +kernel)⟩
theorem lw_p150 : lw_okq (⟨"GridHouseModel", "solve", "(II)J"⟩, 145) := ⟨⟨by decide +kernel, by decide +kernel⟩, List.mem_of_getElem? (i := 2441) (by decide +kernel), List.mem_of_getElem? (i := 2659) (by decide +kernel), List.mem_of_getElem? (i := 2660) (by decide +kernel)⟩
theorem lw_p151 : lw_okq (⟨"GridHouseModel", "swap", "(III)V"⟩, 145) := ⟨⟨by decide +kernel, by decide +kernel⟩, List.mem_of_getElem? (i := 2441) (by decide +kernel), List.mem_of_getElem? (i := 2663) (by decide +kernel), List.mem_of_getElem? (i := 2664) (by decide +kernel)⟩
theorem lw_p152 : lw_okq (⟨"GridHouseModel", "clear", "(IIII)V"⟩, 145) := ⟨⟨by decide +kernel, by decide +kernel⟩, List.mem_of_getElem? (i := 2441) (by decide +kernel), List.mem_of_getElem? (i := 2667) (by decide +kernel), List.mem_of_getElem? (i := 2668) (by decide +kernel)⟩
theorem lw_p153 : lw_okq (⟨"GridHouseModel", "tell", "(IJ)V"⟩, 145) := ⟨⟨by decide +kernel, by decide +kernel⟩, List.mem_of_getElem? (i := 2441) (by decide +kernel), List.mem_of_getElem? (i := 2671) (by decide +kernel), List.mem_of_getElem? (i := 2672) (by decide +kernel)⟩
theorem lw_p154 : lw_okq (⟨"GridHouseModel", "tellLines", "(IIJ)V"⟩, 145) := ⟨⟨by decide +kernel, by decide +kernel⟩, List.mem_of_getElem? (i := 2441) (by decide +kernel), List.mem_of_getElem? (i := 2675) (by decide +kernel), List.mem_of_getElem? (i := 2676) (by decide +kernel)⟩
theorem lw_p155 : lw_okq (⟨"GridHouseModel", "angleAt", "(II)J"⟩, 145) := ⟨⟨by decide +kernel, by decide +kernel⟩, List.mem_of_getElem? (i := 2441) (by decide +kernel), List.mem_of_getElem? (i := 2679) (by decide +kernel), List.mem_of_getElem? (i := 2680) (by decide +kernel)⟩
theorem lw_p156 : lw_okq (⟨"GridHouseModel", "usePrime", "(I)V"⟩, 145) := ⟨⟨by decide +kernel, by decide +kernel⟩, List.mem_of_getElem? (i := 2441) (by decide +kernel), List.mem_of_getElem? (i := 2683) (by decide +kernel), List.mem_of_getElem? (i := 2684) (by decide +kernel)⟩
theorem lw_p157 : lw_okq (⟨"GridHouseModel", "fromResidues", "(II)V"⟩, 145) := ⟨⟨by decide +kernel, by decide +kernel⟩, List.mem_of_getElem? (i := 2441) (by decide +kernel), List.mem_of_getElem? (i := 2687) (by decide +kernel), List.mem_of_getElem? (i := 2688) (by decide +kernel)⟩
theorem lw_p158 : lw_okq (⟨"GridHouseModel", "stretch", "(IJJ)V"⟩, 145) := ⟨⟨by decide +kernel, by decide +kernel⟩, List.mem_of_getElem? (i := 2441) (by decide +kernel), List.mem_of_getElem? (i := 2691) (by decide +kernel), List.mem_of_getElem? (i := 2692) (by decide +kernel)⟩
theorem lw_p159 : lw_okq (⟨"GridHouseModel", "finish", "(II)V"⟩, 145) := ⟨⟨by decide +kernel, by decide +kernel⟩, List.mem_of_getElem? (i := 2441) (by decide +kernel), List.mem_of_getElem? (i := 2695) (by decide +kernel), List.mem_of_getElem? (i := 2696) (by decide +kernel)⟩
def lw_privs_10 : List (MethodName × Nat) := [(⟨"GridHouseModel", "isBetween", "(I)Z"⟩, 145), (⟨"GridHouseModel", "nodeOfLine", "(II)I"⟩, 145), (⟨"GridHouseModel", "inverse", "(J)J"⟩, 145), (⟨"GridHouseModel", "mod", "(J)J"⟩, 145), (⟨"GridHouseModel", "inverse", "(JJ)J"⟩, 145), (⟨"GridHouseModel", "join", "(IIJ)V"⟩, 145), (⟨"GridHouseModel", "solve", "(II)J"⟩, 145), (⟨"GridHouseModel", "swap", "(III)V"⟩, 145), (⟨"GridHouseModel", "clear", "(IIII)V"⟩, 145), (⟨"GridHouseModel", "tell", "(IJ)V"⟩, 145), (⟨"GridHouseModel", "tellLines", "(IIJ)V"⟩, 145), (⟨"GridHouseModel", "angleAt", "(II)J"⟩, 145), (⟨"GridHouseModel", "usePrime", "(I)V"⟩, 145), (⟨"GridHouseModel", "fromResidues", "(II)V"⟩, 145), (⟨"GridHouseModel", "stretch", "(IJJ)V"⟩, 145), (⟨"GridHouseModel", "finish", "(II)V"⟩, 145)]
theorem lw_r10 : ∀ q ∈ lw_privs_10, lw_okq q := List.forall_mem_cons.mpr ⟨lw_p144, List.forall_mem_cons.mpr ⟨lw_p145, List.forall_mem_cons.mpr ⟨lw_p146, List.forall_mem_cons.mpr ⟨lw_p147, List.forall_mem_cons.mpr ⟨lw_p148, List.forall_mem_cons.mpr ⟨lw_p149, List.forall_mem_cons.mpr ⟨lw_p150, List.forall_mem_cons.mpr ⟨lw_p151, List.forall_mem_cons.mpr ⟨lw_p152, List.forall_mem_cons.mpr ⟨lw_p153, List.forall_mem_cons.mpr ⟨lw_p154, List.forall_mem_cons.mpr ⟨lw_p155, List.forall_mem_cons.mpr ⟨lw_p156, List.forall_mem_cons.mpr ⟨lw_p157, List.forall_mem_cons.mpr ⟨lw_p158, List.forall_mem_cons.mpr ⟨lw_p159, fun _ h => absurd h List.not_mem_nil⟩⟩⟩⟩⟩⟩⟩⟩⟩⟩⟩⟩⟩⟩⟩⟩
theorem lw_p160 : lw_okq (⟨"GridHouseModel", "plus", "(IIII)V"⟩, 145) := ⟨⟨by decide +kernel, by decide +kernel⟩, List.mem_of_getElem? (i := 2441) (by decide +kernel), List.mem_of_getElem? (i := 2699) (by decide +kernel), List.mem_of_getElem? (i := 2700) (by decide +kernel)⟩
theorem lw_p161 : lw_okq (⟨"GridHouseModel", "copy", "(II)V"⟩, 145) := ⟨⟨by decide +kernel, by decide +kernel⟩, List.mem_of_getElem? (i := 2441) (by decide +kernel), List.mem_of_getElem? (i := 2703) (by decide +kernel), List.mem_of_getElem? (i := 2704) (by decide +kernel)⟩
theorem lw_p162 : lw_okq (⟨"GridHouseModel", "addSizes", "(III)V"⟩, 145) := ⟨⟨by decide +kernel, by decide +kernel⟩, List.mem_of_getElem? (i := 2441) (by decide +kernel), List.mem_of_getElem? (i := 2707) (by decide +kernel), List.mem_of_getElem? (i := 2708) (by decide +kernel)⟩
theorem lw_p163 : lw_okq (⟨"GridHouseModel", "compareSizes", "(II)I"⟩, 145) := ⟨⟨by decide +kernel, by decide +kernel⟩, List.mem_of_getElem? (i := 2441) (by decide +kernel), List.mem_of_getElem? (i := 2712) (by decide +kernel), List.mem_of_getElem? (i := 2713) (by decide +kernel)⟩
theorem lw_p164 : lw_okq (⟨"GridHouseModel", "lessSizes", "(III)V"⟩, 145) := ⟨⟨by decide +kernel, by decide +kernel⟩, List.mem_of_getElem? (i := 2441) (by decide +kernel), List.mem_of_getElem? (i := 2716) (by decide +kernel), List.mem_of_getElem? (i := 2717) (by decide +kernel)⟩
theorem lw_p165 : lw_okq (⟨"GridHouseModel", "scale", "(IIJ)V"⟩, 145) := ⟨⟨by decide +kernel, by decide +kernel⟩, List.mem_of_getElem? (i := 2441) (by decide +kernel), List.mem_of_getElem? (i := 2720) (by decide +kernel), List.mem_of_getElem? (i := 2721) (by decide +kernel)⟩
theorem lw_p166 : lw_okq (⟨"GridHouseModel", "times", "(III)V"⟩, 145) := ⟨⟨by decide +kernel, by decide +kernel⟩, List.mem_of_getElem? (i := 2441) (by decide +kernel), List.mem_of_getElem? (i := 2724) (by decide +kernel), List.mem_of_getElem? (i := 2725) (by decide +kernel)⟩
theorem lw_p167 : lw_okq (⟨"GridHouseModel", "netTopology", "()V"⟩, 145) := ⟨⟨by decide +kernel, by decide +kernel⟩, List.mem_of_getElem? (i := 2441) (by decide +kernel), List.mem_of_getElem? (i := 2728) (by decide +kernel), List.mem_of_getElem? (i := 2729) (by decide +kernel)⟩
theorem lw_p168 : lw_okq (⟨"GridHouseModel", "make", "(II)I"⟩, 145) := ⟨⟨by decide +kernel, by decide +kernel⟩, List.mem_of_getElem? (i := 2441) (by decide +kernel), List.mem_of_getElem? (i := 2736) (by decide +kernel), List.mem_of_getElem? (i := 2737) (by decide +kernel)⟩
theorem lw_p169 : lw_okq (⟨"GridHouseModel", "lowest", "(II)V"⟩, 145) := ⟨⟨by decide +kernel, by decide +kernel⟩, List.mem_of_getElem? (i := 2441) (by decide +kernel), List.mem_of_getElem? (i := 2740) (by decide +kernel), List.mem_of_getElem? (i := 2741) (by decide +kernel)⟩
theorem lw_p170 : lw_okq (⟨"GridHouseModel", "common", "(III)V"⟩, 145) := ⟨⟨by decide +kernel, by decide +kernel⟩, List.mem_of_getElem? (i := 2441) (by decide +kernel), List.mem_of_getElem? (i := 2744) (by decide +kernel), List.mem_of_getElem? (i := 2745) (by decide +kernel)⟩
theorem lw_p171 : lw_okq (⟨"GridHouseModel", "divide", "(IIII)V"⟩, 145) := ⟨⟨by decide +kernel, by decide +kernel⟩, List.mem_of_getElem? (i := 2441) (by decide +kernel), List.mem_of_getElem? (i := 2748) (by decide +kernel), List.mem_of_getElem? (i := 2749) (by decide +kernel)⟩
theorem lw_p172 : lw_okq (⟨"GridHouseModel", "divideByOne", "(IIIJ)V"⟩, 145) := ⟨⟨by decide +kernel, by decide +kernel⟩, List.mem_of_getElem? (i := 2441) (by decide +kernel), List.mem_of_getElem? (i := 2752) (by decide +kernel), List.mem_of_getElem? (i := 2753) (by decide +kernel)⟩
theorem lw_p173 : lw_okq (⟨"GridHouseModel", "spread", "([IIJ)V"⟩, 145) := ⟨⟨by decide +kernel, by decide +kernel⟩, List.mem_of_getElem? (i := 2441) (by decide +kernel), List.mem_of_getElem? (i := 2756) (by decide +kernel), List.mem_of_getElem? (i := 2757) (by decide +kernel)⟩
theorem lw_p174 : lw_okq (⟨"GridHouseModel", "takeAway", "(IIJ)J"⟩, 145) := ⟨⟨by decide +kernel, by decide +kernel⟩, List.mem_of_getElem? (i := 2441) (by decide +kernel), List.mem_of_getElem? (i := 2760) (by decide +kernel), List.mem_of_getElem? (i := 2761) (by decide +kernel)⟩
theorem lw_p175 : lw_okq (⟨"GridHouseModel", "parts", "(III)V"⟩, 145) := ⟨⟨by decide +kernel, by decide +kernel⟩, List.mem_of_getElem? (i := 2441) (by decide +kernel), List.mem_of_getElem? (i := 2765) (by decide +kernel), List.mem_of_getElem? (i := 2766) (by decide +kernel)⟩
def lw_privs_11 : List (MethodName × Nat) := [(⟨"GridHouseModel", "plus", "(IIII)V"⟩, 145), (⟨"GridHouseModel", "copy", "(II)V"⟩, 145), (⟨"GridHouseModel", "addSizes", "(III)V"⟩, 145), (⟨"GridHouseModel", "compareSizes", "(II)I"⟩, 145), (⟨"GridHouseModel", "lessSizes", "(III)V"⟩, 145), (⟨"GridHouseModel", "scale", "(IIJ)V"⟩, 145), (⟨"GridHouseModel", "times", "(III)V"⟩, 145), (⟨"GridHouseModel", "netTopology", "()V"⟩, 145), (⟨"GridHouseModel", "make", "(II)I"⟩, 145), (⟨"GridHouseModel", "lowest", "(II)V"⟩, 145), (⟨"GridHouseModel", "common", "(III)V"⟩, 145), (⟨"GridHouseModel", "divide", "(IIII)V"⟩, 145), (⟨"GridHouseModel", "divideByOne", "(IIIJ)V"⟩, 145), (⟨"GridHouseModel", "spread", "([IIJ)V"⟩, 145), (⟨"GridHouseModel", "takeAway", "(IIJ)J"⟩, 145), (⟨"GridHouseModel", "parts", "(III)V"⟩, 145)]
theorem lw_r11 : ∀ q ∈ lw_privs_11, lw_okq q := List.forall_mem_cons.mpr ⟨lw_p160, List.forall_mem_cons.mpr ⟨lw_p161, List.forall_mem_cons.mpr ⟨lw_p162, List.forall_mem_cons.mpr ⟨lw_p163, List.forall_mem_cons.mpr ⟨lw_p164, List.forall_mem_cons.mpr ⟨lw_p165, List.forall_mem_cons.mpr ⟨lw_p166, List.forall_mem_cons.mpr ⟨lw_p167, List.forall_mem_cons.mpr ⟨lw_p168, List.forall_mem_cons.mpr ⟨lw_p169, List.forall_mem_cons.mpr ⟨lw_p170, List.forall_mem_cons.mpr ⟨lw_p171, List.forall_mem_cons.mpr ⟨lw_p172, List.forall_mem_cons.mpr ⟨lw_p173, List.forall_mem_cons.mpr ⟨lw_p174, List.forall_mem_cons.mpr ⟨lw_p175, fun _ h => absurd h List.not_mem_nil⟩⟩⟩⟩⟩⟩⟩⟩⟩⟩⟩⟩⟩⟩⟩⟩
theorem lw_p176 : lw_okq (⟨"GridHouseModel", "makeWhole", "(JJ)I"⟩, 145) := ⟨⟨by decide +kernel, by decide +kernel⟩, List.mem_of_getElem? (i := 2441) (by decide +kernel), List.mem_of_getElem? (i := 2777) (by decide +kernel), List.mem_of_getElem? (i := 2778) (by decide +kernel)⟩
theorem lw_p177 : lw_okq (⟨"GridHouseModel", "screenAll", "()V"⟩, 145) := ⟨⟨by decide +kernel, by decide +kernel⟩, List.mem_of_getElem? (i := 2441) (by decide +kernel), List.mem_of_getElem? (i := 2790) (by decide +kernel), List.mem_of_getElem? (i := 2791) (by decide +kernel)⟩
theorem lw_p178 : lw_okq (⟨"GridHouseModel", "estimates", "()V"⟩, 145) := ⟨⟨by decide +kernel, by decide +kernel⟩, List.mem_of_getElem? (i := 2441) (by decide +kernel), List.mem_of_getElem? (i := 2813) (by decide +kernel), List.mem_of_getElem? (i := 2814) (by decide +kernel)⟩
theorem lw_p179 : lw_okq (⟨"GridHouseModel", "estimateOf", "(II)V"⟩, 145) := ⟨⟨by decide +kernel, by decide +kernel⟩, List.mem_of_getElem? (i := 2441) (by decide +kernel), List.mem_of_getElem? (i := 2817) (by decide +kernel), List.mem_of_getElem? (i := 2818) (by decide +kernel)⟩
theorem lw_p180 : lw_okq (⟨"GridHouseModel", "showAll", "(I)V"⟩, 145) := ⟨⟨by decide +kernel, by decide +kernel⟩, List.mem_of_getElem? (i := 2441) (by decide +kernel), List.mem_of_getElem? (i := 2821) (by decide +kernel), List.mem_of_getElem? (i := 2822) (by decide +kernel)⟩
theorem lw_p181 : lw_okq (⟨"GridHouseModel", "islandOfMeter", "(I)I"⟩, 145) := ⟨⟨by decide +kernel, by decide +kernel⟩, List.mem_of_getElem? (i := 2441) (by decide +kernel), List.mem_of_getElem? (i := 2825) (by decide +kernel), List.mem_of_getElem? (i := 2826) (by decide +kernel)⟩
theorem lw_p182 : lw_okq (⟨"GridHouseModel", "addShown", "(IIJ)V"⟩, 145) := ⟨⟨by decide +kernel, by decide +kernel⟩, List.mem_of_getElem? (i := 2441) (by decide +kernel), List.mem_of_getElem? (i := 2829) (by decide +kernel), List.mem_of_getElem? (i := 2830) (by decide +kernel)⟩
theorem lw_p183 : lw_okq (⟨"GridHouseModel", "equations", "(II)J"⟩, 145) := ⟨⟨by decide +kernel, by decide +kernel⟩, List.mem_of_getElem? (i := 2441) (by decide +kernel), List.mem_of_getElem? (i := 2833) (by decide +kernel), List.mem_of_getElem? (i := 2834) (by decide +kernel)⟩
theorem lw_p184 : lw_okq (⟨"GridHouseModel", "counts", "(II)Z"⟩, 145) := ⟨⟨by decide +kernel, by decide +kernel⟩, List.mem_of_getElem? (i := 2441) (by decide +kernel), List.mem_of_getElem? (i := 2837) (by decide +kernel), List.mem_of_getElem? (i := 2838) (by decide +kernel)⟩
theorem lw_p185 : lw_okq (⟨"GridHouseModel", "tellEstimate", "(IIJ)V"⟩, 145) := ⟨⟨by decide +kernel, by decide +kernel⟩, List.mem_of_getElem? (i := 2441) (by decide +kernel), List.mem_of_getElem? (i := 2841) (by decide +kernel), List.mem_of_getElem? (i := 2842) (by decide +kernel)⟩
theorem lw_p186 : lw_okq (⟨"GridHouseModel", "seenOf", "(II)V"⟩, 145) := ⟨⟨by decide +kernel, by decide +kernel⟩, List.mem_of_getElem? (i := 2441) (by decide +kernel), List.mem_of_getElem? (i := 2845) (by decide +kernel), List.mem_of_getElem? (i := 2846) (by decide +kernel)⟩
theorem lw_p187 : lw_okq (⟨"GridHouseModel", "reduced", "(II)I"⟩, 145) := ⟨⟨by decide +kernel, by decide +kernel⟩, List.mem_of_getElem? (i := 2441) (by decide +kernel), List.mem_of_getElem? (i := 2849) (by decide +kernel), List.mem_of_getElem? (i := 2850) (by decide +kernel)⟩
theorem lw_p188 : lw_okq (⟨"GridHouseModel", "isNew", "(II)Z"⟩, 145) := ⟨⟨by decide +kernel, by decide +kernel⟩, List.mem_of_getElem? (i := 2441) (by decide +kernel), List.mem_of_getElem? (i := 2853) (by decide +kernel), List.mem_of_getElem? (i := 2854) (by decide +kernel)⟩
theorem lw_p189 : lw_okq (⟨"GridHouseModel", "isWorse", "(II)Z"⟩, 145) := ⟨⟨by decide +kernel, by decide +kernel⟩, List.mem_of_getElem? (i := 2441) (by decide +kernel), List.mem_of_getElem? (i := 2869) (by decide +kernel), List.mem_of_getElem? (i := 2870) (by decide +kernel)⟩
theorem lw_p190 : lw_okq (⟨"GridHouseModel", "worstOf", "(III)V"⟩, 145) := ⟨⟨by decide +kernel, by decide +kernel⟩, List.mem_of_getElem? (i := 2441) (by decide +kernel), List.mem_of_getElem? (i := 2873) (by decide +kernel), List.mem_of_getElem? (i := 2874) (by decide +kernel)⟩
theorem lw_p191 : lw_okq (⟨"GridHouseModel", "shortIs", "(IZIII)V"⟩, 145) := ⟨⟨by decide +kernel, by decide +kernel⟩, List.mem_of_getElem? (i := 2441) (by decide +kernel), List.mem_of_getElem? (i := 2881) (by decide +kernel), List.mem_of_getElem? (i := 2882) (by decide +kernel)⟩
def lw_privs_12 : List (MethodName × Nat) := [(⟨"GridHouseModel", "makeWhole", "(JJ)I"⟩, 145), (⟨"GridHouseModel", "screenAll", "()V"⟩, 145), (⟨"GridHouseModel", "estimates", "()V"⟩, 145), (⟨"GridHouseModel", "estimateOf", "(II)V"⟩, 145), (⟨"GridHouseModel", "showAll", "(I)V"⟩, 145), (⟨"GridHouseModel", "islandOfMeter", "(I)I"⟩, 145), (⟨"GridHouseModel", "addShown", "(IIJ)V"⟩, 145), (⟨"GridHouseModel", "equations", "(II)J"⟩, 145), (⟨"GridHouseModel", "counts", "(II)Z"⟩, 145), (⟨"GridHouseModel", "tellEstimate", "(IIJ)V"⟩, 145), (⟨"GridHouseModel", "seenOf", "(II)V"⟩, 145), (⟨"GridHouseModel", "reduced", "(II)I"⟩, 145), (⟨"GridHouseModel", "isNew", "(II)Z"⟩, 145), (⟨"GridHouseModel", "isWorse", "(II)Z"⟩, 145), (⟨"GridHouseModel", "worstOf", "(III)V"⟩, 145), (⟨"GridHouseModel", "shortIs", "(IZIII)V"⟩, 145)]
theorem lw_r12 : ∀ q ∈ lw_privs_12, lw_okq q := List.forall_mem_cons.mpr ⟨lw_p176, List.forall_mem_cons.mpr ⟨lw_p177, List.forall_mem_cons.mpr ⟨lw_p178, List.forall_mem_cons.mpr ⟨lw_p179, List.forall_mem_cons.mpr ⟨lw_p180, List.forall_mem_cons.mpr ⟨lw_p181, List.forall_mem_cons.mpr ⟨lw_p182, List.forall_mem_cons.mpr ⟨lw_p183, List.forall_mem_cons.mpr ⟨lw_p184, List.forall_mem_cons.mpr ⟨lw_p185, List.forall_mem_cons.mpr ⟨lw_p186, List.forall_mem_cons.mpr ⟨lw_p187, List.forall_mem_cons.mpr ⟨lw_p188, List.forall_mem_cons.mpr ⟨lw_p189, List.forall_mem_cons.mpr ⟨lw_p190, List.forall_mem_cons.mpr ⟨lw_p191, fun _ h => absurd h List.not_mem_nil⟩⟩⟩⟩⟩⟩⟩⟩⟩⟩⟩⟩⟩⟩⟩⟩
theorem lw_p192 : lw_okq (⟨"GridHouseModel", "netShort", "()V"⟩, 145) := ⟨⟨by decide +kernel, by decide +kernel⟩, List.mem_of_getElem? (i := 2441) (by decide +kernel), List.mem_of_getElem? (i := 2897) (by decide +kernel), List.mem_of_getElem? (i := 2898) (by decide +kernel)⟩
theorem lw_p193 : lw_okq (⟨"GridHouseModel", "shorts", "()V"⟩, 145) := ⟨⟨by decide +kernel, by decide +kernel⟩, List.mem_of_getElem? (i := 2441) (by decide +kernel), List.mem_of_getElem? (i := 2901) (by decide +kernel), List.mem_of_getElem? (i := 2902) (by decide +kernel)⟩
theorem lw_p194 : lw_okq (⟨"GridHouseModel", "isOnIn", "(II)Z"⟩, 145) := ⟨⟨by decide +kernel, by decide +kernel⟩, List.mem_of_getElem? (i := 2441) (by decide +kernel), List.mem_of_getElem? (i := 2905) (by decide +kernel), List.mem_of_getElem? (i := 2906) (by decide +kernel)⟩
theorem lw_p195 : lw_okq (⟨"GridHouseModel", "potentials", "(III)V"⟩, 145) := ⟨⟨by decide +kernel, by decide +kernel⟩, List.mem_of_getElem? (i := 2441) (by decide +kernel), List.mem_of_getElem? (i := 2909) (by decide +kernel), List.mem_of_getElem? (i := 2910) (by decide +kernel)⟩
theorem lw_p196 : lw_okq (⟨"GridHouseModel", "joinParts", "(II)J"⟩, 145) := ⟨⟨by decide +kernel, by decide +kernel⟩, List.mem_of_getElem? (i := 2441) (by decide +kernel), List.mem_of_getElem? (i := 2913) (by decide +kernel), List.mem_of_getElem? (i := 2914) (by decide +kernel)⟩
theorem lw_p197 : lw_okq (⟨"GridHouseModel", "placeRow", "()I"⟩, 145) := ⟨⟨by decide +kernel, by decide +kernel⟩, List.mem_of_getElem? (i := 2441) (by decide +kernel), List.mem_of_getElem? (i := 2918) (by decide +kernel), List.mem_of_getElem? (i := 2919) (by decide +kernel)⟩
theorem lw_p198 : lw_okq (⟨"GridHouseModel", "currentsOfShort", "()V"⟩, 145) := ⟨⟨by decide +kernel, by decide +kernel⟩, List.mem_of_getElem? (i := 2441) (by decide +kernel), List.mem_of_getElem? (i := 2922) (by decide +kernel), List.mem_of_getElem? (i := 2923) (by decide +kernel)⟩
theorem lw_p199 : lw_okq (⟨"GridHouseModel", "rowsOfShort", "()V"⟩, 145) := ⟨⟨by decide +kernel, by decide +kernel⟩, List.mem_of_getElem? (i := 2441) (by decide +kernel), List.mem_of_getElem? (i := 2931) (by decide +kernel), List.mem_of_getElem? (i := 2932) (by decide +kernel)⟩
theorem lw_p200 : lw_okq (⟨"GridHouseModel", "voltagesOf", "(I)V"⟩, 145) := ⟨⟨by decide +kernel, by decide +kernel⟩, List.mem_of_getElem? (i := 2441) (by decide +kernel), List.mem_of_getElem? (i := 2935) (by decide +kernel), List.mem_of_getElem? (i := 2936) (by decide +kernel)⟩
theorem lw_p201 : lw_okq (⟨"GridHouseModel", "makeOf", "(I)I"⟩, 145) := ⟨⟨by decide +kernel, by decide +kernel⟩, List.mem_of_getElem? (i := 2441) (by decide +kernel), List.mem_of_getElem? (i := 2939) (by decide +kernel), List.mem_of_getElem? (i := 2940) (by decide +kernel)⟩
theorem lw_p202 : lw_okq (⟨"GridHouseModel", "squareA", "(II)V"⟩, 145) := ⟨⟨by decide +kernel, by decide +kernel⟩, List.mem_of_getElem? (i := 2441) (by decide +kernel), List.mem_of_getElem? (i := 2943) (by decide +kernel), List.mem_of_getElem? (i := 2944) (by decide +kernel)⟩
theorem lw_p203 : lw_okq (⟨"GridHouseModel", "squareB", "(II)V"⟩, 145) := ⟨⟨by decide +kernel, by decide +kernel⟩, List.mem_of_getElem? (i := 2441) (by decide +kernel), List.mem_of_getElem? (i := 2947) (by decide +kernel), List.mem_of_getElem? (i := 2948) (by decide +kernel)⟩
theorem lw_p204 : lw_okq (⟨"GridHouseModel", "currentsInto", "(II)V"⟩, 145) := ⟨⟨by decide +kernel, by decide +kernel⟩, List.mem_of_getElem? (i := 2441) (by decide +kernel), List.mem_of_getElem? (i := 2955) (by decide +kernel), List.mem_of_getElem? (i := 2956) (by decide +kernel)⟩
theorem lw_p205 : lw_okq (⟨"GridHouseModel", "lookAt", "(I)V"⟩, 145) := ⟨⟨by decide +kernel, by decide +kernel⟩, List.mem_of_getElem? (i := 2441) (by decide +kernel), List.mem_of_getElem? (i := 2980) (by decide +kernel), List.mem_of_getElem? (i := 2981) (by decide +kernel)⟩
theorem lw_p206 : lw_okq (⟨"GridHouseModel", "isMet", "(II)Z"⟩, 145) := ⟨⟨by decide +kernel, by decide +kernel⟩, List.mem_of_getElem? (i := 2441) (by decide +kernel), List.mem_of_getElem? (i := 2984) (by decide +kernel), List.mem_of_getElem? (i := 2985) (by decide +kernel)⟩
theorem lw_p207 : lw_okq (⟨"GridHouseModel", "look", "(J)I"⟩, 145) := ⟨⟨by decide +kernel, by decide +kernel⟩, List.mem_of_getElem? (i := 2441) (by decide +kernel), List.mem_of_getElem? (i := 2993) (by decide +kernel), List.mem_of_getElem? (i := 2994) (by decide +kernel)⟩
def lw_privs_13 : List (MethodName × Nat) := [(⟨"GridHouseModel", "netShort", "()V"⟩, 145), (⟨"GridHouseModel", "shorts", "()V"⟩, 145), (⟨"GridHouseModel", "isOnIn", "(II)Z"⟩, 145), (⟨"GridHouseModel", "potentials", "(III)V"⟩, 145), (⟨"GridHouseModel", "joinParts", "(II)J"⟩, 145), (⟨"GridHouseModel", "placeRow", "()I"⟩, 145), (⟨"GridHouseModel", "currentsOfShort", "()V"⟩, 145), (⟨"GridHouseModel", "rowsOfShort", "()V"⟩, 145), (⟨"GridHouseModel", "voltagesOf", "(I)V"⟩, 145), (⟨"GridHouseModel", "makeOf", "(I)I"⟩, 145), (⟨"GridHouseModel", "squareA", "(II)V"⟩, 145), (⟨"GridHouseModel", "squareB", "(II)V"⟩, 145), (⟨"GridHouseModel", "currentsInto", "(II)V"⟩, 145), (⟨"GridHouseModel", "lookAt", "(I)V"⟩, 145), (⟨"GridHouseModel", "isMet", "(II)Z"⟩, 145), (⟨"GridHouseModel", "look", "(J)I"⟩, 145)]
theorem lw_r13 : ∀ q ∈ lw_privs_13, lw_okq q := List.forall_mem_cons.mpr ⟨lw_p192, List.forall_mem_cons.mpr ⟨lw_p193, List.forall_mem_cons.mpr ⟨lw_p194, List.forall_mem_cons.mpr ⟨lw_p195, List.forall_mem_cons.mpr ⟨lw_p196, List.forall_mem_cons.mpr ⟨lw_p197, List.forall_mem_cons.mpr ⟨lw_p198, List.forall_mem_cons.mpr ⟨lw_p199, List.forall_mem_cons.mpr ⟨lw_p200, List.forall_mem_cons.mpr ⟨lw_p201, List.forall_mem_cons.mpr ⟨lw_p202, List.forall_mem_cons.mpr ⟨lw_p203, List.forall_mem_cons.mpr ⟨lw_p204, List.forall_mem_cons.mpr ⟨lw_p205, List.forall_mem_cons.mpr ⟨lw_p206, List.forall_mem_cons.mpr ⟨lw_p207, fun _ h => absurd h List.not_mem_nil⟩⟩⟩⟩⟩⟩⟩⟩⟩⟩⟩⟩⟩⟩⟩⟩
theorem lw_p208 : lw_okq (⟨"GridHouseModel", "asInRun", "()V"⟩, 145) := ⟨⟨by decide +kernel, by decide +kernel⟩, List.mem_of_getElem? (i := 2441) (by decide +kernel), List.mem_of_getElem? (i := 2997) (by decide +kernel), List.mem_of_getElem? (i := 2998) (by decide +kernel)⟩
theorem lw_p209 : lw_okq (⟨"GridHouseModel", "nextTime", "()J"⟩, 145) := ⟨⟨by decide +kernel, by decide +kernel⟩, List.mem_of_getElem? (i := 2441) (by decide +kernel), List.mem_of_getElem? (i := 3005) (by decide +kernel), List.mem_of_getElem? (i := 3006) (by decide +kernel)⟩
theorem lw_p210 : lw_okq (⟨"GridHouseModel", "isDue", "(II)Z"⟩, 145) := ⟨⟨by decide +kernel, by decide +kernel⟩, List.mem_of_getElem? (i := 2441) (by decide +kernel), List.mem_of_getElem? (i := 3010) (by decide +kernel), List.mem_of_getElem? (i := 3011) (by decide +kernel)⟩
theorem lw_p211 : lw_okq (⟨"GridHouseModel", "actsAt", "(J)I"⟩, 145) := ⟨⟨by decide +kernel, by decide +kernel⟩, List.mem_of_getElem? (i := 2441) (by decide +kernel), List.mem_of_getElem? (i := 3014) (by decide +kernel), List.mem_of_getElem? (i := 3015) (by decide +kernel)⟩
theorem lw_p212 : lw_okq (⟨"GridHouseModel", "openAll", "(J)I"⟩, 145) := ⟨⟨by decide +kernel, by decide +kernel⟩, List.mem_of_getElem? (i := 2441) (by decide +kernel), List.mem_of_getElem? (i := 3018) (by decide +kernel), List.mem_of_getElem? (i := 3019) (by decide +kernel)⟩
theorem lw_p213 : lw_okq (⟨"GridHouseModel", "backUp", "(IJ)V"⟩, 145) := ⟨⟨by decide +kernel, by decide +kernel⟩, List.mem_of_getElem? (i := 2441) (by decide +kernel), List.mem_of_getElem? (i := 3022) (by decide +kernel), List.mem_of_getElem? (i := 3023) (by decide +kernel)⟩
theorem lw_p214 : lw_okq (⟨"GridHouseModel", "giveOrder", "(IJ)Z"⟩, 145) := ⟨⟨by decide +kernel, by decide +kernel⟩, List.mem_of_getElem? (i := 2441) (by decide +kernel), List.mem_of_getElem? (i := 3026) (by decide +kernel), List.mem_of_getElem? (i := 3027) (by decide +kernel)⟩
theorem lw_p215 : lw_okq (⟨"GridHouseModel", "dispatchNet", "()V"⟩, 145) := ⟨⟨by decide +kernel, by decide +kernel⟩, List.mem_of_getElem? (i := 2441) (by decide +kernel), List.mem_of_getElem? (i := 3042) (by decide +kernel), List.mem_of_getElem? (i := 3043) (by decide +kernel)⟩
theorem lw_p216 : lw_okq (⟨"GridHouseModel", "dispatchOf", "(I)Z"⟩, 145) := ⟨⟨by decide +kernel, by decide +kernel⟩, List.mem_of_getElem? (i := 2441) (by decide +kernel), List.mem_of_getElem? (i := 3046) (by decide +kernel), List.mem_of_getElem? (i := 3047) (by decide +kernel)⟩
theorem lw_p217 : lw_okq (⟨"GridHouseModel", "sharesOf", "(I)V"⟩, 145) := ⟨⟨by decide +kernel, by decide +kernel⟩, List.mem_of_getElem? (i := 2441) (by decide +kernel), List.mem_of_getElem? (i := 3050) (by decide +kernel), List.mem_of_getElem? (i := 3051) (by decide +kernel)⟩
theorem lw_p218 : lw_okq (⟨"GridHouseModel", "sharesBy", "(II)J"⟩, 145) := ⟨⟨by decide +kernel, by decide +kernel⟩, List.mem_of_getElem? (i := 2441) (by decide +kernel), List.mem_of_getElem? (i := 3054) (by decide +kernel), List.mem_of_getElem? (i := 3055) (by decide +kernel)⟩
theorem lw_p219 : lw_okq (⟨"GridHouseModel", "linePlanes", "(I)V"⟩, 145) := ⟨⟨by decide +kernel, by decide +kernel⟩, List.mem_of_getElem? (i := 2441) (by decide +kernel), List.mem_of_getElem? (i := 3058) (by decide +kernel), List.mem_of_getElem? (i := 3059) (by decide +kernel)⟩
theorem lw_p220 : lw_okq (⟨"GridHouseModel", "shorten", "(III)V"⟩, 145) := ⟨⟨by decide +kernel, by decide +kernel⟩, List.mem_of_getElem? (i := 2441) (by decide +kernel), List.mem_of_getElem? (i := 3065) (by decide +kernel), List.mem_of_getElem? (i := 3066) (by decide +kernel)⟩
theorem lw_p221 : lw_okq (⟨"GridHouseModel", "bestOfCell", "()Z"⟩, 145) := ⟨⟨by decide +kernel, by decide +kernel⟩, List.mem_of_getElem? (i := 2441) (by decide +kernel), List.mem_of_getElem? (i := 3070) (by decide +kernel), List.mem_of_getElem? (i := 3071) (by decide +kernel)⟩
theorem lw_p222 : lw_okq (⟨"GridHouseModel", "solveLevel", "(I)Z"⟩, 145) := ⟨⟨by decide +kernel, by decide +kernel⟩, List.mem_of_getElem? (i := 2441) (by decide +kernel), List.mem_of_getElem? (i := 3077) (by decide +kernel), List.mem_of_getElem? (i := 3078) (by decide +kernel)⟩
theorem lw_p223 : lw_okq (⟨"GridHouseModel", "compare", "(II)I"⟩, 145) := ⟨⟨by decide +kernel, by decide +kernel⟩, List.mem_of_getElem? (i := 2441) (by decide +kernel), List.mem_of_getElem? (i := 3084) (by decide +kernel), List.mem_of_getElem? (i := 3085) (by decide +kernel)⟩
def lw_privs_14 : List (MethodName × Nat) := [(⟨"GridHouseModel", "asInRun", "()V"⟩, 145), (⟨"GridHouseModel", "nextTime", "()J"⟩, 145), (⟨"GridHouseModel", "isDue", "(II)Z"⟩, 145), (⟨"GridHouseModel", "actsAt", "(J)I"⟩, 145), (⟨"GridHouseModel", "openAll", "(J)I"⟩, 145), (⟨"GridHouseModel", "backUp", "(IJ)V"⟩, 145), (⟨"GridHouseModel", "giveOrder", "(IJ)Z"⟩, 145), (⟨"GridHouseModel", "dispatchNet", "()V"⟩, 145), (⟨"GridHouseModel", "dispatchOf", "(I)Z"⟩, 145), (⟨"GridHouseModel", "sharesOf", "(I)V"⟩, 145), (⟨"GridHouseModel", "sharesBy", "(II)J"⟩, 145), (⟨"GridHouseModel", "linePlanes", "(I)V"⟩, 145), (⟨"GridHouseModel", "shorten", "(III)V"⟩, 145), (⟨"GridHouseModel", "bestOfCell", "()Z"⟩, 145), (⟨"GridHouseModel", "solveLevel", "(I)Z"⟩, 145), (⟨"GridHouseModel", "compare", "(II)I"⟩, 145)]
theorem lw_r14 : ∀ q ∈ lw_privs_14, lw_okq q := List.forall_mem_cons.mpr ⟨lw_p208, List.forall_mem_cons.mpr ⟨lw_p209, List.forall_mem_cons.mpr ⟨lw_p210, List.forall_mem_cons.mpr ⟨lw_p211, List.forall_mem_cons.mpr ⟨lw_p212, List.forall_mem_cons.mpr ⟨lw_p213, List.forall_mem_cons.mpr ⟨lw_p214, List.forall_mem_cons.mpr ⟨lw_p215, List.forall_mem_cons.mpr ⟨lw_p216, List.forall_mem_cons.mpr ⟨lw_p217, List.forall_mem_cons.mpr ⟨lw_p218, List.forall_mem_cons.mpr ⟨lw_p219, List.forall_mem_cons.mpr ⟨lw_p220, List.forall_mem_cons.mpr ⟨lw_p221, List.forall_mem_cons.mpr ⟨lw_p222, List.forall_mem_cons.mpr ⟨lw_p223, fun _ h => absurd h List.not_mem_nil⟩⟩⟩⟩⟩⟩⟩⟩⟩⟩⟩⟩⟩⟩⟩⟩
theorem lw_p224 : lw_okq (⟨"GridHouseModel", "onPlane", "(III)V"⟩, 145) := ⟨⟨by decide +kernel, by decide +kernel⟩, List.mem_of_getElem? (i := 2441) (by decide +kernel), List.mem_of_getElem? (i := 3088) (by decide +kernel), List.mem_of_getElem? (i := 3089) (by decide +kernel)⟩
theorem lw_p225 : lw_okq (⟨"GridHouseModel", "cross", "(IIIIII)V"⟩, 145) := ⟨⟨by decide +kernel, by decide +kernel⟩, List.mem_of_getElem? (i := 2441) (by decide +kernel), List.mem_of_getElem? (i := 3092) (by decide +kernel), List.mem_of_getElem? (i := 3093) (by decide +kernel)⟩
theorem lw_p226 : lw_okq (⟨"GridHouseModel", "boundRows", "(III)V"⟩, 145) := ⟨⟨by decide +kernel, by decide +kernel⟩, List.mem_of_getElem? (i := 2441) (by decide +kernel), List.mem_of_getElem? (i := 3096) (by decide +kernel), List.mem_of_getElem? (i := 3097) (by decide +kernel)⟩
theorem lw_p227 : lw_okq (⟨"GridHouseModel", "fromPlane", "(III)V"⟩, 145) := ⟨⟨by decide +kernel, by decide +kernel⟩, List.mem_of_getElem? (i := 2441) (by decide +kernel), List.mem_of_getElem? (i := 3100) (by decide +kernel), List.mem_of_getElem? (i := 3101) (by decide +kernel)⟩
theorem lw_p228 : lw_okq (⟨"GridHouseModel", "lowestPoint", "(II)V"⟩, 145) := ⟨⟨by decide +kernel, by decide +kernel⟩, List.mem_of_getElem? (i := 2441) (by decide +kernel), List.mem_of_getElem? (i := 3104) (by decide +kernel), List.mem_of_getElem? (i := 3105) (by decide +kernel)⟩
theorem lw_p229 : lw_okq (⟨"GridHouseModel", "turns", "(I)Z"⟩, 145) := ⟨⟨by decide +kernel, by decide +kernel⟩, List.mem_of_getElem? (i := 2441) (by decide +kernel), List.mem_of_getElem? (i := 3108) (by decide +kernel), List.mem_of_getElem? (i := 3109) (by decide +kernel)⟩
theorem lw_p230 : lw_okq (⟨"GridHouseModel", "sideOf", "(III)I"⟩, 145) := ⟨⟨by decide +kernel, by decide +kernel⟩, List.mem_of_getElem? (i := 2441) (by decide +kernel), List.mem_of_getElem? (i := 3112) (by decide +kernel), List.mem_of_getElem? (i := 3113) (by decide +kernel)⟩
theorem lw_p231 : lw_okq (⟨"GridHouseModel", "bestOf", "(I)Z"⟩, 145) := ⟨⟨by decide +kernel, by decide +kernel⟩, List.mem_of_getElem? (i := 2441) (by decide +kernel), List.mem_of_getElem? (i := 3116) (by decide +kernel), List.mem_of_getElem? (i := 3117) (by decide +kernel)⟩
theorem lw_p232 : lw_okq (⟨"GridHouseModel", "cell", "(I)V"⟩, 145) := ⟨⟨by decide +kernel, by decide +kernel⟩, List.mem_of_getElem? (i := 2441) (by decide +kernel), List.mem_of_getElem? (i := 3120) (by decide +kernel), List.mem_of_getElem? (i := 3121) (by decide +kernel)⟩
theorem lw_p233 : lw_okq (⟨"GridHouseModel", "isBetter", "()Z"⟩, 145) := ⟨⟨by decide +kernel, by decide +kernel⟩, List.mem_of_getElem? (i := 2441) (by decide +kernel), List.mem_of_getElem? (i := 3124) (by decide +kernel), List.mem_of_getElem? (i := 3125) (by decide +kernel)⟩
theorem lw_p234 : lw_okq (⟨"GridHouseModel", "costOf", "(III)V"⟩, 145) := ⟨⟨by decide +kernel, by decide +kernel⟩, List.mem_of_getElem? (i := 2441) (by decide +kernel), List.mem_of_getElem? (i := 3128) (by decide +kernel), List.mem_of_getElem? (i := 3129) (by decide +kernel)⟩
theorem lw_p235 : lw_okq (⟨"GridHouseModel", "addDispatch", "()V"⟩, 145) := ⟨⟨by decide +kernel, by decide +kernel⟩, List.mem_of_getElem? (i := 2441) (by decide +kernel), List.mem_of_getElem? (i := 3132) (by decide +kernel), List.mem_of_getElem? (i := 3133) (by decide +kernel)⟩
theorem lw_p236 : lw_okq (⟨"GridHouseModel", "act", "()I"⟩, 145) := ⟨⟨by decide +kernel, by decide +kernel⟩, List.mem_of_getElem? (i := 2441) (by decide +kernel), List.mem_of_getElem? (i := 3153) (by decide +kernel), List.mem_of_getElem? (i := 3154) (by decide +kernel)⟩
theorem lw_p237 : lw_okq (⟨"GridHouseModel", "condition", "(II)V"⟩, 145) := ⟨⟨by decide +kernel, by decide +kernel⟩, List.mem_of_getElem? (i := 2441) (by decide +kernel), List.mem_of_getElem? (i := 3163) (by decide +kernel), List.mem_of_getElem? (i := 3164) (by decide +kernel)⟩
theorem lw_p238 : lw_okq (⟨"GridHouseModel", "allOf", "(II)V"⟩, 145) := ⟨⟨by decide +kernel, by decide +kernel⟩, List.mem_of_getElem? (i := 2441) (by decide +kernel), List.mem_of_getElem? (i := 3167) (by decide +kernel), List.mem_of_getElem? (i := 3168) (by decide +kernel)⟩
theorem lw_p239 : lw_okq (⟨"GridHouseModel", "one", "(II)V"⟩, 145) := ⟨⟨by decide +kernel, by decide +kernel⟩, List.mem_of_getElem? (i := 2441) (by decide +kernel), List.mem_of_getElem? (i := 3171) (by decide +kernel), List.mem_of_getElem? (i := 3172) (by decide +kernel)⟩
def lw_privs_15 : List (MethodName × Nat) := [(⟨"GridHouseModel", "onPlane", "(III)V"⟩, 145), (⟨"GridHouseModel", "cross", "(IIIIII)V"⟩, 145), (⟨"GridHouseModel", "boundRows", "(III)V"⟩, 145), (⟨"GridHouseModel", "fromPlane", "(III)V"⟩, 145), (⟨"GridHouseModel", "lowestPoint", "(II)V"⟩, 145), (⟨"GridHouseModel", "turns", "(I)Z"⟩, 145), (⟨"GridHouseModel", "sideOf", "(III)I"⟩, 145), (⟨"GridHouseModel", "bestOf", "(I)Z"⟩, 145), (⟨"GridHouseModel", "cell", "(I)V"⟩, 145), (⟨"GridHouseModel", "isBetter", "()Z"⟩, 145), (⟨"GridHouseModel", "costOf", "(III)V"⟩, 145), (⟨"GridHouseModel", "addDispatch", "()V"⟩, 145), (⟨"GridHouseModel", "act", "()I"⟩, 145), (⟨"GridHouseModel", "condition", "(II)V"⟩, 145), (⟨"GridHouseModel", "allOf", "(II)V"⟩, 145), (⟨"GridHouseModel", "one", "(II)V"⟩, 145)]
theorem lw_r15 : ∀ q ∈ lw_privs_15, lw_okq q := List.forall_mem_cons.mpr ⟨lw_p224, List.forall_mem_cons.mpr ⟨lw_p225, List.forall_mem_cons.mpr ⟨lw_p226, List.forall_mem_cons.mpr ⟨lw_p227, List.forall_mem_cons.mpr ⟨lw_p228, List.forall_mem_cons.mpr ⟨lw_p229, List.forall_mem_cons.mpr ⟨lw_p230, List.forall_mem_cons.mpr ⟨lw_p231, List.forall_mem_cons.mpr ⟨lw_p232, List.forall_mem_cons.mpr ⟨lw_p233, List.forall_mem_cons.mpr ⟨lw_p234, List.forall_mem_cons.mpr ⟨lw_p235, List.forall_mem_cons.mpr ⟨lw_p236, List.forall_mem_cons.mpr ⟨lw_p237, List.forall_mem_cons.mpr ⟨lw_p238, List.forall_mem_cons.mpr ⟨lw_p239, fun _ h => absurd h List.not_mem_nil⟩⟩⟩⟩⟩⟩⟩⟩⟩⟩⟩⟩⟩⟩⟩⟩
theorem lw_p240 : lw_okq (⟨"GridHouseModel", "told", "(IZ)V"⟩, 145) := ⟨⟨by decide +kernel, by decide +kernel⟩, List.mem_of_getElem? (i := 2441) (by decide +kernel), List.mem_of_getElem? (i := 3179) (by decide +kernel), List.mem_of_getElem? (i := 3180) (by decide +kernel)⟩
theorem lw_p241 : lw_okq (⟨"GridHouseModel", "word", "(II)I"⟩, 145) := ⟨⟨by decide +kernel, by decide +kernel⟩, List.mem_of_getElem? (i := 2441) (by decide +kernel), List.mem_of_getElem? (i := 3184) (by decide +kernel), List.mem_of_getElem? (i := 3185) (by decide +kernel)⟩
theorem lw_p242 : lw_okq (⟨"GridHouseModel", "add", "(IZII)V"⟩, 145) := ⟨⟨by decide +kernel, by decide +kernel⟩, List.mem_of_getElem? (i := 2441) (by decide +kernel), List.mem_of_getElem? (i := 3194) (by decide +kernel), List.mem_of_getElem? (i := 3195) (by decide +kernel)⟩
theorem lw_p243 : lw_okq (⟨"GridHouseModel", "remember", "()V"⟩, 145) := ⟨⟨by decide +kernel, by decide +kernel⟩, List.mem_of_getElem? (i := 2441) (by decide +kernel), List.mem_of_getElem? (i := 3217) (by decide +kernel), List.mem_of_getElem? (i := 3218) (by decide +kernel)⟩
theorem lw_p244 : lw_okq (⟨"GridHouseModel", "goThrough", "()I"⟩, 145) := ⟨⟨by decide +kernel, by decide +kernel⟩, List.mem_of_getElem? (i := 2441) (by decide +kernel), List.mem_of_getElem? (i := 3221) (by decide +kernel), List.mem_of_getElem? (i := 3222) (by decide +kernel)⟩
theorem lw_p245 : lw_okq (⟨"GridHouseModel", "isBarred", "(II)Z"⟩, 145) := ⟨⟨by decide +kernel, by decide +kernel⟩, List.mem_of_getElem? (i := 2441) (by decide +kernel), List.mem_of_getElem? (i := 3225) (by decide +kernel), List.mem_of_getElem? (i := 3226) (by decide +kernel)⟩
theorem lw_p246 : lw_okq (⟨"GridHouseModel", "see", "(I)V"⟩, 145) := ⟨⟨by decide +kernel, by decide +kernel⟩, List.mem_of_getElem? (i := 2441) (by decide +kernel), List.mem_of_getElem? (i := 3235) (by decide +kernel), List.mem_of_getElem? (i := 3236) (by decide +kernel)⟩
theorem lw_p247 : lw_okq (⟨"GridHouseModel", "holds", "(II)Z"⟩, 145) := ⟨⟨by decide +kernel, by decide +kernel⟩, List.mem_of_getElem? (i := 2441) (by decide +kernel), List.mem_of_getElem? (i := 3239) (by decide +kernel), List.mem_of_getElem? (i := 3240) (by decide +kernel)⟩
theorem lw_p248 : lw_okq (⟨"GridHouseModel", "holdsCode", "(II)Z"⟩, 145) := ⟨⟨by decide +kernel, by decide +kernel⟩, List.mem_of_getElem? (i := 2441) (by decide +kernel), List.mem_of_getElem? (i := 3243) (by decide +kernel), List.mem_of_getElem? (i := 3244) (by decide +kernel)⟩
theorem lw_p249 : lw_okq (⟨"GridHouseModel", "objectOf", "(II)I"⟩, 145) := ⟨⟨by decide +kernel, by decide +kernel⟩, List.mem_of_getElem? (i := 2441) (by decide +kernel), List.mem_of_getElem? (i := 3247) (by decide +kernel), List.mem_of_getElem? (i := 3248) (by decide +kernel)⟩
theorem lw_p250 : lw_okq (⟨"GridHouseModel", "overOf", "(I)I"⟩, 145) := ⟨⟨by decide +kernel, by decide +kernel⟩, List.mem_of_getElem? (i := 2441) (by decide +kernel), List.mem_of_getElem? (i := 3251) (by decide +kernel), List.mem_of_getElem? (i := 3252) (by decide +kernel)⟩
theorem lw_p251 : lw_okq (⟨"GridHouseModel", "comeBack", "()V"⟩, 145) := ⟨⟨by decide +kernel, by decide +kernel⟩, List.mem_of_getElem? (i := 2441) (by decide +kernel), List.mem_of_getElem? (i := 3255) (by decide +kernel), List.mem_of_getElem? (i := 3256) (by decide +kernel)⟩
theorem lw_p252 : lw_okq (⟨"GridHouseModel", "wellBy", "(I)V"⟩, 145) := ⟨⟨by decide +kernel, by decide +kernel⟩, List.mem_of_getElem? (i := 2441) (by decide +kernel), List.mem_of_getElem? (i := 3268) (by decide +kernel), List.mem_of_getElem? (i := 3269) (by decide +kernel)⟩
theorem lw_p253 : lw_okq (⟨"GridHouseModel", "goOn", "(III)V"⟩, 145) := ⟨⟨by decide +kernel, by decide +kernel⟩, List.mem_of_getElem? (i := 2441) (by decide +kernel), List.mem_of_getElem? (i := 3272) (by decide +kernel), List.mem_of_getElem? (i := 3273) (by decide +kernel)⟩
def lw_privs_16 : List (MethodName × Nat) := [(⟨"GridHouseModel", "told", "(IZ)V"⟩, 145), (⟨"GridHouseModel", "word", "(II)I"⟩, 145), (⟨"GridHouseModel", "add", "(IZII)V"⟩, 145), (⟨"GridHouseModel", "remember", "()V"⟩, 145), (⟨"GridHouseModel", "goThrough", "()I"⟩, 145), (⟨"GridHouseModel", "isBarred", "(II)Z"⟩, 145), (⟨"GridHouseModel", "see", "(I)V"⟩, 145), (⟨"GridHouseModel", "holds", "(II)Z"⟩, 145), (⟨"GridHouseModel", "holdsCode", "(II)Z"⟩, 145), (⟨"GridHouseModel", "objectOf", "(II)I"⟩, 145), (⟨"GridHouseModel", "overOf", "(I)I"⟩, 145), (⟨"GridHouseModel", "comeBack", "()V"⟩, 145), (⟨"GridHouseModel", "wellBy", "(I)V"⟩, 145), (⟨"GridHouseModel", "goOn", "(III)V"⟩, 145)]
theorem lw_r16 : ∀ q ∈ lw_privs_16, lw_okq q := List.forall_mem_cons.mpr ⟨lw_p240, List.forall_mem_cons.mpr ⟨lw_p241, List.forall_mem_cons.mpr ⟨lw_p242, List.forall_mem_cons.mpr ⟨lw_p243, List.forall_mem_cons.mpr ⟨lw_p244, List.forall_mem_cons.mpr ⟨lw_p245, List.forall_mem_cons.mpr ⟨lw_p246, List.forall_mem_cons.mpr ⟨lw_p247, List.forall_mem_cons.mpr ⟨lw_p248, List.forall_mem_cons.mpr ⟨lw_p249, List.forall_mem_cons.mpr ⟨lw_p250, List.forall_mem_cons.mpr ⟨lw_p251, List.forall_mem_cons.mpr ⟨lw_p252, List.forall_mem_cons.mpr ⟨lw_p253, fun _ h => absurd h List.not_mem_nil⟩⟩⟩⟩⟩⟩⟩⟩⟩⟩⟩⟩⟩⟩
def lw_privs : List (MethodName × Nat) := lw_privs_1 ++ (lw_privs_2 ++ (lw_privs_3 ++ (lw_privs_4 ++ (lw_privs_5 ++ (lw_privs_6 ++ (lw_privs_7 ++ (lw_privs_8 ++ (lw_privs_9 ++ (lw_privs_10 ++ (lw_privs_11 ++ (lw_privs_12 ++ (lw_privs_13 ++ (lw_privs_14 ++ (lw_privs_15 ++ (lw_privs_16)))))))))))))))
def lw_tbl : List Cond := k2_sels lw_privs ++ tables_1
theorem lw_privs_ok : ∀ q ∈ lw_privs, lw_okq q := by
  show ∀ q ∈ lw_privs_1 ++ (lw_privs_2 ++ (lw_privs_3 ++ (lw_privs_4 ++ (lw_privs_5 ++ (lw_privs_6 ++ (lw_privs_7 ++ (lw_privs_8 ++ (lw_privs_9 ++ (lw_privs_10 ++ (lw_privs_11 ++ (lw_privs_12 ++ (lw_privs_13 ++ (lw_privs_14 ++ (lw_privs_15 ++ (lw_privs_16))))))))))))))), lw_okq q
  exact List.forall_mem_append.mpr ⟨lw_r1, List.forall_mem_append.mpr ⟨lw_r2, List.forall_mem_append.mpr ⟨lw_r3, List.forall_mem_append.mpr ⟨lw_r4, List.forall_mem_append.mpr ⟨lw_r5, List.forall_mem_append.mpr ⟨lw_r6, List.forall_mem_append.mpr ⟨lw_r7, List.forall_mem_append.mpr ⟨lw_r8, List.forall_mem_append.mpr ⟨lw_r9, List.forall_mem_append.mpr ⟨lw_r10, List.forall_mem_append.mpr ⟨lw_r11, List.forall_mem_append.mpr ⟨lw_r12, List.forall_mem_append.mpr ⟨lw_r13, List.forall_mem_append.mpr ⟨lw_r14, List.forall_mem_append.mpr ⟨lw_r15, lw_r16⟩⟩⟩⟩⟩⟩⟩⟩⟩⟩⟩⟩⟩⟩⟩
-- ===== end of PART A; then your names; then what follows =====
end
section
/-- what the printed rows name and the kit of this claim lacks: an array class over an array class -/
def va_AOA (t : FieldType) (U : State) : Prop := (Cond.arrayOver (.array t)).before #[] U = true
theorem va_AOA.use {t : FieldType} {A : Array Value} {U : State} (h : va_AOA t U) : (Cond.arrayOver (.array t)).before A U = true := h
/-! ===== BEGIN words of one list among another's, by their places ===== -/
theorem goodIn_r {big : List Cond} (ws : List Cond) (ps : List Nat) (hp : ws = ps.filterMap (fun i => big[i]?)) (h : ws.all goodWord = true) : GoodIn big ws := by
  intro w hw
  have h1 := List.all_eq_true.mp h w hw
  rw [hp] at hw
  obtain ⟨i, -, hi⟩ := List.mem_filterMap.mp hw
  have hm : w ∈ big := by first | exact List.mem_of_getElem? hi | exact List.getElem?_mem hi
  exact ⟨hm, good_of_word h1⟩
theorem goodIn_app {big a b : List Cond} (ha : GoodIn big a) (hb : GoodIn big b) : GoodIn big (a ++ b) := fun w h => (List.mem_append.mp h).elim (ha w) (hb w)
theorem goodIn_ca {big a b : List Cond} {c : Cond} (ha : GoodIn big (c :: a)) (hb : GoodIn big b) : GoodIn big (c :: (a ++ b)) := fun w h => (List.mem_cons.mp h).elim (fun e => ha w (List.mem_cons.mpr (Or.inl e))) (fun h => (List.mem_append.mp h).elim (fun h => ha w (List.mem_cons.mpr (Or.inr h))) (hb w))
theorem goodIn_sub {big ws : List Cond} (hm : ∀ w ∈ ws, w ∈ big) (h : ws.all goodWord = true) : GoodIn big ws := fun w hw => ⟨hm w hw, good_of_word (List.all_eq_true.mp h w hw)⟩
/-! ===== END ===== -/

/-! ===== BEGIN new T[n][m]: the outer array a place, the inner ones among the pooled ===== -/
/-- f, but v at every address of l -/
def vr_up {α : Type} (f : Nat → α) (l : List Nat) (v : α) : Nat → α := fun a => if a ∈ l then v else f a
theorem vr_up_in {α : Type} {f : Nat → α} {l : List Nat} {v : α} {a : Nat} (h : a ∈ l) : vr_up f l v a = v := if_pos h
theorem vr_up_ne {α : Type} {f : Nat → α} {l : List Nat} {v : α} {a : Nat} (h : a ∉ l) : vr_up f l v a = f a := if_neg h
theorem vr_rows {L l : List Nat} {f : Nat → va_E} {e : va_E} (h : ∀ a, a ∈ l → a ∉ L) : va_pl L f ++ l.map (fun a => (a, e)) = va_pl (L ++ l) (vr_up f l e) := by
  unfold va_pl
  rw [List.map_append]
  congr 1
  · apply List.map_congr_left
    intro a ha
    rw [vr_up_ne (fun q => h a q ha)]
  · apply List.map_congr_left
    intro a ha
    rw [vr_up_in ha]
theorem vr_lay {X rows : va_W} {x : Nat × va_E} {pl : va_W} {D : va_G} {cl : List vw_C} {H : Heap} (hP : va_P D cl (((X ++ pl) ++ [x]) ++ rows) H) : va_P D cl ((X ++ [x]) ++ (pl ++ rows)) H := by
  rw [List.append_assoc (X ++ pl)] at hP
  have h := va_P.swap hP
  rw [← List.append_assoc X] at h
  have h2 := va_P.swap h
  rw [List.append_assoc (X ++ [x])] at h2
  exact h2
theorem vr_layD {X rows : va_W} {x : Nat × va_E} {pl : va_W} {A : Nat → Prop} (hD : va_D A (((X ++ pl) ++ [x]) ++ rows)) : va_D A ((X ++ [x]) ++ (pl ++ rows)) := by
  rw [List.append_assoc (X ++ pl)] at hD
  have h := va_D.swap hD
  rw [← List.append_assoc X] at h
  have h2 := va_D.swap h
  rw [List.append_assoc (X ++ [x])] at h2
  exact h2
theorem vr_outer (c : ClassId) (N h0 : Nat) : ∀ i : Nat, Jvm.Free.Multi.outerC c N h0 i = arrV c N (fun j => va_rf (if j < i then some (h0 + 1 + j) else none))
  | 0 => by
    show ({ cls := c, slots := Array.replicate N .null, vm := .none } : Cell) = _
    rw [arrV_new]
    refine congrArg (arrV c N) (funext fun j => ?_)
    simp [va_rf]
  | i + 1 => by
    show (Jvm.Free.Multi.outerC c N h0 i).setSlot i (.ref (h0 + 1 + i)) = _
    rw [vr_outer c N h0 i, arrV_store]
    refine congrArg (arrV c N) (funext fun j => ?_)
    by_cases e : j = i
    · subst e
      simp [updV, va_rf]
    · by_cases h : j < i
      · simp [updV, e, h, Nat.lt_succ_of_lt h]
      · simp [updV, e, h, show ¬ j < i + 1 by omega]
section VGM
variable {p : Program} {l : Launch} {e : Env} {R : Room} {s : State} {m : MethodId} {args : Array Value} {below : List Frame} {meth : Method} {c : Code} {H : Heap} {locs : List Loc} {cells slots : Nat} {Q : State → Prop}
variable {cc : ByteArray} {pc : Nat} {ls : Array Slot} {rest : List Value} {D : va_G} {cl : List vw_C} {A : Nat → Prop} {a : Nat} {tys : List (ClassId × FieldType)} {ws : va_W} {H0 : Heap}
theorem va_mna {X : va_W} {L : List Nat} {f : Nat → va_E} {cc : ByteArray} (hexec : p.tables.exec = Jvm.exec) (hb : c.code = cc) {own : String} {index : Nat} {ty : FieldType} {cy : ClassId} (hown : s.vm.findClass own = some m.cls) (hclink : (Cond.classLink own index ("[" ++ (FieldType.array ty).toString)).before args s = true) (hover : va_AOA ty s) (harr : (Cond.arrayClass ty).before args s = true) (hcy : s.vm.findClass (FieldType.array ty).toString = some cy)
    (hK : va_K D cl tys s) (hP : va_P D cl (X ++ va_pl L f) H) (hD : va_D A (X ++ va_pl L f)) (hS : va_S A H0 H locs) (hA : ∀ q, H0.size ≤ q → A q) {n k : Int32} {N' K' : Nat} {z : vp_A} (hn : ¬ n < 0) (hk : ¬ k < 0) (hN : n.toNatClampNeg = N') (hM : k.toNatClampNeg = K')
    (hb1 : N' * 4 ≤ 536870912) (hb2 : K' * componentBytes ty ≤ 536870912) (hb3 : K' ≤ 536870912) (hdf : fits ty (defaultValue ty) = true) (hdd : (defaultValue ty).isDefault = true) (hcells : cells + (1 + N') ≤ R.cells) (hslots : slots + (N' + N' * K') ≤ R.slots) (hz : ∀ c : ClassId, Jvm.Free.Multi.innerC c K' (defaultValue ty) = vp_cell c z) (hdg : decode cc pc = .ok (.multianewarray index 2, 4))
    (kk : ∀ (q : Nat) (r : Nat → Nat) (cA : ClassId) (H1 : Heap), (∀ i j : Nat, i < N' → j < N' → r i = r j → i = j) → (∀ i : Nat, i < N' → r i ∉ L) → va_K D cl (tys ++ [(cA, .array ty)]) s →
      va_P D cl ((X ++ [(q, .inl (cA, N', .inr (.inr (.inr (.inr (fun i => if i < N' then some (r i) else none))))))]) ++ va_pl (L ++ (List.range N').map r) (vr_up f ((List.range N').map r) (.inl (cy, z)))) H1 → va_D A ((X ++ [(q, .inl (cA, N', .inr (.inr (.inr (.inr (fun i => if i < N' then some (r i) else none))))))]) ++ va_pl (L ++ (List.range N').map r) (vr_up f ((List.range N').map r) (.inl (cy, z)))) → va_S A H0 H1 locs →
      W p l e R s m args below meth c H1 locs (cells + 1 + N') (slots + N' + N' * K') Q (F0 m (pc + 4) ls (.ref q :: rest))) : W p l e R s m args below meth c H locs cells slots Q (F0 m pc ls (.int k :: .int n :: rest)) := by
  subst hN
  subst hM
  intro T hT Xs
  obtain ⟨vm₁, cA, comp, -, fA, fC, hO, -, X', step⟩ := Xs.multianewarray2F hexec hown hclink (va_AOA.use hover) harr (g := F0 m pc ls (.int k :: .int n :: rest)) rfl (by rw [hb]; exact hdg) rfl hn hk hb1 hb2 hb3 hdf hdd hcells hslots
  have ec : some cy = some comp := hcy.symm.trans fC
  cases ec
  generalize hF : Jvm.Free.Multi.fill (T.setVm vm₁) cA cy n.toNatClampNeg k.toNatClampNeg (defaultValue ty) n.toNatClampNeg = F at X' step
  have hTh : (T.setVm vm₁).heap = H := hT
  obtain ⟨f1, f2, -, -⟩ := Jvm.Free.Multi.fill_facts (T.setVm vm₁) cA cy n.toNatClampNeg k.toNatClampNeg (defaultValue ty) n.toNatClampNeg
  rw [hF, hTh] at f1 f2
  have hold : ∀ x : Nat, x < H.size → F.heap[x]? = H[x]? := fun x hx => by
    have := Jvm.Free.Multi.fill_old (T.setVm vm₁) cA cy n.toNatClampNeg k.toNatClampNeg (defaultValue ty) (a := x) (by rw [hTh]; exact hx) n.toNatClampNeg
    rw [hF, hTh] at this
    exact this
  have hrow : ∀ j : Nat, j < n.toNatClampNeg → F.heap[H.size + 1 + j]? = some (vp_cell cy z) := fun j hj => by
    have := Jvm.Free.Multi.fill_inner (T.setVm vm₁) cA cy n.toNatClampNeg k.toNatClampNeg (defaultValue ty) n.toNatClampNeg j hj
    rw [hF, hTh, hz] at this
    exact this
  have hout : Jvm.Free.Multi.outerC cA n.toNatClampNeg H.size n.toNatClampNeg = vp_cell cA (n.toNatClampNeg, .inr (.inr (.inr (.inr (fun i => if i < n.toNatClampNeg then some (H.size + 1 + i) else none))))) := by
    rw [vp_cell_q]
    exact vr_outer cA n.toNatClampNeg H.size n.toNatClampNeg
  rw [hout] at f2
  have hlt : ∀ a, a ∈ L → a < H.size := fun a ha => by
    obtain ⟨k9, hk9⟩ := va_pl_get (X := X) (f := f) ha
    exact (hP k9 _ hk9).lt
  have hnl : ∀ i : Nat, i < n.toNatClampNeg → H.size + 1 + i ∉ L := fun i _ h => by
    have := hlt _ h
    omega
  have hnm : ∀ a, a ∈ (List.range n.toNatClampNeg).map (fun i => H.size + 1 + i) → a ∉ L := fun a ha h => by
    obtain ⟨i, -, rfl⟩ := List.mem_map.mp ha
    have := hlt _ h
    omega
  have hP0 : va_P D cl (X ++ va_pl L f) F.heap := hP.kept (fun k9 x hx => hold x.1 ((hP k9 x hx).lt))
  have hP1 : va_P D cl ((X ++ va_pl L f) ++ [(H.size, .inl (cA, n.toNatClampNeg, .inr (.inr (.inr (.inr (fun i => if i < n.toNatClampNeg then some (H.size + 1 + i) else none))))))]) F.heap := hP0.app (fun k9 x hx => by
    have h0 : k9 < 1 := (List.getElem?_eq_some_iff.mp hx).1
    rw [show k9 = 0 by omega] at hx
    cases hx
    exact f2)
  have hP2 : va_P D cl (((X ++ va_pl L f) ++ [(H.size, .inl (cA, n.toNatClampNeg, .inr (.inr (.inr (.inr (fun i => if i < n.toNatClampNeg then some (H.size + 1 + i) else none))))))]) ++ ((List.range n.toNatClampNeg).map (fun i => H.size + 1 + i)).map (fun a => (a, .inl (cy, z)))) F.heap := hP1.app (fun k9 x hx => by
    obtain ⟨a, ha, rfl⟩ := List.mem_map.mp (List.mem_of_getElem? hx)
    obtain ⟨i, hi, rfl⟩ := List.mem_map.mp ha
    exact hrow i (List.mem_range.mp hi))
  have hD2 : va_D A (((X ++ va_pl L f) ++ [(H.size, .inl (cA, n.toNatClampNeg, .inr (.inr (.inr (.inr (fun i => if i < n.toNatClampNeg then some (H.size + 1 + i) else none))))))]) ++ ((List.range n.toNatClampNeg).map (fun i => H.size + 1 + i)).map (fun a => (a, .inl (cy, z)))) := by
    have hD1 := hD.push (e := .inl (cA, n.toNatClampNeg, .inr (.inr (.inr (.inr (fun i => if i < n.toNatClampNeg then some (H.size + 1 + i) else none)))))) hP rfl (hA _ hS.1)
    generalize hW1 : (X ++ va_pl L f) ++ [(H.size, .inl (cA, n.toNatClampNeg, .inr (.inr (.inr (.inr (fun i => if i < n.toNatClampNeg then some (H.size + 1 + i) else none))))))] = W1 at hD1 hP1 ⊢
    have hle : ∀ (k9 : Nat) (x : Nat × va_E), W1[k9]? = some x → x.1 ≤ H.size := fun k9 x hx => by
      rw [← hW1] at hx
      by_cases hl : k9 < (X ++ va_pl L f).length
      · rw [List.getElem?_append_left hl] at hx
        exact Nat.le_of_lt ((hP k9 x hx).lt)
      · rw [List.getElem?_append_right (by omega)] at hx
        have h0 : k9 - (X ++ va_pl L f).length < 1 := (List.getElem?_eq_some_iff.mp hx).1
        rw [show k9 - (X ++ va_pl L f).length = 0 by omega] at hx
        cases hx
        exact Nat.le_refl _
    have hr : ∀ (k9 : Nat) (x : Nat × va_E), (((List.range n.toNatClampNeg).map (fun i => H.size + 1 + i)).map (fun a => ((a, .inl (cy, z)) : Nat × va_E)))[k9]? = some x → x.1 = H.size + 1 + k9 := fun k9 x hx => by
      rw [List.getElem?_map, List.getElem?_map] at hx
      by_cases h9 : k9 < n.toNatClampNeg
      · rw [List.getElem?_range h9] at hx
        cases hx
        rfl
      · have hn0 : (List.range n.toNatClampNeg)[k9]? = none := List.getElem?_eq_none (by rw [List.length_range]; omega)
        rw [hn0] at hx
        cases hx
    refine ⟨fun i j x y hi hj hxy => ?_, fun k9 x hx => ?_⟩
    · by_cases h1 : i < W1.length <;> by_cases h2 : j < W1.length
      · rw [List.getElem?_append_left h1] at hi
        rw [List.getElem?_append_left h2] at hj
        exact hD1.1 i j x y hi hj hxy
      · rw [List.getElem?_append_left h1] at hi
        rw [List.getElem?_append_right (by omega)] at hj
        have := hle _ _ hi
        have := hr _ _ hj
        omega
      · rw [List.getElem?_append_right (by omega)] at hi
        rw [List.getElem?_append_left h2] at hj
        have := hle _ _ hj
        have := hr _ _ hi
        omega
      · rw [List.getElem?_append_right (by omega)] at hi hj
        have := hr _ _ hi
        have := hr _ _ hj
        omega
    · by_cases h1 : k9 < W1.length
      · rw [List.getElem?_append_left h1] at hx
        exact hD1.2 k9 x hx
      · rw [List.getElem?_append_right (by omega)] at hx
        have := hr _ _ hx
        exact hA _ (by have := hS.1; omega)
  have hAr : ArrOfT s cA (.array ty) := fun N9 z9 => by
    obtain ⟨-, k9, hk9, cm9, hkk9⟩ := (hO 0 0 0).1
    exact ⟨(fun q hq => by cases hq), k9, hk9, cm9, hkk9⟩
  have hK2 : va_K D cl (tys ++ [(cA, .array ty)]) s := ⟨hK.1, fun k9 x hx => by
    by_cases hl : k9 < tys.length
    · rw [List.getElem?_append_left hl] at hx
      exact hK.2 k9 x hx
    · rw [List.getElem?_append_right (by omega)] at hx
      have h0 : k9 - tys.length < 1 := (List.getElem?_eq_some_iff.mp hx).1
      rw [show k9 - tys.length = 0 by omega] at hx
      cases hx
      exact ⟨hAr, fA⟩⟩
  obtain ⟨t, a1, b1⟩ := kk H.size (fun i => H.size + 1 + i) cA F.heap (fun i j _ _ h => by have h9 : H.size + 1 + i = H.size + 1 + j := h; omega) hnl hK2 (by rw [← vr_rows hnm]; exact vr_lay hP2) (by rw [← vr_rows hnm]; exact vr_layD hD2) ⟨by rw [f1]; have := hS.1; omega, fun x h1 h2 => (hold x (Nat.lt_of_lt_of_le h1 hS.1)).trans (hS.2.1 x h1 h2), hS.2.2⟩ F rfl X'
  refine ⟨t, step t ?_, b1⟩
  have e : T.heap.size = H.size := by rw [hT]
  rw [e]
  exact a1
end VGM
/-! ===== END ===== -/

/-! ===== BEGIN exceptions that leave a method, and their catching by the caller (launches without stack traces) ===== -/
section VXA
/-! The laws vx_back, vx_callV, vx_callS, vx_callSW, vx_throw0, vx_throwS follow proofs of the library, with one case more: JvmDerived/Free/Laws.lean (Back.of_free), Shelf42/LK1.lean (callV, callS), Shelf/KitTraced.lean (throwNew0V, throwNewS). -/
/-- where a method has thrown q: the class by its name, the cell, what was written, the world -/
def vx_T (XC : String → State → State → Prop) (st : State) (q : Addr) (t : State) (mc ms : Nat) (free : Addr → Prop) : Prop :=
  ∃ (E : String) (ce : Cell) (L : List Loc), XC E st t ∧ t.heap[q]? = some ce ∧ ce.vm = .none ∧ st.vm.findClass E = some ce.cls ∧ st.WarmedH t.vm ∧ st.sameButNew ({ t with vm := st.vm } : State) L mc ms ∧ ∀ z ∈ L, free z.base
def vx_Q (Qc : Array Value → State → Outcome → State → Prop) (XC : String → State → State → Prop) (mc ms : Nat) (free : Addr → Prop) : Array Value → State → Outcome → State → Prop := fun a st o t =>
  (Qc a st o t ∧ ∃ L, FrameEnd st o t L mc ms ∧ ∀ q ∈ L, free q.base) ∨ ∃ q, o = .threw q ∧ vx_T XC st q t mc ms free
/-- a callee that returns or throws -/
def vx_Met (l : Launch) (y : MethodName) (ws : List Cond) (rm : Room) (Pc : Array Value → State → Prop) (Qc : Array Value → State → Outcome → State → Prop) (XC : String → State → State → Prop) (mc ms : Nat) (free : Addr → Prop) : Prop :=
  MetFree l y (headSpec ws rm) Pc (fun _ _ _ _ _ => True) (vx_Q Qc XC mc ms free)
def vx_Post (XC : String → State → State → Prop) (mc ms : Nat) (free : Addr → Prop) : Pt → Array Value → Addr → Pt → Prop := fun A a q B =>
  ∃ (g : JFrame) (mk : MethodId) (t : State) (L : List Loc) (E : String) (ce : Cell), B.U.heap = t.heap ∧ B.U.vm = t.vm ∧ XC E (A.U.calling g mk a) t ∧ t.heap[q]? = some ce ∧ ce.vm = .none ∧ A.U.vm.findClass E = some ce.cls ∧ B.locs = A.locs ++ L ∧ (∀ z ∈ L, free z.base) ∧ B.cells = A.cells + mc ∧ B.slots = A.slots + ms
def vx_Back (l : Launch) (R : Room) (p : Program) (e : Env) (below : List Frame) (s : State) (sargs : Array Value) (y : MethodName) (len W9 : Nat)
    (Pre : Pt → Array Value → Prop) (Post : Pt → Array Value → Option Value → Pt → Prop) (PostX : Pt → Array Value → Addr → Pt → Prop) : Prop :=
  ∀ (m : MethodId) (meth : Method) (c : Code) (A : Pt) (g : JFrame) (ig : Instr) (mk : MethodId) (a : Array Value),
    Stand p l e R s m sargs below meth c A.U A.locs A.cells A.slots → g.method = m → g.locals.size = c.maxLocals → decode c.code g.pc = .ok (ig, len) →
    2 * g.monitorRoom + (g.stack.map fun v => v.category).sum ≤ W9 → A.U.methodNamed? y = some mk → Pre A a →
    (∃ (v : Option Value) (B : Pt), Stand p l e R s m sargs below meth c B.U B.locs B.cells B.slots ∧ Post A a v B ∧
      Steps p.tables e below (doInvoke e (A.U.setTop g) [] mk a).1 (B.U.setTop { g with pc := g.pc + len, stack := v.toList ++ g.stack })) ∨
    (∃ (q : Addr) (B : Pt), Stand p l e R s m sargs below meth c B.U B.locs B.cells B.slots ∧ PostX A a q B ∧
      Steps p.tables e below (doInvoke e (A.U.setTop g) [] mk a).1 ((B.U.setTop g).pushFrame (.throwing q)))
section Payer
variable {l : Launch} {R : Room} {p : Program} {e : Env} {below : List Frame} {s : State} {sargs : Array Value} {y : MethodName} {len W9 : Nat}
theorem vx_back {ws : List Cond} {rm : Room} {Pc : Array Value → State → Prop} {Qc : Array Value → State → Outcome → State → Prop} {XC : String → State → State → Prop} {mc ms : Nat} {free : Addr → Prop} {bytes : ByteArray} {maxL : Nat} {ret : Option FieldType}
    (hM : vx_Met l y ws rm Pc Qc XC mc ms free) (hblind : FrameBlind Pc) (hrc : rm.cells = mc) (hrs : rm.slots = ms)
    (hframes : rm.frames + 1 ≤ R.frames) (hlocals : W9 + (maxL + 11) + rm.locals ≤ R.locals)
    (hws : ∀ w ∈ ws, ∀ a' U, s.WarmedH U.vm → w.before a' U = true) (hcode : Cond.code y bytes maxL ret ∈ ws) (hinit : ∀ a' U, s.WarmedH U.vm → (Cond.initialized y.cls).before a' U = true) :
    vx_Back l R p e below s sargs y len W9 (PreOf R mc ms Pc) (PostOf Qc mc ms free) (vx_Post XC mc ms free) := by
  intro m meth c A g ig mk a X hg hsize hdg hW hn hp
  have h1 : (headSpec ws rm).pre.before a A.U = true := atoms_intro fun w hw => hws w hw _ _ X.warmed
  have h2 : (Cond.code y bytes maxL ret).before a A.U = true := hws _ hcode _ _ X.warmed
  have h3 : (Cond.initialized y.cls).before a A.U = true := hinit _ _ X.warmed
  have h4 : A.cells + (headSpec ws rm).room.cells ≤ R.cells := by rw [show (headSpec ws rm).room.cells = mc from hrc]; exact hp.1
  have h5 : A.slots + (headSpec ws rm).room.slots ≤ R.slots := by rw [show (headSpec ws rm).room.slots = ms from hrs]; exact hp.2.1
  have hPc : Pc a (A.U.calling g mk a) := hblind _ _ _ _ hp.2.2
  obtain ⟨U, Ls, c0, s0⟩ := A
  dsimp only [Pt.U, Pt.locs, Pt.cells, Pt.slots] at h1 h2 h3 h4 h5 X hn hPc ⊢
  obtain ⟨methY, cY, hmY, hcY, -, hlY, -, -, -, -⟩ := Cond.code_spec hn h2
  obtain ⟨kY, hkY, -⟩ := className_of_methodNamed hn
  have hinitY : kY.init = .initialized := Cond.initialized_spec (findClass_of_methodNamed hn) hkY h3
  have h : At U g.method c below := by rw [hg]; exact X.here
  have hlocals9 : W9 + (maxL + 11) + (headSpec ws rm).room.locals ≤ R.locals := hlocals
  have happ : (headSpec ws rm).appliesLoose y e.platform (U.calling g mk a) = true :=
    Spec.appliesLoose_calling (g := g) h hdg hn hkY hinitY
      (X.room_calling (g := g) (R' := (headSpec ws rm).room) hsize hmY hcY hframes (by rw [hlY]; omega) h4 h5) h1
  obtain ⟨mid, hmid⟩ := h.above
  have hfr : (U.setTop g).frames = (.java g :: mid) ++ below := by rw [State.frames_setTop' g h.top, hmid]; rfl
  obtain ⟨o, s₂, hsteps, -, hend, hq⟩ := Steps.callFree hM p X.admits X.cas X.clock (acts := []) hfr happ hPc trivial
  have hq' : vx_Q Qc XC mc ms free a (U.calling g mk a) o s₂ := hq
  rw [State.frames_setTop' g h.top] at hend
  obtain ⟨g₀, hg0⟩ := Option.isSome_iff_exists.mp h.top
  obtain ⟨r, hr⟩ := State.topJava?_eq_some.mp hg0
  have hr' : (({ U with heap := s₂.heap, slotsUsed := s₂.slotsUsed } : State).setVm s₂.vm).frames = .java g₀ :: r := hr
  rcases hq' with ⟨hqc, L, hfe, hL⟩ | ⟨q, rfl, E, ce, L, hx, hce, hcv, hcl, hW₂, hsm, hL⟩
  · obtain ⟨⟨v, rfl⟩, hW₂, e2, q2, q3, q4, q5, q6⟩ := id hfe
    have e3 : s₂ = ({ (U.calling g mk a).setFrames s₂.frames with heap := s₂.heap, slotsUsed := s₂.slotsUsed } : State).setVm s₂.vm := by
      have : s₂ = ({ s₂ with vm := (U.calling g mk a).vm } : State).setVm s₂.vm := rfl
      rw [e2] at this
      exact this
    obtain ⟨c₂, i₂, len₂, hc₂, hd₂, hf₂⟩ := hend
    have hW' : U.WarmedH s₂.vm := hW₂
    have hcc : c₂ = c := by
      have h1 : s₂.code? g.method = U.code? g.method := by
        rw [State.code?_eq, State.code?_eq, hW'.alike.method?]
      exact Option.some.inj (hc₂.symm.trans (h1.trans h.code))
    subst hcc
    have hlen : len₂ = len := by rw [hdg] at hd₂; cases hd₂; rfl
    subst hlen
    have hs₂ : s₂ = (({ U with heap := s₂.heap, slotsUsed := s₂.slotsUsed } : State).setVm s₂.vm).setTop { g with pc := g.pc + len₂, stack := v.toList ++ g.stack } := by
      refine e3.trans ?_
      rw [hf₂, State.calling_eq h.top, State.setFrames_setFrames, State.setTop_of_frames _ hr', hr]
      rfl
    have hsame : U.sameButNew ({ U with heap := s₂.heap, slotsUsed := s₂.slotsUsed } : State) L mc ms := by
      refine ⟨?_, q2, q3, q4, q5, q6⟩
      obtain ⟨t, ht, -⟩ := State.frames_cons hr
      show ({ U with heap := s₂.heap, slotsUsed := s₂.slotsUsed } : State) = { U.setFrames U.frames with heap := s₂.heap, slotsUsed := s₂.slotsUsed }
      rw [State.setFrames_self ht]
    subst hg
    refine Or.inl ⟨v, ⟨(({ U with heap := s₂.heap, slotsUsed := s₂.slotsUsed } : State).setVm s₂.vm), Ls ++ L, c0 + mc, s0 + ms⟩,
      ⟨X.admits, X.cas, X.clock, X.frames, X.room, X.hears, X.method, X.code, (X.here.setHeapUsed s₂.heap s₂.slotsUsed).setVm hW'.alike, X.tail, State.WarmedH.trans X.warmed hW', X.limits, X.bytes, X.same.trans (hsame.setVm s.vm)⟩,
      ⟨g, mk, s₂, L, rfl, rfl, hqc, rfl, hL, rfl, rfl⟩, ?_⟩
    show Steps p.tables e below _ ((({ U with heap := s₂.heap, slotsUsed := s₂.slotsUsed } : State).setVm s₂.vm).setTop { g with pc := g.pc + len₂, stack := v.toList ++ g.stack })
    rw [← hs₂]
    exact hsteps
  · obtain ⟨e2, q2, q3, q4, q5, q6⟩ := id hsm
    have e3 : s₂ = ({ (U.calling g mk a).setFrames s₂.frames with heap := s₂.heap, slotsUsed := s₂.slotsUsed } : State).setVm s₂.vm := by
      have : s₂ = ({ s₂ with vm := (U.calling g mk a).vm } : State).setVm s₂.vm := rfl
      rw [e2] at this
      exact this
    have hf₂ : s₂.frames = .throwing q :: .java g :: U.frames.tail := hend
    have hW' : U.WarmedH s₂.vm := hW₂
    have hs₂ : s₂ = ((({ U with heap := s₂.heap, slotsUsed := s₂.slotsUsed } : State).setVm s₂.vm).setTop g).pushFrame (.throwing q) := by
      refine e3.trans ?_
      rw [hf₂, State.calling_eq h.top, State.setFrames_setFrames, State.pushFrame, State.frames_setTop _ hr', State.setTop_of_frames _ hr', State.setFrames_setFrames, hr]
      rfl
    have hsame : U.sameButNew ({ U with heap := s₂.heap, slotsUsed := s₂.slotsUsed } : State) L mc ms := by
      refine ⟨?_, q2, q3, q4, q5, q6⟩
      obtain ⟨t, ht, -⟩ := State.frames_cons hr
      show ({ U with heap := s₂.heap, slotsUsed := s₂.slotsUsed } : State) = { U.setFrames U.frames with heap := s₂.heap, slotsUsed := s₂.slotsUsed }
      rw [State.setFrames_self ht]
    subst hg
    refine Or.inr ⟨q, ⟨(({ U with heap := s₂.heap, slotsUsed := s₂.slotsUsed } : State).setVm s₂.vm), Ls ++ L, c0 + mc, s0 + ms⟩,
      ⟨X.admits, X.cas, X.clock, X.frames, X.room, X.hears, X.method, X.code, (X.here.setHeapUsed s₂.heap s₂.slotsUsed).setVm hW'.alike, X.tail, State.WarmedH.trans X.warmed hW', X.limits, X.bytes, X.same.trans (hsame.setVm s.vm)⟩,
      ⟨g, mk, s₂, L, E, ce, rfl, rfl, hx, hce, hcv, hcl, rfl, hL, rfl, rfl⟩, ?_⟩
    show Steps p.tables e below _ (((({ U with heap := s₂.heap, slotsUsed := s₂.slotsUsed } : State).setVm s₂.vm).setTop g).pushFrame (.throwing q))
    rw [← hs₂]
    exact hsteps
end Payer
section Calls
variable {p : Program} {l : Launch} {e : Env} {R : Room} {s : State} {m : MethodId} {args : Array Value} {below : List Frame} {meth : Method} {c : Code} {T : State} {locs : List Loc} {cells slots : Nat}
theorem vx_callV (X : Stand p l e R s m args below meth c T locs cells slots) (hexec : p.tables.exec = Jvm.exec) {own C : String} {index : Nat} {y : MethodName} {bytes : ByteArray} {maxL : Nat} {ret : Option FieldType}
    (hown : s.vm.findClass own = some m.cls) (hlink : (Cond.methodLink own index y).before args s = true) (hinst : (Cond.instanceMethod y).before args s = true) (hsel : (Cond.selects C y y).before args s = true)
    (hcode : (Cond.code y bytes maxL ret).before args s = true) (hy : y.cls ≠ "java/lang/invoke/MethodHandle" ∧ y.cls ≠ "java/lang/invoke/VarHandle")
    {W9 : Nat} {Pre : Pt → Array Value → Prop} {Post : Pt → Array Value → Option Value → Pt → Prop} {PostX : Pt → Array Value → Addr → Pt → Prop} (hK : vx_Back l R p e below s args y 3 W9 Pre Post PostX)
    {b : Addr} {cellB : Cell} (hcell : T.heap[b]? = some cellB) (hobj : cellB.vm.isStatics = false) (hcls : s.vm.findClass C = some cellB.cls)
    {g : JFrame} (hg : g.method = m) (hsize : g.locals.size = c.maxLocals) {argsL rest : List Value} (hlen : ∀ sig, parseMethodDescriptor y.desc = some sig → argsL.length = sig.parameters.length)
    (hstack : g.stack = argsL.reverse ++ .ref b :: rest) (hW : 2 * g.monitorRoom + (rest.map fun v => v.category).sum ≤ W9) (hdg : decode c.code g.pc = .ok (.invokevirtual index, 3))
    (hpre : ∀ vm₁, s.WarmedH vm₁ → Pre ⟨T.setVm vm₁, locs, cells, slots⟩ (Value.ref b :: argsL).toArray) :
    (∃ (v : Option Value) (vm₁ : Vm) (B : Pt), s.WarmedH vm₁ ∧ Stand p l e R s m args below meth c B.U B.locs B.cells B.slots ∧ Post ⟨T.setVm vm₁, locs, cells, slots⟩ (Value.ref b :: argsL).toArray v B ∧
      ∀ target, Steps p.tables e below (B.U.setTop { g with pc := g.pc + 3, stack := v.toList ++ rest }) target → Steps p.tables e below (T.setTop g) target) ∨
    (∃ (q : Addr) (vm₁ : Vm) (B : Pt), s.WarmedH vm₁ ∧ Stand p l e R s m args below meth c B.U B.locs B.cells B.slots ∧ PostX ⟨T.setVm vm₁, locs, cells, slots⟩ (Value.ref b :: argsL).toArray q B ∧
      Steps p.tables e below (T.setTop g) ((B.U.setTop { g with stack := rest }).pushFrame (.throwing q))) := by
  obtain ⟨mk, methM, hnamed, hmethM, hstM, habM⟩ := Cond.instanceMethod_spec hinst
  obtain ⟨methM', cM, hmethM', -, -, -, -, -, -, hsigM⟩ := Cond.code_spec hnamed hcode
  cases hmethM.symm.trans hmethM'
  obtain ⟨c2, r2, m2, q1, q2, q3, q4, kP, hkP, hkPi⟩ := Cond.selects_spec hsel
  cases hcls.symm.trans q1
  cases (State.methodFound?_of_named hnamed hy).symm.trans q2
  cases hnamed.symm.trans q3
  have hselP : selectMethod e.platform s.vm cellB.cls mk = .method mk := by rw [Launch.admits_selectMethod X.admits]; exact q4
  obtain ⟨vm₁, X₁, hstep₁⟩ := X.invokevirtual hexec hown hlink hnamed hmethM hstM hkP hkPi hy (a := b) (cell := cellB) hcell
    (fun z h => by rw [h] at hobj; cases hobj) hselP hmethM habM hkP hkPi (g := g) hg (argsL := argsL) (rest := rest) (hlen _ hsigM) hstack hdg
  rcases hK m meth c ⟨T.setVm vm₁, locs, cells, slots⟩ { g with stack := rest } (.invokevirtual index) mk (Value.ref b :: argsL).toArray X₁ hg hsize hdg hW (X₁.named hnamed) (hpre vm₁ X₁.warmed) with ⟨v, B, X', hpost, hsteps⟩ | ⟨q, B, X', hpost, hsteps⟩
  · exact Or.inl ⟨v, vm₁, B, X₁.warmed, X', hpost, fun target h => hstep₁ _ fun acts => by rw [doInvoke_state]; exact hsteps.trans h⟩
  · exact Or.inr ⟨q, vm₁, B, X₁.warmed, X', hpost, hstep₁ _ fun acts => by rw [doInvoke_state]; exact hsteps⟩
theorem vx_callS (X : Stand p l e R s m args below meth c T locs cells slots) (hexec : p.tables.exec = Jvm.exec) {own : String} {index : Nat} {y : MethodName} {bytes : ByteArray} {maxL : Nat} {ret : Option FieldType}
    (hown : s.vm.findClass own = some m.cls) (hlink : (Cond.methodLink own index y).before args s = true) (hstat : (Cond.static y).before args s = true) (hinit : (Cond.initialized y.cls).before args s = true)
    (hcode : (Cond.code y bytes maxL ret).before args s = true) (hy : y.cls ≠ "java/lang/invoke/MethodHandle" ∧ y.cls ≠ "java/lang/invoke/VarHandle")
    {W9 : Nat} {Pre : Pt → Array Value → Prop} {Post : Pt → Array Value → Option Value → Pt → Prop} {PostX : Pt → Array Value → Addr → Pt → Prop} (hK : vx_Back l R p e below s args y 3 W9 Pre Post PostX)
    {g : JFrame} (hg : g.method = m) (hsize : g.locals.size = c.maxLocals) {argsL rest : List Value} (hlen : ∀ sig, parseMethodDescriptor y.desc = some sig → argsL.length = sig.parameters.length)
    (hstack : g.stack = argsL.reverse ++ rest) (hW : 2 * g.monitorRoom + (rest.map fun v => v.category).sum ≤ W9) (hdg : decode c.code g.pc = .ok (.invokestatic index, 3))
    (hpre : ∀ vm₁, s.WarmedH vm₁ → Pre ⟨T.setVm vm₁, locs, cells, slots⟩ argsL.toArray) :
    (∃ (v : Option Value) (vm₁ : Vm) (B : Pt), s.WarmedH vm₁ ∧ Stand p l e R s m args below meth c B.U B.locs B.cells B.slots ∧ Post ⟨T.setVm vm₁, locs, cells, slots⟩ argsL.toArray v B ∧
      ∀ target, Steps p.tables e below (B.U.setTop { g with pc := g.pc + 3, stack := v.toList ++ rest }) target → Steps p.tables e below (T.setTop g) target) ∨
    (∃ (q : Addr) (vm₁ : Vm) (B : Pt), s.WarmedH vm₁ ∧ Stand p l e R s m args below meth c B.U B.locs B.cells B.slots ∧ PostX ⟨T.setVm vm₁, locs, cells, slots⟩ argsL.toArray q B ∧
      Steps p.tables e below (T.setTop g) ((B.U.setTop { g with stack := rest }).pushFrame (.throwing q))) := by
  obtain ⟨mk, hnamed⟩ := Cond.code_named hcode
  obtain ⟨methM, cM, hmethM, -, -, -, -, -, -, hsigM⟩ := Cond.code_spec hnamed hcode
  have hstatic : methM.isStatic = true := Cond.static_spec hnamed hmethM hstat
  obtain ⟨kP, hkP, -⟩ := className_of_methodNamed hnamed
  have hinitP : kP.init = .initialized := Cond.initialized_spec (findClass_of_methodNamed hnamed) hkP hinit
  obtain ⟨vm₁, X₁, hstep₁⟩ := X.invokestatic hexec hown hlink hnamed hmethM hstatic hkP hinitP hy (g := g) hg (argsL := argsL) (rest := rest) (hlen _ hsigM) hstack hdg
  rcases hK m meth c ⟨T.setVm vm₁, locs, cells, slots⟩ { g with stack := rest } (.invokestatic index) mk argsL.toArray X₁ hg hsize hdg hW (X₁.named hnamed) (hpre vm₁ X₁.warmed) with ⟨v, B, X', hpost, hsteps⟩ | ⟨q, B, X', hpost, hsteps⟩
  · exact Or.inl ⟨v, vm₁, B, X₁.warmed, X', hpost, fun target h => hstep₁ _ fun acts => by rw [doInvoke_state]; exact hsteps.trans h⟩
  · exact Or.inr ⟨q, vm₁, B, X₁.warmed, X', hpost, hstep₁ _ fun acts => by rw [doInvoke_state]; exact hsteps⟩
end Calls
theorem vx_cls {s : State} {T : State} {vm₁ : Vm} {E : String} {k : ClassId} (hW : s.WarmedH vm₁) (h : (T.setVm vm₁).vm.findClass E = some k) : s.vm.findClass E = some k := by
  have h1 : vm₁.findClass E = some k := h
  rw [hW.alike.findClass] at h1
  exact h1
/-- the method's frame g, with q thrown over it -/
def vx_W (p : Program) (l : Launch) (e : Env) (R : Room) (s : State) (m : MethodId) (args : Array Value) (below : List Frame) (meth : Method) (c : Code) (H : Heap) (locs : List Loc) (cells slots : Nat) (Q : State → Prop) (g : JFrame) (q : Addr) : Prop :=
  ∀ T : State, T.heap = H → Stand p l e R s m args below meth c T locs cells slots → ∃ t, Steps p.tables e below ((T.setTop g).pushFrame (.throwing q)) t ∧ Q t
def vx_Run (p : Program) (l : Launch) (e : Env) (R : Room) (s : State) (m : MethodId) (args : Array Value) (below : List Frame) (meth : Method) (c : Code) (H : Heap) (locs : List Loc) (cells slots mc ms : Nat) (g : JFrame) (rest : List Value) (Qa : State → Outcome → State → Prop) (XC : String → State → State → Prop) (free : Addr → Prop) : Prop :=
  ∀ T : State, T.heap = H → Stand p l e R s m args below meth c T locs cells slots →
    (∃ (v : Option Value) (st₀ t T' : State) (L : List Loc), st₀.heap = H ∧ Stand p l e R s m args below meth c T' (locs ++ L) (cells + mc) (slots + ms) ∧ (∀ q ∈ L, free q.base) ∧ T'.heap = t.heap ∧ T'.vm = t.vm ∧ Qa st₀ (.returned v) t ∧
      Goes p e below T g T' { g with pc := g.pc + 3, stack := v.toList ++ rest }) ∨
    (∃ (q : Addr) (st₀ t T' : State) (L : List Loc) (E : String) (ce : Cell), st₀.heap = H ∧ Stand p l e R s m args below meth c T' (locs ++ L) (cells + mc) (slots + ms) ∧ (∀ z ∈ L, free z.base) ∧ T'.heap = t.heap ∧ T'.vm = t.vm ∧ XC E st₀ t ∧ t.heap[q]? = some ce ∧ ce.vm = .none ∧ s.vm.findClass E = some ce.cls ∧
      Steps p.tables e below (T.setTop g) ((T'.setTop { g with stack := rest }).pushFrame (.throwing q)))
def vx_X {S : Type} (px : S → Prop) (B : String → S → State → Prop) (A : Nat → Prop) : String → State → State → Prop := fun E st t => ∃ u : S, px u ∧ B E u t ∧ va_F A st t
section Runs
variable {p : Program} {l : Launch} {e : Env} {R : Room} {s : State} {m : MethodId} {args : Array Value} {below : List Frame} {meth : Method} {c : Code} {H : Heap} {locs : List Loc} {cells slots : Nat}
variable {y : MethodName} {bytes cc : ByteArray} {maxL nL mc ms n index : Nat} {ret : Option FieldType} {ws : List Cond} {rm : Room} {Pc : Array Value → State → Prop} {Qc : Array Value → State → Outcome → State → Prop} {XC : String → State → State → Prop} {free : Addr → Prop} {Ts : List Cond} {own C : String} {b : Addr} {As rest : List Value} {g : JFrame}
theorem vx_callBack (cb : CallB R s args own index y bytes maxL ret ws rm mc ms n) (hM : vx_Met l y ws rm Pc Qc XC mc ms free) (hbl : FrameBlind Pc) : vx_Back l R p e below s args y 3 8 (PreOf R mc ms Pc) (PostOf Qc mc ms free) (vx_Post XC mc ms free) := by
  obtain ⟨hrc, hrs, hfr, hlo, hws, hcw, -, hini, -⟩ := cb
  exact vx_back (bytes := bytes) (maxL := maxL) (ret := ret) hM hbl hrc hrs hfr hlo hws hcw (fun a' U hW => word_at hW (Or.inl (by first | rfl | simp [Cond.onTables, Cond.keeps, Cond.steady])) hini)
theorem vx_runV (S : CallFix p m c cc nL s args Ts own) (hM : vx_Met l y ws rm Pc Qc XC mc ms free) (cw : CallW R s args own C index y bytes maxL ret ws rm mc ms n) (hp : PreV s H C b Pc As)
    (hg : g.method = m) (hn : As.length = n) (hsize : g.locals.size = nL) (hstack : g.stack = As.reverse ++ .ref b :: rest) (hW : 2 * g.monitorRoom + (rest.map fun v => v.category).sum ≤ 8) (hdg : decode cc g.pc = .ok (.invokevirtual index, 3)) (hf : cells + mc ≤ R.cells ∧ slots + ms ≤ R.slots) :
    vx_Run p l e R s m args below meth c H locs cells slots mc ms g rest (Qc (Value.ref b :: As).toArray) XC free := by
  have hK : vx_Back l R p e below s args y 3 8 (PreOf R mc ms Pc) (PostOf Qc mc ms free) (vx_Post XC mc ms free) := vx_callBack cw.1 hM hp.1
  obtain ⟨⟨-, -, -, -, -, -, hcode, -, hy, hlen, hl⟩, hin, hse⟩ := cw
  obtain ⟨hx, hb, hml, ho, -⟩ := S
  obtain ⟨-, ⟨cellB, hcB, hoB, hclB⟩, hPc⟩ := hp
  intro T hT X
  rcases vx_callV X hx (C := C) (bytes := bytes) (maxL := maxL) (ret := ret) ho hl hin hse hcode hy hK (by rw [hT]; exact hcB) hoB hclB hg (hsize.trans hml.symm) (argsL := As) (rest := rest) (fun sig h => hn.trans (hlen sig h)) hstack hW (by rw [hb]; exact hdg)
    (fun vm₁ hW₁ => ⟨hf.1, hf.2, hPc (T.setVm vm₁) hT hW₁⟩) with ⟨v, vm₁, ⟨U', l2, c2, s2⟩, hW₁, X', ⟨g', mk, t, L, e1, e2, hq, h1, hL, h2, h3⟩, st⟩ | ⟨q, vm₁, ⟨U', l2, c2, s2⟩, hW₁, X', ⟨g', mk, t, L, E, ce, e1, e2, hq, hce, hcv, hcl, h1, hL, h2, h3⟩, st⟩
  · dsimp only [Pt.U, Pt.locs, Pt.cells, Pt.slots] at X' e1 e2 h1 h2 h3 st
    subst h1; subst h2; subst h3
    exact Or.inl ⟨v, (T.setVm vm₁).calling g' mk (Value.ref b :: As).toArray, t, U', L, hT, X', hL, e1, e2, hq, st⟩
  · dsimp only [Pt.U, Pt.locs, Pt.cells, Pt.slots] at X' e1 e2 h1 h2 h3 st hcl
    subst h1; subst h2; subst h3
    exact Or.inr ⟨q, (T.setVm vm₁).calling g' mk (Value.ref b :: As).toArray, t, U', L, E, ce, hT, X', hL, e1, e2, hq, hce, hcv, vx_cls hW₁ hcl, st⟩
theorem vx_runS (S : CallFix p m c cc nL s args Ts own) (hM : vx_Met l y ws rm Pc Qc XC mc ms free) (cw : CallB R s args own index y bytes maxL ret ws rm mc ms n ∧ (Cond.static y).before args s = true) (hp : PreS s H Pc As)
    (hg : g.method = m) (hn : As.length = n) (hsize : g.locals.size = nL) (hstack : g.stack = As.reverse ++ rest) (hW : 2 * g.monitorRoom + (rest.map fun v => v.category).sum ≤ 8) (hdg : decode cc g.pc = .ok (.invokestatic index, 3)) (hf : cells + mc ≤ R.cells ∧ slots + ms ≤ R.slots) :
    vx_Run p l e R s m args below meth c H locs cells slots mc ms g rest (Qc As.toArray) XC free := by
  have hK : vx_Back l R p e below s args y 3 8 (PreOf R mc ms Pc) (PostOf Qc mc ms free) (vx_Post XC mc ms free) := vx_callBack cw.1 hM hp.1
  obtain ⟨⟨-, -, -, -, -, -, hcode, hini, hy, hlen, hl⟩, hstt⟩ := cw
  obtain ⟨hx, hb, hml, ho, -⟩ := S
  intro T hT X
  rcases vx_callS X hx (bytes := bytes) (maxL := maxL) (ret := ret) ho hl hstt hini hcode hy hK hg (hsize.trans hml.symm) (argsL := As) (rest := rest) (fun sig h => hn.trans (hlen sig h)) hstack hW (by rw [hb]; exact hdg)
    (fun vm₁ hW₁ => ⟨hf.1, hf.2, hp.2 (T.setVm vm₁) hT hW₁⟩) with ⟨v, vm₁, ⟨U', l2, c2, s2⟩, hW₁, X', ⟨g', mk, t, L, e1, e2, hq, h1, hL, h2, h3⟩, st⟩ | ⟨q, vm₁, ⟨U', l2, c2, s2⟩, hW₁, X', ⟨g', mk, t, L, E, ce, e1, e2, hq, hce, hcv, hcl, h1, hL, h2, h3⟩, st⟩
  · dsimp only [Pt.U, Pt.locs, Pt.cells, Pt.slots] at X' e1 e2 h1 h2 h3 st
    subst h1; subst h2; subst h3
    exact Or.inl ⟨v, (T.setVm vm₁).calling g' mk As.toArray, t, U', L, hT, X', hL, e1, e2, hq, st⟩
  · dsimp only [Pt.U, Pt.locs, Pt.cells, Pt.slots] at X' e1 e2 h1 h2 h3 st hcl
    subst h1; subst h2; subst h3
    exact Or.inr ⟨q, (T.setVm vm₁).calling g' mk As.toArray, t, U', L, E, ce, hT, X', hL, e1, e2, hq, hce, hcv, vx_cls hW₁ hcl, st⟩
end Runs
section Rows
variable {p : Program} {l : Launch} {e : Env} {R : Room} {s : State} {m : MethodId} {args : Array Value} {below : List Frame} {meth : Method} {c : Code} {H : Heap} {locs : List Loc} {cells slots : Nat} {Q : State → Prop}
variable {mc ms : Nat} {free : Addr → Prop} {A0 A1 : Nat → Prop} {H0 : Heap} {a : Array Value} {pc : Nat} {ls : Array Slot} {st0 rest : List Value}
theorem vx_keep {st₀ t T' : State} {L : List Loc} (h0 : st₀.heap = H) (e1 : T'.heap = t.heap) (hS : va_S A0 H0 H locs) (hA : ∀ q, q < H.size → A1 q → A0 q) (hf : ∀ q, free q → A0 q) (hL : ∀ q ∈ L, free q.base) (hF : va_F A1 st₀ t) :
    H.size ≤ T'.heap.size ∧ (∀ q : Nat, q < H.size → ¬ A1 q → T'.heap[q]? = H[q]?) ∧ va_S A0 H0 T'.heap (locs ++ L) := by
  obtain ⟨hz, hk⟩ := hF
  rw [h0] at hz hk
  exact ⟨by rw [e1]; exact hz, fun q h1 h2 => by rw [e1]; exact hk q h1 h2,
    ⟨Nat.le_trans hS.1 (by rw [e1]; exact hz), fun q h1 h2 => by rw [e1, hk q (Nat.lt_of_lt_of_le h1 hS.1) (fun z => h2 (hA q (Nat.lt_of_lt_of_le h1 hS.1) z))]; exact hS.2.1 q h1 h2, fun q hq => by
      rcases List.mem_append.mp hq with h | h
      · exact hS.2.2 q h
      · exact hf _ (hL q h)⟩⟩
theorem vx_calli {S SX : Type} {post : Int32 → S → Prop} {px : SX → Prop} {B : S → State → Prop} {BX : String → SX → State → Prop} {AX : Nat → Prop} (hr : vx_Run p l e R s m args below meth c H locs cells slots mc ms (F0 m pc ls st0) rest (va_Qi post B A1 a) (vx_X px BX AX) free) (hS : va_S A0 H0 H locs) (hA : ∀ q, q < H.size → A1 q → A0 q) (hf : ∀ q, free q → A0 q) (hAX : ∀ q, q < H.size → AX q → A0 q)
    (kx : ∀ (E : String) (ce : Cell) (q9 : Addr) (u : SX) (t : State) (H1 : Heap) (locs1 : List Loc), t.heap = H1 → s.vm.Alike t.vm → px u → BX E u t → H.size ≤ H1.size → (∀ q : Nat, q < H.size → ¬ AX q → H1[q]? = H[q]?) → va_S A0 H0 H1 locs1 → H1[q9]? = some ce → ce.vm = .none → s.vm.findClass E = some ce.cls → vx_W p l e R s m args below meth c H1 locs1 (cells + mc) (slots + ms) Q (F0 m pc ls rest) q9)
    (kk : ∀ (r : Int32) (u : S) (t : State) (H1 : Heap) (locs1 : List Loc), t.heap = H1 → s.vm.Alike t.vm → post r u → B u t → H.size ≤ H1.size → (∀ q : Nat, q < H.size → ¬ A1 q → H1[q]? = H[q]?) → va_S A0 H0 H1 locs1 → W p l e R s m args below meth c H1 locs1 (cells + mc) (slots + ms) Q (F0 m (pc + 3) ls (.int r :: rest))) : W p l e R s m args below meth c H locs cells slots Q (F0 m pc ls st0) := by
  intro T hT X
  rcases hr T hT X with ⟨v, st₀, t, T', L, h0, X', hL, e1, e2, ⟨⟨r, u, hv, hp, hb⟩, hF⟩, st⟩ | ⟨q, st₀, t, T', L, E, ce, h0, X', hL, e1, e2, ⟨u, hp, hb, hF⟩, hce, hcv, hcl, st⟩
  · cases hv
    obtain ⟨k1, k2, k3⟩ := vx_keep h0 e1 hS hA hf hL hF
    obtain ⟨t2, a1, b1⟩ := kk r u t T'.heap (locs ++ L) e1.symm (by rw [← e2]; exact X'.warmed.alike) hp hb k1 k2 k3 T' rfl X'
    exact ⟨t2, st t2 a1, b1⟩
  · obtain ⟨k1, k2, k3⟩ := vx_keep h0 e1 hS hAX hf hL hF
    obtain ⟨t2, a1, b1⟩ := kx E ce q u t T'.heap (locs ++ L) e1.symm (by rw [← e2]; exact X'.warmed.alike) hp hb k1 k2 k3 (by rw [e1]; exact hce) hcv hcl T' rfl X'
    exact ⟨t2, st.trans a1, b1⟩
theorem vx_calll {S SX : Type} {post : Int64 → S → Prop} {px : SX → Prop} {B : S → State → Prop} {BX : String → SX → State → Prop} {AX : Nat → Prop} (hr : vx_Run p l e R s m args below meth c H locs cells slots mc ms (F0 m pc ls st0) rest (va_Ql post B A1 a) (vx_X px BX AX) free) (hS : va_S A0 H0 H locs) (hA : ∀ q, q < H.size → A1 q → A0 q) (hf : ∀ q, free q → A0 q) (hAX : ∀ q, q < H.size → AX q → A0 q)
    (kx : ∀ (E : String) (ce : Cell) (q9 : Addr) (u : SX) (t : State) (H1 : Heap) (locs1 : List Loc), t.heap = H1 → s.vm.Alike t.vm → px u → BX E u t → H.size ≤ H1.size → (∀ q : Nat, q < H.size → ¬ AX q → H1[q]? = H[q]?) → va_S A0 H0 H1 locs1 → H1[q9]? = some ce → ce.vm = .none → s.vm.findClass E = some ce.cls → vx_W p l e R s m args below meth c H1 locs1 (cells + mc) (slots + ms) Q (F0 m pc ls rest) q9)
    (kk : ∀ (r : Int64) (u : S) (t : State) (H1 : Heap) (locs1 : List Loc), t.heap = H1 → s.vm.Alike t.vm → post r u → B u t → H.size ≤ H1.size → (∀ q : Nat, q < H.size → ¬ A1 q → H1[q]? = H[q]?) → va_S A0 H0 H1 locs1 → W p l e R s m args below meth c H1 locs1 (cells + mc) (slots + ms) Q (F0 m (pc + 3) ls (.long r :: rest))) : W p l e R s m args below meth c H locs cells slots Q (F0 m pc ls st0) := by
  intro T hT X
  rcases hr T hT X with ⟨v, st₀, t, T', L, h0, X', hL, e1, e2, ⟨⟨r, u, hv, hp, hb⟩, hF⟩, st⟩ | ⟨q, st₀, t, T', L, E, ce, h0, X', hL, e1, e2, ⟨u, hp, hb, hF⟩, hce, hcv, hcl, st⟩
  · cases hv
    obtain ⟨k1, k2, k3⟩ := vx_keep h0 e1 hS hA hf hL hF
    obtain ⟨t2, a1, b1⟩ := kk r u t T'.heap (locs ++ L) e1.symm (by rw [← e2]; exact X'.warmed.alike) hp hb k1 k2 k3 T' rfl X'
    exact ⟨t2, st t2 a1, b1⟩
  · obtain ⟨k1, k2, k3⟩ := vx_keep h0 e1 hS hAX hf hL hF
    obtain ⟨t2, a1, b1⟩ := kx E ce q u t T'.heap (locs ++ L) e1.symm (by rw [← e2]; exact X'.warmed.alike) hp hb k1 k2 k3 (by rw [e1]; exact hce) hcv hcl T' rfl X'
    exact ⟨t2, st.trans a1, b1⟩
theorem vx_callf {S SX : Type} {post : UInt32 → S → Prop} {px : SX → Prop} {B : S → State → Prop} {BX : String → SX → State → Prop} {AX : Nat → Prop} (hr : vx_Run p l e R s m args below meth c H locs cells slots mc ms (F0 m pc ls st0) rest (va_Qf post B A1 a) (vx_X px BX AX) free) (hS : va_S A0 H0 H locs) (hA : ∀ q, q < H.size → A1 q → A0 q) (hf : ∀ q, free q → A0 q) (hAX : ∀ q, q < H.size → AX q → A0 q)
    (kx : ∀ (E : String) (ce : Cell) (q9 : Addr) (u : SX) (t : State) (H1 : Heap) (locs1 : List Loc), t.heap = H1 → s.vm.Alike t.vm → px u → BX E u t → H.size ≤ H1.size → (∀ q : Nat, q < H.size → ¬ AX q → H1[q]? = H[q]?) → va_S A0 H0 H1 locs1 → H1[q9]? = some ce → ce.vm = .none → s.vm.findClass E = some ce.cls → vx_W p l e R s m args below meth c H1 locs1 (cells + mc) (slots + ms) Q (F0 m pc ls rest) q9)
    (kk : ∀ (r : UInt32) (u : S) (t : State) (H1 : Heap) (locs1 : List Loc), t.heap = H1 → s.vm.Alike t.vm → post r u → B u t → H.size ≤ H1.size → (∀ q : Nat, q < H.size → ¬ A1 q → H1[q]? = H[q]?) → va_S A0 H0 H1 locs1 → W p l e R s m args below meth c H1 locs1 (cells + mc) (slots + ms) Q (F0 m (pc + 3) ls (.float r :: rest))) : W p l e R s m args below meth c H locs cells slots Q (F0 m pc ls st0) := by
  intro T hT X
  rcases hr T hT X with ⟨v, st₀, t, T', L, h0, X', hL, e1, e2, ⟨⟨r, u, hv, hp, hb⟩, hF⟩, st⟩ | ⟨q, st₀, t, T', L, E, ce, h0, X', hL, e1, e2, ⟨u, hp, hb, hF⟩, hce, hcv, hcl, st⟩
  · cases hv
    obtain ⟨k1, k2, k3⟩ := vx_keep h0 e1 hS hA hf hL hF
    obtain ⟨t2, a1, b1⟩ := kk r u t T'.heap (locs ++ L) e1.symm (by rw [← e2]; exact X'.warmed.alike) hp hb k1 k2 k3 T' rfl X'
    exact ⟨t2, st t2 a1, b1⟩
  · obtain ⟨k1, k2, k3⟩ := vx_keep h0 e1 hS hAX hf hL hF
    obtain ⟨t2, a1, b1⟩ := kx E ce q u t T'.heap (locs ++ L) e1.symm (by rw [← e2]; exact X'.warmed.alike) hp hb k1 k2 k3 (by rw [e1]; exact hce) hcv hcl T' rfl X'
    exact ⟨t2, st.trans a1, b1⟩
theorem vx_calld {S SX : Type} {post : UInt64 → S → Prop} {px : SX → Prop} {B : S → State → Prop} {BX : String → SX → State → Prop} {AX : Nat → Prop} (hr : vx_Run p l e R s m args below meth c H locs cells slots mc ms (F0 m pc ls st0) rest (va_Qd post B A1 a) (vx_X px BX AX) free) (hS : va_S A0 H0 H locs) (hA : ∀ q, q < H.size → A1 q → A0 q) (hf : ∀ q, free q → A0 q) (hAX : ∀ q, q < H.size → AX q → A0 q)
    (kx : ∀ (E : String) (ce : Cell) (q9 : Addr) (u : SX) (t : State) (H1 : Heap) (locs1 : List Loc), t.heap = H1 → s.vm.Alike t.vm → px u → BX E u t → H.size ≤ H1.size → (∀ q : Nat, q < H.size → ¬ AX q → H1[q]? = H[q]?) → va_S A0 H0 H1 locs1 → H1[q9]? = some ce → ce.vm = .none → s.vm.findClass E = some ce.cls → vx_W p l e R s m args below meth c H1 locs1 (cells + mc) (slots + ms) Q (F0 m pc ls rest) q9)
    (kk : ∀ (r : UInt64) (u : S) (t : State) (H1 : Heap) (locs1 : List Loc), t.heap = H1 → s.vm.Alike t.vm → post r u → B u t → H.size ≤ H1.size → (∀ q : Nat, q < H.size → ¬ A1 q → H1[q]? = H[q]?) → va_S A0 H0 H1 locs1 → W p l e R s m args below meth c H1 locs1 (cells + mc) (slots + ms) Q (F0 m (pc + 3) ls (.double r :: rest))) : W p l e R s m args below meth c H locs cells slots Q (F0 m pc ls st0) := by
  intro T hT X
  rcases hr T hT X with ⟨v, st₀, t, T', L, h0, X', hL, e1, e2, ⟨⟨r, u, hv, hp, hb⟩, hF⟩, st⟩ | ⟨q, st₀, t, T', L, E, ce, h0, X', hL, e1, e2, ⟨u, hp, hb, hF⟩, hce, hcv, hcl, st⟩
  · cases hv
    obtain ⟨k1, k2, k3⟩ := vx_keep h0 e1 hS hA hf hL hF
    obtain ⟨t2, a1, b1⟩ := kk r u t T'.heap (locs ++ L) e1.symm (by rw [← e2]; exact X'.warmed.alike) hp hb k1 k2 k3 T' rfl X'
    exact ⟨t2, st t2 a1, b1⟩
  · obtain ⟨k1, k2, k3⟩ := vx_keep h0 e1 hS hAX hf hL hF
    obtain ⟨t2, a1, b1⟩ := kx E ce q u t T'.heap (locs ++ L) e1.symm (by rw [← e2]; exact X'.warmed.alike) hp hb k1 k2 k3 (by rw [e1]; exact hce) hcv hcl T' rfl X'
    exact ⟨t2, st.trans a1, b1⟩
theorem vx_callv {S SX : Type} {post : S → Prop} {px : SX → Prop} {B : S → State → Prop} {BX : String → SX → State → Prop} {AX : Nat → Prop} (hr : vx_Run p l e R s m args below meth c H locs cells slots mc ms (F0 m pc ls st0) rest (va_Qv post B A1 a) (vx_X px BX AX) free) (hS : va_S A0 H0 H locs) (hA : ∀ q, q < H.size → A1 q → A0 q) (hf : ∀ q, free q → A0 q) (hAX : ∀ q, q < H.size → AX q → A0 q)
    (kx : ∀ (E : String) (ce : Cell) (q9 : Addr) (u : SX) (t : State) (H1 : Heap) (locs1 : List Loc), t.heap = H1 → s.vm.Alike t.vm → px u → BX E u t → H.size ≤ H1.size → (∀ q : Nat, q < H.size → ¬ AX q → H1[q]? = H[q]?) → va_S A0 H0 H1 locs1 → H1[q9]? = some ce → ce.vm = .none → s.vm.findClass E = some ce.cls → vx_W p l e R s m args below meth c H1 locs1 (cells + mc) (slots + ms) Q (F0 m pc ls rest) q9)
    (kk : ∀ (u : S) (t : State) (H1 : Heap) (locs1 : List Loc), t.heap = H1 → s.vm.Alike t.vm → post u → B u t → H.size ≤ H1.size → (∀ q : Nat, q < H.size → ¬ A1 q → H1[q]? = H[q]?) → va_S A0 H0 H1 locs1 → W p l e R s m args below meth c H1 locs1 (cells + mc) (slots + ms) Q (F0 m (pc + 3) ls (rest))) : W p l e R s m args below meth c H locs cells slots Q (F0 m pc ls st0) := by
  intro T hT X
  rcases hr T hT X with ⟨v, st₀, t, T', L, h0, X', hL, e1, e2, ⟨⟨u, hv, hp, hb⟩, hF⟩, st⟩ | ⟨q, st₀, t, T', L, E, ce, h0, X', hL, e1, e2, ⟨u, hp, hb, hF⟩, hce, hcv, hcl, st⟩
  · cases hv
    obtain ⟨k1, k2, k3⟩ := vx_keep h0 e1 hS hA hf hL hF
    obtain ⟨t2, a1, b1⟩ := kk u t T'.heap (locs ++ L) e1.symm (by rw [← e2]; exact X'.warmed.alike) hp hb k1 k2 k3 T' rfl X'
    exact ⟨t2, st t2 a1, b1⟩
  · obtain ⟨k1, k2, k3⟩ := vx_keep h0 e1 hS hAX hf hL hF
    obtain ⟨t2, a1, b1⟩ := kx E ce q u t T'.heap (locs ++ L) e1.symm (by rw [← e2]; exact X'.warmed.alike) hp hb k1 k2 k3 (by rw [e1]; exact hce) hcv hcl T' rfl X'
    exact ⟨t2, st.trans a1, b1⟩
/-- caught by the row x of this method's table; the rows ahead don't take it -/
theorem vx_catch {own name : String} {E : String} {ce : Cell} {q : Addr} (hown : s.vm.findClass own = some m.cls) (pre : List ExceptionTableEntry) (x : ExceptionTableEntry) (suf : List ExceptionTableEntry) (hsplit : c.exceptionTable.toList = pre ++ x :: suf)
    (hpass : ∀ z ∈ pre, covers z pc = false ∨ (z.catchType ≠ 0 ∧ ∃ nm : String, (Cond.classLink own z.catchType nm).before args s = true ∧ va_Nc E nm s)) (hx : covers x pc = true) (h0 : x.catchType ≠ 0)
    (hlink : (Cond.classLink own x.catchType name).before args s = true) (hcast : (Cond.castable E name).before args s = true) (hcell : H[q]? = some ce) (hv : ce.vm = .none) (hcl : s.vm.findClass E = some ce.cls)
    (kk : W p l e R s m args below meth c H locs cells slots Q (F0 m x.handlerPc ls [.ref q])) : vx_W p l e R s m args below meth c H locs cells slots Q (F0 m pc ls rest) q := by
  intro T hT X
  have hpl : e.platform.magicAccessors = ({} : Platform).magicAccessors := by rw [X.admits.platform]
  obtain ⟨c3, c4, hc3, hc4, hasg⟩ := Cond.castable_spec hcast
  cases Option.some.inj (hc3.symm.trans hcl)
  obtain ⟨c5, hc5, hcl5⟩ := Cond.classLink_spec hown hlink e.platform hpl
  cases Option.some.inj (hc4.symm.trans hc5)
  obtain ⟨vm', X', st⟩ := X.thenCaughtThrough q (g := F0 m pc ls rest) rfl (Steps.refl _) (by rw [hT]; exact hcell) (by rw [hv]; rfl) (by obtain ⟨k9, h9, -⟩ := Vm.findClass_spec hcl; exact ⟨k9, h9⟩) pre x suf hsplit
    (fun z hz => by
      rcases hpass z hz with h | ⟨hz0, nm, hl1, hn1⟩
      · exact Or.inl h
      · obtain ⟨c6, hc6, hcl6⟩ := Cond.classLink_spec hown hl1 e.platform hpl
        obtain ⟨a8, b8, h1, h2, h3⟩ := hn1
        cases Option.some.inj (h1.symm.trans hcl)
        cases Option.some.inj (h2.symm.trans hc6)
        exact Or.inr ⟨hz0, _, hcl6, h3⟩) hx (Or.inr ⟨h0, c4, hcl5, hasg⟩)
  obtain ⟨t, a1, b1⟩ := kk (T.setVm vm') hT X'
  exact ⟨t, st.trans a1, b1⟩
end Rows
section Ends
variable {p : Program} {l : Launch} {e : Env} {R : Room} {s : State} {m : MethodId} {args : Array Value} {below : List Frame} {meth : Method} {c : Code} {H : Heap} {locs : List Loc} {cells slots : Nat} {Q : State → Prop}
variable {mc ms : Nat} {free : Addr → Prop} {A0 A1 : Nat → Prop} {H0 : Heap} {a : Array Value} {ls : Array Slot} {st0 rest : List Value}
variable {Qc : Array Value → State → Outcome → State → Prop} {XC : String → State → State → Prop}
/-- what a body that may throw owes at its end -/
def vx_MQ (below : List Frame) (Qc : Array Value → State → Outcome → State → Prop) (XC : String → State → State → Prop) (a : Array Value) (s : State) (mc ms : Nat) (free : Addr → Prop) : State → Prop := fun t =>
  ∃ o, t.status = .running ∧ Ended t below o ∧ vx_Q Qc XC mc ms free a s o t
theorem vx_ret {g : JFrame} {mc ms : Nat} (k : W p l e R s m args below meth c H locs cells slots (MQ below Qc args s mc ms free) g) : W p l e R s m args below meth c H locs cells slots (vx_MQ below Qc XC args s mc ms free) g := by
  intro T hT X
  obtain ⟨t, a1, o, b1, b2, b3, b4⟩ := k T hT X
  exact ⟨t, a1, o, b1, b2, Or.inl ⟨b3, b4⟩⟩
/-- not caught here: it goes on to the caller -/
theorem vx_widen {g : JFrame} {q : Addr} {k n : Nat} (h1 : cells ≤ k) (h2 : slots ≤ n) (kk : vx_W p l e R s m args below meth c H locs k n Q g q) : vx_W p l e R s m args below meth c H locs cells slots Q g q := fun T hT X => kk T hT (stand_widen X h1 h2)
theorem vx_out {pc : Nat} {E : String} {ce : Cell} {q : Addr} {mc ms : Nat} (hout : ∀ x ∈ c.exceptionTable.toList, covers x pc = false) (hlocks : meth.locks = false) (hcell : H[q]? = some ce) (hv : ce.vm = .none) (hcl : s.vm.findClass E = some ce.cls)
    (hx : ∀ t : State, t.heap = H → s.vm.Alike t.vm → XC E s t) (hf : ∀ z ∈ locs, free z.base) (hc : cells ≤ mc) (hs : slots ≤ ms) :
    vx_W p l e R s m args below meth c H locs cells slots (vx_MQ below Qc XC args s mc ms free) (F0 m pc ls rest) q := by
  intro T hT X
  obtain ⟨st1, hrun, hend, hW, hsm⟩ := X.leaveThrown q (g := F0 m pc ls rest) rfl rfl rfl hout hlocks
  have hcell9 : (T.setFrames (.throwing q :: below)).heap[q]? = some ce := by
    show T.heap[q]? = some ce
    rw [hT]; exact hcell
  exact ⟨_, st1, .threw q, hrun, hend, Or.inr ⟨q, rfl, E, ce, locs, hx _ hT hW.alike, hcell9, hv, hcl, hW, hsm.mono hc hs, hf⟩⟩
theorem vx_frame {U : State} {k n : Nat} (h : s.sameButNew ({ U with vm := s.vm } : State) locs k n) : s.heap.size ≤ U.heap.size ∧ ∀ q : Nat, q < s.heap.size → (∀ z ∈ locs, z.base ≠ q) → U.heap[q]? = s.heap[q]? := by
  obtain ⟨-, h2, -, -, -, h6⟩ := h
  refine ⟨h2, fun q hq hz => ?_⟩
  obtain ⟨c9, e1, e2, e3, e4⟩ := h6 q _ (Array.getElem?_eq_getElem hq)
  have hs : c9.slots = (s.heap[q]).slots := Array.ext_getElem? fun i => e4 i fun hm => hz _ hm rfl
  have h9 : c9 = s.heap[q] := by
    rw [hs] at e2
    exact e2
  have e5 : U.heap[q]? = some c9 := e1
  rw [e5, h9, Array.getElem?_eq_getElem hq]
/-- the words of a throw but the four that speak of the heap -/
def vx_no (w : Cond) : Bool := decide (w ≠ .isRef (.static Bundle.tN "UNASSIGNED_STACK" Bundle.steD)) && decide (w ≠ .isRef (.static Bundle.tN "SUPPRESSED_SENTINEL" Bundle.listD)) && decide (w ≠ .laysStatic Bundle.tN "UNASSIGNED_STACK" Bundle.steD) && decide (w ≠ .laysStatic Bundle.tN "SUPPRESSED_SENTINEL" Bundle.listD)
def vx_at0 (own : String) (ic : Nat) (X : String) (names : List String) : List Cond := (Bundle.ownAtoms0 own ic X names).filter vx_no
def vx_atS (own : String) (ic : Nat) (X : String) (names : List String) : List Cond := (Bundle.ownAtoms own ic X names).filter vx_no
/-- a word that the tables alone decide, or a good one -/
def vx_ot (w : Cond) : Bool := w.onTables || goodWord w
theorem vx_ot_at {args a' : Array Value} {s U : State} {w : Cond} (hW : s.WarmedH U.vm) (hvm : s.vm = U.vm) (hg : vx_ot w = true) (h : w.before args s = true) : w.before a' U = true := by
  simp only [vx_ot, Bool.or_eq_true] at hg
  rcases hg with hg | hg
  · exact va_tabs hg hvm h
  · exact word_at hW (good_of_word hg) h
/-- a list's words: the good ones out of the method's own list, the others by premises of their own -/
theorem vx_hat {args : Array Value} {s : State} {L B : List Cond} (h1 : ∀ w ∈ L.filter goodWord, w.before args s = true) (h2 : ∀ w ∈ L.filter (fun w => !goodWord w), w ∈ B) (h3 : ∀ w ∈ B, w.before args s = true) : ∀ w ∈ L, w.before args s = true := by
  intro w hw
  by_cases g : goodWord w = true
  · exact h1 w (List.mem_filter.mpr ⟨hw, g⟩)
  · refine h3 w (h2 w (List.mem_filter.mpr ⟨hw, ?_⟩))
    show (!goodWord w) = true
    cases hgw : goodWord w
    · rfl
    · exact absurd hgw g
theorem vx_c {args : Array Value} {s : State} {w : Cond} {B : List Cond} (h : w.before args s = true) (t : ∀ w ∈ B, w.before args s = true) : ∀ w' ∈ w :: B, w'.before args s = true := fun w' h' => (List.mem_cons.mp h').elim (fun e => by rw [e]; exact h) (t w')
theorem vx_n {args : Array Value} {s : State} : ∀ w ∈ ([] : List Cond), w.before args s = true := fun _ h => nomatch h
theorem vx_own {args : Array Value} {s : State} {L : List Cond} (h1 : ∀ w ∈ L.filter vx_no, w.before args s = true)
    (hU : (Cond.isRef (.static Bundle.tN "UNASSIGNED_STACK" Bundle.steD)).before args s = true) (hN : (Cond.isRef (.static Bundle.tN "SUPPRESSED_SENTINEL" Bundle.listD)).before args s = true)
    (lU : (Cond.laysStatic Bundle.tN "UNASSIGNED_STACK" Bundle.steD).before args s = true) (lN : (Cond.laysStatic Bundle.tN "SUPPRESSED_SENTINEL" Bundle.listD).before args s = true) : ∀ w ∈ L, w.before args s = true := by
  intro w hw
  by_cases e1 : w = .isRef (.static Bundle.tN "UNASSIGNED_STACK" Bundle.steD)
  · rw [e1]; exact hU
  · by_cases e2 : w = .isRef (.static Bundle.tN "SUPPRESSED_SENTINEL" Bundle.listD)
    · rw [e2]; exact hN
    · by_cases e3 : w = .laysStatic Bundle.tN "UNASSIGNED_STACK" Bundle.steD
      · rw [e3]; exact lU
      · by_cases e4 : w = .laysStatic Bundle.tN "SUPPRESSED_SENTINEL" Bundle.listD
        · rw [e4]; exact lN
        · exact h1 w (List.mem_filter.mpr ⟨hw, by unfold vx_no; rw [decide_eq_true e1, decide_eq_true e2, decide_eq_true e3, decide_eq_true e4]; rfl⟩)
/-- where a static field lies, its class's statics cell in H -/
def vx_L (C n d : String) (A : Nat → Prop) (U : State) (H : Heap) : Prop := ∃ (c : ClassId) (k : Class) (i : Nat) (f : Field) (a : Nat) (cell : Cell), U.vm.findClass C = some c ∧ U.fieldFound? C n d = some (c, k, i, f) ∧ f.isStatic = true ∧ k.statics = some a ∧ H[a]? = some cell ∧ cell.vm.isStatics = true ∧ cell.cls = c ∧ f.slot < cell.slots.size ∧ k.staticTypes[f.slot]? = some f.type ∧ ¬ A a
theorem vx_L.moved {C n d : String} {A : Nat → Prop} {u U : State} {H : Heap} (hvm : u.vm.Alike U.vm) (h : vx_L C n d A u H) : vx_L C n d A U H := by
  obtain ⟨c, k, i, f, a, cell, h1, h2, h3, h4, h5, h6, h7, h8, h9, h10⟩ := h
  obtain ⟨k', hi', he⟩ := State.fieldFound?_setVm hvm h2
  exact ⟨c, k', i, f, a, cell, by rw [hvm.findClass]; exact h1, hi', h3, by rw [he]; exact h4, h5, h6, h7, h8, by rw [he]; exact h9, h10⟩
theorem vx_L.kept {C n d : String} {A : Nat → Prop} {U : State} {H H1 : Heap} (h : vx_L C n d A U H) (hq : ∀ a : Nat, a < H.size → ¬ A a → H1[a]? = H[a]?) : vx_L C n d A U H1 := by
  obtain ⟨c, k, i, f, a, cell, h1, h2, h3, h4, h5, h6, h7, h8, h9, h10⟩ := h
  exact ⟨c, k, i, f, a, cell, h1, h2, h3, h4, by rw [hq a (Array.getElem?_eq_some_iff.mp h5).1 h10]; exact h5, h6, h7, h8, h9, h10⟩
theorem vx_L.narrow {C n d : String} {A B : Nat → Prop} {U : State} {H : Heap} (h : vx_L C n d A U H) (hAB : ∀ q, B q → A q) : vx_L C n d B U H := by
  obtain ⟨c, k, i, f, a, cell, h1, h2, h3, h4, h5, h6, h7, h8, h9, h10⟩ := h
  exact ⟨c, k, i, f, a, cell, h1, h2, h3, h4, h5, h6, h7, h8, h9, fun z => h10 (hAB _ z)⟩
theorem vx_L.word {C n d : String} {A : Nat → Prop} {s : State} {args : Array Value} (h : vx_L C n d A s s.heap) : (Cond.laysStatic C n d).before args s = true := by
  obtain ⟨c, k, i, f, a, cell, h1, h2, h3, h4, h5, h6, h7, h8, h9, -⟩ := h
  show (Cond.laysStatic C n d).holds args s none s [] = true
  exact Cond.laysStatic_of h1 h2 h3 h4 h5 h6 h7 h8 h9
/-- .. and what it holds: null or some reference -/
def vx_Zq (C n d : String) (A : Nat → Prop) (U : State) (H : Heap) : Prop := va_Zq C n d A U H ∧ vx_L C n d A U H
theorem vx_Zq.moved {C n d : String} {A : Nat → Prop} {u U : State} {H : Heap} (hvm : u.vm.Alike U.vm) (h : vx_Zq C n d A u H) : vx_Zq C n d A U H := ⟨va_Zq.moved hvm h.1, vx_L.moved hvm h.2⟩
theorem vx_Zq.kept {C n d : String} {A : Nat → Prop} {U : State} {H H1 : Heap} (h : vx_Zq C n d A U H) (hq : ∀ a : Nat, a < H.size → ¬ A a → H1[a]? = H[a]?) : vx_Zq C n d A U H1 := ⟨va_Zq.kept h.1 hq, vx_L.kept h.2 hq⟩
theorem vx_Zq.narrow {C n d : String} {A B : Nat → Prop} {U : State} {H : Heap} (h : vx_Zq C n d A U H) (hAB : ∀ q, B q → A q) : vx_Zq C n d B U H := ⟨va_Zq.narrow h.1 hAB, vx_L.narrow h.2 hAB⟩
theorem vx_Zqof {args : Array Value} {s : State} {C n d : String} {A : Nat → Prop} (hl : (Cond.laysStatic C n d).before args s = true) (hini : (Cond.initialized C).before args s = true) (h : (Cond.isRef (.static C n d)).before args s = true) (hA : ∀ a : Nat, a < s.heap.size → ¬ A a) : vx_Zq C n d A s s.heap := by
  refine ⟨va_Zqof hl hini h hA, ?_⟩
  obtain ⟨c, k, i, f, a, cell, h1, h2, h3, h4, h5, h6, h7, h8, h9⟩ := Cond.laysStatic_spec hl
  exact ⟨c, k, i, f, a, cell, h1, h2, h3, h4, h5, h6, h7, h8, h9, hA a (Array.getElem?_eq_some_iff.mp h5).1⟩
theorem vx_isRef {C n d : String} {v : Value} {A : Nat → Prop} {s : State} {args : Array Value} (h : va_Z C n d v A s s.heap) (hv : v.isRef = true) : (Cond.isRef (.static C n d)).before args s = true := by
  obtain ⟨cf, kf, fi, f, a, cell, h1, h2, h3, h4, h5, h6, h7, -⟩ := h
  have he : (Term.static C n d).eval args s none [] s = some v := by
    simp [Term.eval, State.fieldNamed?, h1, h2, h4, h5, h6, h7]
  simp only [Cond.before, Cond.holds, Cond.value, he]
  cases v <;> simp_all [Value.isRef]
theorem vx_isRefq {C n d : String} {A : Nat → Prop} {s : State} {args : Array Value} (h : va_Zq C n d A s s.heap) : (Cond.isRef (.static C n d)).before args s = true := by
  rcases h with h | ⟨t, h⟩
  · exact vx_isRef h rfl
  · exact vx_isRef h rfl
/-- the same frame, seen from here: as if the method were called anew in this heap -/
theorem vx_rebase {T : State} (X : Stand p l e R s m args below meth c T locs cells slots) {R' : Room} (hf : R'.frames ≤ R.frames) (hl : R'.locals ≤ R.locals) (hc : cells + R'.cells ≤ R.cells) (hs : slots + R'.slots ≤ R.slots) :
    Stand p l e R' ((T.setVm s.vm).setFrames (.invoking m args :: below)) m args below meth c T [] 0 0 := by
  have htop : (T.setVm s.vm).topJava?.isSome := X.here.top
  have hF : ((T.setVm s.vm).setFrames (.invoking m args :: below)).frames = .invoking m args :: below := State.frames_setFrames _ (State.cur_lt_of_top htop)
  obtain ⟨g₀, hg0⟩ := Option.isSome_iff_exists.mp htop
  obtain ⟨r, hr⟩ := State.topJava?_eq_some.mp hg0
  have hl9 : e.platform.stackLimits (T.setVm s.vm).me = e.platform.stackLimits s.me := X.limits
  have hb9 : (T.setVm s.vm).me.stackBytes = s.me.stackBytes := X.bytes
  refine ⟨X.admits, X.cas, X.clock, hF, ?_, X.hears, X.method, X.code, X.here, X.tail, X.warmed, ?_, ?_, ?_⟩
  · have h := X.room
    have hU : ((T.setVm s.vm).setFrames (.invoking m args :: below)).localsInUse = s.localsInUse := by
      rw [State.localsInUse_invoking hF (meth := meth) (c := c) X.method X.code, State.localsInUse_invoking X.frames X.method X.code]
    simp only [State.hasRoom, Bool.and_eq_true, decide_eq_true_eq] at h ⊢
    obtain ⟨⟨⟨⟨h1, h2, h3, h4, h5, h6⟩, h7⟩, h8⟩, h9⟩ := h
    rw [X.frames, List.length_cons] at h2 h3
    have q1 := X.heapSize
    have q2 := X.used
    simp only [hF, hU, List.length_cons, State.stackLimits_setFrames, State.stackBytes_setFrames, hl9, hb9]
    refine ⟨⟨⟨⟨by omega, by omega, by omega, by omega, by omega, h6⟩, ?_⟩, ?_⟩, X.book⟩
    · show T.heap.size + R'.cells ≤ e.platform.maxCells
      omega
    · show T.slotsUsed + R'.slots ≤ e.platform.maxSlots
      omega
  · rw [State.stackLimits_setFrames]; rfl
  · rw [State.stackBytes_setFrames]; rfl
  · refine ⟨?_, Nat.le_refl _, Nat.le_refl _, ?_, ?_, fun a c9 h9 => ⟨c9, h9, rfl, rfl, fun _ _ => rfl⟩⟩
    · obtain ⟨t, ht, -⟩ := State.frames_cons hr
      show T.setVm s.vm = { ((T.setVm s.vm).setFrames (.invoking m args :: below)).setFrames (T.setVm s.vm).frames with heap := T.heap, slotsUsed := T.slotsUsed }
      rw [State.setFrames_setFrames, State.setFrames_self ht]
      rfl
    · show T.slotsUsed = T.slotsUsed + ((T.heap.toList.drop T.heap.size).map (·.slots.size)).sum
      rw [List.drop_eq_nil_of_le (Nat.le_of_eq Array.length_toList)]
      rfl
    · show ((T.heap.toList.drop T.heap.size).map (·.slots.size)).sum ≤ 0
      rw [List.drop_eq_nil_of_le (Nat.le_of_eq Array.length_toList)]
      exact Nat.le_refl _
/-- 'throw new E()': new; dup; invokespecial; athrow -/
theorem vx_throw0 {cc : ByteArray} {pc : Nat} (hexec : p.tables.exec = Jvm.exec) (hb : c.code = cc) (hl : l.stackTraces = false) {own cls : String} {names : List String} {ik ic mc ms : Nat} {A : Nat → Prop}
    (hown : s.vm.findClass own = some m.cls) (hcls : Bundle.fit cls = true) (hnames : ∀ n ∈ names, Bundle.fit n = true)
    (hk : (Cond.classLink own ik cls).before args s = true) (hini : (Cond.initialized cls).before args s = true) (hat : ∀ w ∈ vx_at0 own ic cls names, w.before args s = true)
    (hgood : ∀ w ∈ Cond.classLink own ik cls :: Cond.initialized cls :: vx_at0 own ic cls names, vx_ot w = true)
    (hU : vx_Zq Bundle.tN "UNASSIGNED_STACK" Bundle.steD A s s.heap) (hN : vx_Zq Bundle.tN "SUPPRESSED_SENTINEL" Bundle.listD A s s.heap) (hS : va_S A s.heap H locs) (hsize : ls.size = c.maxLocals)
    (d0 : decode cc pc = .ok (.new ik, 3)) (d3 : decode cc (pc + 3) = .ok (.dup, 1)) (d4 : decode cc (pc + 4) = .ok (.invokespecial ic, 3)) (d7 : decode cc (pc + 7) = .ok (.athrow, 1))
    (hout : ∀ x ∈ c.exceptionTable.toList, covers x (pc + 7) = false)
    (hRframes : names.length + 3 < R.frames) (hRlocals : (rest.map fun v => v.category).sum + (13 * (names.length + 1) + 42) ≤ R.locals) (hRcells : cells + 1 ≤ R.cells) (hRslots : slots + 6 ≤ R.slots) (hlocks : meth.locks = false)
    (hx : ∀ t : State, s.vm.Alike t.vm → H.size ≤ t.heap.size → (∀ q : Nat, q < H.size → t.heap[q]? = H[q]?) → XC cls s t)
    (hf : ∀ z ∈ locs, free z.base) (hc : cells + 1 ≤ mc) (hs : slots + 6 ≤ ms) :
    W p l e R s m args below meth c H locs cells slots (vx_MQ below Qc XC args s mc ms free) (F0 m pc ls rest) := by
  intro T hT X
  have htr : e.platform.stackTraces = false := (show e.platform.stackTraces = l.stackTraces by rw [X.admits.platform]).trans hl
  have Y := vx_rebase X (R' := { frames := R.frames, locals := R.locals, cells := 1, slots := 6 }) (Nat.le_refl _) (Nat.le_refl _) hRcells hRslots
  obtain ⟨s', hA⟩ : ∃ z, z = (T.setVm s.vm).setFrames (.invoking m args :: below) := ⟨_, rfl⟩
  rw [← hA] at Y
  have hvm : s'.vm = s.vm := by rw [hA]; rfl
  have hhp : s'.heap = H := by rw [hA]; exact hT
  have hW0 : s.WarmedH s'.vm := by rw [hvm]; exact State.WarmedH.refl s
  have hat' : ∀ w ∈ vx_at0 own ic cls names, w.before args s' = true := fun w hw => vx_ot_at hW0 hvm.symm (hgood w (List.mem_cons_of_mem _ (List.mem_cons_of_mem _ hw))) (hat w hw)
  have hk' : (Cond.classLink own ik cls).before args s' = true := vx_ot_at hW0 hvm.symm (hgood _ List.mem_cons_self) hk
  have hini' : (Cond.initialized cls).before args s' = true := vx_ot_at hW0 hvm.symm (hgood _ (List.mem_cons_of_mem _ List.mem_cons_self)) hini
  have hU' : vx_Zq Bundle.tN "UNASSIGNED_STACK" Bundle.steD A s' s'.heap := by rw [hhp]; exact vx_Zq.moved hW0.alike (hU.kept hS.2.1)
  have hN' : vx_Zq Bundle.tN "SUPPRESSED_SENTINEL" Bundle.listD A s' s'.heap := by rw [hhp]; exact vx_Zq.moved hW0.alike (hN.kept hS.2.1)
  have h : ∀ w ∈ Bundle.ownAtoms0 own ic cls names, w.before args s' = true := vx_own hat' (vx_isRefq hU'.1) (vx_isRefq hN'.1) hU'.2.word hN'.2.word
  have hown' : s'.vm.findClass own = some m.cls := by rw [hvm]; exact hown
  have hins : (Cond.instantiable cls 6).before args s' = true := h _ (by simp [Bundle.ownAtoms0])
  obtain ⟨vm₁, cX, kX, hfX, hkX, -, -, X₁, st1⟩ := Y.newCold hexec (own := own) (C := cls) (index := ik) (n := 6) hown' hk' hins hini'
    (g := F0 m pc ls rest) rfl (by rw [hb]; exact d0) (Nat.le_refl _) (Nat.le_refl _)
  generalize hT1 : (T.setVm vm₁).pushCell { cls := cX, slots := kX.instanceTypes.map defaultValue, vm := .none } = T1 at X₁ st1
  have hcat : (Value.ref T.heap.size).category = 1 := rfl
  have hcellA : T1.heap[T.heap.size]? = some (freshCell cX kX) := by rw [← hT1]; exact State.heap_pushCell_size _ _
  have d3' : decode c.code (pc + 3) = .ok (.dup, 1) := by rw [hb]; exact d3
  obtain ⟨U, hsteps, hrun, hend, hW, hsame, ce, hce, hO⟩ := X₁.ctorThrow0 hexec htr (own := own) (cls := cls) (names := names) (ic := ic) hown' hcls hnames h (fun x hx => nomatch hx) hfX hkX hcellA (by rw [hhp, hT]; exact Nat.le_refl _)
    (g := { method := m, pc := pc + 4, locals := ls, stack := .ref T.heap.size :: .ref T.heap.size :: rest, locked := none }) rfl hsize rfl rfl (rest := rest) rfl
    (by rw [hb]; exact d4) (by rw [hb]; exact d7) hout hRframes (by simp only [List.map_cons, List.sum_cons, hcat]; omega) hlocks
  obtain ⟨f1, f2⟩ := vx_frame hsame
  rw [hhp] at f1 f2
  have hWs : s.WarmedH U.vm := State.WarmedH.trans hW0 hW
  have hcl : s.vm.findClass cls = some ce.cls := by
    have h9 := hO.cls
    rw [hvm] at h9
    exact h9
  have hall : s.sameButNew ({ U with vm := s.vm } : State) locs mc ms := by
    subst hA
    obtain ⟨e1, e2⟩ := hsame
    rw [State.setFrames_setFrames] at e1
    have h2 : (T.setVm s.vm).sameButNew ({ U with vm := s.vm } : State) [] (0 + 1) (0 + 6) := ⟨e1, e2⟩
    have h3 := X.same.trans h2
    rw [List.append_nil] at h3
    exact h3.mono hc hs
  refine ⟨U, ?_, .threw T.heap.size, hrun, hend, Or.inr ⟨T.heap.size, rfl, cls, ce, locs, hx U hWs.alike f1 (fun q hq => f2 q hq (fun z hz => nomatch hz)), hce, hO.vm, hcl, hWs, hall, hf⟩⟩
  refine st1 _ ?_
  show Steps p.tables e below (T1.setTop { method := m, pc := pc + 3, locals := ls, stack := .ref T.heap.size :: rest, locked := none }) _
  jvm_step X₁.here [X₁.here.top, hexec, d3', Value.category]
  exact hsteps
/-- 'throw new E("text")': new; dup; ldc; invokespecial; athrow -/
theorem vx_throwS {cc : ByteArray} {pc : Nat} (hexec : p.tables.exec = Jvm.exec) (hb : c.code = cc) (hl : l.stackTraces = false) {own cls text : String} {names : List String} {ik is ic mc ms sa : Nat} {A : Nat → Prop}
    (hown : s.vm.findClass own = some m.cls) (hcls : Bundle.fit cls = true) (hnames : ∀ n ∈ names, Bundle.fit n = true)
    (hk : (Cond.classLink own ik cls).before args s = true) (hini : (Cond.initialized cls).before args s = true) (hstr : vk_R own is text sa s) (hat : ∀ w ∈ vx_atS own ic cls names, w.before args s = true)
    (hgood : ∀ w ∈ Cond.classLink own ik cls :: Cond.initialized cls :: vx_atS own ic cls names, vx_ot w = true)
    (hU : vx_Zq Bundle.tN "UNASSIGNED_STACK" Bundle.steD A s s.heap) (hN : vx_Zq Bundle.tN "SUPPRESSED_SENTINEL" Bundle.listD A s s.heap) (hS : va_S A s.heap H locs) (hsize : ls.size = c.maxLocals)
    (d0 : decode cc pc = .ok (.new ik, 3)) (d3 : decode cc (pc + 3) = .ok (.dup, 1)) (d4 : decode cc (pc + 4) = .ok (.ldc is, 2)) (d6 : decode cc (pc + 6) = .ok (.invokespecial ic, 3)) (d9 : decode cc (pc + 9) = .ok (.athrow, 1))
    (hout : ∀ x ∈ c.exceptionTable.toList, covers x (pc + 9) = false)
    (hRframes : names.length + 3 < R.frames) (hRlocals : (rest.map fun v => v.category).sum + (13 * (names.length + 1) + 43) ≤ R.locals) (hRcells : cells + 1 ≤ R.cells) (hRslots : slots + 6 ≤ R.slots) (hlocks : meth.locks = false)
    (hx : ∀ t : State, s.vm.Alike t.vm → H.size ≤ t.heap.size → (∀ q : Nat, q < H.size → t.heap[q]? = H[q]?) → XC cls s t)
    (hf : ∀ z ∈ locs, free z.base) (hc : cells + 1 ≤ mc) (hs : slots + 6 ≤ ms) :
    W p l e R s m args below meth c H locs cells slots (vx_MQ below Qc XC args s mc ms free) (F0 m pc ls rest) := by
  intro T hT X
  have htr : e.platform.stackTraces = false := (show e.platform.stackTraces = l.stackTraces by rw [X.admits.platform]).trans hl
  have Y := vx_rebase X (R' := { frames := R.frames, locals := R.locals, cells := 1, slots := 6 }) (Nat.le_refl _) (Nat.le_refl _) hRcells hRslots
  obtain ⟨s', hA⟩ : ∃ z, z = (T.setVm s.vm).setFrames (.invoking m args :: below) := ⟨_, rfl⟩
  rw [← hA] at Y
  have hvm : s'.vm = s.vm := by rw [hA]; rfl
  have hhp : s'.heap = H := by rw [hA]; exact hT
  have hW0 : s.WarmedH s'.vm := by rw [hvm]; exact State.WarmedH.refl s
  have hat' : ∀ w ∈ vx_atS own ic cls names, w.before args s' = true := fun w hw => vx_ot_at hW0 hvm.symm (hgood w (List.mem_cons_of_mem _ (List.mem_cons_of_mem _ hw))) (hat w hw)
  have hk' : (Cond.classLink own ik cls).before args s' = true := vx_ot_at hW0 hvm.symm (hgood _ List.mem_cons_self) hk
  have hini' : (Cond.initialized cls).before args s' = true := vx_ot_at hW0 hvm.symm (hgood _ (List.mem_cons_of_mem _ List.mem_cons_self)) hini
  have hU' : vx_Zq Bundle.tN "UNASSIGNED_STACK" Bundle.steD A s' s'.heap := by rw [hhp]; exact vx_Zq.moved hW0.alike (hU.kept hS.2.1)
  have hN' : vx_Zq Bundle.tN "SUPPRESSED_SENTINEL" Bundle.listD A s' s'.heap := by rw [hhp]; exact vx_Zq.moved hW0.alike (hN.kept hS.2.1)
  have h : ∀ w ∈ Bundle.ownAtoms own ic cls names, w.before args s' = true := vx_own hat' (vx_isRefq hU'.1) (vx_isRefq hN'.1) hU'.2.word hN'.2.word
  have hown' : s'.vm.findClass own = some m.cls := by rw [hvm]; exact hown
  have hins : (Cond.instantiable cls 6).before args s' = true := h _ (by simp [Bundle.ownAtoms])
  obtain ⟨vm₁, cX, kX, hfX, hkX, -, -, X₁, st1⟩ := Y.newCold hexec (own := own) (C := cls) (index := ik) (n := 6) hown' hk' hins hini'
    (g := F0 m pc ls rest) rfl (by rw [hb]; exact d0) (Nat.le_refl _) (Nat.le_refl _)
  generalize hT1 : (T.setVm vm₁).pushCell { cls := cX, slots := kX.instanceTypes.map defaultValue, vm := .none } = T1 at X₁ st1
  have hcat : (Value.ref T.heap.size).category = 1 := rfl
  have hcellA : T1.heap[T.heap.size]? = some (freshCell cX kX) := by rw [← hT1]; exact State.heap_pushCell_size _ _
  have d3' : decode c.code (pc + 3) = .ok (.dup, 1) := by rw [hb]; exact d3
  have d4' : decode c.code (pc + 4) = .ok (.ldc is, 2) := by rw [hb]; exact d4
  have hstr' : vk_R own is text sa s' := vk_R.warm hW0 hstr
  obtain ⟨U, hsteps, hrun, hend, hW, hsame, ce, hce, hO⟩ := X₁.ctorThrowS hexec htr (own := own) (cls := cls) (names := names) (ic := ic) hown' hcls hnames h (fun x hx => nomatch hx) hfX hkX hcellA (by rw [hhp, hT]; exact Nat.le_refl _) (msg := .ref sa) rfl
    (g := { method := m, pc := pc + 6, locals := ls, stack := .ref sa :: .ref T.heap.size :: .ref T.heap.size :: rest, locked := none }) rfl hsize rfl rfl (rest := rest) rfl
    (by rw [hb]; exact d6) (by rw [hb]; exact d9) hout hRframes (by simp only [List.map_cons, List.sum_cons, hcat]; omega) hlocks
  obtain ⟨f1, f2⟩ := vx_frame hsame
  rw [hhp] at f1 f2
  have hWs : s.WarmedH U.vm := State.WarmedH.trans hW0 hW
  have hcl : s.vm.findClass cls = some ce.cls := by
    have h9 := hO.cls
    rw [hvm] at h9
    exact h9
  have hall : s.sameButNew ({ U with vm := s.vm } : State) locs mc ms := by
    subst hA
    obtain ⟨e1, e2⟩ := hsame
    rw [State.setFrames_setFrames] at e1
    have h2 : (T.setVm s.vm).sameButNew ({ U with vm := s.vm } : State) [] (0 + 1) (0 + 6) := ⟨e1, e2⟩
    have h3 := X.same.trans h2
    rw [List.append_nil] at h3
    exact h3.mono hc hs
  refine ⟨U, ?_, .threw T.heap.size, hrun, hend, Or.inr ⟨T.heap.size, rfl, cls, ce, locs, hx U hWs.alike f1 (fun q hq => f2 q hq (fun z hz => nomatch hz)), hce, hO.vm, hcl, hWs, hall, hf⟩⟩
  refine st1 _ ?_
  show Steps p.tables e below (T1.setTop { method := m, pc := pc + 3, locals := ls, stack := .ref T.heap.size :: rest, locked := none }) _
  jvm_step X₁.here [X₁.here.top, hexec, d3', Value.category]
  exact X₁.ldcString hexec (own := own) (text := text) (index := is) (a := sa) hown' hstr'.1 hstr'.2
    (g := { method := m, pc := pc + 4, locals := ls, stack := .ref T.heap.size :: .ref T.heap.size :: rest, locked := none }) rfl d4' _ hsteps
/-- 'throw new E("text")', the text by a wide index -/
theorem vx_throwSW {cc : ByteArray} {pc : Nat} (hexec : p.tables.exec = Jvm.exec) (hb : c.code = cc) (hl : l.stackTraces = false) {own cls text : String} {names : List String} {ik is ic mc ms sa : Nat} {A : Nat → Prop}
    (hown : s.vm.findClass own = some m.cls) (hcls : Bundle.fit cls = true) (hnames : ∀ n ∈ names, Bundle.fit n = true)
    (hk : (Cond.classLink own ik cls).before args s = true) (hini : (Cond.initialized cls).before args s = true) (hstr : vk_R own is text sa s) (hat : ∀ w ∈ vx_atS own ic cls names, w.before args s = true)
    (hgood : ∀ w ∈ Cond.classLink own ik cls :: Cond.initialized cls :: vx_atS own ic cls names, vx_ot w = true)
    (hU : vx_Zq Bundle.tN "UNASSIGNED_STACK" Bundle.steD A s s.heap) (hN : vx_Zq Bundle.tN "SUPPRESSED_SENTINEL" Bundle.listD A s s.heap) (hS : va_S A s.heap H locs) (hsize : ls.size = c.maxLocals)
    (d0 : decode cc pc = .ok (.new ik, 3)) (d3 : decode cc (pc + 3) = .ok (.dup, 1)) (d4 : decode cc (pc + 4) = .ok (.ldc_w is, 3)) (d7 : decode cc (pc + 7) = .ok (.invokespecial ic, 3)) (d10 : decode cc (pc + 10) = .ok (.athrow, 1))
    (hout : ∀ x ∈ c.exceptionTable.toList, covers x (pc + 10) = false)
    (hRframes : names.length + 3 < R.frames) (hRlocals : (rest.map fun v => v.category).sum + (13 * (names.length + 1) + 43) ≤ R.locals) (hRcells : cells + 1 ≤ R.cells) (hRslots : slots + 6 ≤ R.slots) (hlocks : meth.locks = false)
    (hx : ∀ t : State, s.vm.Alike t.vm → H.size ≤ t.heap.size → (∀ q : Nat, q < H.size → t.heap[q]? = H[q]?) → XC cls s t)
    (hf : ∀ z ∈ locs, free z.base) (hc : cells + 1 ≤ mc) (hs : slots + 6 ≤ ms) :
    W p l e R s m args below meth c H locs cells slots (vx_MQ below Qc XC args s mc ms free) (F0 m pc ls rest) := by
  intro T hT X
  have htr : e.platform.stackTraces = false := (show e.platform.stackTraces = l.stackTraces by rw [X.admits.platform]).trans hl
  have Y := vx_rebase X (R' := { frames := R.frames, locals := R.locals, cells := 1, slots := 6 }) (Nat.le_refl _) (Nat.le_refl _) hRcells hRslots
  obtain ⟨s', hA⟩ : ∃ z, z = (T.setVm s.vm).setFrames (.invoking m args :: below) := ⟨_, rfl⟩
  rw [← hA] at Y
  have hvm : s'.vm = s.vm := by rw [hA]; rfl
  have hhp : s'.heap = H := by rw [hA]; exact hT
  have hW0 : s.WarmedH s'.vm := by rw [hvm]; exact State.WarmedH.refl s
  have hat' : ∀ w ∈ vx_atS own ic cls names, w.before args s' = true := fun w hw => vx_ot_at hW0 hvm.symm (hgood w (List.mem_cons_of_mem _ (List.mem_cons_of_mem _ hw))) (hat w hw)
  have hk' : (Cond.classLink own ik cls).before args s' = true := vx_ot_at hW0 hvm.symm (hgood _ List.mem_cons_self) hk
  have hini' : (Cond.initialized cls).before args s' = true := vx_ot_at hW0 hvm.symm (hgood _ (List.mem_cons_of_mem _ List.mem_cons_self)) hini
  have hU' : vx_Zq Bundle.tN "UNASSIGNED_STACK" Bundle.steD A s' s'.heap := by rw [hhp]; exact vx_Zq.moved hW0.alike (hU.kept hS.2.1)
  have hN' : vx_Zq Bundle.tN "SUPPRESSED_SENTINEL" Bundle.listD A s' s'.heap := by rw [hhp]; exact vx_Zq.moved hW0.alike (hN.kept hS.2.1)
  have h : ∀ w ∈ Bundle.ownAtoms own ic cls names, w.before args s' = true := vx_own hat' (vx_isRefq hU'.1) (vx_isRefq hN'.1) hU'.2.word hN'.2.word
  have hown' : s'.vm.findClass own = some m.cls := by rw [hvm]; exact hown
  have hins : (Cond.instantiable cls 6).before args s' = true := h _ (by simp [Bundle.ownAtoms])
  obtain ⟨vm₁, cX, kX, hfX, hkX, -, -, X₁, st1⟩ := Y.newCold hexec (own := own) (C := cls) (index := ik) (n := 6) hown' hk' hins hini'
    (g := F0 m pc ls rest) rfl (by rw [hb]; exact d0) (Nat.le_refl _) (Nat.le_refl _)
  generalize hT1 : (T.setVm vm₁).pushCell { cls := cX, slots := kX.instanceTypes.map defaultValue, vm := .none } = T1 at X₁ st1
  have hcat : (Value.ref T.heap.size).category = 1 := rfl
  have hcellA : T1.heap[T.heap.size]? = some (freshCell cX kX) := by rw [← hT1]; exact State.heap_pushCell_size _ _
  have d3' : decode c.code (pc + 3) = .ok (.dup, 1) := by rw [hb]; exact d3
  have d4' : decode c.code (pc + 4) = .ok (.ldc_w is, 3) := by rw [hb]; exact d4
  have hstr' : vk_R own is text sa s' := vk_R.warm hW0 hstr
  obtain ⟨U, hsteps, hrun, hend, hW, hsame, ce, hce, hO⟩ := X₁.ctorThrowS hexec htr (own := own) (cls := cls) (names := names) (ic := ic) hown' hcls hnames h (fun x hx => nomatch hx) hfX hkX hcellA (by rw [hhp, hT]; exact Nat.le_refl _) (msg := .ref sa) rfl
    (g := { method := m, pc := pc + 7, locals := ls, stack := .ref sa :: .ref T.heap.size :: .ref T.heap.size :: rest, locked := none }) rfl hsize rfl rfl (rest := rest) rfl
    (by rw [hb]; exact d7) (by rw [hb]; exact d10) hout hRframes (by simp only [List.map_cons, List.sum_cons, hcat]; omega) hlocks
  obtain ⟨f1, f2⟩ := vx_frame hsame
  rw [hhp] at f1 f2
  have hWs : s.WarmedH U.vm := State.WarmedH.trans hW0 hW
  have hcl : s.vm.findClass cls = some ce.cls := by
    have h9 := hO.cls
    rw [hvm] at h9
    exact h9
  have hall : s.sameButNew ({ U with vm := s.vm } : State) locs mc ms := by
    subst hA
    obtain ⟨e1, e2⟩ := hsame
    rw [State.setFrames_setFrames] at e1
    have h2 : (T.setVm s.vm).sameButNew ({ U with vm := s.vm } : State) [] (0 + 1) (0 + 6) := ⟨e1, e2⟩
    have h3 := X.same.trans h2
    rw [List.append_nil] at h3
    exact h3.mono hc hs
  refine ⟨U, ?_, .threw T.heap.size, hrun, hend, Or.inr ⟨T.heap.size, rfl, cls, ce, locs, hx U hWs.alike f1 (fun q hq => f2 q hq (fun z hz => nomatch hz)), hce, hO.vm, hcl, hWs, hall, hf⟩⟩
  refine st1 _ ?_
  show Steps p.tables e below (T1.setTop { method := m, pc := pc + 3, locals := ls, stack := .ref T.heap.size :: rest, locked := none }) _
  jvm_step X₁.here [X₁.here.top, hexec, d3', Value.category]
  exact X₁.ldcStringW hexec (own := own) (text := text) (index := is) (a := sa) hown' hstr'.1 hstr'.2
    (g := { method := m, pc := pc + 4, locals := ls, stack := .ref T.heap.size :: .ref T.heap.size :: rest, locked := none }) rfl d4' _ hsteps
end Ends
section Bodies
variable {l : Launch}
theorem vx_ofW {y : MethodName} {ws ws' : List Cond} {rm : Room} {Pc : Array Value → State → Prop} {Qc : Array Value → State → Outcome → State → Prop} {XC : String → State → State → Prop} {mc ms : Nat} {free : Addr → Prop} {cc : ByteArray} {maxL : Nat} {ret : Option FieldType}
    (hy : plainName y.cls = true) (hw : ws = Cond.code y cc maxL ret :: ws')
    (body : ∀ p e s m args below meth c s₁, BodyLoose p l y (headSpec ws rm) cc maxL ret e s m args below meth c s₁ → c.maxLocals = maxL → (∀ x ∈ c.exceptionTable.toList, False) → Pc args s →
      W p l e (headSpec ws rm).room s m args below meth c s.heap [] 0 0 (vx_MQ below Qc XC args s mc ms free) (entryFrame m args maxL)) : vx_Met l y ws rm Pc Qc XC mc ms free := by
  refine MetFree.of_bodyS (code := cc) (maxLocals := maxL) (ret := ret) hy ?_ ?_
  · intro args s m h hn
    obtain ⟨meth, c, h1, h2, h3, h4, h5, h6, -, -⟩ := Cond.code_spec hn (atoms_spec (ws := ws) h _ (by rw [hw]; exact List.mem_cons_self))
    exact ⟨meth, c, h1, h2, h3, h4, h5, h6⟩
  · intro p e s m args below meth c s₁ B hml hP _
    have hh0 : s₁.heap = s.heap := by rw [B.state]; rfl
    have ht : ∀ x ∈ c.exceptionTable.toList, False := by
      obtain ⟨meth9, c9, h1, h2, -, -, -, -, h7, -⟩ := Cond.code_spec B.named (atoms_spec (ws := ws) B.pre _ (by rw [hw]; exact List.mem_cons_self))
      cases Option.some.inj (h1.symm.trans B.method)
      cases Option.some.inj (h2.symm.trans (Stand.of_body B).code)
      intro x hx
      rw [Array.isEmpty_iff.mp h7] at hx
      cases hx
    obtain ⟨t, a1, o, b1, b2, b3⟩ := body p e s m args below meth c s₁ B hml ht hP s₁ hh0 (Stand.of_body B)
    exact ⟨t, o, a1, b1, b2, b3⟩
/-- the table of a body with handlers -/
theorem vx_table {p : Program} {x y : MethodName} {S : Spec} {cc bytes : ByteArray} {maxL maxL' : Nat} {ret ret' : Option FieldType} {e : Env} {s s₁ : State} {m : MethodId} {args : Array Value} {below : List Frame} {meth : Method} {c : Code} {hh : List (Nat × Nat × Nat × Nat)}
    (B : BodyLoose p l y S cc maxL ret e s m args below meth c s₁) (h : (Cond.codeWith y bytes maxL' ret' hh).before args s = true) : c.exceptionTable.toList = tableOf hh := by
  obtain ⟨m9, meth9, c9, hn9, h1, h2, -, -, h6, -⟩ := Cond.codeWith_spec h
  cases Option.some.inj (hn9.symm.trans B.named)
  cases Option.some.inj (h1.symm.trans B.method)
  cases Option.some.inj (h2.symm.trans (Stand.of_body B).code)
  rw [← h6, table_eq]
end Bodies
end VXA
/-! ===== END ===== -/
/-! ===== BEGIN a static call of a method with an exception table ===== -/
section VXS
variable {p : Program} {l : Launch} {e : Env} {R : Room} {s : State} {m : MethodId} {args : Array Value} {below : List Frame} {meth : Method} {c : Code} {T : State} {H : Heap} {locs : List Loc} {cells slots : Nat}
abbrev vx_CSW (R : Room) (s : State) (args : Array Value) (own : String) (index : Nat) (y : MethodName) (bytes : ByteArray) (maxL : Nat) (ret : Option FieldType) (hh : List (Nat × Nat × Nat × Nat)) (ws : List Cond) (rm : Room) (mc ms n : Nat) : Prop :=
  (rm.cells = mc ∧ rm.slots = ms ∧ rm.frames + 1 ≤ R.frames ∧ 8 + (maxL + 11) + rm.locals ≤ R.locals ∧ (∀ w ∈ ws, ∀ (a' : Array Value) (U : State), s.WarmedH U.vm → w.before a' U = true) ∧ Cond.codeWith y bytes maxL ret hh ∈ ws) ∧
  (Cond.codeWith y bytes maxL ret hh).before args s = true ∧ (Cond.initialized y.cls).before args s = true ∧ (y.cls ≠ "java/lang/invoke/MethodHandle" ∧ y.cls ≠ "java/lang/invoke/VarHandle") ∧
  (∀ sig, parseMethodDescriptor y.desc = some sig → n = sig.parameters.length) ∧ (Cond.methodLink own index y).before args s = true ∧ (Cond.static y).before args s = true
theorem vx_cwSW {own : String} {index maxL mc ms : Nat} {y : MethodName} {bytes : ByteArray} {ret : Option FieldType} {hh : List (Nat × Nat × Nat × Nat)} {Ts ws ws' : List Cond} {rm : Room} (n : Nat) (ht : ∀ w ∈ Ts, w.before args s = true) (hT : GoodIn Ts (va_wsS own index y ws)) (hw : ws = Cond.codeWith y bytes maxL ret hh :: ws') (hrc : rm.cells = mc) (hrs : rm.slots = ms)
    (hd : y.cls ≠ "java/lang/invoke/MethodHandle" ∧ y.cls ≠ "java/lang/invoke/VarHandle" ∧ (parseMethodDescriptor y.desc).map (fun d => d.parameters.length) = some n) (hR : rm.frames + 1 ≤ R.frames ∧ 8 + (maxL + 11) + rm.locals ≤ R.locals) :
    vx_CSW R s args own index y bytes maxL ret hh ws rm mc ms n := by
  have ok : ∀ w ∈ va_wsS own index y ws, w.before args s = true := fun w h => ht w (hT w h).1
  have hG : GoodIn Ts ws := fun w h => hT w (by unfold va_wsS; exact List.mem_append_right _ h)
  have hc : Cond.codeWith y bytes maxL ret hh ∈ ws := by rw [hw]; exact List.mem_cons_self
  refine ⟨⟨hrc, hrs, hR.1, hR.2, pay_in ht hG, hc⟩, ht _ (hG _ hc).1, ok _ (by simp [va_wsS]), ⟨hd.1, hd.2.1⟩, fun sig h => ?_, ok _ (by simp [va_wsS]), ok _ (by simp [va_wsS])⟩
  have h2 := hd.2.2
  rw [h] at h2
  exact (Option.some.inj h2).symm
theorem vx_callSW (X : Stand p l e R s m args below meth c T locs cells slots) (hexec : p.tables.exec = Jvm.exec) {own : String} {index : Nat} {y : MethodName} {bytes : ByteArray} {maxL : Nat} {ret : Option FieldType} {hh : List (Nat × Nat × Nat × Nat)}
    (hown : s.vm.findClass own = some m.cls) (hlink : (Cond.methodLink own index y).before args s = true) (hstat : (Cond.static y).before args s = true) (hinit : (Cond.initialized y.cls).before args s = true)
    (hcode : (Cond.codeWith y bytes maxL ret hh).before args s = true) (hy : y.cls ≠ "java/lang/invoke/MethodHandle" ∧ y.cls ≠ "java/lang/invoke/VarHandle")
    {W9 : Nat} {Pre : Pt → Array Value → Prop} {Post : Pt → Array Value → Option Value → Pt → Prop} (hK : Back l R p e below s args y 3 W9 Pre Post)
    {g : JFrame} (hg : g.method = m) (hsize : g.locals.size = c.maxLocals) {argsL rest : List Value} (hlen : ∀ sig, parseMethodDescriptor y.desc = some sig → argsL.length = sig.parameters.length)
    (hstack : g.stack = argsL.reverse ++ rest) (hW : 2 * g.monitorRoom + (rest.map fun v => v.category).sum ≤ W9) (hdg : decode c.code g.pc = .ok (.invokestatic index, 3))
    (hpre : ∀ vm₁, s.WarmedH vm₁ → Pre ⟨T.setVm vm₁, locs, cells, slots⟩ argsL.toArray) :
    ∃ (v : Option Value) (vm₁ : Vm) (B : Pt), s.WarmedH vm₁ ∧ Stand p l e R s m args below meth c B.U B.locs B.cells B.slots ∧ Post ⟨T.setVm vm₁, locs, cells, slots⟩ argsL.toArray v B ∧
      ∀ target, Steps p.tables e below (B.U.setTop { g with pc := g.pc + 3, stack := v.toList ++ rest }) target → Steps p.tables e below (T.setTop g) target := by
  obtain ⟨mk, methM, cM, hnamed, hmethM, -, -, -, -, -, -, hsigM⟩ := Cond.codeWith_spec hcode
  have hstatic : methM.isStatic = true := Cond.static_spec hnamed hmethM hstat
  obtain ⟨kP, hkP, -⟩ := className_of_methodNamed hnamed
  have hinitP : kP.init = .initialized := Cond.initialized_spec (findClass_of_methodNamed hnamed) hkP hinit
  obtain ⟨vm₁, X₁, hstep₁⟩ := X.invokestatic hexec hown hlink hnamed hmethM hstatic hkP hinitP hy (g := g) hg (argsL := argsL) (rest := rest) (hlen _ hsigM) hstack hdg
  obtain ⟨v, B, X', hpost, hsteps⟩ := hK m meth c ⟨T.setVm vm₁, locs, cells, slots⟩ { g with stack := rest } (.invokestatic index) mk argsL.toArray X₁ hg hsize hdg hW (X₁.named hnamed) (hpre vm₁ X₁.warmed)
  exact ⟨v, vm₁, B, X₁.warmed, X', hpost, fun target h => hstep₁ _ fun acts => by rw [doInvoke_state]; exact hsteps.trans h⟩
theorem vx_runSW {y : MethodName} {bytes cc : ByteArray} {maxL nL mc ms n index : Nat} {ret : Option FieldType} {hh : List (Nat × Nat × Nat × Nat)} {ws : List Cond} {rm : Room} {Pc : Array Value → State → Prop} {Qc : Array Value → State → Outcome → State → Prop} {free : Addr → Prop} {Ts : List Cond} {own : String} {As rest : List Value} {g : JFrame}
    (S : CallFix p m c cc nL s args Ts own) (hM : Met l y ws rm Pc Qc mc ms free) (cw : vx_CSW R s args own index y bytes maxL ret hh ws rm mc ms n) (hp : PreS s H Pc As)
    (hg : g.method = m) (hn : As.length = n) (hsize : g.locals.size = nL) (hstack : g.stack = As.reverse ++ rest) (hW : 2 * g.monitorRoom + (rest.map fun v => v.category).sum ≤ 8) (hdg : decode cc g.pc = .ok (.invokestatic index, 3)) (hf : cells + mc ≤ R.cells ∧ slots + ms ≤ R.slots) :
    va_Run p l e R s m args below meth c H locs cells slots mc ms g rest (Qc As.toArray) (free) := by
  obtain ⟨⟨hrc, hrs, hfr, hlo, hws, hcw⟩, hcode, hini, hy, hlen, hl, hstt⟩ := cw
  have hK : Back l R p e below s args y 3 8 (PreOf R mc ms Pc) (PostOf Qc mc ms free) := va_backW (hh := hh) (bytes := bytes) (maxL := maxL) (ret := ret) hM hp.1 hrc hrs hfr hlo hws hcw (fun a' U hW => word_at hW (Or.inl (by first | rfl | simp [Cond.onTables, Cond.keeps, Cond.steady])) hini)
  obtain ⟨hx, hb, hml, ho, -⟩ := S
  intro T hT X
  obtain ⟨v, vm₁, ⟨U', l2, c2, s2⟩, hW₁, X', ⟨g', mk, t, L, e1, e2, hq, h1, hL, h2, h3⟩, st⟩ := vx_callSW X hx (hh := hh) (bytes := bytes) (maxL := maxL) (ret := ret) ho hl hstt hini hcode hy hK hg (hsize.trans hml.symm) (argsL := As) (rest := rest) (fun sig h => hn.trans (hlen sig h)) hstack hW (by rw [hb]; exact hdg)
    (fun vm₁ hW₁ => ⟨hf.1, hf.2, hp.2 (T.setVm vm₁) hT hW₁⟩)
  dsimp only [Pt.U, Pt.locs, Pt.cells, Pt.slots] at X' e1 e2 h1 h2 h3 st
  subst h1; subst h2; subst h3
  exact ⟨v, (T.setVm vm₁).calling g' mk As.toArray, t, U', L, hT, X', hL, e1, e2, hq, st⟩
/-- not caught here, past rows that name other classes: it goes on to the caller -/
theorem vx_outP {p : Program} {l : Launch} {e : Env} {R : Room} {s : State} {m : MethodId} {args : Array Value} {below : List Frame} {meth : Method} {c : Code} {H : Heap} {locs : List Loc} {cells slots : Nat} {free : Addr → Prop} {ls : Array Slot} {rest : List Value} {Qc : Array Value → State → Outcome → State → Prop} {XC : String → State → State → Prop}
    {pc : Nat} {own E : String} {ce : Cell} {q : Addr} {mc ms : Nat} (hown : s.vm.findClass own = some m.cls) (hlocks : meth.locks = false)
    (hpass : ∀ z ∈ c.exceptionTable.toList, covers z pc = false ∨ (z.catchType ≠ 0 ∧ ∃ nm : String, (Cond.classLink own z.catchType nm).before args s = true ∧ va_Nc E nm s)) (hcell : H[q]? = some ce) (hv : ce.vm = .none) (hcl : s.vm.findClass E = some ce.cls)
    (hx : ∀ t : State, t.heap = H → s.vm.Alike t.vm → XC E s t) (hf : ∀ z ∈ locs, free z.base) (hc : cells ≤ mc) (hs : slots ≤ ms) :
    vx_W p l e R s m args below meth c H locs cells slots (vx_MQ below Qc XC args s mc ms free) (F0 m pc ls rest) q := by
  intro T hT X
  have hpl : e.platform.magicAccessors = ({} : Platform).magicAccessors := by rw [X.admits.platform]
  obtain ⟨vm', hW', X', st⟩ := X.outThrough hlocks q (g := F0 m pc ls rest) rfl rfl rfl (cell := ce) (by rw [hT]; exact hcell) (by rw [hv]; rfl)
    (by obtain ⟨k9, h9, -⟩ := Vm.findClass_spec hcl; exact ⟨k9, h9⟩) (fun z hz => by
      rcases hpass z hz with h | ⟨hz0, nm, hl1, hn1⟩
      · exact Or.inl h
      · obtain ⟨c6, hc6, hcl6⟩ := Cond.classLink_spec hown hl1 e.platform hpl
        obtain ⟨a8, b8, h1, h2, h3⟩ := hn1
        cases Option.some.inj (h1.symm.trans hcl)
        cases Option.some.inj (h2.symm.trans hc6)
        exact Or.inr ⟨hz0, _, hcl6, h3⟩)
  obtain ⟨g₀, hfr⟩ := X'.frames_eq
  have hcell9 : ((T.setVm vm').setFrames (.throwing q :: below)).heap[q]? = some ce := by
    show T.heap[q]? = some ce
    rw [hT]; exact hcell
  have hend : Ended ((T.setVm vm').setFrames (.throwing q :: below)) below (.threw q) := State.frames_setFrames _ (State.cur_lt_of_frames hfr)
  refine ⟨(T.setVm vm').setFrames (.throwing q :: below), ?_, .threw q, X'.here.running, hend, Or.inr ⟨q, rfl, E, ce, locs, hx _ hT (X'.ends _).1.alike, hcell9, hv, hcl, (X'.ends _).1, (X'.ends _).2.mono hc hs, hf⟩⟩
  rw [X.pushThrowing_eq]
  exact st
/-- a thing of a world lies in the heap -/
theorem vx_lt {D : va_G} {cl : List vw_C} {ws : va_W} {H1 : Heap} (h : va_P D cl ws H1) {k : Nat} {q : Nat × va_E} (hk : ws[k]? = some q) : q.1 < H1.size := (h k q hk).lt
end VXS
/-! ===== END ===== -/
/-! ===== BEGIN methods with a table of their own: called by a name, returning or throwing ===== -/
section VXH
/-! vx_backW, vx_callVX, vx_callSX, vx_callVW, vx_runVW, vx_runVX, vx_runSX, vx_ofWH follow the same proofs as their sisters above (Free/Laws.lean, Shelf42/LK1.lean); vx_outP calls Shelf42/NT130.lean (outThrough). -/
section
variable {l : Launch} {R : Room} {p : Program} {e : Env} {below : List Frame} {s : State} {sargs : Array Value} {y : MethodName} {len W9 : Nat}
theorem vx_backW {ws : List Cond} {rm : Room} {Pc : Array Value → State → Prop} {Qc : Array Value → State → Outcome → State → Prop} {XC : String → State → State → Prop} {mc ms : Nat} {free : Addr → Prop} {bytes : ByteArray} {maxL : Nat} {ret : Option FieldType} {hh : List (Nat × Nat × Nat × Nat)}
    (hM : vx_Met l y ws rm Pc Qc XC mc ms free) (hblind : FrameBlind Pc) (hrc : rm.cells = mc) (hrs : rm.slots = ms)
    (hframes : rm.frames + 1 ≤ R.frames) (hlocals : W9 + (maxL + 11) + rm.locals ≤ R.locals)
    (hws : ∀ w ∈ ws, ∀ a' U, s.WarmedH U.vm → w.before a' U = true) (hcode : Cond.codeWith y bytes maxL ret hh ∈ ws) (hinit : ∀ a' U, s.WarmedH U.vm → (Cond.initialized y.cls).before a' U = true) :
    vx_Back l R p e below s sargs y len W9 (PreOf R mc ms Pc) (PostOf Qc mc ms free) (vx_Post XC mc ms free) := by
  intro m meth c A g ig mk a X hg hsize hdg hW hn hp
  have h1 : (headSpec ws rm).pre.before a A.U = true := atoms_intro fun w hw => hws w hw _ _ X.warmed
  have h2 : (Cond.codeWith y bytes maxL ret hh).before a A.U = true := hws _ hcode _ _ X.warmed
  have h3 : (Cond.initialized y.cls).before a A.U = true := hinit _ _ X.warmed
  have h4 : A.cells + (headSpec ws rm).room.cells ≤ R.cells := by rw [show (headSpec ws rm).room.cells = mc from hrc]; exact hp.1
  have h5 : A.slots + (headSpec ws rm).room.slots ≤ R.slots := by rw [show (headSpec ws rm).room.slots = ms from hrs]; exact hp.2.1
  have hPc : Pc a (A.U.calling g mk a) := hblind _ _ _ _ hp.2.2
  obtain ⟨U, Ls, c0, s0⟩ := A
  dsimp only [Pt.U, Pt.locs, Pt.cells, Pt.slots] at h1 h2 h3 h4 h5 X hn hPc ⊢
  obtain ⟨m9, methY, cY, hn9, hmY, hcY, -, hlY, -⟩ := Cond.codeWith_spec h2
  cases Option.some.inj (hn9.symm.trans hn)
  obtain ⟨kY, hkY, -⟩ := className_of_methodNamed hn
  have hinitY : kY.init = .initialized := Cond.initialized_spec (findClass_of_methodNamed hn) hkY h3
  have h : At U g.method c below := by rw [hg]; exact X.here
  have hlocals9 : W9 + (maxL + 11) + (headSpec ws rm).room.locals ≤ R.locals := hlocals
  have happ : (headSpec ws rm).appliesLoose y e.platform (U.calling g mk a) = true :=
    Spec.appliesLoose_calling (g := g) h hdg hn hkY hinitY
      (X.room_calling (g := g) (R' := (headSpec ws rm).room) hsize hmY hcY hframes (by rw [hlY]; omega) h4 h5) h1
  obtain ⟨mid, hmid⟩ := h.above
  have hfr : (U.setTop g).frames = (.java g :: mid) ++ below := by rw [State.frames_setTop' g h.top, hmid]; rfl
  obtain ⟨o, s₂, hsteps, -, hend, hq⟩ := Steps.callFree hM p X.admits X.cas X.clock (acts := []) hfr happ hPc trivial
  have hq' : vx_Q Qc XC mc ms free a (U.calling g mk a) o s₂ := hq
  rw [State.frames_setTop' g h.top] at hend
  obtain ⟨g₀, hg0⟩ := Option.isSome_iff_exists.mp h.top
  obtain ⟨r, hr⟩ := State.topJava?_eq_some.mp hg0
  have hr' : (({ U with heap := s₂.heap, slotsUsed := s₂.slotsUsed } : State).setVm s₂.vm).frames = .java g₀ :: r := hr
  rcases hq' with ⟨hqc, L, hfe, hL⟩ | ⟨q, rfl, E, ce, L, hx, hce, hcv, hcl, hW₂, hsm, hL⟩
  · obtain ⟨⟨v, rfl⟩, hW₂, e2, q2, q3, q4, q5, q6⟩ := id hfe
    have e3 : s₂ = ({ (U.calling g mk a).setFrames s₂.frames with heap := s₂.heap, slotsUsed := s₂.slotsUsed } : State).setVm s₂.vm := by
      have : s₂ = ({ s₂ with vm := (U.calling g mk a).vm } : State).setVm s₂.vm := rfl
      rw [e2] at this
      exact this
    obtain ⟨c₂, i₂, len₂, hc₂, hd₂, hf₂⟩ := hend
    have hW' : U.WarmedH s₂.vm := hW₂
    have hcc : c₂ = c := by
      have h1 : s₂.code? g.method = U.code? g.method := by
        rw [State.code?_eq, State.code?_eq, hW'.alike.method?]
      exact Option.some.inj (hc₂.symm.trans (h1.trans h.code))
    subst hcc
    have hlen : len₂ = len := by rw [hdg] at hd₂; cases hd₂; rfl
    subst hlen
    have hs₂ : s₂ = (({ U with heap := s₂.heap, slotsUsed := s₂.slotsUsed } : State).setVm s₂.vm).setTop { g with pc := g.pc + len₂, stack := v.toList ++ g.stack } := by
      refine e3.trans ?_
      rw [hf₂, State.calling_eq h.top, State.setFrames_setFrames, State.setTop_of_frames _ hr', hr]
      rfl
    have hsame : U.sameButNew ({ U with heap := s₂.heap, slotsUsed := s₂.slotsUsed } : State) L mc ms := by
      refine ⟨?_, q2, q3, q4, q5, q6⟩
      obtain ⟨t, ht, -⟩ := State.frames_cons hr
      show ({ U with heap := s₂.heap, slotsUsed := s₂.slotsUsed } : State) = { U.setFrames U.frames with heap := s₂.heap, slotsUsed := s₂.slotsUsed }
      rw [State.setFrames_self ht]
    subst hg
    refine Or.inl ⟨v, ⟨(({ U with heap := s₂.heap, slotsUsed := s₂.slotsUsed } : State).setVm s₂.vm), Ls ++ L, c0 + mc, s0 + ms⟩,
      ⟨X.admits, X.cas, X.clock, X.frames, X.room, X.hears, X.method, X.code, (X.here.setHeapUsed s₂.heap s₂.slotsUsed).setVm hW'.alike, X.tail, State.WarmedH.trans X.warmed hW', X.limits, X.bytes, X.same.trans (hsame.setVm s.vm)⟩,
      ⟨g, mk, s₂, L, rfl, rfl, hqc, rfl, hL, rfl, rfl⟩, ?_⟩
    show Steps p.tables e below _ ((({ U with heap := s₂.heap, slotsUsed := s₂.slotsUsed } : State).setVm s₂.vm).setTop { g with pc := g.pc + len₂, stack := v.toList ++ g.stack })
    rw [← hs₂]
    exact hsteps
  · obtain ⟨e2, q2, q3, q4, q5, q6⟩ := id hsm
    have e3 : s₂ = ({ (U.calling g mk a).setFrames s₂.frames with heap := s₂.heap, slotsUsed := s₂.slotsUsed } : State).setVm s₂.vm := by
      have : s₂ = ({ s₂ with vm := (U.calling g mk a).vm } : State).setVm s₂.vm := rfl
      rw [e2] at this
      exact this
    have hf₂ : s₂.frames = .throwing q :: .java g :: U.frames.tail := hend
    have hW' : U.WarmedH s₂.vm := hW₂
    have hs₂ : s₂ = ((({ U with heap := s₂.heap, slotsUsed := s₂.slotsUsed } : State).setVm s₂.vm).setTop g).pushFrame (.throwing q) := by
      refine e3.trans ?_
      rw [hf₂, State.calling_eq h.top, State.setFrames_setFrames, State.pushFrame, State.frames_setTop _ hr', State.setTop_of_frames _ hr', State.setFrames_setFrames, hr]
      rfl
    have hsame : U.sameButNew ({ U with heap := s₂.heap, slotsUsed := s₂.slotsUsed } : State) L mc ms := by
      refine ⟨?_, q2, q3, q4, q5, q6⟩
      obtain ⟨t, ht, -⟩ := State.frames_cons hr
      show ({ U with heap := s₂.heap, slotsUsed := s₂.slotsUsed } : State) = { U.setFrames U.frames with heap := s₂.heap, slotsUsed := s₂.slotsUsed }
      rw [State.setFrames_self ht]
    subst hg
    refine Or.inr ⟨q, ⟨(({ U with heap := s₂.heap, slotsUsed := s₂.slotsUsed } : State).setVm s₂.vm), Ls ++ L, c0 + mc, s0 + ms⟩,
      ⟨X.admits, X.cas, X.clock, X.frames, X.room, X.hears, X.method, X.code, (X.here.setHeapUsed s₂.heap s₂.slotsUsed).setVm hW'.alike, X.tail, State.WarmedH.trans X.warmed hW', X.limits, X.bytes, X.same.trans (hsame.setVm s.vm)⟩,
      ⟨g, mk, s₂, L, E, ce, rfl, rfl, hx, hce, hcv, hcl, rfl, hL, rfl, rfl⟩, ?_⟩
    show Steps p.tables e below _ (((({ U with heap := s₂.heap, slotsUsed := s₂.slotsUsed } : State).setVm s₂.vm).setTop g).pushFrame (.throwing q))
    rw [← hs₂]
    exact hsteps
end
variable {p : Program} {l : Launch} {e : Env} {R : Room} {s : State} {m : MethodId} {args : Array Value} {below : List Frame} {meth : Method} {c : Code} {T : State} {H : Heap} {locs : List Loc} {cells slots : Nat}
theorem vx_callVX (X : Stand p l e R s m args below meth c T locs cells slots) (hexec : p.tables.exec = Jvm.exec) {own C : String} {index : Nat} {y : MethodName} {bytes : ByteArray} {maxL : Nat} {ret : Option FieldType} {hh : List (Nat × Nat × Nat × Nat)}
    (hown : s.vm.findClass own = some m.cls) (hlink : (Cond.methodLink own index y).before args s = true) (hinst : (Cond.instanceMethod y).before args s = true) (hsel : (Cond.selects C y y).before args s = true)
    (hcode : (Cond.codeWith y bytes maxL ret hh).before args s = true) (hy : y.cls ≠ "java/lang/invoke/MethodHandle" ∧ y.cls ≠ "java/lang/invoke/VarHandle")
    {W9 : Nat} {Pre : Pt → Array Value → Prop} {Post : Pt → Array Value → Option Value → Pt → Prop} {PostX : Pt → Array Value → Addr → Pt → Prop} (hK : vx_Back l R p e below s args y 3 W9 Pre Post PostX)
    {b : Addr} {cellB : Cell} (hcell : T.heap[b]? = some cellB) (hobj : cellB.vm.isStatics = false) (hcls : s.vm.findClass C = some cellB.cls)
    {g : JFrame} (hg : g.method = m) (hsize : g.locals.size = c.maxLocals) {argsL rest : List Value} (hlen : ∀ sig, parseMethodDescriptor y.desc = some sig → argsL.length = sig.parameters.length)
    (hstack : g.stack = argsL.reverse ++ .ref b :: rest) (hW : 2 * g.monitorRoom + (rest.map fun v => v.category).sum ≤ W9) (hdg : decode c.code g.pc = .ok (.invokevirtual index, 3))
    (hpre : ∀ vm₁, s.WarmedH vm₁ → Pre ⟨T.setVm vm₁, locs, cells, slots⟩ (Value.ref b :: argsL).toArray) :
    (∃ (v : Option Value) (vm₁ : Vm) (B : Pt), s.WarmedH vm₁ ∧ Stand p l e R s m args below meth c B.U B.locs B.cells B.slots ∧ Post ⟨T.setVm vm₁, locs, cells, slots⟩ (Value.ref b :: argsL).toArray v B ∧
      ∀ target, Steps p.tables e below (B.U.setTop { g with pc := g.pc + 3, stack := v.toList ++ rest }) target → Steps p.tables e below (T.setTop g) target) ∨
    (∃ (q : Addr) (vm₁ : Vm) (B : Pt), s.WarmedH vm₁ ∧ Stand p l e R s m args below meth c B.U B.locs B.cells B.slots ∧ PostX ⟨T.setVm vm₁, locs, cells, slots⟩ (Value.ref b :: argsL).toArray q B ∧
      Steps p.tables e below (T.setTop g) ((B.U.setTop { g with stack := rest }).pushFrame (.throwing q))) := by
  obtain ⟨mk, methM, hnamed, hmethM, hstM, habM⟩ := Cond.instanceMethod_spec hinst
  obtain ⟨m8, methM', cM, hn8, hmethM', -, -, -, -, -, -, hsigM⟩ := Cond.codeWith_spec hcode
  cases Option.some.inj (hn8.symm.trans hnamed)
  cases hmethM.symm.trans hmethM'
  obtain ⟨c2, r2, m2, q1, q2, q3, q4, kP, hkP, hkPi⟩ := Cond.selects_spec hsel
  cases hcls.symm.trans q1
  cases (State.methodFound?_of_named hnamed hy).symm.trans q2
  cases hnamed.symm.trans q3
  have hselP : selectMethod e.platform s.vm cellB.cls mk = .method mk := by rw [Launch.admits_selectMethod X.admits]; exact q4
  obtain ⟨vm₁, X₁, hstep₁⟩ := X.invokevirtual hexec hown hlink hnamed hmethM hstM hkP hkPi hy (a := b) (cell := cellB) hcell
    (fun z h => by rw [h] at hobj; cases hobj) hselP hmethM habM hkP hkPi (g := g) hg (argsL := argsL) (rest := rest) (hlen _ hsigM) hstack hdg
  rcases hK m meth c ⟨T.setVm vm₁, locs, cells, slots⟩ { g with stack := rest } (.invokevirtual index) mk (Value.ref b :: argsL).toArray X₁ hg hsize hdg hW (X₁.named hnamed) (hpre vm₁ X₁.warmed) with ⟨v, B, X', hpost, hsteps⟩ | ⟨q, B, X', hpost, hsteps⟩
  · exact Or.inl ⟨v, vm₁, B, X₁.warmed, X', hpost, fun target h => hstep₁ _ fun acts => by rw [doInvoke_state]; exact hsteps.trans h⟩
  · exact Or.inr ⟨q, vm₁, B, X₁.warmed, X', hpost, hstep₁ _ fun acts => by rw [doInvoke_state]; exact hsteps⟩
theorem vx_callSX (X : Stand p l e R s m args below meth c T locs cells slots) (hexec : p.tables.exec = Jvm.exec) {own : String} {index : Nat} {y : MethodName} {bytes : ByteArray} {maxL : Nat} {ret : Option FieldType} {hh : List (Nat × Nat × Nat × Nat)}
    (hown : s.vm.findClass own = some m.cls) (hlink : (Cond.methodLink own index y).before args s = true) (hstat : (Cond.static y).before args s = true) (hinit : (Cond.initialized y.cls).before args s = true)
    (hcode : (Cond.codeWith y bytes maxL ret hh).before args s = true) (hy : y.cls ≠ "java/lang/invoke/MethodHandle" ∧ y.cls ≠ "java/lang/invoke/VarHandle")
    {W9 : Nat} {Pre : Pt → Array Value → Prop} {Post : Pt → Array Value → Option Value → Pt → Prop} {PostX : Pt → Array Value → Addr → Pt → Prop} (hK : vx_Back l R p e below s args y 3 W9 Pre Post PostX)
    {g : JFrame} (hg : g.method = m) (hsize : g.locals.size = c.maxLocals) {argsL rest : List Value} (hlen : ∀ sig, parseMethodDescriptor y.desc = some sig → argsL.length = sig.parameters.length)
    (hstack : g.stack = argsL.reverse ++ rest) (hW : 2 * g.monitorRoom + (rest.map fun v => v.category).sum ≤ W9) (hdg : decode c.code g.pc = .ok (.invokestatic index, 3))
    (hpre : ∀ vm₁, s.WarmedH vm₁ → Pre ⟨T.setVm vm₁, locs, cells, slots⟩ argsL.toArray) :
    (∃ (v : Option Value) (vm₁ : Vm) (B : Pt), s.WarmedH vm₁ ∧ Stand p l e R s m args below meth c B.U B.locs B.cells B.slots ∧ Post ⟨T.setVm vm₁, locs, cells, slots⟩ argsL.toArray v B ∧
      ∀ target, Steps p.tables e below (B.U.setTop { g with pc := g.pc + 3, stack := v.toList ++ rest }) target → Steps p.tables e below (T.setTop g) target) ∨
    (∃ (q : Addr) (vm₁ : Vm) (B : Pt), s.WarmedH vm₁ ∧ Stand p l e R s m args below meth c B.U B.locs B.cells B.slots ∧ PostX ⟨T.setVm vm₁, locs, cells, slots⟩ argsL.toArray q B ∧
      Steps p.tables e below (T.setTop g) ((B.U.setTop { g with stack := rest }).pushFrame (.throwing q))) := by
  obtain ⟨mk, methM, cM, hnamed, hmethM, -, -, -, -, -, -, hsigM⟩ := Cond.codeWith_spec hcode
  have hstatic : methM.isStatic = true := Cond.static_spec hnamed hmethM hstat
  obtain ⟨kP, hkP, -⟩ := className_of_methodNamed hnamed
  have hinitP : kP.init = .initialized := Cond.initialized_spec (findClass_of_methodNamed hnamed) hkP hinit
  obtain ⟨vm₁, X₁, hstep₁⟩ := X.invokestatic hexec hown hlink hnamed hmethM hstatic hkP hinitP hy (g := g) hg (argsL := argsL) (rest := rest) (hlen _ hsigM) hstack hdg
  rcases hK m meth c ⟨T.setVm vm₁, locs, cells, slots⟩ { g with stack := rest } (.invokestatic index) mk argsL.toArray X₁ hg hsize hdg hW (X₁.named hnamed) (hpre vm₁ X₁.warmed) with ⟨v, B, X', hpost, hsteps⟩ | ⟨q, B, X', hpost, hsteps⟩
  · exact Or.inl ⟨v, vm₁, B, X₁.warmed, X', hpost, fun target h => hstep₁ _ fun acts => by rw [doInvoke_state]; exact hsteps.trans h⟩
  · exact Or.inr ⟨q, vm₁, B, X₁.warmed, X', hpost, hstep₁ _ fun acts => by rw [doInvoke_state]; exact hsteps⟩
theorem vx_callVW (X : Stand p l e R s m args below meth c T locs cells slots) (hexec : p.tables.exec = Jvm.exec) {own C : String} {index : Nat} {y : MethodName} {bytes : ByteArray} {maxL : Nat} {ret : Option FieldType} {hh : List (Nat × Nat × Nat × Nat)}
    (hown : s.vm.findClass own = some m.cls) (hlink : (Cond.methodLink own index y).before args s = true) (hinst : (Cond.instanceMethod y).before args s = true) (hsel : (Cond.selects C y y).before args s = true)
    (hcode : (Cond.codeWith y bytes maxL ret hh).before args s = true) (hy : y.cls ≠ "java/lang/invoke/MethodHandle" ∧ y.cls ≠ "java/lang/invoke/VarHandle")
    {W9 : Nat} {Pre : Pt → Array Value → Prop} {Post : Pt → Array Value → Option Value → Pt → Prop} (hK : Back l R p e below s args y 3 W9 Pre Post)
    {b : Addr} {cellB : Cell} (hcell : T.heap[b]? = some cellB) (hobj : cellB.vm.isStatics = false) (hcls : s.vm.findClass C = some cellB.cls)
    {g : JFrame} (hg : g.method = m) (hsize : g.locals.size = c.maxLocals) {argsL rest : List Value} (hlen : ∀ sig, parseMethodDescriptor y.desc = some sig → argsL.length = sig.parameters.length)
    (hstack : g.stack = argsL.reverse ++ .ref b :: rest) (hW : 2 * g.monitorRoom + (rest.map fun v => v.category).sum ≤ W9) (hdg : decode c.code g.pc = .ok (.invokevirtual index, 3))
    (hpre : ∀ vm₁, s.WarmedH vm₁ → Pre ⟨T.setVm vm₁, locs, cells, slots⟩ (Value.ref b :: argsL).toArray) :
    ∃ (v : Option Value) (vm₁ : Vm) (B : Pt), s.WarmedH vm₁ ∧ Stand p l e R s m args below meth c B.U B.locs B.cells B.slots ∧ Post ⟨T.setVm vm₁, locs, cells, slots⟩ (Value.ref b :: argsL).toArray v B ∧
      ∀ target, Steps p.tables e below (B.U.setTop { g with pc := g.pc + 3, stack := v.toList ++ rest }) target → Steps p.tables e below (T.setTop g) target := by
  obtain ⟨mk, methM, hnamed, hmethM, hstM, habM⟩ := Cond.instanceMethod_spec hinst
  obtain ⟨m8, methM', cM, hn8, hmethM', -, -, -, -, -, -, hsigM⟩ := Cond.codeWith_spec hcode
  cases Option.some.inj (hn8.symm.trans hnamed)
  cases hmethM.symm.trans hmethM'
  obtain ⟨c2, r2, m2, q1, q2, q3, q4, kP, hkP, hkPi⟩ := Cond.selects_spec hsel
  cases hcls.symm.trans q1
  cases (State.methodFound?_of_named hnamed hy).symm.trans q2
  cases hnamed.symm.trans q3
  have hselP : selectMethod e.platform s.vm cellB.cls mk = .method mk := by rw [Launch.admits_selectMethod X.admits]; exact q4
  obtain ⟨vm₁, X₁, hstep₁⟩ := X.invokevirtual hexec hown hlink hnamed hmethM hstM hkP hkPi hy (a := b) (cell := cellB) hcell
    (fun z h => by rw [h] at hobj; cases hobj) hselP hmethM habM hkP hkPi (g := g) hg (argsL := argsL) (rest := rest) (hlen _ hsigM) hstack hdg
  obtain ⟨v, B, X', hpost, hsteps⟩ := hK m meth c ⟨T.setVm vm₁, locs, cells, slots⟩ { g with stack := rest } (.invokevirtual index) mk (Value.ref b :: argsL).toArray X₁ hg hsize hdg hW (X₁.named hnamed) (hpre vm₁ X₁.warmed)
  exact ⟨v, vm₁, B, X₁.warmed, X', hpost, fun target h => hstep₁ _ fun acts => by rw [doInvoke_state]; exact hsteps.trans h⟩
abbrev vx_CVW (R : Room) (s : State) (args : Array Value) (own C : String) (index : Nat) (y : MethodName) (bytes : ByteArray) (maxL : Nat) (ret : Option FieldType) (hh : List (Nat × Nat × Nat × Nat)) (ws : List Cond) (rm : Room) (mc ms n : Nat) : Prop :=
  (rm.cells = mc ∧ rm.slots = ms ∧ rm.frames + 1 ≤ R.frames ∧ 8 + (maxL + 11) + rm.locals ≤ R.locals ∧ (∀ w ∈ ws, ∀ (a' : Array Value) (U : State), s.WarmedH U.vm → w.before a' U = true) ∧ Cond.codeWith y bytes maxL ret hh ∈ ws) ∧
  (Cond.codeWith y bytes maxL ret hh).before args s = true ∧ (Cond.initialized y.cls).before args s = true ∧ (y.cls ≠ "java/lang/invoke/MethodHandle" ∧ y.cls ≠ "java/lang/invoke/VarHandle") ∧
  (∀ sig, parseMethodDescriptor y.desc = some sig → n = sig.parameters.length) ∧ (Cond.methodLink own index y).before args s = true ∧ (Cond.instanceMethod y).before args s = true ∧ (Cond.selects C y y).before args s = true
theorem vx_cwVW {own C : String} {index maxL mc ms : Nat} {y : MethodName} {bytes : ByteArray} {ret : Option FieldType} {hh : List (Nat × Nat × Nat × Nat)} {Ts ws ws' : List Cond} {rm : Room} (n : Nat) (ht : ∀ w ∈ Ts, w.before args s = true) (hT : GoodIn Ts (wsV own index C y ws)) (hw : ws = Cond.codeWith y bytes maxL ret hh :: ws') (hrc : rm.cells = mc) (hrs : rm.slots = ms)
    (hd : y.cls = C ∧ y.cls ≠ "java/lang/invoke/MethodHandle" ∧ y.cls ≠ "java/lang/invoke/VarHandle" ∧ (parseMethodDescriptor y.desc).map (fun d => d.parameters.length) = some n) (hR : rm.frames + 1 ≤ R.frames ∧ 8 + (maxL + 11) + rm.locals ≤ R.locals) :
    vx_CVW R s args own C index y bytes maxL ret hh ws rm mc ms n := by
  obtain ⟨hC, hd⟩ := hd
  subst hC
  have ok : ∀ w ∈ wsV own index y.cls y ws, w.before args s = true := fun w h => ht w (hT w h).1
  have hG : GoodIn Ts ws := fun w h => hT w (by unfold wsV; exact List.mem_append_right _ h)
  have hc : Cond.codeWith y bytes maxL ret hh ∈ ws := by rw [hw]; exact List.mem_cons_self
  refine ⟨⟨hrc, hrs, hR.1, hR.2, pay_in ht hG, hc⟩, ht _ (hG _ hc).1, ok _ (by simp [wsV]), ⟨hd.1, hd.2.1⟩, fun sig h => ?_, ok _ (by simp [wsV]), ok _ (by simp [wsV]), ok _ (by simp [wsV])⟩
  have h2 := hd.2.2
  rw [h] at h2
  exact (Option.some.inj h2).symm
theorem vx_runVW {y : MethodName} {bytes cc : ByteArray} {maxL nL mc ms n index : Nat} {ret : Option FieldType} {hh : List (Nat × Nat × Nat × Nat)} {ws : List Cond} {rm : Room} {Pc : Array Value → State → Prop} {Qc : Array Value → State → Outcome → State → Prop} {free : Addr → Prop} {Ts : List Cond} {own C : String} {b : Addr} {As rest : List Value} {g : JFrame}
    (S : CallFix p m c cc nL s args Ts own) (hM : Met l y ws rm Pc Qc mc ms free) (cw : vx_CVW R s args own C index y bytes maxL ret hh ws rm mc ms n) (hp : PreV s H C b Pc As)
    (hg : g.method = m) (hn : As.length = n) (hsize : g.locals.size = nL) (hstack : g.stack = As.reverse ++ .ref b :: rest) (hW : 2 * g.monitorRoom + (rest.map fun v => v.category).sum ≤ 8) (hdg : decode cc g.pc = .ok (.invokevirtual index, 3)) (hf : cells + mc ≤ R.cells ∧ slots + ms ≤ R.slots) :
    va_Run p l e R s m args below meth c H locs cells slots mc ms g rest (Qc (Value.ref b :: As).toArray) free := by
  obtain ⟨⟨hrc, hrs, hfr, hlo, hws, hcw⟩, hcode, hini, hy, hlen, hl, hin, hse⟩ := cw
  have hK : Back l R p e below s args y 3 8 (PreOf R mc ms Pc) (PostOf Qc mc ms free) := va_backW (hh := hh) (bytes := bytes) (maxL := maxL) (ret := ret) hM hp.1 hrc hrs hfr hlo hws hcw (fun a' U hW => word_at hW (Or.inl (by first | rfl | simp [Cond.onTables, Cond.keeps, Cond.steady])) hini)
  obtain ⟨hx, hb, hml, ho, -⟩ := S
  obtain ⟨-, ⟨cellB, hcB, hoB, hclB⟩, hPc⟩ := hp
  intro T hT X
  obtain ⟨v, vm₁, ⟨U', l2, c2, s2⟩, hW₁, X', ⟨g', mk, t, L, e1, e2, hq, h1, hL, h2, h3⟩, st⟩ := vx_callVW X hx (C := C) (hh := hh) (bytes := bytes) (maxL := maxL) (ret := ret) ho hl hin hse hcode hy hK (by rw [hT]; exact hcB) hoB hclB hg (hsize.trans hml.symm) (argsL := As) (rest := rest) (fun sig h => hn.trans (hlen sig h)) hstack hW (by rw [hb]; exact hdg)
    (fun vm₁ hW₁ => ⟨hf.1, hf.2, hPc (T.setVm vm₁) hT hW₁⟩)
  dsimp only [Pt.U, Pt.locs, Pt.cells, Pt.slots] at X' e1 e2 h1 h2 h3 st
  subst h1; subst h2; subst h3
  exact ⟨v, (T.setVm vm₁).calling g' mk (Value.ref b :: As).toArray, t, U', L, hT, X', hL, e1, e2, hq, st⟩
section
variable {y : MethodName} {bytes cc : ByteArray} {maxL nL mc ms n index : Nat} {ret : Option FieldType} {ws : List Cond} {rm : Room} {Pc : Array Value → State → Prop} {Qc : Array Value → State → Outcome → State → Prop} {XC : String → State → State → Prop} {free : Addr → Prop} {Ts : List Cond} {own C : String} {b : Addr} {As rest : List Value} {g : JFrame}
theorem vx_runVX {hh : List (Nat × Nat × Nat × Nat)} (S : CallFix p m c cc nL s args Ts own) (hM : vx_Met l y ws rm Pc Qc XC mc ms free) (cw : vx_CVW R s args own C index y bytes maxL ret hh ws rm mc ms n) (hp : PreV s H C b Pc As)
    (hg : g.method = m) (hn : As.length = n) (hsize : g.locals.size = nL) (hstack : g.stack = As.reverse ++ .ref b :: rest) (hW : 2 * g.monitorRoom + (rest.map fun v => v.category).sum ≤ 8) (hdg : decode cc g.pc = .ok (.invokevirtual index, 3)) (hf : cells + mc ≤ R.cells ∧ slots + ms ≤ R.slots) :
    vx_Run p l e R s m args below meth c H locs cells slots mc ms g rest (Qc (Value.ref b :: As).toArray) XC free := by
  obtain ⟨⟨hrc, hrs, hfr, hlo, hws, hcw⟩, hcode, hini, hy, hlen, hl, hin, hse⟩ := cw
  have hK : vx_Back l R p e below s args y 3 8 (PreOf R mc ms Pc) (PostOf Qc mc ms free) (vx_Post XC mc ms free) := vx_backW (hh := hh) (bytes := bytes) (maxL := maxL) (ret := ret) hM hp.1 hrc hrs hfr hlo hws hcw (fun a' U hW => word_at hW (Or.inl (by first | rfl | simp [Cond.onTables, Cond.keeps, Cond.steady])) hini)
  obtain ⟨hx, hb, hml, ho, -⟩ := S
  obtain ⟨-, ⟨cellB, hcB, hoB, hclB⟩, hPc⟩ := hp
  intro T hT X
  rcases vx_callVX X hx (C := C) (hh := hh) (bytes := bytes) (maxL := maxL) (ret := ret) ho hl hin hse hcode hy hK (by rw [hT]; exact hcB) hoB hclB hg (hsize.trans hml.symm) (argsL := As) (rest := rest) (fun sig h => hn.trans (hlen sig h)) hstack hW (by rw [hb]; exact hdg)
    (fun vm₁ hW₁ => ⟨hf.1, hf.2, hPc (T.setVm vm₁) hT hW₁⟩) with ⟨v, vm₁, ⟨U', l2, c2, s2⟩, hW₁, X', ⟨g', mk, t, L, e1, e2, hq, h1, hL, h2, h3⟩, st⟩ | ⟨q, vm₁, ⟨U', l2, c2, s2⟩, hW₁, X', ⟨g', mk, t, L, E, ce, e1, e2, hq, hce, hcv, hcl, h1, hL, h2, h3⟩, st⟩
  · dsimp only [Pt.U, Pt.locs, Pt.cells, Pt.slots] at X' e1 e2 h1 h2 h3 st
    subst h1; subst h2; subst h3
    exact Or.inl ⟨v, (T.setVm vm₁).calling g' mk (Value.ref b :: As).toArray, t, U', L, hT, X', hL, e1, e2, hq, st⟩
  · dsimp only [Pt.U, Pt.locs, Pt.cells, Pt.slots] at X' e1 e2 h1 h2 h3 st hcl
    subst h1; subst h2; subst h3
    exact Or.inr ⟨q, (T.setVm vm₁).calling g' mk (Value.ref b :: As).toArray, t, U', L, E, ce, hT, X', hL, e1, e2, hq, hce, hcv, vx_cls hW₁ hcl, st⟩
theorem vx_runSX {hh : List (Nat × Nat × Nat × Nat)} (S : CallFix p m c cc nL s args Ts own) (hM : vx_Met l y ws rm Pc Qc XC mc ms free) (cw : vx_CSW R s args own index y bytes maxL ret hh ws rm mc ms n) (hp : PreS s H Pc As)
    (hg : g.method = m) (hn : As.length = n) (hsize : g.locals.size = nL) (hstack : g.stack = As.reverse ++ rest) (hW : 2 * g.monitorRoom + (rest.map fun v => v.category).sum ≤ 8) (hdg : decode cc g.pc = .ok (.invokestatic index, 3)) (hf : cells + mc ≤ R.cells ∧ slots + ms ≤ R.slots) :
    vx_Run p l e R s m args below meth c H locs cells slots mc ms g rest (Qc As.toArray) XC free := by
  obtain ⟨⟨hrc, hrs, hfr, hlo, hws, hcw⟩, hcode, hini, hy, hlen, hl, hstt⟩ := cw
  have hK : vx_Back l R p e below s args y 3 8 (PreOf R mc ms Pc) (PostOf Qc mc ms free) (vx_Post XC mc ms free) := vx_backW (hh := hh) (bytes := bytes) (maxL := maxL) (ret := ret) hM hp.1 hrc hrs hfr hlo hws hcw (fun a' U hW => word_at hW (Or.inl (by first | rfl | simp [Cond.onTables, Cond.keeps, Cond.steady])) hini)
  obtain ⟨hx, hb, hml, ho, -⟩ := S
  intro T hT X
  rcases vx_callSX X hx (hh := hh) (bytes := bytes) (maxL := maxL) (ret := ret) ho hl hstt hini hcode hy hK hg (hsize.trans hml.symm) (argsL := As) (rest := rest) (fun sig h => hn.trans (hlen sig h)) hstack hW (by rw [hb]; exact hdg)
    (fun vm₁ hW₁ => ⟨hf.1, hf.2, hp.2 (T.setVm vm₁) hT hW₁⟩) with ⟨v, vm₁, ⟨U', l2, c2, s2⟩, hW₁, X', ⟨g', mk, t, L, e1, e2, hq, h1, hL, h2, h3⟩, st⟩ | ⟨q, vm₁, ⟨U', l2, c2, s2⟩, hW₁, X', ⟨g', mk, t, L, E, ce, e1, e2, hq, hce, hcv, hcl, h1, hL, h2, h3⟩, st⟩
  · dsimp only [Pt.U, Pt.locs, Pt.cells, Pt.slots] at X' e1 e2 h1 h2 h3 st
    subst h1; subst h2; subst h3
    exact Or.inl ⟨v, (T.setVm vm₁).calling g' mk As.toArray, t, U', L, hT, X', hL, e1, e2, hq, st⟩
  · dsimp only [Pt.U, Pt.locs, Pt.cells, Pt.slots] at X' e1 e2 h1 h2 h3 st hcl
    subst h1; subst h2; subst h3
    exact Or.inr ⟨q, (T.setVm vm₁).calling g' mk As.toArray, t, U', L, E, ce, hT, X', hL, e1, e2, hq, hce, hcv, vx_cls hW₁ hcl, st⟩
end
end VXH
theorem vx_ofWH {l : Launch} {y : MethodName} {ws ws' : List Cond} {rm : Room} {Pc : Array Value → State → Prop} {Qc : Array Value → State → Outcome → State → Prop} {XC : String → State → State → Prop} {mc ms : Nat} {free : Addr → Prop} {cc : ByteArray} {maxL : Nat} {ret : Option FieldType} {hh : List (Nat × Nat × Nat × Nat)}
    (hy : plainName y.cls = true) (hw : ws = Cond.codeWith y cc maxL ret hh :: ws')
    (body : ∀ p e s m args below meth c s₁, BodyLoose p l y (headSpec ws rm) cc maxL ret e s m args below meth c s₁ → c.maxLocals = maxL → Pc args s →
      W p l e (headSpec ws rm).room s m args below meth c s.heap [] 0 0 (vx_MQ below Qc XC args s mc ms free) (entryFrame m args maxL)) : vx_Met l y ws rm Pc Qc XC mc ms free := by
  refine MetFree.of_bodyS (code := cc) (maxLocals := maxL) (ret := ret) hy ?_ ?_
  · intro args s m h hn
    obtain ⟨m9, meth, c, hn9, h1, h2, h3, h4, -, h5, h6, -⟩ := Cond.codeWith_spec (atoms_spec (ws := ws) h _ (by rw [hw]; exact List.mem_cons_self))
    cases hn.symm.trans hn9
    exact ⟨meth, c, h1, h2, h3, h4, h5, h6⟩
  · intro p e s m args below meth c s₁ B hml hP _
    have hh0 : s₁.heap = s.heap := by rw [B.state]; rfl
    obtain ⟨t, a1, o, b1, b2, b3⟩ := body p e s m args below meth c s₁ B hml hP s₁ hh0 (Stand.of_body B)
    exact ⟨t, o, a1, b1, b2, b3⟩
/-! ===== END ===== -/

/-! ===== BEGIN printed: names, fields, word lists, decode rows ===== -/
def RX0 : String := "GridHouse$Big"
def TX0 : u_T := fun k => match k with
  | 0 => ("GridHouse$Big", "limb", "[J", true)
  | 1 => ("GridHouse$Big", "size", "I", false)
  | _ => ("GridHouse$Big", "minus", "Z", false)
def tyX0 : Nat → FieldType := fun k => match k with
  | 0 => .array .long
  | 1 => .int
  | _ => .boolean
abbrev wsX00 : List Cond := u_ws RX0 TX0 3
theorem nmX0 : ∀ a, a < 3 → ∀ b, b < 3 → a ≠ b → (TX0 a).2.1 ≠ (TX0 b).2.1 := by decide +kernel
theorem tyX0_ok : ∀ k, k < 3 → parseFieldDescriptor (TX0 k).2.2.1 = some (tyX0 k) := by decide +kernel
abbrev cX0_init : ByteArray := prog_2_method_1_code
def yX0_init : MethodName := ⟨RX0, "<init>", "(I)V"⟩
abbrev cX0_many : ByteArray := prog_2_method_2_code
def yX0_many : MethodName := ⟨RX0, "many", "(II)[LGridHouse$Big;"⟩
abbrev cX0_sign : ByteArray := prog_2_method_3_code
def yX0_sign : MethodName := ⟨RX0, "sign", "()I"⟩
abbrev cX0_isSmall : ByteArray := prog_2_method_4_code
def yX0_isSmall : MethodName := ⟨RX0, "isSmall", "()Z"⟩
abbrev cX0_small : ByteArray := prog_2_method_5_code
def yX0_small : MethodName := ⟨RX0, "small", "()J"⟩
abbrev cX0_put : ByteArray := prog_2_method_6_code
def yX0_put : MethodName := ⟨RX0, "put", "(J)V"⟩
abbrev cX0_copy : ByteArray := prog_2_method_7_code
def yX0_copy : MethodName := ⟨RX0, "copy", "(LGridHouse$Big;)V"⟩
abbrev cX0_negate : ByteArray := prog_2_method_8_code
def yX0_negate : MethodName := ⟨RX0, "negate", "()V"⟩
abbrev cX0_unsign : ByteArray := prog_2_method_9_code
def yX0_unsign : MethodName := ⟨RX0, "unsign", "()V"⟩
abbrev cX0_trim : ByteArray := prog_2_method_10_code
def yX0_trim : MethodName := ⟨RX0, "trim", "()V"⟩
abbrev cX0_compareSize : ByteArray := prog_2_method_11_code
def yX0_compareSize : MethodName := ⟨RX0, "compareSize", "(LGridHouse$Big;)I"⟩
abbrev cX0_compare : ByteArray := prog_2_method_12_code
def yX0_compare : MethodName := ⟨RX0, "compare", "(LGridHouse$Big;)I"⟩
abbrev cX0_more : ByteArray := prog_2_method_13_code
def yX0_more : MethodName := ⟨RX0, "more", "(LGridHouse$Big;)V"⟩
abbrev cX0_less : ByteArray := prog_2_method_14_code
def yX0_less : MethodName := ⟨RX0, "less", "(LGridHouse$Big;)V"⟩
abbrev cX0_grow : ByteArray := prog_2_method_15_code
def yX0_grow : MethodName := ⟨RX0, "grow", "(LGridHouse$Big;)V"⟩
abbrev cX0_shrink : ByteArray := prog_2_method_16_code
def yX0_shrink : MethodName := ⟨RX0, "shrink", "(LGridHouse$Big;LGridHouse$Big;)V"⟩
abbrev cX0_wrap : ByteArray := prog_2_method_17_code
def yX0_wrap : MethodName := ⟨RX0, "wrap", "(LGridHouse$Big;LGridHouse$Big;)V"⟩
abbrev cX0_product : ByteArray := prog_2_method_18_code
def yX0_product : MethodName := ⟨RX0, "product", "(LGridHouse$Big;LGridHouse$Big;)V"⟩
abbrev cX0_scale : ByteArray := prog_2_method_19_code
def yX0_scale : MethodName := ⟨RX0, "scale", "(J)V"⟩
abbrev cX0_moreTimes : ByteArray := prog_2_method_20_code
def yX0_moreTimes : MethodName := ⟨RX0, "moreTimes", "(LGridHouse$Big;J)V"⟩
abbrev cX0_left : ByteArray := prog_2_method_21_code
def yX0_left : MethodName := ⟨RX0, "left", "(J)J"⟩
abbrev cX0_shorten : ByteArray := prog_2_method_22_code
def yX0_shorten : MethodName := ⟨RX0, "shorten", "(J)J"⟩
abbrev cX0_divide : ByteArray := prog_2_method_23_code
def yX0_divide : MethodName := ⟨RX0, "divide", "(LGridHouse$Big;LGridHouse$Big;)V"⟩
abbrev cX0_takeOff : ByteArray := prog_2_method_24_code
def yX0_takeOff : MethodName := ⟨RX0, "takeOff", "(LGridHouse$Big;I)J"⟩
abbrev cX0_addBack : ByteArray := prog_2_method_25_code
def yX0_addBack : MethodName := ⟨RX0, "addBack", "(LGridHouse$Big;I)V"⟩
def RX1 : String := "GridHouse$Dispatch"
def TX1 : u_T := fun k => match k with
  | 0 => ("GridHouse$Dispatch", "shape", "LGridHouse$Shape;", true)
  | 1 => ("GridHouse$Dispatch", "net", "LGridHouse$Net;", true)
  | 2 => ("GridHouse$Dispatch", "solver", "LGridHouse$Solver;", true)
  | 3 => ("GridHouse$Dispatch", "parts", "I", false)
  | 4 => ("GridHouse$Dispatch", "machineOf", "[I", true)
  | 5 => ("GridHouse$Dispatch", "costOf", "[I", true)
  | 6 => ("GridHouse$Dispatch", "startOf", "[I", true)
  | 7 => ("GridHouse$Dispatch", "turned", "[Z", true)
  | 8 => ("GridHouse$Dispatch", "most", "[I", true)
  | 9 => ("GridHouse$Dispatch", "keeper", "[I", true)
  | 10 => ("GridHouse$Dispatch", "rows", "I", false)
  | 11 => ("GridHouse$Dispatch", "columns", "I", false)
  | 12 => ("GridHouse$Dispatch", "rowVariable", "[I", true)
  | 13 => ("GridHouse$Dispatch", "columnVariable", "[I", true)
  | 14 => ("GridHouse$Dispatch", "cell", "[LGridHouse$Big;", true)
  | 15 => ("GridHouse$Dispatch", "common", "LGridHouse$Big;", true)
  | 16 => ("GridHouse$Dispatch", "help", "[LGridHouse$Big;", true)
  | 17 => ("GridHouse$Dispatch", "best", "[LGridHouse$Big;", true)
  | 18 => ("GridHouse$Dispatch", "known", "Z", false)
  | _ => ("GridHouse$Dispatch", "found", "Z", false)
def tyX1 : Nat → FieldType := fun k => match k with
  | 0 => .object "GridHouse$Shape"
  | 1 => .object "GridHouse$Net"
  | 2 => .object "GridHouse$Solver"
  | 3 => .int
  | 4 => .array .int
  | 5 => .array .int
  | 6 => .array .int
  | 7 => .array .boolean
  | 8 => .array .int
  | 9 => .array .int
  | 10 => .int
  | 11 => .int
  | 12 => .array .int
  | 13 => .array .int
  | 14 => .array (.object "GridHouse$Big")
  | 15 => .object "GridHouse$Big"
  | 16 => .array (.object "GridHouse$Big")
  | 17 => .array (.object "GridHouse$Big")
  | 18 => .boolean
  | _ => .boolean
abbrev wsX10 : List Cond := u_ws RX1 TX1 20
theorem nmX1 : ∀ a, a < 20 → ∀ b, b < 20 → a ≠ b → (TX1 a).2.1 ≠ (TX1 b).2.1 := by decide +kernel
theorem tyX1_ok : ∀ k, k < 20 → parseFieldDescriptor (TX1 k).2.2.1 = some (tyX1 k) := by decide +kernel
abbrev cX1_init : ByteArray := prog_3_method_1_code
def yX1_init : MethodName := ⟨RX1, "<init>", "(LGridHouse$Shape;LGridHouse$Solver;)V"⟩
abbrev cX1_solve : ByteArray := prog_3_method_2_code
def yX1_solve : MethodName := ⟨RX1, "solve", "()V"⟩
abbrev cX1_tellMachine : ByteArray := prog_3_method_3_code
def yX1_tellMachine : MethodName := ⟨RX1, "tellMachine", "(ILGridHouse$Hand;)V"⟩
abbrev cX1_tellCost : ByteArray := prog_3_method_4_code
def yX1_tellCost : MethodName := ⟨RX1, "tellCost", "(LGridHouse$Hand;)V"⟩
abbrev cX1_tellPrice : ByteArray := prog_3_method_5_code
def yX1_tellPrice : MethodName := ⟨RX1, "tellPrice", "(LGridHouse$Hand;)V"⟩
abbrev cX1_at : ByteArray := prog_3_method_6_code
def yX1_at : MethodName := ⟨RX1, "at", "(II)LGridHouse$Big;"⟩
abbrev cX1_trial : ByteArray := prog_3_method_7_code
def yX1_trial : MethodName := ⟨RX1, "trial", "(I)Z"⟩
abbrev cX1_cut : ByteArray := prog_3_method_8_code
def yX1_cut : MethodName := ⟨RX1, "cut", "()V"⟩
abbrev cX1_addPart : ByteArray := prog_3_method_9_code
def yX1_addPart : MethodName := ⟨RX1, "addPart", "(III)V"⟩
abbrev cX1_islandOf : ByteArray := prog_3_method_10_code
def yX1_islandOf : MethodName := ⟨RX1, "islandOf", "(I)I"⟩
abbrev cX1_share : ByteArray := prog_3_method_11_code
def yX1_share : MethodName := ⟨RX1, "share", "(I)Z"⟩
abbrev cX1_shareIn : ByteArray := prog_3_method_12_code
def yX1_shareIn : MethodName := ⟨RX1, "shareIn", "(II)Z"⟩
abbrev cX1_setOut : ByteArray := prog_3_method_13_code
def yX1_setOut : MethodName := ⟨RX1, "setOut", "()V"⟩
abbrev cX1_measureLines : ByteArray := prog_3_method_14_code
def yX1_measureLines : MethodName := ⟨RX1, "measureLines", "(I)V"⟩
abbrev cX1_injectStart : ByteArray := prog_3_method_15_code
def yX1_injectStart : MethodName := ⟨RX1, "injectStart", "(II)V"⟩
abbrev cX1_injectColumn : ByteArray := prog_3_method_16_code
def yX1_injectColumn : MethodName := ⟨RX1, "injectColumn", "(II)V"⟩
abbrev cX1_foldLines : ByteArray := prog_3_method_17_code
def yX1_foldLines : MethodName := ⟨RX1, "foldLines", "(IJ)V"⟩
abbrev cX1_fillParts : ByteArray := prog_3_method_18_code
def yX1_fillParts : MethodName := ⟨RX1, "fillParts", "()V"⟩
abbrev cX1_takeFromKeeper : ByteArray := prog_3_method_19_code
def yX1_takeFromKeeper : MethodName := ⟨RX1, "takeFromKeeper", "(III)V"⟩
abbrev cX1_add : ByteArray := prog_3_method_20_code
def yX1_add : MethodName := ⟨RX1, "add", "(IIJ)V"⟩
abbrev cX1_leaving : ByteArray := prog_3_method_21_code
def yX1_leaving : MethodName := ⟨RX1, "leaving", "()I"⟩
abbrev cX1_turn : ByteArray := prog_3_method_22_code
def yX1_turn : MethodName := ⟨RX1, "turn", "(I)V"⟩
abbrev cX1_entering : ByteArray := prog_3_method_23_code
def yX1_entering : MethodName := ⟨RX1, "entering", "(I)I"⟩
abbrev cX1_isAhead : ByteArray := prog_3_method_24_code
def yX1_isAhead : MethodName := ⟨RX1, "isAhead", "(III)Z"⟩
abbrev cX1_pivot : ByteArray := prog_3_method_25_code
def yX1_pivot : MethodName := ⟨RX1, "pivot", "(II)V"⟩
abbrev cX1_update : ByteArray := prog_3_method_26_code
def yX1_update : MethodName := ⟨RX1, "update", "(LGridHouse$Big;LGridHouse$Big;LGridHouse$Big;LGridHouse$Big;)V"⟩
def RX2 : String := "GridHouse$Flow"
def TX2 : u_T := fun k => match k with
  | 0 => ("GridHouse$Flow", "shape", "LGridHouse$Shape;", true)
  | 1 => ("GridHouse$Flow", "net", "LGridHouse$Net;", true)
  | 2 => ("GridHouse$Flow", "solver", "LGridHouse$Solver;", true)
  | 3 => ("GridHouse$Flow", "gap", "[I", true)
  | 4 => ("GridHouse$Flow", "total", "[I", true)
  | 5 => ("GridHouse$Flow", "solvable", "[Z", true)
  | 6 => ("GridHouse$Flow", "stuck", "[Z", true)
  | 7 => ("GridHouse$Flow", "top", "[LGridHouse$Big;", true)
  | 8 => ("GridHouse$Flow", "whole", "LGridHouse$Big;", true)
  | 9 => ("GridHouse$Flow", "one", "LGridHouse$Big;", true)
  | 10 => ("GridHouse$Flow", "other", "LGridHouse$Big;", true)
  | 11 => ("GridHouse$Flow", "solved", "Z", false)
  | 12 => ("GridHouse$Flow", "stuckCount", "I", false)
  | 13 => ("GridHouse$Flow", "lost", "I", false)
  | 14 => ("GridHouse$Flow", "overs", "I", false)
  | 15 => ("GridHouse$Flow", "troubles", "I", false)
  | _ => ("GridHouse$Flow", "troubleOf", "[I", true)
def tyX2 : Nat → FieldType := fun k => match k with
  | 0 => .object "GridHouse$Shape"
  | 1 => .object "GridHouse$Net"
  | 2 => .object "GridHouse$Solver"
  | 3 => .array .int
  | 4 => .array .int
  | 5 => .array .boolean
  | 6 => .array .boolean
  | 7 => .array (.object "GridHouse$Big")
  | 8 => .object "GridHouse$Big"
  | 9 => .object "GridHouse$Big"
  | 10 => .object "GridHouse$Big"
  | 11 => .boolean
  | 12 => .int
  | 13 => .int
  | 14 => .int
  | 15 => .int
  | _ => .array .int
abbrev wsX20 : List Cond := u_ws RX2 TX2 17
theorem nmX2 : ∀ a, a < 17 → ∀ b, b < 17 → a ≠ b → (TX2 a).2.1 ≠ (TX2 b).2.1 := by decide +kernel
theorem tyX2_ok : ∀ k, k < 17 → parseFieldDescriptor (TX2 k).2.2.1 = some (tyX2 k) := by decide +kernel
abbrev cX2_init : ByteArray := prog_4_method_1_code
def yX2_init : MethodName := ⟨RX2, "<init>", "(LGridHouse$Net;LGridHouse$Solver;)V"⟩
abbrev cX2_look : ByteArray := prog_4_method_2_code
def yX2_look : MethodName := ⟨RX2, "look", "()V"⟩
abbrev cX2_addLoads : ByteArray := prog_4_method_3_code
def yX2_addLoads : MethodName := ⟨RX2, "addLoads", "()V"⟩
abbrev cX2_addMachines : ByteArray := prog_4_method_4_code
def yX2_addMachines : MethodName := ⟨RX2, "addMachines", "()V"⟩
abbrev cX2_given : ByteArray := prog_4_method_5_code
def yX2_given : MethodName := ⟨RX2, "given", "(I)I"⟩
abbrev cX2_solve : ByteArray := prog_4_method_6_code
def yX2_solve : MethodName := ⟨RX2, "solve", "()V"⟩
abbrev cX2_inject : ByteArray := prog_4_method_7_code
def yX2_inject : MethodName := ⟨RX2, "inject", "(I)V"⟩
abbrev cX2_tellAngle : ByteArray := prog_4_method_8_code
def yX2_tellAngle : MethodName := ⟨RX2, "tellAngle", "(ILGridHouse$Hand;)V"⟩
abbrev cX2_tellGiven : ByteArray := prog_4_method_9_code
def yX2_tellGiven : MethodName := ⟨RX2, "tellGiven", "(ILGridHouse$Hand;)V"⟩
abbrev cX2_tellCarried : ByteArray := prog_4_method_10_code
def yX2_tellCarried : MethodName := ⟨RX2, "tellCarried", "(ILGridHouse$Hand;)V"⟩
abbrev cX2_carried : ByteArray := prog_4_method_11_code
def yX2_carried : MethodName := ⟨RX2, "carried", "(ILGridHouse$Big;LGridHouse$Big;)V"⟩
abbrev cX2_countOver : ByteArray := prog_4_method_12_code
def yX2_countOver : MethodName := ⟨RX2, "countOver", "()V"⟩
abbrev cX2_tryLines : ByteArray := prog_4_method_13_code
def yX2_tryLines : MethodName := ⟨RX2, "tryLines", "(LGridHouse$Flow;)V"⟩
abbrev cX2_note : ByteArray := prog_4_method_14_code
def yX2_note : MethodName := ⟨RX2, "note", "(ILGridHouse$Flow;)V"⟩
def RX3 : String := "GridHouse$Hand"
def TX3 : u_T := fun k => match k with
  | 0 => ("GridHouse$Hand", "above", "LGridHouse$Big;", true)
  | 1 => ("GridHouse$Hand", "below", "LGridHouse$Big;", true)
  | 2 => ("GridHouse$Hand", "great", "LGridHouse$Big;", true)
  | 3 => ("GridHouse$Hand", "small", "LGridHouse$Big;", true)
  | 4 => ("GridHouse$Hand", "often", "LGridHouse$Big;", true)
  | 5 => ("GridHouse$Hand", "figures", "[[I", true)
  | 6 => ("GridHouse$Hand", "lengths", "[I", true)
  | _ => ("GridHouse$Hand", "lowest", "Z", false)
def tyX3 : Nat → FieldType := fun k => match k with
  | 0 => .object "GridHouse$Big"
  | 1 => .object "GridHouse$Big"
  | 2 => .object "GridHouse$Big"
  | 3 => .object "GridHouse$Big"
  | 4 => .object "GridHouse$Big"
  | 5 => .array (.array .int)
  | 6 => .array .int
  | _ => .boolean
abbrev wsX30 : List Cond := u_ws RX3 TX3 8
theorem nmX3 : ∀ a, a < 8 → ∀ b, b < 8 → a ≠ b → (TX3 a).2.1 ≠ (TX3 b).2.1 := by decide +kernel
theorem tyX3_ok : ∀ k, k < 8 → parseFieldDescriptor (TX3 k).2.2.1 = some (tyX3 k) := by decide +kernel
abbrev cX3_init : ByteArray := prog_5_method_1_code
def yX3_init : MethodName := ⟨RX3, "<init>", "()V"⟩
abbrev cX3_made : ByteArray := prog_5_method_2_code
def yX3_made : MethodName := ⟨RX3, "made", "()I"⟩
abbrev cX3_length : ByteArray := prog_5_method_3_code
def yX3_length : MethodName := ⟨RX3, "length", "(I)I"⟩
abbrev cX3_digit : ByteArray := prog_5_method_4_code
def yX3_digit : MethodName := ⟨RX3, "digit", "(II)I"⟩
abbrev cX3_bringLow : ByteArray := prog_5_method_5_code
def yX3_bringLow : MethodName := ⟨RX3, "bringLow", "()V"⟩
abbrev cX3_common : ByteArray := prog_5_method_6_code
def yX3_common : MethodName := ⟨RX3, "common", "()LGridHouse$Big;"⟩
abbrev cX3_putCommon : ByteArray := prog_5_method_7_code
def yX3_putCommon : MethodName := ⟨RX3, "putCommon", "(LGridHouse$Big;JJ)V"⟩
abbrev cX3_divide : ByteArray := prog_5_method_8_code
def yX3_divide : MethodName := ⟨RX3, "divide", "(LGridHouse$Big;LGridHouse$Big;)V"⟩
abbrev cX3_write : ByteArray := prog_5_method_9_code
def yX3_write : MethodName := ⟨RX3, "write", "(ILGridHouse$Big;)V"⟩
def RX4 : String := "GridHouse$Meters"
def TX4 : u_T := fun k => match k with
  | 0 => ("GridHouse$Meters", "shape", "LGridHouse$Shape;", true)
  | 1 => ("GridHouse$Meters", "net", "LGridHouse$Net;", true)
  | 2 => ("GridHouse$Meters", "solver", "LGridHouse$Solver;", true)
  | 3 => ("GridHouse$Meters", "kind", "[I", true)
  | 4 => ("GridHouse$Meters", "place", "[I", true)
  | 5 => ("GridHouse$Meters", "value", "[I", true)
  | 6 => ("GridHouse$Meters", "weight", "[I", true)
  | 7 => ("GridHouse$Meters", "struck", "[Z", true)
  | 8 => ("GridHouse$Meters", "count", "I", false)
  | 9 => ("GridHouse$Meters", "known", "Z", false)
  | 10 => ("GridHouse$Meters", "seen", "[Z", true)
  | 11 => ("GridHouse$Meters", "whole", "[Z", true)
  | 12 => ("GridHouse$Meters", "top", "[LGridHouse$Big;", true)
  | 13 => ("GridHouse$Meters", "rests", "[LGridHouse$Big;", true)
  | 14 => ("GridHouse$Meters", "spreads", "[LGridHouse$Big;", true)
  | 15 => ("GridHouse$Meters", "common", "LGridHouse$Big;", true)
  | 16 => ("GridHouse$Meters", "help", "[LGridHouse$Big;", true)
  | 17 => ("GridHouse$Meters", "shows", "[[J", true)
  | _ => ("GridHouse$Meters", "ranks", "[I", true)
def tyX4 : Nat → FieldType := fun k => match k with
  | 0 => .object "GridHouse$Shape"
  | 1 => .object "GridHouse$Net"
  | 2 => .object "GridHouse$Solver"
  | 3 => .array .int
  | 4 => .array .int
  | 5 => .array .int
  | 6 => .array .int
  | 7 => .array .boolean
  | 8 => .int
  | 9 => .boolean
  | 10 => .array .boolean
  | 11 => .array .boolean
  | 12 => .array (.object "GridHouse$Big")
  | 13 => .array (.object "GridHouse$Big")
  | 14 => .array (.object "GridHouse$Big")
  | 15 => .object "GridHouse$Big"
  | 16 => .array (.object "GridHouse$Big")
  | 17 => .array (.array .long)
  | _ => .array .int
abbrev wsX40 : List Cond := u_ws RX4 TX4 19
theorem nmX4 : ∀ a, a < 19 → ∀ b, b < 19 → a ≠ b → (TX4 a).2.1 ≠ (TX4 b).2.1 := by decide +kernel
theorem tyX4_ok : ∀ k, k < 19 → parseFieldDescriptor (TX4 k).2.2.1 = some (tyX4 k) := by decide +kernel
abbrev cX4_init : ByteArray := prog_6_method_1_code
def yX4_init : MethodName := ⟨RX4, "<init>", "(LGridHouse$Shape;LGridHouse$Solver;)V"⟩
abbrev cX4_clear : ByteArray := prog_6_method_2_code
def yX4_clear : MethodName := ⟨RX4, "clear", "()V"⟩
abbrev cX4_told : ByteArray := prog_6_method_3_code
def yX4_told : MethodName := ⟨RX4, "told", "(IIII)I"⟩
abbrev cX4_strikes : ByteArray := prog_6_method_4_code
def yX4_strikes : MethodName := ⟨RX4, "strikes", "(IZ)Z"⟩
abbrev cX4_islandOf : ByteArray := prog_6_method_5_code
def yX4_islandOf : MethodName := ⟨RX4, "islandOf", "(I)I"⟩
abbrev cX4_isWhole : ByteArray := prog_6_method_6_code
def yX4_isWhole : MethodName := ⟨RX4, "isWhole", "(I)Z"⟩
abbrev cX4_solve : ByteArray := prog_6_method_7_code
def yX4_solve : MethodName := ⟨RX4, "solve", "()V"⟩
abbrev cX4_lay : ByteArray := prog_6_method_8_code
def yX4_lay : MethodName := ⟨RX4, "lay", "(I[J)V"⟩
abbrev cX4_layLine : ByteArray := prog_6_method_9_code
def yX4_layLine : MethodName := ⟨RX4, "layLine", "(II[J)V"⟩
abbrev cX4_layAngle : ByteArray := prog_6_method_10_code
def yX4_layAngle : MethodName := ⟨RX4, "layAngle", "(IJ[J)V"⟩
abbrev cX4_markSeen : ByteArray := prog_6_method_11_code
def yX4_markSeen : MethodName := ⟨RX4, "markSeen", "()V"⟩
abbrev cX4_rankByPrime : ByteArray := prog_6_method_12_code
def yX4_rankByPrime : MethodName := ⟨RX4, "rankByPrime", "(I)I"⟩
abbrev cX4_isFixed : ByteArray := prog_6_method_13_code
def yX4_isFixed : MethodName := ⟨RX4, "isFixed", "(II)Z"⟩
abbrev cX4_markWhole : ByteArray := prog_6_method_14_code
def yX4_markWhole : MethodName := ⟨RX4, "markWhole", "()V"⟩
abbrev cX4_weigh : ByteArray := prog_6_method_15_code
def yX4_weigh : MethodName := ⟨RX4, "weigh", "()V"⟩
abbrev cX4_clearTops : ByteArray := prog_6_method_16_code
def yX4_clearTops : MethodName := ⟨RX4, "clearTops", "([LGridHouse$Big;)V"⟩
abbrev cX4_heaviest : ByteArray := prog_6_method_17_code
def yX4_heaviest : MethodName := ⟨RX4, "heaviest", "()I"⟩
abbrev cX4_fill : ByteArray := prog_6_method_18_code
def yX4_fill : MethodName := ⟨RX4, "fill", "(I)J"⟩
abbrev cX4_addMeter : ByteArray := prog_6_method_19_code
def yX4_addMeter : MethodName := ⟨RX4, "addMeter", "(II)V"⟩
abbrev cX4_foldMeters : ByteArray := prog_6_method_20_code
def yX4_foldMeters : MethodName := ⟨RX4, "foldMeters", "(IJ)V"⟩
abbrev cX4_dot : ByteArray := prog_6_method_21_code
def yX4_dot : MethodName := ⟨RX4, "dot", "(III)J"⟩
abbrev cX4_tellAngle : ByteArray := prog_6_method_22_code
def yX4_tellAngle : MethodName := ⟨RX4, "tellAngle", "(ILGridHouse$Hand;)V"⟩
abbrev cX4_tellRest : ByteArray := prog_6_method_23_code
def yX4_tellRest : MethodName := ⟨RX4, "tellRest", "(IILGridHouse$Hand;)V"⟩
abbrev cX4_greatest : ByteArray := prog_6_method_24_code
def yX4_greatest : MethodName := ⟨RX4, "greatest", "()I"⟩
abbrev cX4_isWorse : ByteArray := prog_6_method_25_code
def yX4_isWorse : MethodName := ⟨RX4, "isWorse", "(II)Z"⟩
abbrev cX4_weighed : ByteArray := prog_6_method_26_code
def yX4_weighed : MethodName := ⟨RX4, "weighed", "(IILGridHouse$Big;)V"⟩
def RX5 : String := "GridHouse$Net"
def TX5 : u_T := fun k => match k with
  | 0 => ("GridHouse$Net", "count", "[I", true)
  | 1 => ("GridHouse$Net", "value", "[[I", true)
  | 2 => ("GridHouse$Net", "names", "[[J", true)
  | 3 => ("GridHouse$Net", "shortKind", "I", false)
  | 4 => ("GridHouse$Net", "shortBar", "I", false)
  | 5 => ("GridHouse$Net", "shortLine", "I", false)
  | 6 => ("GridHouse$Net", "shortPart", "I", false)
  | _ => ("GridHouse$Net", "shortZ", "I", false)
def tyX5 : Nat → FieldType := fun k => match k with
  | 0 => .array .int
  | 1 => .array (.array .int)
  | 2 => .array (.array .long)
  | 3 => .int
  | 4 => .int
  | 5 => .int
  | 6 => .int
  | _ => .int
abbrev wsX50 : List Cond := u_ws RX5 TX5 8
theorem nmX5 : ∀ a, a < 8 → ∀ b, b < 8 → a ≠ b → (TX5 a).2.1 ≠ (TX5 b).2.1 := by decide +kernel
theorem tyX5_ok : ∀ k, k < 8 → parseFieldDescriptor (TX5 k).2.2.1 = some (tyX5 k) := by decide +kernel
abbrev cX5_init : ByteArray := prog_7_method_1_code
def yX5_init : MethodName := ⟨RX5, "<init>", "()V"⟩
abbrev cX5_has : ByteArray := prog_7_method_2_code
def yX5_has : MethodName := ⟨RX5, "has", "(II)Z"⟩
abbrev cX5_at : ByteArray := prog_7_method_3_code
def yX5_at : MethodName := ⟨RX5, "at", "(III)I"⟩
abbrev cX5_put : ByteArray := prog_7_method_4_code
def yX5_put : MethodName := ⟨RX5, "put", "(IIII)V"⟩
abbrev cX5_is : ByteArray := prog_7_method_5_code
def yX5_is : MethodName := ⟨RX5, "is", "(III)Z"⟩
abbrev cX5_hasShort : ByteArray := prog_7_method_6_code
def yX5_hasShort : MethodName := ⟨RX5, "hasShort", "()Z"⟩
abbrev cX5_putShort : ByteArray := prog_7_method_7_code
def yX5_putShort : MethodName := ⟨RX5, "putShort", "(IIIII)V"⟩
abbrev cX5_copyValues : ByteArray := prog_7_method_8_code
def yX5_copyValues : MethodName := ⟨RX5, "copyValues", "(LGridHouse$Net;)V"⟩
abbrev cX5_copy : ByteArray := prog_7_method_9_code
def yX5_copy : MethodName := ⟨RX5, "copy", "(LGridHouse$Net;)V"⟩
abbrev cX5_allows : ByteArray := prog_7_method_10_code
def yX5_allows : MethodName := ⟨RX5, "allows", "(IIII)Z"⟩
abbrev cX5_isWithin : ByteArray := prog_7_method_11_code
def yX5_isWithin : MethodName := ⟨RX5, "isWithin", "(III)Z"⟩
abbrev cX5_agrees : ByteArray := prog_7_method_12_code
def yX5_agrees : MethodName := ⟨RX5, "agrees", "(III)Z"⟩
abbrev cX5_named : ByteArray := prog_7_method_13_code
def yX5_named : MethodName := ⟨RX5, "named", "(J)I"⟩
abbrev cX5_named_ : ByteArray := prog_7_method_14_code
def yX5_named_ : MethodName := ⟨RX5, "named", "(LGridHouse$Tape;I)I"⟩
abbrev cX5_read : ByteArray := prog_7_method_15_code
def yX5_read : MethodName := ⟨RX5, "read", "(LGridHouse$Tape;)I"⟩
abbrev cX5_readObject : ByteArray := prog_7_method_16_code
def yX5_readObject : MethodName := ⟨RX5, "readObject", "(LGridHouse$Tape;)Z"⟩
abbrev cX5_blank : ByteArray := prog_7_method_17_code
def yX5_blank : MethodName := ⟨RX5, "blank", "(II)V"⟩
abbrev cX5_readEnds : ByteArray := prog_7_method_18_code
def yX5_readEnds : MethodName := ⟨RX5, "readEnds", "(LGridHouse$Tape;II)Z"⟩
abbrev cX5_readState : ByteArray := prog_7_method_19_code
def yX5_readState : MethodName := ⟨RX5, "readState", "(LGridHouse$Tape;I)Z"⟩
abbrev cX5_readNumbers : ByteArray := prog_7_method_20_code
def yX5_readNumbers : MethodName := ⟨RX5, "readNumbers", "(LGridHouse$Tape;II)Z"⟩
def RX6 : String := "GridHouse$Relays"
def TX6 : u_T := fun k => match k with
  | 0 => ("GridHouse$Relays", "line", "[I", true)
  | 1 => ("GridHouse$Relays", "end", "[I", true)
  | 2 => ("GridHouse$Relays", "opens", "[I", true)
  | 3 => ("GridHouse$Relays", "impedance", "[Z", true)
  | 4 => ("GridHouse$Relays", "rowCount", "[I", true)
  | 5 => ("GridHouse$Relays", "setting", "[I", true)
  | 6 => ("GridHouse$Relays", "delay", "[I", true)
  | 7 => ("GridHouse$Relays", "count", "I", false)
  | 8 => ("GridHouse$Relays", "failing", "[Z", true)
  | 9 => ("GridHouse$Relays", "later", "I", false)
  | 10 => ("GridHouse$Relays", "running", "Z", false)
  | 11 => ("GridHouse$Relays", "time", "I", false)
  | 12 => ("GridHouse$Relays", "net", "LGridHouse$Net;", true)
  | 13 => ("GridHouse$Relays", "shorts", "LGridHouse$Shorts;", true)
  | 14 => ("GridHouse$Relays", "tripAt", "[J", true)
  | 15 => ("GridHouse$Relays", "openAt", "[J", true)
  | 16 => ("GridHouse$Relays", "backupAt", "[J", true)
  | 17 => ("GridHouse$Relays", "hasOrder", "[Z", true)
  | 18 => ("GridHouse$Relays", "opened", "[[J", true)
  | _ => ("GridHouse$Relays", "openedCount", "I", false)
def tyX6 : Nat → FieldType := fun k => match k with
  | 0 => .array .int
  | 1 => .array .int
  | 2 => .array .int
  | 3 => .array .boolean
  | 4 => .array .int
  | 5 => .array .int
  | 6 => .array .int
  | 7 => .int
  | 8 => .array .boolean
  | 9 => .int
  | 10 => .boolean
  | 11 => .int
  | 12 => .object "GridHouse$Net"
  | 13 => .object "GridHouse$Shorts"
  | 14 => .array .long
  | 15 => .array .long
  | 16 => .array .long
  | 17 => .array .boolean
  | 18 => .array (.array .long)
  | _ => .int
abbrev wsX60 : List Cond := u_ws RX6 TX6 20
theorem nmX6 : ∀ a, a < 20 → ∀ b, b < 20 → a ≠ b → (TX6 a).2.1 ≠ (TX6 b).2.1 := by decide +kernel
theorem tyX6_ok : ∀ k, k < 20 → parseFieldDescriptor (TX6 k).2.2.1 = some (tyX6 k) := by decide +kernel
abbrev cX6_init : ByteArray := prog_8_method_1_code
def yX6_init : MethodName := ⟨RX6, "<init>", "(LGridHouse$Solver;)V"⟩
abbrev cX6_clear : ByteArray := prog_8_method_2_code
def yX6_clear : MethodName := ⟨RX6, "clear", "()V"⟩
abbrev cX6_told : ByteArray := prog_8_method_3_code
def yX6_told : MethodName := ⟨RX6, "told", "(IIII)I"⟩
abbrev cX6_rowTold : ByteArray := prog_8_method_4_code
def yX6_rowTold : MethodName := ⟨RX6, "rowTold", "(III)I"⟩
abbrev cX6_isMet : ByteArray := prog_8_method_5_code
def yX6_isMet : MethodName := ⟨RX6, "isMet", "(LGridHouse$Shorts;II)Z"⟩
abbrev cX6_start : ByteArray := prog_8_method_6_code
def yX6_start : MethodName := ⟨RX6, "start", "(LGridHouse$Net;)I"⟩
abbrev cX6_look : ByteArray := prog_8_method_7_code
def yX6_look : MethodName := ⟨RX6, "look", "(J)I"⟩
abbrev cX6_note : ByteArray := prog_8_method_8_code
def yX6_note : MethodName := ⟨RX6, "note", "(IZJ)V"⟩
abbrev cX6_advance : ByteArray := prog_8_method_9_code
def yX6_advance : MethodName := ⟨RX6, "advance", "(I)I"⟩
abbrev cX6_nextTime : ByteArray := prog_8_method_10_code
def yX6_nextTime : MethodName := ⟨RX6, "nextTime", "()J"⟩
abbrev cX6_openAll : ByteArray := prog_8_method_11_code
def yX6_openAll : MethodName := ⟨RX6, "openAll", "(J)I"⟩
abbrev cX6_backUpAll : ByteArray := prog_8_method_12_code
def yX6_backUpAll : MethodName := ⟨RX6, "backUpAll", "(J)I"⟩
abbrev cX6_backUp : ByteArray := prog_8_method_13_code
def yX6_backUp : MethodName := ⟨RX6, "backUp", "(IJ)V"⟩
abbrev cX6_nodeOf : ByteArray := prog_8_method_14_code
def yX6_nodeOf : MethodName := ⟨RX6, "nodeOf", "(II)I"⟩
abbrev cX6_tripAll : ByteArray := prog_8_method_15_code
def yX6_tripAll : MethodName := ⟨RX6, "tripAll", "(J)I"⟩
abbrev cX6_command : ByteArray := prog_8_method_16_code
def yX6_command : MethodName := ⟨RX6, "command", "(IJ)Z"⟩
abbrev cX6_openedAs : ByteArray := prog_8_method_17_code
def yX6_openedAs : MethodName := ⟨RX6, "openedAs", "(II)I"⟩
def RX7 : String := "GridHouse$Rules"
def TX7 : u_T := fun k => match k with
  | 0 => ("GridHouse$Rules", "stages", "[LGridHouse$Flow;", true)
  | 1 => ("GridHouse$Rules", "code", "[I", false)
  | 2 => ("GridHouse$Rules", "draft", "[I", false)
  | 3 => ("GridHouse$Rules", "drafted", "I", false)
  | 4 => ("GridHouse$Rules", "waiting", "[I", true)
  | 5 => ("GridHouse$Rules", "waitCount", "I", false)
  | 6 => ("GridHouse$Rules", "count", "I", false)
  | 7 => ("GridHouse$Rules", "steps", "[I", false)
  | 8 => ("GridHouse$Rules", "draftSteps", "[I", false)
  | 9 => ("GridHouse$Rules", "stepCount", "I", false)
  | 10 => ("GridHouse$Rules", "done", "I", false)
  | 11 => ("GridHouse$Rules", "stopped", "I", false)
  | 12 => ("GridHouse$Rules", "stoppedBy", "I", false)
  | 13 => ("GridHouse$Rules", "tried", "[I", true)
  | 14 => ("GridHouse$Rules", "triedCount", "I", false)
  | 15 => ("GridHouse$Rules", "choice", "[I", true)
  | 16 => ("GridHouse$Rules", "oversBySet", "[I", true)
  | 17 => ("GridHouse$Rules", "leastLost", "I", false)
  | 18 => ("GridHouse$Rules", "found", "[I", true)
  | _ => ("GridHouse$Rules", "foundCount", "I", false)
def tyX7 : Nat → FieldType := fun k => match k with
  | 0 => .array (.object "GridHouse$Flow")
  | 1 => .array .int
  | 2 => .array .int
  | 3 => .int
  | 4 => .array .int
  | 5 => .int
  | 6 => .int
  | 7 => .array .int
  | 8 => .array .int
  | 9 => .int
  | 10 => .int
  | 11 => .int
  | 12 => .int
  | 13 => .array .int
  | 14 => .int
  | 15 => .array .int
  | 16 => .array .int
  | 17 => .int
  | 18 => .array .int
  | _ => .int
abbrev wsX70 : List Cond := u_ws RX7 TX7 20
theorem nmX7 : ∀ a, a < 20 → ∀ b, b < 20 → a ≠ b → (TX7 a).2.1 ≠ (TX7 b).2.1 := by decide +kernel
theorem tyX7_ok : ∀ k, k < 20 → parseFieldDescriptor (TX7 k).2.2.1 = some (tyX7 k) := by decide +kernel
abbrev cX7_init : ByteArray := prog_9_method_1_code
def yX7_init : MethodName := ⟨RX7, "<init>", "([LGridHouse$Flow;)V"⟩
abbrev cX7_clear : ByteArray := prog_9_method_2_code
def yX7_clear : MethodName := ⟨RX7, "clear", "()V"⟩
abbrev cX7_readRules : ByteArray := prog_9_method_3_code
def yX7_readRules : MethodName := ⟨RX7, "readRules", "(LGridHouse$Tape;LGridHouse$Net;)I"⟩
abbrev cX7_actOf : ByteArray := prog_9_method_4_code
def yX7_actOf : MethodName := ⟨RX7, "actOf", "(I)I"⟩
abbrev cX7_readRule : ByteArray := prog_9_method_5_code
def yX7_readRule : MethodName := ⟨RX7, "readRule", "(LGridHouse$Tape;LGridHouse$Net;)Z"⟩
abbrev cX7_put : ByteArray := prog_9_method_6_code
def yX7_put : MethodName := ⟨RX7, "put", "(I)V"⟩
abbrev cX7_readCondition : ByteArray := prog_9_method_7_code
def yX7_readCondition : MethodName := ⟨RX7, "readCondition", "(LGridHouse$Tape;LGridHouse$Net;I)Z"⟩
abbrev cX7_closeBrackets : ByteArray := prog_9_method_8_code
def yX7_closeBrackets : MethodName := ⟨RX7, "closeBrackets", "(LGridHouse$Tape;I)I"⟩
abbrev cX7_push : ByteArray := prog_9_method_9_code
def yX7_push : MethodName := ⟨RX7, "push", "(I)V"⟩
abbrev cX7_release : ByteArray := prog_9_method_10_code
def yX7_release : MethodName := ⟨RX7, "release", "(I)V"⟩
abbrev cX7_readAsked : ByteArray := prog_9_method_11_code
def yX7_readAsked : MethodName := ⟨RX7, "readAsked", "(LGridHouse$Tape;)I"⟩
abbrev cX7_askedOf : ByteArray := prog_9_method_12_code
def yX7_askedOf : MethodName := ⟨RX7, "askedOf", "(I)I"⟩
abbrev cX7_readBound : ByteArray := prog_9_method_13_code
def yX7_readBound : MethodName := ⟨RX7, "readBound", "(LGridHouse$Tape;)Z"⟩
abbrev cX7_readObjects : ByteArray := prog_9_method_14_code
def yX7_readObjects : MethodName := ⟨RX7, "readObjects", "(LGridHouse$Tape;LGridHouse$Net;II)Z"⟩
abbrev cX7_objectOf : ByteArray := prog_9_method_15_code
def yX7_objectOf : MethodName := ⟨RX7, "objectOf", "(LGridHouse$Tape;LGridHouse$Net;II)I"⟩
abbrev cX7_readOrder : ByteArray := prog_9_method_16_code
def yX7_readOrder : MethodName := ⟨RX7, "readOrder", "(LGridHouse$Tape;LGridHouse$Net;)I"⟩
abbrev cX7_follow : ByteArray := prog_9_method_17_code
def yX7_follow : MethodName := ⟨RX7, "follow", "(LGridHouse$Net;)LGridHouse$Net;"⟩
abbrev cX7_firstAgainst : ByteArray := prog_9_method_18_code
def yX7_firstAgainst : MethodName := ⟨RX7, "firstAgainst", "(IILGridHouse$Flow;LGridHouse$Flow;)I"⟩
abbrev cX7_holds : ByteArray := prog_9_method_19_code
def yX7_holds : MethodName := ⟨RX7, "holds", "(IIILGridHouse$Flow;LGridHouse$Flow;)Z"⟩
abbrev cX7_isSo : ByteArray := prog_9_method_20_code
def yX7_isSo : MethodName := ⟨RX7, "isSo", "(IIILGridHouse$Flow;)Z"⟩
abbrev cX7_meant : ByteArray := prog_9_method_21_code
def yX7_meant : MethodName := ⟨RX7, "meant", "(IILGridHouse$Net;)I"⟩
abbrev cX7_setOut : ByteArray := prog_9_method_22_code
def yX7_setOut : MethodName := ⟨RX7, "setOut", "(LGridHouse$Net;)V"⟩
abbrev cX7_bringBack : ByteArray := prog_9_method_23_code
def yX7_bringBack : MethodName := ⟨RX7, "bringBack", "(I)I"⟩
abbrev cX7_isFree : ByteArray := prog_9_method_24_code
def yX7_isFree : MethodName := ⟨RX7, "isFree", "(III)Z"⟩
abbrev cX7_weigh : ByteArray := prog_9_method_25_code
def yX7_weigh : MethodName := ⟨RX7, "weigh", "(II)V"⟩
def RX8 : String := "GridHouse$Shape"
def TX8 : u_T := fun k => match k with
  | 0 => ("GridHouse$Shape", "net", "LGridHouse$Net;", true)
  | 1 => ("GridHouse$Shape", "node", "[I", true)
  | 2 => ("GridHouse$Shape", "island", "[I", true)
  | 3 => ("GridHouse$Shape", "row", "[I", true)
  | 4 => ("GridHouse$Shape", "live", "[Z", true)
  | 5 => ("GridHouse$Shape", "ends", "[[I", true)
  | 6 => ("GridHouse$Shape", "joins", "[Z", true)
  | 7 => ("GridHouse$Shape", "spot", "[I", true)
  | 8 => ("GridHouse$Shape", "on", "[Z", true)
  | 9 => ("GridHouse$Shape", "nodes", "I", false)
  | 10 => ("GridHouse$Shape", "islands", "I", false)
  | _ => ("GridHouse$Shape", "lives", "I", false)
def tyX8 : Nat → FieldType := fun k => match k with
  | 0 => .object "GridHouse$Net"
  | 1 => .array .int
  | 2 => .array .int
  | 3 => .array .int
  | 4 => .array .boolean
  | 5 => .array (.array .int)
  | 6 => .array .boolean
  | 7 => .array .int
  | 8 => .array .boolean
  | 9 => .int
  | 10 => .int
  | _ => .int
abbrev wsX80 : List Cond := u_ws RX8 TX8 12
theorem nmX8 : ∀ a, a < 12 → ∀ b, b < 12 → a ≠ b → (TX8 a).2.1 ≠ (TX8 b).2.1 := by decide +kernel
theorem tyX8_ok : ∀ k, k < 12 → parseFieldDescriptor (TX8 k).2.2.1 = some (tyX8 k) := by decide +kernel
abbrev cX8_init : ByteArray := prog_10_method_1_code
def yX8_init : MethodName := ⟨RX8, "<init>", "(LGridHouse$Net;)V"⟩
abbrev cX8_look : ByteArray := prog_10_method_2_code
def yX8_look : MethodName := ⟨RX8, "look", "(Z)V"⟩
abbrev cX8_join : ByteArray := prog_10_method_3_code
def yX8_join : MethodName := ⟨RX8, "join", "([III)V"⟩
abbrev cX8_tally : ByteArray := prog_10_method_4_code
def yX8_tally : MethodName := ⟨RX8, "tally", "()V"⟩
abbrev cX8_islandOfLine : ByteArray := prog_10_method_5_code
def yX8_islandOfLine : MethodName := ⟨RX8, "islandOfLine", "(I)I"⟩
abbrev cX8_islandOfMachine : ByteArray := prog_10_method_6_code
def yX8_islandOfMachine : MethodName := ⟨RX8, "islandOfMachine", "(I)I"⟩
abbrev cX8_islandOfLoad : ByteArray := prog_10_method_7_code
def yX8_islandOfLoad : MethodName := ⟨RX8, "islandOfLoad", "(I)I"⟩
abbrev cX8_rowOfEnd : ByteArray := prog_10_method_8_code
def yX8_rowOfEnd : MethodName := ⟨RX8, "rowOfEnd", "(II)I"⟩
abbrev cX8_rowOfMachine : ByteArray := prog_10_method_9_code
def yX8_rowOfMachine : MethodName := ⟨RX8, "rowOfMachine", "(I)I"⟩
abbrev cX8_rowOfLoad : ByteArray := prog_10_method_10_code
def yX8_rowOfLoad : MethodName := ⟨RX8, "rowOfLoad", "(I)I"⟩
abbrev cX8_isMachineIn : ByteArray := prog_10_method_11_code
def yX8_isMachineIn : MethodName := ⟨RX8, "isMachineIn", "(I[Z)Z"⟩
abbrev cX8_isLineIn : ByteArray := prog_10_method_12_code
def yX8_isLineIn : MethodName := ⟨RX8, "isLineIn", "(I[Z)Z"⟩
abbrev cX8_loops : ByteArray := prog_10_method_13_code
def yX8_loops : MethodName := ⟨RX8, "loops", "()I"⟩
abbrev cX8_number : ByteArray := prog_10_method_14_code
def yX8_number : MethodName := ⟨RX8, "number", "([ZZ)I"⟩
abbrev cX8_lay : ByteArray := prog_10_method_15_code
def yX8_lay : MethodName := ⟨RX8, "lay", "(LGridHouse$Solver;[ZII)J"⟩
abbrev cX8_bits : ByteArray := prog_10_method_16_code
def yX8_bits : MethodName := ⟨RX8, "bits", "([ZII)I"⟩
abbrev cX8_bitsOf : ByteArray := prog_10_method_17_code
def yX8_bitsOf : MethodName := ⟨RX8, "bitsOf", "(I)I"⟩
def RX9 : String := "GridHouse$Shorts"
def TX9 : u_T := fun k => match k with
  | 0 => ("GridHouse$Shorts", "shape", "LGridHouse$Shape;", true)
  | 1 => ("GridHouse$Shorts", "net", "LGridHouse$Net;", true)
  | 2 => ("GridHouse$Shorts", "solver", "LGridHouse$Solver;", true)
  | 3 => ("GridHouse$Shorts", "taken", "[Z", true)
  | 4 => ("GridHouse$Shorts", "known", "Z", false)
  | 5 => ("GridHouse$Shorts", "active", "Z", false)
  | 6 => ("GridHouse$Shorts", "grounded", "Z", false)
  | 7 => ("GridHouse$Shorts", "island", "I", false)
  | 8 => ("GridHouse$Shorts", "place", "I", false)
  | 9 => ("GridHouse$Shorts", "top1", "[LGridHouse$Big;", true)
  | 10 => ("GridHouse$Shorts", "top0", "[LGridHouse$Big;", true)
  | 11 => ("GridHouse$Shorts", "whole", "[LGridHouse$Big;", true)
  | 12 => ("GridHouse$Shorts", "part", "[LGridHouse$Big;", true)
  | 13 => ("GridHouse$Shorts", "below", "LGridHouse$Big;", true)
  | 14 => ("GridHouse$Shorts", "asked", "[LGridHouse$Big;", true)
  | 15 => ("GridHouse$Shorts", "reach", "[I", true)
  | 16 => ("GridHouse$Shorts", "square", "[LGridHouse$Big;", true)
  | 17 => ("GridHouse$Shorts", "help", "[LGridHouse$Big;", true)
  | 18 => ("GridHouse$Shorts", "first", "LGridHouse$Big;", true)
  | _ => ("GridHouse$Shorts", "second", "LGridHouse$Big;", true)
def tyX9 : Nat → FieldType := fun k => match k with
  | 0 => .object "GridHouse$Shape"
  | 1 => .object "GridHouse$Net"
  | 2 => .object "GridHouse$Solver"
  | 3 => .array .boolean
  | 4 => .boolean
  | 5 => .boolean
  | 6 => .boolean
  | 7 => .int
  | 8 => .int
  | 9 => .array (.object "GridHouse$Big")
  | 10 => .array (.object "GridHouse$Big")
  | 11 => .array (.object "GridHouse$Big")
  | 12 => .array (.object "GridHouse$Big")
  | 13 => .object "GridHouse$Big"
  | 14 => .array (.object "GridHouse$Big")
  | 15 => .array .int
  | 16 => .array (.object "GridHouse$Big")
  | 17 => .array (.object "GridHouse$Big")
  | 18 => .object "GridHouse$Big"
  | _ => .object "GridHouse$Big"
abbrev wsX90 : List Cond := u_ws RX9 TX9 20
theorem nmX9 : ∀ a, a < 20 → ∀ b, b < 20 → a ≠ b → (TX9 a).2.1 ≠ (TX9 b).2.1 := by decide +kernel
theorem tyX9_ok : ∀ k, k < 20 → parseFieldDescriptor (TX9 k).2.2.1 = some (tyX9 k) := by decide +kernel
abbrev cX9_init : ByteArray := prog_11_method_1_code
def yX9_init : MethodName := ⟨RX9, "<init>", "(LGridHouse$Shape;LGridHouse$Solver;)V"⟩
abbrev cX9_solve : ByteArray := prog_11_method_2_code
def yX9_solve : MethodName := ⟨RX9, "solve", "()V"⟩
abbrev cX9_isOdd : ByteArray := prog_11_method_3_code
def yX9_isOdd : MethodName := ⟨RX9, "isOdd", "()Z"⟩
abbrev cX9_isOnLine : ByteArray := prog_11_method_4_code
def yX9_isOnLine : MethodName := ⟨RX9, "isOnLine", "()Z"⟩
abbrev cX9_isThere : ByteArray := prog_11_method_5_code
def yX9_isThere : MethodName := ⟨RX9, "isThere", "()Z"⟩
abbrev cX9_isGrounded : ByteArray := prog_11_method_6_code
def yX9_isGrounded : MethodName := ⟨RX9, "isGrounded", "()Z"⟩
abbrev cX9_sequence : ByteArray := prog_11_method_7_code
def yX9_sequence : MethodName := ⟨RX9, "sequence", "(Z)V"⟩
abbrev cX9_bits : ByteArray := prog_11_method_8_code
def yX9_bits : MethodName := ⟨RX9, "bits", "(Z)I"⟩
abbrev cX9_lay : ByteArray := prog_11_method_9_code
def yX9_lay : MethodName := ⟨RX9, "lay", "(ZI)J"⟩
abbrev cX9_sixteenths : ByteArray := prog_11_method_10_code
def yX9_sixteenths : MethodName := ⟨RX9, "sixteenths", "(I)I"⟩
abbrev cX9_weigh : ByteArray := prog_11_method_11_code
def yX9_weigh : MethodName := ⟨RX9, "weigh", "()V"⟩
abbrev cX9_weighOdd : ByteArray := prog_11_method_12_code
def yX9_weighOdd : MethodName := ⟨RX9, "weighOdd", "(LGridHouse$Big;LGridHouse$Big;)V"⟩
abbrev cX9_tellInto : ByteArray := prog_11_method_13_code
def yX9_tellInto : MethodName := ⟨RX9, "tellInto", "(ILGridHouse$Hand;)V"⟩
abbrev cX9_volts : ByteArray := prog_11_method_14_code
def yX9_volts : MethodName := ⟨RX9, "volts", "(I)V"⟩
abbrev cX9_scaleAll : ByteArray := prog_11_method_15_code
def yX9_scaleAll : MethodName := ⟨RX9, "scaleAll", "(I)V"⟩
abbrev cX9_currents : ByteArray := prog_11_method_16_code
def yX9_currents : MethodName := ⟨RX9, "currents", "(II)V"⟩
abbrev cX9_tell : ByteArray := prog_11_method_17_code
def yX9_tell : MethodName := ⟨RX9, "tell", "(ILGridHouse$Hand;)V"⟩
abbrev cX9_squares : ByteArray := prog_11_method_18_code
def yX9_squares : MethodName := ⟨RX9, "squares", "()V"⟩
abbrev cX9_belowSquares : ByteArray := prog_11_method_19_code
def yX9_belowSquares : MethodName := ⟨RX9, "belowSquares", "(LGridHouse$Big;)V"⟩
abbrev cX9_measure : ByteArray := prog_11_method_20_code
def yX9_measure : MethodName := ⟨RX9, "measure", "(IIZ)Z"⟩
abbrev cX9_isAbove : ByteArray := prog_11_method_21_code
def yX9_isAbove : MethodName := ⟨RX9, "isAbove", "(I)Z"⟩
def RX10 : String := "GridHouse$Solver"
def TX10 : u_T := fun k => match k with
  | 0 => ("GridHouse$Solver", "cell", "[[J", true)
  | 1 => ("GridHouse$Solver", "leader", "[I", true)
  | 2 => ("GridHouse$Solver", "prime", "J", false)
  | 3 => ("GridHouse$Solver", "determinant", "J", false)
  | 4 => ("GridHouse$Solver", "modulus", "LGridHouse$Big;", true)
  | 5 => ("GridHouse$Solver", "half", "LGridHouse$Big;", true)
  | 6 => ("GridHouse$Solver", "lift", "J", false)
  | 7 => ("GridHouse$Solver", "next", "I", false)
  | _ => ("GridHouse$Solver", "bitsLeft", "I", false)
def tyX10 : Nat → FieldType := fun k => match k with
  | 0 => .array (.array .long)
  | 1 => .array .int
  | 2 => .long
  | 3 => .long
  | 4 => .object "GridHouse$Big"
  | 5 => .object "GridHouse$Big"
  | 6 => .long
  | 7 => .int
  | _ => .int
abbrev wsX100 : List Cond := u_ws RX10 TX10 9
theorem nmX10 : ∀ a, a < 9 → ∀ b, b < 9 → a ≠ b → (TX10 a).2.1 ≠ (TX10 b).2.1 := by decide +kernel
theorem tyX10_ok : ∀ k, k < 9 → parseFieldDescriptor (TX10 k).2.2.1 = some (tyX10 k) := by decide +kernel
abbrev cX10_init : ByteArray := prog_12_method_1_code
def yX10_init : MethodName := ⟨RX10, "<init>", "()V"⟩
abbrev cX10_start : ByteArray := prog_12_method_2_code
def yX10_start : MethodName := ⟨RX10, "start", "(I)V"⟩
abbrev cX10_start_ : ByteArray := prog_12_method_3_code
def yX10_start_ : MethodName := ⟨RX10, "start", "(I[LGridHouse$Big;LGridHouse$Big;)V"⟩
abbrev cX10_more : ByteArray := prog_12_method_4_code
def yX10_more : MethodName := ⟨RX10, "more", "()Z"⟩
abbrev cX10_close : ByteArray := prog_12_method_5_code
def yX10_close : MethodName := ⟨RX10, "close", "()V"⟩
abbrev cX10_fold : ByteArray := prog_12_method_6_code
def yX10_fold : MethodName := ⟨RX10, "fold", "(LGridHouse$Big;J)V"⟩
abbrev cX10_settle : ByteArray := prog_12_method_7_code
def yX10_settle : MethodName := ⟨RX10, "settle", "([LGridHouse$Big;I)V"⟩
abbrev cX10_take : ByteArray := prog_12_method_8_code
def yX10_take : MethodName := ⟨RX10, "take", "(LGridHouse$Shape;[LGridHouse$Big;LGridHouse$Big;IJ)V"⟩
abbrev cX10_times : ByteArray := prog_12_method_9_code
def yX10_times : MethodName := ⟨RX10, "times", "(J)J"⟩
abbrev cX10_blank : ByteArray := prog_12_method_10_code
def yX10_blank : MethodName := ⟨RX10, "blank", "(II)V"⟩
abbrev cX10_plus : ByteArray := prog_12_method_11_code
def yX10_plus : MethodName := ⟨RX10, "plus", "(IIJ)V"⟩
abbrev cX10_edge : ByteArray := prog_12_method_12_code
def yX10_edge : MethodName := ⟨RX10, "edge", "(IIJ)V"⟩
abbrev cX10_residue : ByteArray := prog_12_method_13_code
def yX10_residue : MethodName := ⟨RX10, "residue", "(J)J"⟩
abbrev cX10_inverse : ByteArray := prog_12_method_14_code
def yX10_inverse : MethodName := ⟨RX10, "inverse", "(J)J"⟩
abbrev cX10_reduce : ByteArray := prog_12_method_15_code
def yX10_reduce : MethodName := ⟨RX10, "reduce", "(III)I"⟩
abbrev cX10_clear : ByteArray := prog_12_method_16_code
def yX10_clear : MethodName := ⟨RX10, "clear", "(IIII)V"⟩
def RX11 : String := "GridHouse$Tape"
def TX11 : u_T := fun k => match k with
  | 0 => ("GridHouse$Tape", "bytes", "[B", true)
  | 1 => ("GridHouse$Tape", "keys", "[J", true)
  | 2 => ("GridHouse$Tape", "at", "I", false)
  | 3 => ("GridHouse$Tape", "letterFirst", "Z", false)
  | 4 => ("GridHouse$Tape", "length", "I", false)
  | 5 => ("GridHouse$Tape", "from", "I", false)
  | 6 => ("GridHouse$Tape", "word", "J", false)
  | _ => ("GridHouse$Tape", "number", "I", false)
def tyX11 : Nat → FieldType := fun k => match k with
  | 0 => .array .byte
  | 1 => .array .long
  | 2 => .int
  | 3 => .boolean
  | 4 => .int
  | 5 => .int
  | 6 => .long
  | _ => .int
abbrev wsX110 : List Cond := u_ws RX11 TX11 8
theorem nmX11 : ∀ a, a < 8 → ∀ b, b < 8 → a ≠ b → (TX11 a).2.1 ≠ (TX11 b).2.1 := by decide +kernel
theorem tyX11_ok : ∀ k, k < 8 → parseFieldDescriptor (TX11 k).2.2.1 = some (tyX11 k) := by decide +kernel
abbrev cX11_init : ByteArray := prog_13_method_1_code
def yX11_init : MethodName := ⟨RX11, "<init>", "()V"⟩
abbrev cX11_learn : ByteArray := prog_13_method_2_code
def yX11_learn : MethodName := ⟨RX11, "learn", "(Ljava/lang/String;I)I"⟩
abbrev cX11_write : ByteArray := prog_13_method_3_code
def yX11_write : MethodName := ⟨RX11, "write", "(I)V"⟩
abbrev cX11_rewind : ByteArray := prog_13_method_4_code
def yX11_rewind : MethodName := ⟨RX11, "rewind", "()V"⟩
abbrev cX11_next : ByteArray := prog_13_method_5_code
def yX11_next : MethodName := ⟨RX11, "next", "()Z"⟩
abbrev cX11_readOn : ByteArray := prog_13_method_6_code
def yX11_readOn : MethodName := ⟨RX11, "readOn", "(I)V"⟩
abbrev cX11_isFigure : ByteArray := prog_13_method_7_code
def yX11_isFigure : MethodName := ⟨RX11, "isFigure", "(I)Z"⟩
abbrev cX11_isPlain : ByteArray := prog_13_method_8_code
def yX11_isPlain : MethodName := ⟨RX11, "isPlain", "(I)Z"⟩
abbrev cX11_key : ByteArray := prog_13_method_9_code
def yX11_key : MethodName := ⟨RX11, "key", "()I"⟩
abbrev cX11_isName : ByteArray := prog_13_method_10_code
def yX11_isName : MethodName := ⟨RX11, "isName", "()Z"⟩
abbrev cX11_isSign : ByteArray := prog_13_method_11_code
def yX11_isSign : MethodName := ⟨RX11, "isSign", "(C)Z"⟩
abbrev cX11_whole : ByteArray := prog_13_method_12_code
def yX11_whole : MethodName := ⟨RX11, "whole", "()J"⟩
abbrev cX11_byteOf : ByteArray := prog_13_method_13_code
def yX11_byteOf : MethodName := ⟨RX11, "byteOf", "(JI)I"⟩
def RX12 : String := "GridHouse"
def TX12 : u_T := fun k => match k with
  | 0 => ("GridHouse", "tape", "LGridHouse$Tape;", true)
  | 1 => ("GridHouse", "net", "LGridHouse$Net;", true)
  | 2 => ("GridHouse", "spare", "LGridHouse$Net;", true)
  | 3 => ("GridHouse", "kept", "[LGridHouse$Net;", true)
  | 4 => ("GridHouse", "isKept", "[Z", true)
  | 5 => ("GridHouse", "hand", "LGridHouse$Hand;", true)
  | 6 => ("GridHouse", "solver", "LGridHouse$Solver;", true)
  | 7 => ("GridHouse", "flow", "LGridHouse$Flow;", true)
  | 8 => ("GridHouse", "stages", "[LGridHouse$Flow;", true)
  | 9 => ("GridHouse", "meters", "LGridHouse$Meters;", true)
  | 10 => ("GridHouse", "shorts", "LGridHouse$Shorts;", true)
  | 11 => ("GridHouse", "relays", "LGridHouse$Relays;", true)
  | 12 => ("GridHouse", "dispatch", "LGridHouse$Dispatch;", true)
  | 13 => ("GridHouse", "rules", "LGridHouse$Rules;", true)
  | _ => ("GridHouse", "looked", "Z", false)
def tyX12 : Nat → FieldType := fun k => match k with
  | 0 => .object "GridHouse$Tape"
  | 1 => .object "GridHouse$Net"
  | 2 => .object "GridHouse$Net"
  | 3 => .array (.object "GridHouse$Net")
  | 4 => .array .boolean
  | 5 => .object "GridHouse$Hand"
  | 6 => .object "GridHouse$Solver"
  | 7 => .object "GridHouse$Flow"
  | 8 => .array (.object "GridHouse$Flow")
  | 9 => .object "GridHouse$Meters"
  | 10 => .object "GridHouse$Shorts"
  | 11 => .object "GridHouse$Relays"
  | 12 => .object "GridHouse$Dispatch"
  | 13 => .object "GridHouse$Rules"
  | _ => .boolean
abbrev wsX120 : List Cond := u_ws RX12 TX12 15
theorem nmX12 : ∀ a, a < 15 → ∀ b, b < 15 → a ≠ b → (TX12 a).2.1 ≠ (TX12 b).2.1 := by decide +kernel
theorem tyX12_ok : ∀ k, k < 15 → parseFieldDescriptor (TX12 k).2.2.1 = some (tyX12 k) := by decide +kernel
abbrev cX12_init : ByteArray := prog_1_method_1_code
def yX12_init : MethodName := ⟨RX12, "<init>", "()V"⟩
abbrev cX12_feed : ByteArray := prog_1_method_2_code
def yX12_feed : MethodName := ⟨RX12, "feed", "(IIIII)I"⟩
abbrev cX12_end : ByteArray := prog_1_method_3_code
def yX12_end : MethodName := ⟨RX12, "end", "(I)V"⟩
abbrev cX12_net : ByteArray := prog_1_method_4_code
def yX12_net : MethodName := ⟨RX12, "net", "()I"⟩
abbrev cX12_rules : ByteArray := prog_1_method_5_code
def yX12_rules : MethodName := ⟨RX12, "rules", "()I"⟩
abbrev cX12_order : ByteArray := prog_1_method_6_code
def yX12_order : MethodName := ⟨RX12, "order", "()I"⟩
abbrev cX12_find : ByteArray := prog_1_method_7_code
def yX12_find : MethodName := ⟨RX12, "find", "()I"⟩
abbrev cX12_count : ByteArray := prog_1_method_8_code
def yX12_count : MethodName := ⟨RX12, "count", "(I)I"⟩
abbrev cX12_countTold : ByteArray := prog_1_method_9_code
def yX12_countTold : MethodName := ⟨RX12, "countTold", "(I)I"⟩
abbrev cX12_countFound : ByteArray := prog_1_method_10_code
def yX12_countFound : MethodName := ⟨RX12, "countFound", "(I)I"⟩
abbrev cX12_name : ByteArray := prog_1_method_11_code
def yX12_name : MethodName := ⟨RX12, "name", "(III)I"⟩
abbrev cX12_get : ByteArray := prog_1_method_12_code
def yX12_get : MethodName := ⟨RX12, "get", "(III)I"⟩
abbrev cX12_set : ByteArray := prog_1_method_13_code
def yX12_set : MethodName := ⟨RX12, "set", "(IIII)I"⟩
abbrev cX12_keep : ByteArray := prog_1_method_14_code
def yX12_keep : MethodName := ⟨RX12, "keep", "(I)V"⟩
abbrev cX12_back : ByteArray := prog_1_method_15_code
def yX12_back : MethodName := ⟨RX12, "back", "(I)V"⟩
abbrev cX12_changed : ByteArray := prog_1_method_16_code
def yX12_changed : MethodName := ⟨RX12, "changed", "()V"⟩
abbrev cX12_now : ByteArray := prog_1_method_17_code
def yX12_now : MethodName := ⟨RX12, "now", "()LGridHouse$Flow;"⟩
abbrev cX12_testBar : ByteArray := prog_1_method_18_code
def yX12_testBar : MethodName := ⟨RX12, "testBar", "(I)V"⟩
abbrev cX12_testLine : ByteArray := prog_1_method_19_code
def yX12_testLine : MethodName := ⟨RX12, "testLine", "(I)V"⟩
abbrev cX12_testMachine : ByteArray := prog_1_method_20_code
def yX12_testMachine : MethodName := ⟨RX12, "testMachine", "(I)V"⟩
abbrev cX12_testWithin : ByteArray := prog_1_method_21_code
def yX12_testWithin : MethodName := ⟨RX12, "testWithin", "(III)V"⟩
abbrev cX12_bar : ByteArray := prog_1_method_22_code
def yX12_bar : MethodName := ⟨RX12, "bar", "(II)I"⟩
abbrev cX12_maybeLive : ByteArray := prog_1_method_23_code
def yX12_maybeLive : MethodName := ⟨RX12, "maybeLive", "(I)Z"⟩
abbrev cX12_angle : ByteArray := prog_1_method_24_code
def yX12_angle : MethodName := ⟨RX12, "angle", "(I)I"⟩
abbrev cX12_carries : ByteArray := prog_1_method_25_code
def yX12_carries : MethodName := ⟨RX12, "carries", "(I)I"⟩
abbrev cX12_gives : ByteArray := prog_1_method_26_code
def yX12_gives : MethodName := ⟨RX12, "gives", "(I)I"⟩
abbrev cX12_figures : ByteArray := prog_1_method_27_code
def yX12_figures : MethodName := ⟨RX12, "figures", "(I)I"⟩
abbrev cX12_figure : ByteArray := prog_1_method_28_code
def yX12_figure : MethodName := ⟨RX12, "figure", "(II)I"⟩
abbrev cX12_screen : ByteArray := prog_1_method_29_code
def yX12_screen : MethodName := ⟨RX12, "screen", "()I"⟩
abbrev cX12_trouble : ByteArray := prog_1_method_30_code
def yX12_trouble : MethodName := ⟨RX12, "trouble", "(II)I"⟩
abbrev cX12_meter : ByteArray := prog_1_method_31_code
def yX12_meter : MethodName := ⟨RX12, "meter", "(IIII)I"⟩
abbrev cX12_strike : ByteArray := prog_1_method_32_code
def yX12_strike : MethodName := ⟨RX12, "strike", "(IZ)Z"⟩
abbrev cX12_testMeter : ByteArray := prog_1_method_33_code
def yX12_testMeter : MethodName := ⟨RX12, "testMeter", "(I)V"⟩
abbrev cX12_estimated : ByteArray := prog_1_method_34_code
def yX12_estimated : MethodName := ⟨RX12, "estimated", "()LGridHouse$Meters;"⟩
abbrev cX12_seen : ByteArray := prog_1_method_35_code
def yX12_seen : MethodName := ⟨RX12, "seen", "(I)I"⟩
abbrev cX12_estimate : ByteArray := prog_1_method_36_code
def yX12_estimate : MethodName := ⟨RX12, "estimate", "(I)I"⟩
abbrev cX12_rest : ByteArray := prog_1_method_37_code
def yX12_rest : MethodName := ⟨RX12, "rest", "(II)I"⟩
abbrev cX12_worst : ByteArray := prog_1_method_38_code
def yX12_worst : MethodName := ⟨RX12, "worst", "()I"⟩
abbrev cX12_shortAt : ByteArray := prog_1_method_39_code
def yX12_shortAt : MethodName := ⟨RX12, "shortAt", "(III)V"⟩
abbrev cX12_shortOn : ByteArray := prog_1_method_40_code
def yX12_shortOn : MethodName := ⟨RX12, "shortOn", "(IIII)V"⟩
abbrev cX12_clearShort : ByteArray := prog_1_method_41_code
def yX12_clearShort : MethodName := ⟨RX12, "clearShort", "()Z"⟩
abbrev cX12_shorted : ByteArray := prog_1_method_42_code
def yX12_shorted : MethodName := ⟨RX12, "shorted", "()LGridHouse$Shorts;"⟩
abbrev cX12_into : ByteArray := prog_1_method_43_code
def yX12_into : MethodName := ⟨RX12, "into", "(I)I"⟩
abbrev cX12_voltage : ByteArray := prog_1_method_44_code
def yX12_voltage : MethodName := ⟨RX12, "voltage", "(II)I"⟩
abbrev cX12_current : ByteArray := prog_1_method_45_code
def yX12_current : MethodName := ⟨RX12, "current", "(III)I"⟩
abbrev cX12_relay : ByteArray := prog_1_method_46_code
def yX12_relay : MethodName := ⟨RX12, "relay", "(IIII)I"⟩
abbrev cX12_testSwitch : ByteArray := prog_1_method_47_code
def yX12_testSwitch : MethodName := ⟨RX12, "testSwitch", "(I)V"⟩
abbrev cX12_row : ByteArray := prog_1_method_48_code
def yX12_row : MethodName := ⟨RX12, "row", "(III)I"⟩
abbrev cX12_fails : ByteArray := prog_1_method_49_code
def yX12_fails : MethodName := ⟨RX12, "fails", "(IZ)Z"⟩
abbrev cX12_backup : ByteArray := prog_1_method_50_code
def yX12_backup : MethodName := ⟨RX12, "backup", "(I)I"⟩
abbrev cX12_met : ByteArray := prog_1_method_51_code
def yX12_met : MethodName := ⟨RX12, "met", "(II)Z"⟩
abbrev cX12_begin : ByteArray := prog_1_method_52_code
def yX12_begin : MethodName := ⟨RX12, "begin", "()I"⟩
abbrev cX12_run : ByteArray := prog_1_method_53_code
def yX12_run : MethodName := ⟨RX12, "run", "(I)I"⟩
abbrev cX12_opened : ByteArray := prog_1_method_54_code
def yX12_opened : MethodName := ⟨RX12, "opened", "(II)I"⟩
abbrev cX12_ordered : ByteArray := prog_1_method_55_code
def yX12_ordered : MethodName := ⟨RX12, "ordered", "(I)Z"⟩
abbrev cX12_testDispatch : ByteArray := prog_1_method_56_code
def yX12_testDispatch : MethodName := ⟨RX12, "testDispatch", "()V"⟩
abbrev cX12_dispatch : ByteArray := prog_1_method_57_code
def yX12_dispatch : MethodName := ⟨RX12, "dispatch", "()I"⟩
abbrev cX12_cost : ByteArray := prog_1_method_58_code
def yX12_cost : MethodName := ⟨RX12, "cost", "()I"⟩
abbrev cX12_sets : ByteArray := prog_1_method_59_code
def yX12_sets : MethodName := ⟨RX12, "sets", "(I)I"⟩
abbrev cX12_price : ByteArray := prog_1_method_60_code
def yX12_price : MethodName := ⟨RX12, "price", "(I)I"⟩
abbrev cX12_barred : ByteArray := prog_1_method_61_code
def yX12_barred : MethodName := ⟨RX12, "barred", "(I)I"⟩
abbrev cX12_carry : ByteArray := prog_1_method_62_code
def yX12_carry : MethodName := ⟨RX12, "carry", "()I"⟩
abbrev cX12_restore : ByteArray := prog_1_method_63_code
def yX12_restore : MethodName := ⟨RX12, "restore", "(I)I"⟩
abbrev cX12_step : ByteArray := prog_1_method_64_code
def yX12_step : MethodName := ⟨RX12, "step", "(I)I"⟩
def RX13 : String := "GridHouseModel"
def TX13 : u_T := fun k => match k with
  | 0 => ("GridHouseModel", "thrown", "I", false)
  | 1 => ("GridHouseModel", "big", "[I", true)
  | 2 => ("GridHouseModel", "length", "[I", true)
  | 3 => ("GridHouseModel", "sign", "[I", true)
  | 4 => ("GridHouseModel", "product", "[I", true)
  | 5 => ("GridHouseModel", "upper", "[I", true)
  | 6 => ("GridHouseModel", "lower", "[I", true)
  | 7 => ("GridHouseModel", "inverseOf", "[J", true)
  | 8 => ("GridHouseModel", "residue", "[J", true)
  | 9 => ("GridHouseModel", "used", "[I", true)
  | 10 => ("GridHouseModel", "usedCount", "I", false)
  | 11 => ("GridHouseModel", "p", "J", false)
  | 12 => ("GridHouseModel", "matrix", "[J", true)
  | 13 => ("GridHouseModel", "mixed", "[J", true)
  | 14 => ("GridHouseModel", "tape", "[I", true)
  | 15 => ("GridHouseModel", "taped", "I", false)
  | 16 => ("GridHouseModel", "wordAt", "[I", true)
  | 17 => ("GridHouseModel", "wordSize", "[I", true)
  | 18 => ("GridHouseModel", "words", "I", false)
  | 19 => ("GridHouseModel", "at", "I", false)
  | 20 => ("GridHouseModel", "textSize", "I", false)
  | 21 => ("GridHouseModel", "fault", "I", false)
  | 22 => ("GridHouseModel", "count", "[I", true)
  | 23 => ("GridHouseModel", "field", "[I", true)
  | 24 => ("GridHouseModel", "name", "[I", true)
  | 25 => ("GridHouseModel", "nameSize", "[I", true)
  | 26 => ("GridHouseModel", "newCount", "[I", true)
  | 27 => ("GridHouseModel", "newField", "[I", true)
  | 28 => ("GridHouseModel", "newName", "[I", true)
  | 29 => ("GridHouseModel", "newSize", "[I", true)
  | 30 => ("GridHouseModel", "kept", "[I", true)
  | 31 => ("GridHouseModel", "isKept", "[Z", true)
  | 32 => ("GridHouseModel", "stateNow", "[I", true)
  | 33 => ("GridHouseModel", "inNow", "[I", true)
  | 34 => ("GridHouseModel", "node", "[I", true)
  | 35 => ("GridHouseModel", "island", "[I", true)
  | 36 => ("GridHouseModel", "isLive", "[Z", true)
  | 37 => ("GridHouseModel", "nodeAt", "[I", true)
  | 38 => ("GridHouseModel", "nodes", "I", false)
  | 39 => ("GridHouseModel", "placeOf", "[I", true)
  | 40 => ("GridHouseModel", "hasFlows", "Z", false)
  | 41 => ("GridHouseModel", "isStuck", "[Z", true)
  | 42 => ("GridHouseModel", "lack", "[J", true)
  | 43 => ("GridHouseModel", "share", "[J", true)
  | 44 => ("GridHouseModel", "isOver", "[Z", true)
  | 45 => ("GridHouseModel", "overCount", "I", false)
  | 46 => ("GridHouseModel", "stuckCount", "I", false)
  | 47 => ("GridHouseModel", "lost", "I", false)
  | 48 => ("GridHouseModel", "putIn", "[J", true)
  | 49 => ("GridHouseModel", "hasTroubles", "Z", false)
  | 50 => ("GridHouseModel", "troubles", "I", false)
  | 51 => ("GridHouseModel", "isScreened", "[Z", true)
  | 52 => ("GridHouseModel", "troubleLine", "[I", true)
  | 53 => ("GridHouseModel", "troubleSort", "[I", true)
  | 54 => ("GridHouseModel", "troubleLost", "[I", true)
  | 55 => ("GridHouseModel", "troubleOver", "[I", true)
  | 56 => ("GridHouseModel", "meters", "I", false)
  | 57 => ("GridHouseModel", "meterKind", "[I", true)
  | 58 => ("GridHouseModel", "meterAt", "[I", true)
  | 59 => ("GridHouseModel", "meterValue", "[I", true)
  | 60 => ("GridHouseModel", "meterWeight", "[I", true)
  | 61 => ("GridHouseModel", "isStruck", "[Z", true)
  | 62 => ("GridHouseModel", "hasEstimates", "Z", false)
  | 63 => ("GridHouseModel", "isWhole", "[Z", true)
  | 64 => ("GridHouseModel", "isSeen", "[Z", true)
  | 65 => ("GridHouseModel", "shows", "[J", true)
  | 66 => ("GridHouseModel", "conductance", "[J", true)
  | 67 => ("GridHouseModel", "rankWith", "[I", true)
  | 68 => ("GridHouseModel", "hasShort", "Z", false)
  | 69 => ("GridHouseModel", "shortKind", "I", false)
  | 70 => ("GridHouseModel", "isOnLine", "Z", false)
  | 71 => ("GridHouseModel", "shortPlace", "I", false)
  | 72 => ("GridHouseModel", "shortK", "I", false)
  | 73 => ("GridHouseModel", "shortZ", "I", false)
  | 74 => ("GridHouseModel", "isVoid", "Z", false)
  | 75 => ("GridHouseModel", "shortIsland", "I", false)
  | 76 => ("GridHouseModel", "hasZero", "Z", false)
  | 77 => ("GridHouseModel", "hasNetShort", "Z", false)
  | 78 => ("GridHouseModel", "relays", "I", false)
  | 79 => ("GridHouseModel", "relayLine", "[I", true)
  | 80 => ("GridHouseModel", "relayEnd", "[I", true)
  | 81 => ("GridHouseModel", "relaySwitch", "[I", true)
  | 82 => ("GridHouseModel", "relayKind", "[I", true)
  | 83 => ("GridHouseModel", "rowCount", "[I", true)
  | 84 => ("GridHouseModel", "setting", "[I", true)
  | 85 => ("GridHouseModel", "delay", "[I", true)
  | 86 => ("GridHouseModel", "doesFail", "[Z", true)
  | 87 => ("GridHouseModel", "back", "I", false)
  | 88 => ("GridHouseModel", "isB", "Z", false)
  | 89 => ("GridHouseModel", "signOfOne", "I", false)
  | 90 => ("GridHouseModel", "hasRun", "Z", false)
  | 91 => ("GridHouseModel", "runTime", "I", false)
  | 92 => ("GridHouseModel", "runState", "[I", true)
  | 93 => ("GridHouseModel", "hasOrder", "[Z", true)
  | 94 => ("GridHouseModel", "opensAt", "[J", true)
  | 95 => ("GridHouseModel", "backupAt", "[J", true)
  | 96 => ("GridHouseModel", "since", "[J", true)
  | 97 => ("GridHouseModel", "hasTripped", "[Z", true)
  | 98 => ("GridHouseModel", "openedSwitch", "[I", true)
  | 99 => ("GridHouseModel", "openedAt", "[I", true)
  | 100 => ("GridHouseModel", "openedCount", "I", false)
  | 101 => ("GridHouseModel", "hasDispatch", "I", false)
  | 102 => ("GridHouseModel", "machines", "I", false)
  | 103 => ("GridHouseModel", "machineAt", "[I", true)
  | 104 => ("GridHouseModel", "low", "[I", true)
  | 105 => ("GridHouseModel", "high", "[I", true)
  | 106 => ("GridHouseModel", "slope", "[I", true)
  | 107 => ("GridHouseModel", "dimensions", "[I", true)
  | 108 => ("GridHouseModel", "rowsAt", "[I", true)
  | 109 => ("GridHouseModel", "machineOf", "[I", true)
  | 110 => ("GridHouseModel", "lineRows", "I", false)
  | 111 => ("GridHouseModel", "demand", "J", false)
  | 112 => ("GridHouseModel", "moreAt", "I", false)
  | 113 => ("GridHouseModel", "moreBy", "I", false)
  | 114 => ("GridHouseModel", "ruleCount", "I", false)
  | 115 => ("GridHouseModel", "ruleAct", "[I", true)
  | 116 => ("GridHouseModel", "ruleFrom", "[I", true)
  | 117 => ("GridHouseModel", "code", "[I", true)
  | 118 => ("GridHouseModel", "newRules", "I", false)
  | 119 => ("GridHouseModel", "codes", "I", false)
  | 120 => ("GridHouseModel", "newAct", "[I", true)
  | 121 => ("GridHouseModel", "newFrom", "[I", true)
  | 122 => ("GridHouseModel", "newCode", "[I", true)
  | 123 => ("GridHouseModel", "steps", "I", false)
  | 124 => ("GridHouseModel", "stepAct", "[I", true)
  | 125 => ("GridHouseModel", "stepOf", "[I", true)
  | 126 => ("GridHouseModel", "newStepAct", "[I", true)
  | 127 => ("GridHouseModel", "newStepOf", "[I", true)
  | 128 => ("GridHouseModel", "seenField", "[I", true)
  | 129 => ("GridHouseModel", "seenNode", "[I", true)
  | 130 => ("GridHouseModel", "seenLive", "[Z", true)
  | 131 => ("GridHouseModel", "seenLost", "[I", true)
  | 132 => ("GridHouseModel", "seenOver", "[I", true)
  | 133 => ("GridHouseModel", "seenLoops", "[I", true)
  | 134 => ("GridHouseModel", "pile", "[Z", true)
  | 135 => ("GridHouseModel", "barredBy", "I", false)
  | 136 => ("GridHouseModel", "fieldsBefore", "[I", true)
  | 137 => ("GridHouseModel", "restored", "I", false)
  | 138 => ("GridHouseModel", "restoredSwitch", "[I", true)
  | 139 => ("GridHouseModel", "openSwitch", "[I", true)
  | 140 => ("GridHouseModel", "openCount", "I", false)
  | 141 => ("GridHouseModel", "row", "[I", true)
  | 142 => ("GridHouseModel", "bestLost", "I", false)
  | 143 => ("GridHouseModel", "isWell", "[I", true)
  | _ => ("GridHouseModel", "lostBy", "[I", true)
def tyX13 : Nat → FieldType := fun k => match k with
  | 0 => .int
  | 1 => .array .int
  | 2 => .array .int
  | 3 => .array .int
  | 4 => .array .int
  | 5 => .array .int
  | 6 => .array .int
  | 7 => .array .long
  | 8 => .array .long
  | 9 => .array .int
  | 10 => .int
  | 11 => .long
  | 12 => .array .long
  | 13 => .array .long
  | 14 => .array .int
  | 15 => .int
  | 16 => .array .int
  | 17 => .array .int
  | 18 => .int
  | 19 => .int
  | 20 => .int
  | 21 => .int
  | 22 => .array .int
  | 23 => .array .int
  | 24 => .array .int
  | 25 => .array .int
  | 26 => .array .int
  | 27 => .array .int
  | 28 => .array .int
  | 29 => .array .int
  | 30 => .array .int
  | 31 => .array .boolean
  | 32 => .array .int
  | 33 => .array .int
  | 34 => .array .int
  | 35 => .array .int
  | 36 => .array .boolean
  | 37 => .array .int
  | 38 => .int
  | 39 => .array .int
  | 40 => .boolean
  | 41 => .array .boolean
  | 42 => .array .long
  | 43 => .array .long
  | 44 => .array .boolean
  | 45 => .int
  | 46 => .int
  | 47 => .int
  | 48 => .array .long
  | 49 => .boolean
  | 50 => .int
  | 51 => .array .boolean
  | 52 => .array .int
  | 53 => .array .int
  | 54 => .array .int
  | 55 => .array .int
  | 56 => .int
  | 57 => .array .int
  | 58 => .array .int
  | 59 => .array .int
  | 60 => .array .int
  | 61 => .array .boolean
  | 62 => .boolean
  | 63 => .array .boolean
  | 64 => .array .boolean
  | 65 => .array .long
  | 66 => .array .long
  | 67 => .array .int
  | 68 => .boolean
  | 69 => .int
  | 70 => .boolean
  | 71 => .int
  | 72 => .int
  | 73 => .int
  | 74 => .boolean
  | 75 => .int
  | 76 => .boolean
  | 77 => .boolean
  | 78 => .int
  | 79 => .array .int
  | 80 => .array .int
  | 81 => .array .int
  | 82 => .array .int
  | 83 => .array .int
  | 84 => .array .int
  | 85 => .array .int
  | 86 => .array .boolean
  | 87 => .int
  | 88 => .boolean
  | 89 => .int
  | 90 => .boolean
  | 91 => .int
  | 92 => .array .int
  | 93 => .array .boolean
  | 94 => .array .long
  | 95 => .array .long
  | 96 => .array .long
  | 97 => .array .boolean
  | 98 => .array .int
  | 99 => .array .int
  | 100 => .int
  | 101 => .int
  | 102 => .int
  | 103 => .array .int
  | 104 => .array .int
  | 105 => .array .int
  | 106 => .array .int
  | 107 => .array .int
  | 108 => .array .int
  | 109 => .array .int
  | 110 => .int
  | 111 => .long
  | 112 => .int
  | 113 => .int
  | 114 => .int
  | 115 => .array .int
  | 116 => .array .int
  | 117 => .array .int
  | 118 => .int
  | 119 => .int
  | 120 => .array .int
  | 121 => .array .int
  | 122 => .array .int
  | 123 => .int
  | 124 => .array .int
  | 125 => .array .int
  | 126 => .array .int
  | 127 => .array .int
  | 128 => .array .int
  | 129 => .array .int
  | 130 => .array .boolean
  | 131 => .array .int
  | 132 => .array .int
  | 133 => .array .int
  | 134 => .array .boolean
  | 135 => .int
  | 136 => .array .int
  | 137 => .int
  | 138 => .array .int
  | 139 => .array .int
  | 140 => .int
  | 141 => .array .int
  | 142 => .int
  | 143 => .array .int
  | _ => .array .int
abbrev wsX130 : List Cond := u_ws RX13 TX13 145
theorem nmX13 : ∀ a, a < 145 → ∀ b, b < 145 → a ≠ b → (TX13 a).2.1 ≠ (TX13 b).2.1 := by decide +kernel
theorem tyX13_ok : ∀ k, k < 145 → parseFieldDescriptor (TX13 k).2.2.1 = some (tyX13 k) := by decide +kernel
abbrev cX13_thrown : ByteArray := prog_15_method_1_code
def yX13_thrown : MethodName := ⟨RX13, "thrown", "()I"⟩
abbrev cX13_in : ByteArray := prog_15_method_2_code
def yX13_in : MethodName := ⟨RX13, "in", "(JJJ)Z"⟩
abbrev cX13_put : ByteArray := prog_15_method_3_code
def yX13_put : MethodName := ⟨RX13, "put", "(IJ)V"⟩
abbrev cX13_copy : ByteArray := prog_15_method_4_code
def yX13_copy : MethodName := ⟨RX13, "copy", "(II)V"⟩
abbrev cX13_compareSizes : ByteArray := prog_15_method_5_code
def yX13_compareSizes : MethodName := ⟨RX13, "compareSizes", "(II)I"⟩
abbrev cX13_compare : ByteArray := prog_15_method_6_code
def yX13_compare : MethodName := ⟨RX13, "compare", "(II)I"⟩
abbrev cX13_addSizes : ByteArray := prog_15_method_7_code
def yX13_addSizes : MethodName := ⟨RX13, "addSizes", "(III)V"⟩
abbrev cX13_lessSizes : ByteArray := prog_15_method_8_code
def yX13_lessSizes : MethodName := ⟨RX13, "lessSizes", "(III)V"⟩
abbrev cX13_plus : ByteArray := prog_15_method_9_code
def yX13_plus : MethodName := ⟨RX13, "plus", "(IIII)V"⟩
abbrev cX13_times : ByteArray := prog_15_method_10_code
def yX13_times : MethodName := ⟨RX13, "times", "(III)V"⟩
abbrev cX13_scale : ByteArray := prog_15_method_11_code
def yX13_scale : MethodName := ⟨RX13, "scale", "(IIJ)V"⟩
abbrev cX13_divide : ByteArray := prog_15_method_12_code
def yX13_divide : MethodName := ⟨RX13, "divide", "(IIII)V"⟩
abbrev cX13_spread : ByteArray := prog_15_method_13_code
def yX13_spread : MethodName := ⟨RX13, "spread", "([IIJ)V"⟩
abbrev cX13_takeAway : ByteArray := prog_15_method_14_code
def yX13_takeAway : MethodName := ⟨RX13, "takeAway", "(IIJ)J"⟩
abbrev cX13_finish : ByteArray := prog_15_method_15_code
def yX13_finish : MethodName := ⟨RX13, "finish", "(II)V"⟩
abbrev cX13_divideByOne : ByteArray := prog_15_method_16_code
def yX13_divideByOne : MethodName := ⟨RX13, "divideByOne", "(IIIJ)V"⟩
abbrev cX13_common : ByteArray := prog_15_method_17_code
def yX13_common : MethodName := ⟨RX13, "common", "(III)V"⟩
abbrev cX13_parts : ByteArray := prog_15_method_18_code
def yX13_parts : MethodName := ⟨RX13, "parts", "(III)V"⟩
abbrev cX13_lowest : ByteArray := prog_15_method_19_code
def yX13_lowest : MethodName := ⟨RX13, "lowest", "(II)V"⟩
abbrev cX13_make : ByteArray := prog_15_method_20_code
def yX13_make : MethodName := ⟨RX13, "make", "(II)I"⟩
abbrev cX13_makeWhole : ByteArray := prog_15_method_21_code
def yX13_makeWhole : MethodName := ⟨RX13, "makeWhole", "(JJ)I"⟩
abbrev cX13_figures : ByteArray := prog_15_method_22_code
def yX13_figures : MethodName := ⟨RX13, "figures", "(I)I"⟩
abbrev cX13_figure : ByteArray := prog_15_method_23_code
def yX13_figure : MethodName := ⟨RX13, "figure", "(II)I"⟩
abbrev cX13_mod : ByteArray := prog_15_method_24_code
def yX13_mod : MethodName := ⟨RX13, "mod", "(J)J"⟩
abbrev cX13_inverse : ByteArray := prog_15_method_25_code
def yX13_inverse : MethodName := ⟨RX13, "inverse", "(JJ)J"⟩
abbrev cX13_inverse_ : ByteArray := prog_15_method_26_code
def yX13_inverse_ : MethodName := ⟨RX13, "inverse", "(J)J"⟩
abbrev cX13_solve : ByteArray := prog_15_method_27_code
def yX13_solve : MethodName := ⟨RX13, "solve", "(II)J"⟩
abbrev cX13_swap : ByteArray := prog_15_method_28_code
def yX13_swap : MethodName := ⟨RX13, "swap", "(III)V"⟩
abbrev cX13_clear : ByteArray := prog_15_method_29_code
def yX13_clear : MethodName := ⟨RX13, "clear", "(IIII)V"⟩
abbrev cX13_clearMatrix : ByteArray := prog_15_method_30_code
def yX13_clearMatrix : MethodName := ⟨RX13, "clearMatrix", "(II)V"⟩
abbrev cX13_join : ByteArray := prog_15_method_31_code
def yX13_join : MethodName := ⟨RX13, "join", "(IIJ)V"⟩
abbrev cX13_usePrime : ByteArray := prog_15_method_32_code
def yX13_usePrime : MethodName := ⟨RX13, "usePrime", "(I)V"⟩
abbrev cX13_tell : ByteArray := prog_15_method_33_code
def yX13_tell : MethodName := ⟨RX13, "tell", "(IJ)V"⟩
abbrev cX13_fromResidues : ByteArray := prog_15_method_34_code
def yX13_fromResidues : MethodName := ⟨RX13, "fromResidues", "(II)V"⟩
abbrev cX13_stretch : ByteArray := prog_15_method_35_code
def yX13_stretch : MethodName := ⟨RX13, "stretch", "(IJJ)V"⟩
abbrev cX13_feed : ByteArray := prog_15_method_36_code
def yX13_feed : MethodName := ⟨RX13, "feed", "(IIIII)I"⟩
abbrev cX13_end : ByteArray := prog_15_method_37_code
def yX13_end : MethodName := ⟨RX13, "end", "(I)V"⟩
abbrev cX13_isLetter : ByteArray := prog_15_method_38_code
def yX13_isLetter : MethodName := ⟨RX13, "isLetter", "(I)Z"⟩
abbrev cX13_isFigure : ByteArray := prog_15_method_39_code
def yX13_isFigure : MethodName := ⟨RX13, "isFigure", "(I)Z"⟩
abbrev cX13_findWords : ByteArray := prog_15_method_40_code
def yX13_findWords : MethodName := ⟨RX13, "findWords", "()V"⟩
abbrev cX13_isAt : ByteArray := prog_15_method_41_code
def yX13_isAt : MethodName := ⟨RX13, "isAt", "(II)Z"⟩
abbrev cX13_isKey : ByteArray := prog_15_method_42_code
def yX13_isKey : MethodName := ⟨RX13, "isKey", "(I)Z"⟩
abbrev cX13_is : ByteArray := prog_15_method_43_code
def yX13_is : MethodName := ⟨RX13, "is", "(Ljava/lang/String;)Z"⟩
abbrev cX13_wrong : ByteArray := prog_15_method_44_code
def yX13_wrong : MethodName := ⟨RX13, "wrong", "()V"⟩
abbrev cX13_want : ByteArray := prog_15_method_45_code
def yX13_want : MethodName := ⟨RX13, "want", "(Ljava/lang/String;)V"⟩
abbrev cX13_takes : ByteArray := prog_15_method_46_code
def yX13_takes : MethodName := ⟨RX13, "takes", "(Ljava/lang/String;)Z"⟩
abbrev cX13_number : ByteArray := prog_15_method_47_code
def yX13_number : MethodName := ⟨RX13, "number", "(II)I"⟩
abbrev cX13_isName : ByteArray := prog_15_method_48_code
def yX13_isName : MethodName := ⟨RX13, "isName", "()Z"⟩
abbrev cX13_most : ByteArray := prog_15_method_49_code
def yX13_most : MethodName := ⟨RX13, "most", "(I)I"⟩
abbrev cX13_fields : ByteArray := prog_15_method_50_code
def yX13_fields : MethodName := ⟨RX13, "fields", "(I)I"⟩
abbrev cX13_f : ByteArray := prog_15_method_51_code
def yX13_f : MethodName := ⟨RX13, "f", "(III)I"⟩
abbrev cX13_of : ByteArray := prog_15_method_52_code
def yX13_of : MethodName := ⟨RX13, "of", "(III)I"⟩
abbrev cX13_isObject : ByteArray := prog_15_method_53_code
def yX13_isObject : MethodName := ⟨RX13, "isObject", "(II)Z"⟩
abbrev cX13_named : ByteArray := prog_15_method_54_code
def yX13_named : MethodName := ⟨RX13, "named", "(IZ)I"⟩
abbrev cX13_newOne : ByteArray := prog_15_method_55_code
def yX13_newOne : MethodName := ⟨RX13, "newOne", "(I)V"⟩
abbrev cX13_newBar : ByteArray := prog_15_method_56_code
def yX13_newBar : MethodName := ⟨RX13, "newBar", "(I)I"⟩
abbrev cX13_readNet : ByteArray := prog_15_method_57_code
def yX13_readNet : MethodName := ⟨RX13, "readNet", "()V"⟩
abbrev cX13_readObject : ByteArray := prog_15_method_58_code
def yX13_readObject : MethodName := ⟨RX13, "readObject", "(I)V"⟩
abbrev cX13_readMachine : ByteArray := prog_15_method_59_code
def yX13_readMachine : MethodName := ⟨RX13, "readMachine", "(II)V"⟩
abbrev cX13_net : ByteArray := prog_15_method_60_code
def yX13_net : MethodName := ⟨RX13, "net", "()I"⟩
abbrev cX13_changed : ByteArray := prog_15_method_61_code
def yX13_changed : MethodName := ⟨RX13, "changed", "()V"⟩
abbrev cX13_find : ByteArray := prog_15_method_62_code
def yX13_find : MethodName := ⟨RX13, "find", "()I"⟩
abbrev cX13_name : ByteArray := prog_15_method_63_code
def yX13_name : MethodName := ⟨RX13, "name", "(III)I"⟩
abbrev cX13_get : ByteArray := prog_15_method_64_code
def yX13_get : MethodName := ⟨RX13, "get", "(III)I"⟩
abbrev cX13_mayBe : ByteArray := prog_15_method_65_code
def yX13_mayBe : MethodName := ⟨RX13, "mayBe", "(IIII)Z"⟩
abbrev cX13_set : ByteArray := prog_15_method_66_code
def yX13_set : MethodName := ⟨RX13, "set", "(IIII)I"⟩
abbrev cX13_keep : ByteArray := prog_15_method_67_code
def yX13_keep : MethodName := ⟨RX13, "keep", "(I)V"⟩
abbrev cX13_back : ByteArray := prog_15_method_68_code
def yX13_back : MethodName := ⟨RX13, "back", "(I)V"⟩
abbrev cX13_asItIs : ByteArray := prog_15_method_69_code
def yX13_asItIs : MethodName := ⟨RX13, "asItIs", "()V"⟩
abbrev cX13_merge : ByteArray := prog_15_method_70_code
def yX13_merge : MethodName := ⟨RX13, "merge", "([III)V"⟩
abbrev cX13_topology : ByteArray := prog_15_method_71_code
def yX13_topology : MethodName := ⟨RX13, "topology", "()V"⟩
abbrev cX13_nodeOfLine : ByteArray := prog_15_method_72_code
def yX13_nodeOfLine : MethodName := ⟨RX13, "nodeOfLine", "(II)I"⟩
abbrev cX13_islandOfLine : ByteArray := prog_15_method_73_code
def yX13_islandOfLine : MethodName := ⟨RX13, "islandOfLine", "(I)I"⟩
abbrev cX13_isBetween : ByteArray := prog_15_method_74_code
def yX13_isBetween : MethodName := ⟨RX13, "isBetween", "(I)Z"⟩
abbrev cX13_listNodes : ByteArray := prog_15_method_75_code
def yX13_listNodes : MethodName := ⟨RX13, "listNodes", "(I)V"⟩
abbrev cX13_bar : ByteArray := prog_15_method_76_code
def yX13_bar : MethodName := ⟨RX13, "bar", "(II)I"⟩
abbrev cX13_netTopology : ByteArray := prog_15_method_77_code
def yX13_netTopology : MethodName := ⟨RX13, "netTopology", "()V"⟩
abbrev cX13_netFlows : ByteArray := prog_15_method_78_code
def yX13_netFlows : MethodName := ⟨RX13, "netFlows", "()V"⟩
abbrev cX13_flows : ByteArray := prog_15_method_79_code
def yX13_flows : MethodName := ⟨RX13, "flows", "()V"⟩
abbrev cX13_times_ : ByteArray := prog_15_method_80_code
def yX13_times_ : MethodName := ⟨RX13, "times", "(I)J"⟩
abbrev cX13_putAllIn : ByteArray := prog_15_method_81_code
def yX13_putAllIn : MethodName := ⟨RX13, "putAllIn", "(I)V"⟩
abbrev cX13_joinLines : ByteArray := prog_15_method_82_code
def yX13_joinLines : MethodName := ⟨RX13, "joinLines", "(I)J"⟩
abbrev cX13_flowsOf : ByteArray := prog_15_method_83_code
def yX13_flowsOf : MethodName := ⟨RX13, "flowsOf", "(I)V"⟩
abbrev cX13_tellLines : ByteArray := prog_15_method_84_code
def yX13_tellLines : MethodName := ⟨RX13, "tellLines", "(IIJ)V"⟩
abbrev cX13_angleAt : ByteArray := prog_15_method_85_code
def yX13_angleAt : MethodName := ⟨RX13, "angleAt", "(II)J"⟩
abbrev cX13_angle : ByteArray := prog_15_method_86_code
def yX13_angle : MethodName := ⟨RX13, "angle", "(I)I"⟩
abbrev cX13_carries : ByteArray := prog_15_method_87_code
def yX13_carries : MethodName := ⟨RX13, "carries", "(I)I"⟩
abbrev cX13_gives : ByteArray := prog_15_method_88_code
def yX13_gives : MethodName := ⟨RX13, "gives", "(I)I"⟩
abbrev cX13_count : ByteArray := prog_15_method_89_code
def yX13_count : MethodName := ⟨RX13, "count", "(I)I"⟩
abbrev cX13_screenAll : ByteArray := prog_15_method_90_code
def yX13_screenAll : MethodName := ⟨RX13, "screenAll", "()V"⟩
abbrev cX13_screen : ByteArray := prog_15_method_91_code
def yX13_screen : MethodName := ⟨RX13, "screen", "()I"⟩
abbrev cX13_trouble : ByteArray := prog_15_method_92_code
def yX13_trouble : MethodName := ⟨RX13, "trouble", "(II)I"⟩
abbrev cX13_meter : ByteArray := prog_15_method_93_code
def yX13_meter : MethodName := ⟨RX13, "meter", "(IIII)I"⟩
abbrev cX13_strike : ByteArray := prog_15_method_94_code
def yX13_strike : MethodName := ⟨RX13, "strike", "(IZ)Z"⟩
abbrev cX13_islandOfMeter : ByteArray := prog_15_method_95_code
def yX13_islandOfMeter : MethodName := ⟨RX13, "islandOfMeter", "(I)I"⟩
abbrev cX13_addShown : ByteArray := prog_15_method_96_code
def yX13_addShown : MethodName := ⟨RX13, "addShown", "(IIJ)V"⟩
abbrev cX13_showAll : ByteArray := prog_15_method_97_code
def yX13_showAll : MethodName := ⟨RX13, "showAll", "(I)V"⟩
abbrev cX13_counts : ByteArray := prog_15_method_98_code
def yX13_counts : MethodName := ⟨RX13, "counts", "(II)Z"⟩
abbrev cX13_estimates : ByteArray := prog_15_method_99_code
def yX13_estimates : MethodName := ⟨RX13, "estimates", "()V"⟩
abbrev cX13_estimateOf : ByteArray := prog_15_method_100_code
def yX13_estimateOf : MethodName := ⟨RX13, "estimateOf", "(II)V"⟩
abbrev cX13_equations : ByteArray := prog_15_method_101_code
def yX13_equations : MethodName := ⟨RX13, "equations", "(II)J"⟩
abbrev cX13_tellEstimate : ByteArray := prog_15_method_102_code
def yX13_tellEstimate : MethodName := ⟨RX13, "tellEstimate", "(IIJ)V"⟩
abbrev cX13_seenOf : ByteArray := prog_15_method_103_code
def yX13_seenOf : MethodName := ⟨RX13, "seenOf", "(II)V"⟩
abbrev cX13_isNew : ByteArray := prog_15_method_104_code
def yX13_isNew : MethodName := ⟨RX13, "isNew", "(II)Z"⟩
abbrev cX13_reduced : ByteArray := prog_15_method_105_code
def yX13_reduced : MethodName := ⟨RX13, "reduced", "(II)I"⟩
abbrev cX13_seen : ByteArray := prog_15_method_106_code
def yX13_seen : MethodName := ⟨RX13, "seen", "(I)I"⟩
abbrev cX13_estimate : ByteArray := prog_15_method_107_code
def yX13_estimate : MethodName := ⟨RX13, "estimate", "(I)I"⟩
abbrev cX13_rest : ByteArray := prog_15_method_108_code
def yX13_rest : MethodName := ⟨RX13, "rest", "(II)I"⟩
abbrev cX13_worst : ByteArray := prog_15_method_109_code
def yX13_worst : MethodName := ⟨RX13, "worst", "()I"⟩
abbrev cX13_isWorse : ByteArray := prog_15_method_110_code
def yX13_isWorse : MethodName := ⟨RX13, "isWorse", "(II)Z"⟩
abbrev cX13_worstOf : ByteArray := prog_15_method_111_code
def yX13_worstOf : MethodName := ⟨RX13, "worstOf", "(III)V"⟩
abbrev cX13_shortAt : ByteArray := prog_15_method_112_code
def yX13_shortAt : MethodName := ⟨RX13, "shortAt", "(III)V"⟩
abbrev cX13_shortOn : ByteArray := prog_15_method_113_code
def yX13_shortOn : MethodName := ⟨RX13, "shortOn", "(IIII)V"⟩
abbrev cX13_shortIs : ByteArray := prog_15_method_114_code
def yX13_shortIs : MethodName := ⟨RX13, "shortIs", "(IZIII)V"⟩
abbrev cX13_clearShort : ByteArray := prog_15_method_115_code
def yX13_clearShort : MethodName := ⟨RX13, "clearShort", "()Z"⟩
abbrev cX13_netShort : ByteArray := prog_15_method_116_code
def yX13_netShort : MethodName := ⟨RX13, "netShort", "()V"⟩
abbrev cX13_placeRow : ByteArray := prog_15_method_117_code
def yX13_placeRow : MethodName := ⟨RX13, "placeRow", "()I"⟩
abbrev cX13_shorts : ByteArray := prog_15_method_118_code
def yX13_shorts : MethodName := ⟨RX13, "shorts", "()V"⟩
abbrev cX13_isOnIn : ByteArray := prog_15_method_119_code
def yX13_isOnIn : MethodName := ⟨RX13, "isOnIn", "(II)Z"⟩
abbrev cX13_potentials : ByteArray := prog_15_method_120_code
def yX13_potentials : MethodName := ⟨RX13, "potentials", "(III)V"⟩
abbrev cX13_joinParts : ByteArray := prog_15_method_121_code
def yX13_joinParts : MethodName := ⟨RX13, "joinParts", "(II)J"⟩
abbrev cX13_currentsOfShort : ByteArray := prog_15_method_122_code
def yX13_currentsOfShort : MethodName := ⟨RX13, "currentsOfShort", "()V"⟩
abbrev cX13_into : ByteArray := prog_15_method_123_code
def yX13_into : MethodName := ⟨RX13, "into", "(I)I"⟩
abbrev cX13_voltagesOf : ByteArray := prog_15_method_124_code
def yX13_voltagesOf : MethodName := ⟨RX13, "voltagesOf", "(I)V"⟩
abbrev cX13_currentsInto : ByteArray := prog_15_method_125_code
def yX13_currentsInto : MethodName := ⟨RX13, "currentsInto", "(II)V"⟩
abbrev cX13_squareA : ByteArray := prog_15_method_126_code
def yX13_squareA : MethodName := ⟨RX13, "squareA", "(II)V"⟩
abbrev cX13_squareB : ByteArray := prog_15_method_127_code
def yX13_squareB : MethodName := ⟨RX13, "squareB", "(II)V"⟩
abbrev cX13_makeOf : ByteArray := prog_15_method_128_code
def yX13_makeOf : MethodName := ⟨RX13, "makeOf", "(I)I"⟩
abbrev cX13_voltage : ByteArray := prog_15_method_129_code
def yX13_voltage : MethodName := ⟨RX13, "voltage", "(II)I"⟩
abbrev cX13_current : ByteArray := prog_15_method_130_code
def yX13_current : MethodName := ⟨RX13, "current", "(III)I"⟩
abbrev cX13_rowsOfShort : ByteArray := prog_15_method_131_code
def yX13_rowsOfShort : MethodName := ⟨RX13, "rowsOfShort", "()V"⟩
abbrev cX13_relay : ByteArray := prog_15_method_132_code
def yX13_relay : MethodName := ⟨RX13, "relay", "(IIII)I"⟩
abbrev cX13_row : ByteArray := prog_15_method_133_code
def yX13_row : MethodName := ⟨RX13, "row", "(III)I"⟩
abbrev cX13_fails : ByteArray := prog_15_method_134_code
def yX13_fails : MethodName := ⟨RX13, "fails", "(IZ)Z"⟩
abbrev cX13_backup : ByteArray := prog_15_method_135_code
def yX13_backup : MethodName := ⟨RX13, "backup", "(I)I"⟩
abbrev cX13_lookAt : ByteArray := prog_15_method_136_code
def yX13_lookAt : MethodName := ⟨RX13, "lookAt", "(I)V"⟩
abbrev cX13_isMet : ByteArray := prog_15_method_137_code
def yX13_isMet : MethodName := ⟨RX13, "isMet", "(II)Z"⟩
abbrev cX13_met : ByteArray := prog_15_method_138_code
def yX13_met : MethodName := ⟨RX13, "met", "(II)Z"⟩
abbrev cX13_asInRun : ByteArray := prog_15_method_139_code
def yX13_asInRun : MethodName := ⟨RX13, "asInRun", "()V"⟩
abbrev cX13_look : ByteArray := prog_15_method_140_code
def yX13_look : MethodName := ⟨RX13, "look", "(J)I"⟩
abbrev cX13_begin : ByteArray := prog_15_method_141_code
def yX13_begin : MethodName := ⟨RX13, "begin", "()I"⟩
abbrev cX13_giveOrder : ByteArray := prog_15_method_142_code
def yX13_giveOrder : MethodName := ⟨RX13, "giveOrder", "(IJ)Z"⟩
abbrev cX13_isDue : ByteArray := prog_15_method_143_code
def yX13_isDue : MethodName := ⟨RX13, "isDue", "(II)Z"⟩
abbrev cX13_nextTime : ByteArray := prog_15_method_144_code
def yX13_nextTime : MethodName := ⟨RX13, "nextTime", "()J"⟩
abbrev cX13_openAll : ByteArray := prog_15_method_145_code
def yX13_openAll : MethodName := ⟨RX13, "openAll", "(J)I"⟩
abbrev cX13_backUp : ByteArray := prog_15_method_146_code
def yX13_backUp : MethodName := ⟨RX13, "backUp", "(IJ)V"⟩
abbrev cX13_actsAt : ByteArray := prog_15_method_147_code
def yX13_actsAt : MethodName := ⟨RX13, "actsAt", "(J)I"⟩
abbrev cX13_run : ByteArray := prog_15_method_148_code
def yX13_run : MethodName := ⟨RX13, "run", "(I)I"⟩
abbrev cX13_opened : ByteArray := prog_15_method_149_code
def yX13_opened : MethodName := ⟨RX13, "opened", "(II)I"⟩
abbrev cX13_ordered : ByteArray := prog_15_method_150_code
def yX13_ordered : MethodName := ⟨RX13, "ordered", "(I)Z"⟩
abbrev cX13_cellOf : ByteArray := prog_15_method_151_code
def yX13_cellOf : MethodName := ⟨RX13, "cellOf", "(III)I"⟩
abbrev cX13_aimOf : ByteArray := prog_15_method_152_code
def yX13_aimOf : MethodName := ⟨RX13, "aimOf", "(III)I"⟩
abbrev cX13_pointOf : ByteArray := prog_15_method_153_code
def yX13_pointOf : MethodName := ⟨RX13, "pointOf", "(II)I"⟩
abbrev cX13_sharesOf : ByteArray := prog_15_method_154_code
def yX13_sharesOf : MethodName := ⟨RX13, "sharesOf", "(I)V"⟩
abbrev cX13_sharesBy : ByteArray := prog_15_method_155_code
def yX13_sharesBy : MethodName := ⟨RX13, "sharesBy", "(II)J"⟩
abbrev cX13_linePlanes : ByteArray := prog_15_method_156_code
def yX13_linePlanes : MethodName := ⟨RX13, "linePlanes", "(I)V"⟩
abbrev cX13_shorten : ByteArray := prog_15_method_157_code
def yX13_shorten : MethodName := ⟨RX13, "shorten", "(III)V"⟩
abbrev cX13_bestOfCell : ByteArray := prog_15_method_158_code
def yX13_bestOfCell : MethodName := ⟨RX13, "bestOfCell", "()Z"⟩
abbrev cX13_solveLevel : ByteArray := prog_15_method_159_code
def yX13_solveLevel : MethodName := ⟨RX13, "solveLevel", "(I)Z"⟩
abbrev cX13_onPlane : ByteArray := prog_15_method_160_code
def yX13_onPlane : MethodName := ⟨RX13, "onPlane", "(III)V"⟩
abbrev cX13_cross : ByteArray := prog_15_method_161_code
def yX13_cross : MethodName := ⟨RX13, "cross", "(IIIIII)V"⟩
abbrev cX13_boundRows : ByteArray := prog_15_method_162_code
def yX13_boundRows : MethodName := ⟨RX13, "boundRows", "(III)V"⟩
abbrev cX13_fromPlane : ByteArray := prog_15_method_163_code
def yX13_fromPlane : MethodName := ⟨RX13, "fromPlane", "(III)V"⟩
abbrev cX13_lowestPoint : ByteArray := prog_15_method_164_code
def yX13_lowestPoint : MethodName := ⟨RX13, "lowestPoint", "(II)V"⟩
abbrev cX13_turns : ByteArray := prog_15_method_165_code
def yX13_turns : MethodName := ⟨RX13, "turns", "(I)Z"⟩
abbrev cX13_cell : ByteArray := prog_15_method_166_code
def yX13_cell : MethodName := ⟨RX13, "cell", "(I)V"⟩
abbrev cX13_sideOf : ByteArray := prog_15_method_167_code
def yX13_sideOf : MethodName := ⟨RX13, "sideOf", "(III)I"⟩
abbrev cX13_costOf : ByteArray := prog_15_method_168_code
def yX13_costOf : MethodName := ⟨RX13, "costOf", "(III)V"⟩
abbrev cX13_isBetter : ByteArray := prog_15_method_169_code
def yX13_isBetter : MethodName := ⟨RX13, "isBetter", "()Z"⟩
abbrev cX13_bestOf : ByteArray := prog_15_method_170_code
def yX13_bestOf : MethodName := ⟨RX13, "bestOf", "(I)Z"⟩
abbrev cX13_dispatchOf : ByteArray := prog_15_method_171_code
def yX13_dispatchOf : MethodName := ⟨RX13, "dispatchOf", "(I)Z"⟩
abbrev cX13_dispatchNet : ByteArray := prog_15_method_172_code
def yX13_dispatchNet : MethodName := ⟨RX13, "dispatchNet", "()V"⟩
abbrev cX13_addDispatch : ByteArray := prog_15_method_173_code
def yX13_addDispatch : MethodName := ⟨RX13, "addDispatch", "()V"⟩
abbrev cX13_dispatch : ByteArray := prog_15_method_174_code
def yX13_dispatch : MethodName := ⟨RX13, "dispatch", "()I"⟩
abbrev cX13_cost : ByteArray := prog_15_method_175_code
def yX13_cost : MethodName := ⟨RX13, "cost", "()I"⟩
abbrev cX13_sets : ByteArray := prog_15_method_176_code
def yX13_sets : MethodName := ⟨RX13, "sets", "(I)I"⟩
abbrev cX13_price : ByteArray := prog_15_method_177_code
def yX13_price : MethodName := ⟨RX13, "price", "(I)I"⟩
abbrev cX13_act : ByteArray := prog_15_method_178_code
def yX13_act : MethodName := ⟨RX13, "act", "()I"⟩
abbrev cX13_isOfBar : ByteArray := prog_15_method_179_code
def yX13_isOfBar : MethodName := ⟨RX13, "isOfBar", "(I)Z"⟩
abbrev cX13_add : ByteArray := prog_15_method_180_code
def yX13_add : MethodName := ⟨RX13, "add", "(IZII)V"⟩
abbrev cX13_word : ByteArray := prog_15_method_181_code
def yX13_word : MethodName := ⟨RX13, "word", "(II)I"⟩
abbrev cX13_condition : ByteArray := prog_15_method_182_code
def yX13_condition : MethodName := ⟨RX13, "condition", "(II)V"⟩
abbrev cX13_allOf : ByteArray := prog_15_method_183_code
def yX13_allOf : MethodName := ⟨RX13, "allOf", "(II)V"⟩
abbrev cX13_one : ByteArray := prog_15_method_184_code
def yX13_one : MethodName := ⟨RX13, "one", "(II)V"⟩
abbrev cX13_told : ByteArray := prog_15_method_185_code
def yX13_told : MethodName := ⟨RX13, "told", "(IZ)V"⟩
abbrev cX13_rules : ByteArray := prog_15_method_186_code
def yX13_rules : MethodName := ⟨RX13, "rules", "()I"⟩
abbrev cX13_order : ByteArray := prog_15_method_187_code
def yX13_order : MethodName := ⟨RX13, "order", "()I"⟩
abbrev cX13_see : ByteArray := prog_15_method_188_code
def yX13_see : MethodName := ⟨RX13, "see", "(I)V"⟩
abbrev cX13_overOf : ByteArray := prog_15_method_189_code
def yX13_overOf : MethodName := ⟨RX13, "overOf", "(I)I"⟩
abbrev cX13_objectOf : ByteArray := prog_15_method_190_code
def yX13_objectOf : MethodName := ⟨RX13, "objectOf", "(II)I"⟩
abbrev cX13_holdsCode : ByteArray := prog_15_method_191_code
def yX13_holdsCode : MethodName := ⟨RX13, "holdsCode", "(II)Z"⟩
abbrev cX13_holds : ByteArray := prog_15_method_192_code
def yX13_holds : MethodName := ⟨RX13, "holds", "(II)Z"⟩
abbrev cX13_fieldOf : ByteArray := prog_15_method_193_code
def yX13_fieldOf : MethodName := ⟨RX13, "fieldOf", "(II)I"⟩
abbrev cX13_valueOf : ByteArray := prog_15_method_194_code
def yX13_valueOf : MethodName := ⟨RX13, "valueOf", "(I)I"⟩
abbrev cX13_isBarred : ByteArray := prog_15_method_195_code
def yX13_isBarred : MethodName := ⟨RX13, "isBarred", "(II)Z"⟩
abbrev cX13_remember : ByteArray := prog_15_method_196_code
def yX13_remember : MethodName := ⟨RX13, "remember", "()V"⟩
abbrev cX13_comeBack : ByteArray := prog_15_method_197_code
def yX13_comeBack : MethodName := ⟨RX13, "comeBack", "()V"⟩
abbrev cX13_goThrough : ByteArray := prog_15_method_198_code
def yX13_goThrough : MethodName := ⟨RX13, "goThrough", "()I"⟩
abbrev cX13_barred : ByteArray := prog_15_method_199_code
def yX13_barred : MethodName := ⟨RX13, "barred", "(I)I"⟩
abbrev cX13_carry : ByteArray := prog_15_method_200_code
def yX13_carry : MethodName := ⟨RX13, "carry", "()I"⟩
abbrev cX13_wellBy : ByteArray := prog_15_method_201_code
def yX13_wellBy : MethodName := ⟨RX13, "wellBy", "(I)V"⟩
abbrev cX13_goOn : ByteArray := prog_15_method_202_code
def yX13_goOn : MethodName := ⟨RX13, "goOn", "(III)V"⟩
abbrev cX13_restore : ByteArray := prog_15_method_203_code
def yX13_restore : MethodName := ⟨RX13, "restore", "(I)I"⟩
abbrev cX13_step : ByteArray := prog_15_method_204_code
def yX13_step : MethodName := ⟨RX13, "step", "(I)I"⟩
abbrev cX13_init : ByteArray := prog_15_method_205_code
def yX13_init : MethodName := ⟨RX13, "<init>", "()V"⟩
def RJ6 : String := "java/lang/Integer"
def TJ6 : u_T := fun k => match k with
  | _ => ("", "", "", false)
def tyJ6 : Nat → FieldType := fun k => match k with
  | _ => .int
abbrev wsJ60 : List Cond := u_ws RJ6 TJ6 0
theorem nmJ6 : ∀ a, a < 0 → ∀ b, b < 0 → a ≠ b → (TJ6 a).2.1 ≠ (TJ6 b).2.1 := by decide +kernel
theorem tyJ6_ok : ∀ k, k < 0 → parseFieldDescriptor (TJ6 k).2.2.1 = some (tyJ6 k) := by decide +kernel
abbrev cJ6_compare_7cf53 : ByteArray := prog_20_method_40_code
def yJ6_compare_7cf53 : MethodName := ⟨RJ6, "compare", "(II)I"⟩
def RJ9 : String := "java/lang/Math"
def TJ9 : u_T := fun k => match k with
  | _ => ("", "", "", false)
def tyJ9 : Nat → FieldType := fun k => match k with
  | _ => .int
abbrev wsJ90 : List Cond := u_ws RJ9 TJ9 0
theorem nmJ9 : ∀ a, a < 0 → ∀ b, b < 0 → a ≠ b → (TJ9 a).2.1 ≠ (TJ9 b).2.1 := by decide +kernel
theorem tyJ9_ok : ∀ k, k < 0 → parseFieldDescriptor (TJ9 k).2.2.1 = some (tyJ9 k) := by decide +kernel
abbrev cJ9_abs_067f4 : ByteArray := prog_21_method_61_code
def yJ9_abs_067f4 : MethodName := ⟨RJ9, "abs", "(J)J"⟩
abbrev cJ9_max_7cf53 : ByteArray := prog_21_method_65_code
def yJ9_max_7cf53 : MethodName := ⟨RJ9, "max", "(II)I"⟩
abbrev cJ9_max_f86c9 : ByteArray := prog_21_method_66_code
def yJ9_max_f86c9 : MethodName := ⟨RJ9, "max", "(JJ)J"⟩
abbrev cJ9_min_7cf53 : ByteArray := prog_21_method_69_code
def yJ9_min_7cf53 : MethodName := ⟨RJ9, "min", "(II)I"⟩
abbrev cJ9_min_f86c9 : ByteArray := prog_21_method_70_code
def yJ9_min_f86c9 : MethodName := ⟨RJ9, "min", "(JJ)J"⟩
def RJ0 : String := "java/lang/String"
def TJ0 : u_T := fun k => match k with
  | _ => ("", "", "", false)
def tyJ0 : Nat → FieldType := fun k => match k with
  | _ => .int
abbrev wsJ00 : List Cond := u_ws RJ0 TJ0 0
theorem nmJ0 : ∀ a, a < 0 → ∀ b, b < 0 → a ≠ b → (TJ0 a).2.1 ≠ (TJ0 b).2.1 := by decide +kernel
theorem tyJ0_ok : ∀ k, k < 0 → parseFieldDescriptor (TJ0 k).2.2.1 = some (tyJ0 k) := by decide +kernel
abbrev cJ0_length_8abf5 : ByteArray := prog_23_method_54_code
def yJ0_length_8abf5 : MethodName := ⟨RJ0, "length", "()I"⟩
abbrev cJ0_charAt_5068e : ByteArray := prog_23_method_56_code
def yJ0_charAt_5068e : MethodName := ⟨RJ0, "charAt", "(I)C"⟩
abbrev cJ0_coder_7d493 : ByteArray := prog_23_method_152_code
def yJ0_coder_7d493 : MethodName := ⟨RJ0, "coder", "()B"⟩
abbrev cJ0_isLatin1_aae02 : ByteArray := prog_23_method_154_code
def yJ0_isLatin1_aae02 : MethodName := ⟨RJ0, "isLatin1", "()Z"⟩
abbrev cJ0_checkIndex_df160 : ByteArray := prog_23_method_155_code
def yJ0_checkIndex_df160 : MethodName := ⟨RJ0, "checkIndex", "(II)V"⟩
def RJ1 : String := "java/lang/StringLatin1"
def TJ1 : u_T := fun k => match k with
  | _ => ("", "", "", false)
def tyJ1 : Nat → FieldType := fun k => match k with
  | _ => .int
abbrev wsJ10 : List Cond := u_ws RJ1 TJ1 0
theorem nmJ1 : ∀ a, a < 0 → ∀ b, b < 0 → a ≠ b → (TJ1 a).2.1 ≠ (TJ1 b).2.1 := by decide +kernel
theorem tyJ1_ok : ∀ k, k < 0 → parseFieldDescriptor (TJ1 k).2.2.1 = some (tyJ1 k) := by decide +kernel
abbrev cJ1_charAt_3b067 : ByteArray := prog_24_method_2_code
def yJ1_charAt_3b067 : MethodName := ⟨RJ1, "charAt", "([BI)C"⟩
def RJ2 : String := "java/lang/StringUTF16"
def TJ2 : u_T := fun k => match k with
  | _ => ("", "", "", false)
def tyJ2 : Nat → FieldType := fun k => match k with
  | _ => .int
abbrev wsJ20 : List Cond := u_ws RJ2 TJ2 0
theorem nmJ2 : ∀ a, a < 0 → ∀ b, b < 0 → a ≠ b → (TJ2 a).2.1 ≠ (TJ2 b).2.1 := by decide +kernel
theorem tyJ2_ok : ∀ k, k < 0 → parseFieldDescriptor (TJ2 k).2.2.1 = some (tyJ2 k) := by decide +kernel
abbrev cJ2_getChar_3b067 : ByteArray := prog_25_method_5_code
def yJ2_getChar_3b067 : MethodName := ⟨RJ2, "getChar", "([BI)C"⟩
abbrev cJ2_length_9d52b : ByteArray := prog_25_method_6_code
def yJ2_length_9d52b : MethodName := ⟨RJ2, "length", "([B)I"⟩
abbrev cJ2_charAt_3b067 : ByteArray := prog_25_method_83_code
def yJ2_charAt_3b067 : MethodName := ⟨RJ2, "charAt", "([BI)C"⟩
abbrev cJ2_checkIndex_2214a : ByteArray := prog_25_method_91_code
def yJ2_checkIndex_2214a : MethodName := ⟨RJ2, "checkIndex", "(I[B)V"⟩
def RJ10 : String := "java/lang/System"
def TJ10 : u_T := fun k => match k with
  | _ => ("", "", "", false)
def tyJ10 : Nat → FieldType := fun k => match k with
  | _ => .int
abbrev wsJ100 : List Cond := u_ws RJ10 TJ10 0
theorem nmJ10 : ∀ a, a < 0 → ∀ b, b < 0 → a ≠ b → (TJ10 a).2.1 ≠ (TJ10 b).2.1 := by decide +kernel
theorem tyJ10_ok : ∀ k, k < 0 → parseFieldDescriptor (TJ10 k).2.2.1 = some (tyJ10 k) := by decide +kernel
def RJ3 : String := "jdk/internal/util/Preconditions"
def TJ3 : u_T := fun k => match k with
  | _ => ("", "", "", false)
def tyJ3 : Nat → FieldType := fun k => match k with
  | _ => .int
abbrev wsJ30 : List Cond := u_ws RJ3 TJ3 0
theorem nmJ3 : ∀ a, a < 0 → ∀ b, b < 0 → a ≠ b → (TJ3 a).2.1 ≠ (TJ3 b).2.1 := by decide +kernel
theorem tyJ3_ok : ∀ k, k < 0 → parseFieldDescriptor (TJ3 k).2.2.1 = some (tyJ3 k) := by decide +kernel
abbrev cJ3_checkIndex_8e157 : ByteArray := prog_28_method_11_code
def yJ3_checkIndex_8e157 : MethodName := ⟨RJ3, "checkIndex", "(IILjava/util/function/BiFunction;)I"⟩
def RL : String := "GridHouseLaw"
abbrev cL_feed : ByteArray := method_3_code
def yL_feed : MethodName := ⟨RL, "feed", "(LGridHouse;IIIII[J)I"⟩
abbrev cL_end : ByteArray := method_4_code
def yL_end : MethodName := ⟨RL, "end", "(LGridHouse;I)I"⟩
abbrev cL_count : ByteArray := method_5_code
def yL_count : MethodName := ⟨RL, "count", "(LGridHouse;I[J)I"⟩
abbrev cL_get : ByteArray := method_6_code
def yL_get : MethodName := ⟨RL, "get", "(LGridHouse;III[J)I"⟩
abbrev cL_set : ByteArray := method_7_code
def yL_set : MethodName := ⟨RL, "set", "(LGridHouse;IIII[J)I"⟩
abbrev cL_keep : ByteArray := method_8_code
def yL_keep : MethodName := ⟨RL, "keep", "(LGridHouse;I)I"⟩
abbrev cL_back : ByteArray := method_9_code
def yL_back : MethodName := ⟨RL, "back", "(LGridHouse;I)I"⟩
abbrev cL_bar : ByteArray := method_10_code
def yL_bar : MethodName := ⟨RL, "bar", "(LGridHouse;II[J)I"⟩
abbrev cL_angle : ByteArray := method_11_code
def yL_angle : MethodName := ⟨RL, "angle", "(LGridHouse;I[J)I"⟩
abbrev cL_carries : ByteArray := method_12_code
def yL_carries : MethodName := ⟨RL, "carries", "(LGridHouse;I[J)I"⟩
abbrev cL_gives : ByteArray := method_13_code
def yL_gives : MethodName := ⟨RL, "gives", "(LGridHouse;I[J)I"⟩
abbrev cL_figures : ByteArray := method_14_code
def yL_figures : MethodName := ⟨RL, "figures", "(LGridHouse;I[J)I"⟩
abbrev cL_figure : ByteArray := method_15_code
def yL_figure : MethodName := ⟨RL, "figure", "(LGridHouse;II[J)I"⟩
abbrev cL_trouble : ByteArray := method_16_code
def yL_trouble : MethodName := ⟨RL, "trouble", "(LGridHouse;II[J)I"⟩
abbrev cL_meter : ByteArray := method_17_code
def yL_meter : MethodName := ⟨RL, "meter", "(LGridHouse;IIII[J)I"⟩
abbrev cL_strike : ByteArray := method_18_code
def yL_strike : MethodName := ⟨RL, "strike", "(LGridHouse;IZ[J)I"⟩
abbrev cL_seen : ByteArray := method_19_code
def yL_seen : MethodName := ⟨RL, "seen", "(LGridHouse;I[J)I"⟩
abbrev cL_estimate : ByteArray := method_20_code
def yL_estimate : MethodName := ⟨RL, "estimate", "(LGridHouse;I[J)I"⟩
abbrev cL_rest : ByteArray := method_21_code
def yL_rest : MethodName := ⟨RL, "rest", "(LGridHouse;II[J)I"⟩
abbrev cL_shortAt : ByteArray := method_22_code
def yL_shortAt : MethodName := ⟨RL, "shortAt", "(LGridHouse;III)I"⟩
abbrev cL_shortOn : ByteArray := method_23_code
def yL_shortOn : MethodName := ⟨RL, "shortOn", "(LGridHouse;IIII)I"⟩
abbrev cL_into : ByteArray := method_24_code
def yL_into : MethodName := ⟨RL, "into", "(LGridHouse;I[J)I"⟩
abbrev cL_voltage : ByteArray := method_25_code
def yL_voltage : MethodName := ⟨RL, "voltage", "(LGridHouse;II[J)I"⟩
abbrev cL_current : ByteArray := method_26_code
def yL_current : MethodName := ⟨RL, "current", "(LGridHouse;III[J)I"⟩
abbrev cL_relay : ByteArray := method_27_code
def yL_relay : MethodName := ⟨RL, "relay", "(LGridHouse;IIII[J)I"⟩
abbrev cL_row : ByteArray := method_28_code
def yL_row : MethodName := ⟨RL, "row", "(LGridHouse;III[J)I"⟩
abbrev cL_fails : ByteArray := method_29_code
def yL_fails : MethodName := ⟨RL, "fails", "(LGridHouse;IZ[J)I"⟩
abbrev cL_backup : ByteArray := method_30_code
def yL_backup : MethodName := ⟨RL, "backup", "(LGridHouse;I[J)I"⟩
abbrev cL_met : ByteArray := method_31_code
def yL_met : MethodName := ⟨RL, "met", "(LGridHouse;II[J)I"⟩
abbrev cL_begin : ByteArray := method_32_code
def yL_begin : MethodName := ⟨RL, "begin", "(LGridHouse;[J)I"⟩
abbrev cL_run : ByteArray := method_33_code
def yL_run : MethodName := ⟨RL, "run", "(LGridHouse;I[J)I"⟩
abbrev cL_cost : ByteArray := method_34_code
def yL_cost : MethodName := ⟨RL, "cost", "(LGridHouse;[J)I"⟩
abbrev cL_sets : ByteArray := method_35_code
def yL_sets : MethodName := ⟨RL, "sets", "(LGridHouse;I[J)I"⟩
abbrev cL_price : ByteArray := method_36_code
def yL_price : MethodName := ⟨RL, "price", "(LGridHouse;I[J)I"⟩
abbrev cL_barred : ByteArray := method_37_code
def yL_barred : MethodName := ⟨RL, "barred", "(LGridHouse;I[J)I"⟩
abbrev cL_restore : ByteArray := method_38_code
def yL_restore : MethodName := ⟨RL, "restore", "(LGridHouse;I[J)I"⟩
abbrev cL_law : ByteArray := code
def yL_law : MethodName := ⟨RL, "law", "([I)Z"⟩
abbrev vwCl : List vw_C := [(RX0, TX0, 3), (RX1, TX1, 20), (RX2, TX2, 17), (RX3, TX3, 8), (RX4, TX4, 19), (RX5, TX5, 8), (RX6, TX6, 20), (RX7, TX7, 20), (RX8, TX8, 12), (RX9, TX9, 20), (RX10, TX10, 9), (RX11, TX11, 8), (RX12, TX12, 15), (RX13, TX13, 145)]
/-! ===== END printed: names ===== -/
end
section
/-! ===== BEGIN a constructor that throws (launches without stack traces) ===== -/
section VXIA
variable {p : Program} {l : Launch} {e : Env} {R : Room} {s : State} {m : MethodId} {args : Array Value} {below : List Frame} {meth : Method} {c : Code} {T : State} {locs : List Loc} {cells slots : Nat}
theorem vx_callI (X : Stand p l e R s m args below meth c T locs cells slots) (hexec : p.tables.exec = Jvm.exec) {own : String} {index : Nat} {y : MethodName} {bytes : ByteArray} {maxL : Nat}
    (hown : s.vm.findClass own = some m.cls) (hy1 : y.name = "<init>") (hlink : (Cond.methodLink own index y).before args s = true) (hinst : (Cond.instanceMethod y).before args s = true)
    (hcode : (Cond.code y bytes maxL none).before args s = true) (hy : y.cls ≠ "java/lang/invoke/MethodHandle" ∧ y.cls ≠ "java/lang/invoke/VarHandle")
    {W9 : Nat} {Pre : Pt → Array Value → Prop} {Post : Pt → Array Value → Option Value → Pt → Prop} {PostX : Pt → Array Value → Addr → Pt → Prop} (hK : vx_Back l R p e below s args y 3 W9 Pre Post PostX)
    {g : JFrame} (hg : g.method = m) (hsize : g.locals.size = c.maxLocals) {a : Addr} {argsL rest : List Value} (hlen : ∀ sig, parseMethodDescriptor y.desc = some sig → argsL.length = sig.parameters.length)
    (hstack : g.stack = argsL.reverse ++ .ref a :: rest) (hW : 2 * g.monitorRoom + (rest.map fun v => v.category).sum ≤ W9) (hdg : decode c.code g.pc = .ok (.invokespecial index, 3))
    (hpre : ∀ vm₁, s.WarmedH vm₁ → Pre ⟨T.setVm vm₁, locs, cells, slots⟩ (Value.ref a :: argsL).toArray) :
    (∃ (v : Option Value) (vm₁ : Vm) (B : Pt), s.WarmedH vm₁ ∧ Stand p l e R s m args below meth c B.U B.locs B.cells B.slots ∧ Post ⟨T.setVm vm₁, locs, cells, slots⟩ (Value.ref a :: argsL).toArray v B ∧
      ∀ target, Steps p.tables e below (B.U.setTop { g with pc := g.pc + 3, stack := v.toList ++ rest }) target → Steps p.tables e below (T.setTop g) target) ∨
    (∃ (q : Addr) (vm₁ : Vm) (B : Pt), s.WarmedH vm₁ ∧ Stand p l e R s m args below meth c B.U B.locs B.cells B.slots ∧ PostX ⟨T.setVm vm₁, locs, cells, slots⟩ (Value.ref a :: argsL).toArray q B ∧
      Steps p.tables e below (T.setTop g) ((B.U.setTop { g with stack := rest }).pushFrame (.throwing q))) := by
  subst hg
  have hpl : e.platform.magicAccessors = ({} : Platform).magicAccessors := by rw [X.admits.platform]
  obtain ⟨mk, methM, cM, kP, vm₁, hnamed, hmethM, hcodeM, -, hlocalsM, -, hkP, -, hW₁, hstep₁⟩ := Steps.initColdArgs (e := e) X.here hexec X.warmed hpl hown hy1 hy hlink hinst hcode (f := g) rfl hlen hstack hdg
  have X₁ := X.noted hW₁
  rcases hK g.method meth c ⟨T.setVm vm₁, locs, cells, slots⟩ { g with stack := rest } (.invokespecial index) mk (Value.ref a :: argsL).toArray X₁ rfl hsize hdg hW (X₁.named hnamed) (hpre vm₁ X₁.warmed) with ⟨v, B, X', hpost, hsteps⟩ | ⟨q, B, X', hpost, hsteps⟩
  · exact Or.inl ⟨v, vm₁, B, X₁.warmed, X', hpost, fun target h => hstep₁ _ fun acts => by rw [doInvoke_state]; exact hsteps.trans h⟩
  · exact Or.inr ⟨q, vm₁, B, X₁.warmed, X', hpost, hstep₁ _ fun acts => by rw [doInvoke_state]; exact hsteps⟩
end VXIA
section VXIB
variable {p : Program} {l : Launch} {e : Env} {R : Room} {s : State} {m : MethodId} {args : Array Value} {below : List Frame} {meth : Method} {c : Code} {H : Heap} {locs : List Loc} {cells slots : Nat}
variable {y : MethodName} {bytes cc : ByteArray} {maxL nL mc ms n index : Nat} {ret : Option FieldType} {ws : List Cond} {rm : Room} {Pc : Array Value → State → Prop} {Qc : Array Value → State → Outcome → State → Prop} {XC : String → State → State → Prop} {free : Addr → Prop} {Ts : List Cond} {own C : String} {b : Addr} {As rest : List Value} {g : JFrame}
theorem vx_runI (S : CallFix p m c cc nL s args Ts own) (hM : vx_Met l y ws rm Pc Qc XC mc ms free) (cw : CallB R s args own index y bytes maxL none ws rm mc ms n ∧ y.name = "<init>" ∧ (Cond.instanceMethod y).before args s = true) (hp : PreS s H Pc (.ref b :: As))
    (hg : g.method = m) (hn : As.length = n) (hsize : g.locals.size = nL) (hstack : g.stack = As.reverse ++ .ref b :: rest) (hW : 2 * g.monitorRoom + (rest.map fun v => v.category).sum ≤ 8) (hdg : decode cc g.pc = .ok (.invokespecial index, 3)) (hf : cells + mc ≤ R.cells ∧ slots + ms ≤ R.slots) :
    vx_Run p l e R s m args below meth c H locs cells slots mc ms g rest (Qc (Value.ref b :: As).toArray) XC free := by
  have hK : vx_Back l R p e below s args y 3 8 (PreOf R mc ms Pc) (PostOf Qc mc ms free) (vx_Post XC mc ms free) := vx_callBack cw.1 hM hp.1
  obtain ⟨⟨-, -, -, -, -, -, hcode, -, hy, hlen, hl⟩, hy1, hin⟩ := cw
  obtain ⟨hx, hb, hml, ho, -⟩ := S
  have hPc := hp.2
  intro T hT X
  rcases vx_callI X hx (bytes := bytes) (maxL := maxL) ho hy1 hl hin hcode hy hK hg (hsize.trans hml.symm) (a := b) (argsL := As) (rest := rest) (fun sig h => hn.trans (hlen sig h)) hstack hW (by rw [hb]; exact hdg)
    (fun vm₁ hW₁ => ⟨hf.1, hf.2, hPc (T.setVm vm₁) hT hW₁⟩) with ⟨v, vm₁, ⟨U', l2, c2, s2⟩, hW₁, X', ⟨g', mk, t, L, e1, e2, hq, h1, hL, h2, h3⟩, st⟩ | ⟨q, vm₁, ⟨U', l2, c2, s2⟩, hW₁, X', ⟨g', mk, t, L, E, ce, e1, e2, hq, hce, hcv, hcl, h1, hL, h2, h3⟩, st⟩
  · dsimp only [Pt.U, Pt.locs, Pt.cells, Pt.slots] at X' e1 e2 h1 h2 h3 st
    subst h1; subst h2; subst h3
    exact Or.inl ⟨v, (T.setVm vm₁).calling g' mk (Value.ref b :: As).toArray, t, U', L, hT, X', hL, e1, e2, hq, st⟩
  · dsimp only [Pt.U, Pt.locs, Pt.cells, Pt.slots] at X' e1 e2 h1 h2 h3 st hcl
    subst h1; subst h2; subst h3
    exact Or.inr ⟨q, (T.setVm vm₁).calling g' mk (Value.ref b :: As).toArray, t, U', L, E, ce, hT, X', hL, e1, e2, hq, hce, hcv, vx_cls hW₁ hcl, st⟩
end VXIB
/-! ===== END ===== -/
/-! ===== BEGIN a private constructor of a nest mate that throws ===== -/
section VXIC
variable {p : Program} {l : Launch} {e : Env} {R : Room} {s : State} {m : MethodId} {args : Array Value} {below : List Frame} {meth : Method} {c : Code} {T : State} {locs : List Loc} {cells slots : Nat}
theorem vx_callIN (X : Stand p l e R s m args below meth c T locs cells slots) (hexec : p.tables.exec = Jvm.exec) {own : String} {index : Nat} {host : String} {y : MethodName} {bytes : ByteArray} {maxL : Nat}
    (hown : s.vm.findClass own = some m.cls) (hy1 : y.name = "<init>") (hlink : (Cond.methodLinkNest own index y host).before args s = true) (hinst : (Cond.instanceMethod y).before args s = true)
    (hcode : (Cond.code y bytes maxL none).before args s = true) (hy : y.cls ≠ "java/lang/invoke/MethodHandle" ∧ y.cls ≠ "java/lang/invoke/VarHandle")
    {W9 : Nat} {Pre : Pt → Array Value → Prop} {Post : Pt → Array Value → Option Value → Pt → Prop} {PostX : Pt → Array Value → Addr → Pt → Prop} (hK : vx_Back l R p e below s args y 3 W9 Pre Post PostX)
    {g : JFrame} (hg : g.method = m) (hsize : g.locals.size = c.maxLocals) {a : Addr} {argsL rest : List Value} (hlen : ∀ sig, parseMethodDescriptor y.desc = some sig → argsL.length = sig.parameters.length)
    (hstack : g.stack = argsL.reverse ++ .ref a :: rest) (hW : 2 * g.monitorRoom + (rest.map fun v => v.category).sum ≤ W9) (hdg : decode c.code g.pc = .ok (.invokespecial index, 3))
    (hpre : ∀ vm₁, s.WarmedH vm₁ → Pre ⟨T.setVm vm₁, locs, cells, slots⟩ (Value.ref a :: argsL).toArray) :
    (∃ (v : Option Value) (vm₁ : Vm) (B : Pt), s.WarmedH vm₁ ∧ Stand p l e R s m args below meth c B.U B.locs B.cells B.slots ∧ Post ⟨T.setVm vm₁, locs, cells, slots⟩ (Value.ref a :: argsL).toArray v B ∧
      ∀ target, Steps p.tables e below (B.U.setTop { g with pc := g.pc + 3, stack := v.toList ++ rest }) target → Steps p.tables e below (T.setTop g) target) ∨
    (∃ (q : Addr) (vm₁ : Vm) (B : Pt), s.WarmedH vm₁ ∧ Stand p l e R s m args below meth c B.U B.locs B.cells B.slots ∧ PostX ⟨T.setVm vm₁, locs, cells, slots⟩ (Value.ref a :: argsL).toArray q B ∧
      Steps p.tables e below (T.setTop g) ((B.U.setTop { g with stack := rest }).pushFrame (.throwing q))) := by
  subst hg
  have hpl : e.platform.magicAccessors = ({} : Platform).magicAccessors := by rw [X.admits.platform]
  obtain ⟨mk, methM, cM, kP, vm₁, hnamed, hmethM, hcodeM, -, hlocalsM, -, hkP, -, hW₁, hstep₁⟩ := Steps.initColdArgsNest (e := e) X.here hexec X.warmed hpl hown hy1 hy hlink hinst hcode (f := g) rfl hlen hstack hdg
  have X₁ := X.noted hW₁
  rcases hK g.method meth c ⟨T.setVm vm₁, locs, cells, slots⟩ { g with stack := rest } (.invokespecial index) mk (Value.ref a :: argsL).toArray X₁ rfl hsize hdg hW (X₁.named hnamed) (hpre vm₁ X₁.warmed) with ⟨v, B, X', hpost, hsteps⟩ | ⟨q, B, X', hpost, hsteps⟩
  · exact Or.inl ⟨v, vm₁, B, X₁.warmed, X', hpost, fun target h => hstep₁ _ fun acts => by rw [doInvoke_state]; exact hsteps.trans h⟩
  · exact Or.inr ⟨q, vm₁, B, X₁.warmed, X', hpost, hstep₁ _ fun acts => by rw [doInvoke_state]; exact hsteps⟩
end VXIC
section VXID
variable {p : Program} {l : Launch} {e : Env} {R : Room} {s : State} {m : MethodId} {args : Array Value} {below : List Frame} {meth : Method} {c : Code} {H : Heap} {locs : List Loc} {cells slots : Nat}
theorem vx_runIN {y : MethodName} {bytes cc : ByteArray} {maxL nL mc ms n index : Nat} {ws : List Cond} {rm : Room} {Pc : Array Value → State → Prop} {Qc : Array Value → State → Outcome → State → Prop} {XC : String → State → State → Prop} {free : Addr → Prop} {Ts : List Cond} {own host : String} {b : Addr} {As rest : List Value} {g : JFrame}
    (S : CallFix p m c cc nL s args Ts own) (hM : vx_Met l y ws rm Pc Qc XC mc ms free) (cw : va_CN R s args own index y host bytes maxL none ws rm mc ms n ∧ y.name = "<init>" ∧ (Cond.instanceMethod y).before args s = true) (hp : PreS s H Pc (.ref b :: As))
    (hg : g.method = m) (hn : As.length = n) (hsize : g.locals.size = nL) (hstack : g.stack = As.reverse ++ .ref b :: rest) (hW : 2 * g.monitorRoom + (rest.map fun v => v.category).sum ≤ 8) (hdg : decode cc g.pc = .ok (.invokespecial index, 3)) (hf : cells + mc ≤ R.cells ∧ slots + ms ≤ R.slots) :
    vx_Run p l e R s m args below meth c H locs cells slots mc ms g rest (Qc (Value.ref b :: As).toArray) XC free := by
  obtain ⟨⟨⟨hrc, hrs, hfr, hlo, hws, hcw⟩, hcode, hini, hy, hlen, hl⟩, hx1, hx2⟩ := cw
  have hK : vx_Back l R p e below s args y 3 8 (PreOf R mc ms Pc) (PostOf Qc mc ms free) (vx_Post XC mc ms free) := vx_back (bytes := bytes) (maxL := maxL) (ret := none) hM hp.1 hrc hrs hfr hlo hws hcw (fun a' U hW => word_at hW (Or.inl (by first | rfl | simp [Cond.onTables, Cond.keeps, Cond.steady])) hini)
  obtain ⟨hx, hb, hml, ho, -⟩ := S
  have hPc := hp.2
  intro T hT X
  rcases vx_callIN X hx (bytes := bytes) (maxL := maxL) ho hx1 hl hx2 hcode hy hK hg (hsize.trans hml.symm) (a := b) (argsL := As) (rest := rest) (fun sig h => hn.trans (hlen sig h)) hstack hW (by rw [hb]; exact hdg)
    (fun vm₁ hW₁ => ⟨hf.1, hf.2, hPc (T.setVm vm₁) hT hW₁⟩) with ⟨v, vm₁, ⟨U', l2, c2, s2⟩, hW₁, X', ⟨g', mk, t, L, e1, e2, hq, h1, hL, h2, h3⟩, st⟩ | ⟨q, vm₁, ⟨U', l2, c2, s2⟩, hW₁, X', ⟨g', mk, t, L, E, ce, e1, e2, hq, hce, hcv, hcl, h1, hL, h2, h3⟩, st⟩
  · dsimp only [Pt.U, Pt.locs, Pt.cells, Pt.slots] at X' e1 e2 h1 h2 h3 st
    subst h1; subst h2; subst h3
    exact Or.inl ⟨v, (T.setVm vm₁).calling g' mk (Value.ref b :: As).toArray, t, U', L, hT, X', hL, e1, e2, hq, st⟩
  · dsimp only [Pt.U, Pt.locs, Pt.cells, Pt.slots] at X' e1 e2 h1 h2 h3 st hcl
    subst h1; subst h2; subst h3
    exact Or.inr ⟨q, (T.setVm vm₁).calling g' mk (Value.ref b :: As).toArray, t, U', L, E, ce, hT, X', hL, e1, e2, hq, hce, hcv, vx_cls hW₁ hcl, st⟩
end VXID
/-! ===== END ===== -/
end
section
/-! ===== THE RUNNER: a machine over abstract values that the kernel runs; what it says is proved of the real one in the parts behind ===== -/
/-- an abstract value: an int's bits; a long's bits; a reference by its number; an int, a long between two (each plus 2^31, 2^63); null or some reference; an int with these last six bits -/
abbrev xA : Type := Nat ⊕ (Nat ⊕ (Nat ⊕ ((Nat × Nat) ⊕ ((Nat × Nat) ⊕ (Bool ⊕ Nat)))))
/-- a cell: an object (class, fields), an array (kind, length, bits, elements), a text -/
abbrev xC : Type := Option ((Nat × Lean.RArray xA) ⊕ ((Nat × (Nat × (Nat × Lean.RArray xA))) ⊕ List Nat))
/-- the cells; how many; whether the next one's address is known; how many cells and slots were made -/
abbrev xH : Type := Lean.RArray xC × (Nat × (Bool × (Nat × Nat)))
/-- an end: which (0 a return, 1 'new E("..")' that is thrown, 2 thrown by a callee), pc, stack, cells, exception -/
abbrev xE : Type := Nat × (Nat × (List xA × (xH × Nat)))
/-- a call's end: 0 returned, 1 threw -/
abbrev xO : Type := Nat × (Option xA × (xH × Nat))
/-- what a pool entry is -/
abbrev xP : Type := Nat × (Nat × (Nat × Nat))
/-- an instruction: its pc, itself, its length, the next one's pc -/
abbrev xI : Type := Nat × (Instr × (Nat × Nat))
/-- a method: its table, locals, kind of return, class, handlers (start, end, handler, exception) -/
abbrev xM : Type := Lean.RArray xI × (Nat × (Nat × (Nat × List (Nat × (Nat × (Nat × Nat))))))
noncomputable def xget {α : Type} (t : Lean.RArray α) (n : Nat) : α :=
  Lean.RArray.rec (fun x => x) (fun p _ _ l r => cond (Nat.ble p n) r l) t
noncomputable def xset {α : Type} (x : α) (n k : Nat) : Nat → Lean.RArray α → Lean.RArray α :=
  Nat.rec (fun _ _ => .leaf x)
    (fun k ih lo t => Lean.RArray.casesOn t
      (fun y => cond (Nat.ble (Nat.add lo (Nat.pow 2 k)) n) (.branch (Nat.add lo (Nat.pow 2 k)) (.leaf y) (ih (Nat.add lo (Nat.pow 2 k)) (.leaf y))) (.branch (Nat.add lo (Nat.pow 2 k)) (ih lo (.leaf y)) (.leaf y)))
      (fun _ l r => cond (Nat.ble (Nat.add lo (Nat.pow 2 k)) n) (.branch (Nat.add lo (Nat.pow 2 k)) l (ih (Nat.add lo (Nat.pow 2 k)) r)) (.branch (Nat.add lo (Nat.pow 2 k)) (ih lo l) r))) k
abbrev x32 (v : Int32) : Nat := v.toUInt32.toNat
abbrev x64 (v : Int64) : Nat := v.toUInt64.toNat
abbrev xm32 (n : Nat) : Nat := Nat.mod n 4294967296
abbrev xm64 (n : Nat) : Nat := Nat.mod n 18446744073709551616
abbrev xTop : xA := .inr (.inr (.inr (.inl (0, 4294967295))))
abbrev xTopL : xA := .inr (.inr (.inr (.inr (.inl (0, 18446744073709551615)))))
/-- between what an int lies (plus 2^31) -/
def xbd (a : xA) : Option (Nat × Nat) := match a with
  | .inl n => some (xm32 (Nat.add n 2147483648), xm32 (Nat.add n 2147483648))
  | .inr (.inr (.inr (.inl q))) => some q
  | .inr (.inr (.inr (.inr (.inr (.inr _))))) => some (0, 4294967295)
  | _ => none
def xbdl (a : xA) : Option (Nat × Nat) := match a with
  | .inr (.inl n) => some (xm64 (Nat.add n 9223372036854775808), xm64 (Nat.add n 9223372036854775808))
  | .inr (.inr (.inr (.inr (.inl q)))) => some q
  | _ => none
def xlt (p q : Nat × Nat) : Option Bool := cond (Nat.blt p.2 q.1) (some true) (cond (Nat.ble q.2 p.1) (some false) none)
def xeq (p q : Nat × Nat) : Option Bool := cond (Nat.blt p.2 q.1 || Nat.blt q.2 p.1) (some false) (cond (Nat.beq p.1 p.2 && (Nat.beq q.1 q.2 && Nat.beq p.1 q.1)) (some true) none)
def xnot (b : Option Bool) : Option Bool := match b with
  | some b => some (!b)
  | none => none
def xcnd (c : ClassFile.Cond) (p q : Nat × Nat) : Option Bool := match c with
  | .eq => xeq p q
  | .ne => xnot (xeq p q)
  | .lt => xlt p q
  | .ge => xnot (xlt p q)
  | .gt => xlt q p
  | .le => xnot (xlt q p)
def xbin (f : Nat → Nat → Nat) (a b : xA) : Option xA := match a, b with
  | .inl x, .inl y => some (.inl (f x y))
  | a, b => cond ((xbd a).isSome && (xbd b).isSome) (some xTop) none
def xbinl (f : Nat → Nat → Nat) (a b : xA) : Option xA := match a, b with
  | .inr (.inl x), .inr (.inl y) => some (.inr (.inl (f x y)))
  | a, b => cond ((xbdl a).isSome && (xbdl b).isSome) (some xTopL) none
/-- a long shifted by an int -/
def xshl (f : Nat → Nat → Nat) (a b : xA) : Option xA := match a, b with
  | .inr (.inl x), .inl y => some (.inr (.inl (f x y)))
  | _, _ => none
def xdivi (f : Nat → Nat → Nat) (a b : xA) : Option xA := match b with
  | .inl y => cond (Nat.beq (xm32 y) 0) none (xbin f a b)
  | _ => none
def xdivl (f : Nat → Nat → Nat) (a b : xA) : Option xA := match b with
  | .inr (.inl y) => cond (Nat.beq (xm64 y) 0) none (xbinl f a b)
  | _ => none
def xand (a b : xA) : Option xA := match a, b with
  | .inr (.inr (.inr (.inr (.inr (.inr k))))), .inl 63 => some (.inl k)
  | a, b => xbin (fun x y => x32 (Int32.ofNat x &&& Int32.ofNat y)) a b
def xneg (a : xA) : Option xA := match a with
  | .inl x => some (.inl (x32 (-Int32.ofNat x)))
  | a => cond (xbd a).isSome (some xTop) none
def xnegl (a : xA) : Option xA := match a with
  | .inr (.inl x) => some (.inr (.inl (x64 (-Int64.ofNat x))))
  | a => cond (xbdl a).isSome (some xTopL) none
def xi2l (a : xA) : Option xA := match a with
  | .inl x => some (.inr (.inl (x64 (Int32.ofNat x).toInt64)))
  | a => match xbd a with
    | some q => some (.inr (.inr (.inr (.inr (.inl (Nat.add q.1 9223372034707292160, Nat.add q.2 9223372034707292160))))))
    | none => none
def xl2i (a : xA) : Option xA := match a with
  | .inr (.inl x) => some (.inl (x32 (Int64.ofNat x).toInt32))
  | a => cond (xbdl a).isSome (some xTop) none
def xi2b (a : xA) : Option xA := match a with
  | .inl x => some (.inl (x32 (Int32.ofNat x).toInt8.toInt32))
  | a => cond (xbd a).isSome (some xTop) none
def xi2c (a : xA) : Option xA := match a with
  | .inl x => some (.inl (x32 ((Int32.ofNat x).toUInt32 % 65536).toInt32))
  | a => cond (xbd a).isSome (some xTop) none
def xlcmp (a b : xA) : Option xA := match xbdl a, xbdl b with
  | some p, some q => match xeq p q with
    | some true => some (.inl 0)
    | some false => match xlt p q with
      | some true => some (.inl 4294967295)
      | some false => some (.inl 1)
      | none => none
    | none => none
  | _, _ => none
def xcat (a : xA) : Nat := match a with
  | .inr (.inl _) => 2
  | .inr (.inr (.inr (.inr (.inl _)))) => 2
  | _ => 1
noncomputable def xcats (l : List xA) : Nat := List.rec 0 (fun a _ ih => Nat.add (xcat a) ih) l
noncomputable def xlk (l : List (Nat × xA)) (i : Nat) : Option xA := List.rec none (fun q _ ih => cond (Nat.beq q.1 i) (some q.2) ih) l
def xst1 (l : List (Nat × xA)) (i : Nat) (a : xA) : List (Nat × xA) := (i, a) :: l.filter (fun q => !(Nat.beq q.1 i) && !(Nat.beq (Nat.add q.1 1) i && Nat.beq (xcat q.2) 2))
def xst2 (l : List (Nat × xA)) (i : Nat) (a : xA) : List (Nat × xA) := (i, a) :: l.filter (fun q => !(Nat.beq q.1 i) && (!(Nat.beq q.1 (Nat.add i 1)) && !(Nat.beq (Nat.add q.1 1) i && Nat.beq (xcat q.2) 2)))
noncomputable def xargs (l : List xA) : Nat → List (Nat × xA) := List.rec (fun _ => []) (fun a _ ih i => (i, a) :: ih (Nat.add i (xcat a))) l
noncomputable def xtake (n : Nat) : List xA → List xA → Option (List xA × List xA) :=
  Nat.rec (fun acc l => some (acc, l)) (fun _ ih acc l => List.casesOn l none (fun a t => ih (a :: acc) t)) n
noncomputable def xcell (h : xH) (k : Nat) : xC := cond (Nat.blt k 4096) (xget h.1 k) none
noncomputable def xput (h : xH) (k : Nat) (c : xC) : xH := (xset c k 12 0 h.1, h.2)
/-- a new cell: its number, the cells; none where the next address is not known or the row is full -/
noncomputable def xnew (h : xH) (c : xC) (slots : Nat) : Option (Nat × xH) :=
  cond (h.2.2.1 && Nat.blt h.2.1 4096) (some (h.2.1, (xset c h.2.1 12 0 h.1, (Nat.add h.2.1 1, (true, (Nat.add h.2.2.2.1 1, Nat.add h.2.2.2.2 slots)))))) none
/-- a branch's target -/
def xtgt (pc : Nat) (off : Int) : Option Nat := match Int.add (Int.ofNat pc) off with
  | .ofNat t => some t
  | .negSucc _ => none
/-- whether a field of a kind (0 int, 1 long, 2 boolean, 3 a reference) may hold it -/
def xfit (ft : Nat) (a : xA) : Bool := match ft with
  | 0 => (xbd a).isSome
  | 1 => (xbdl a).isSome
  | 2 => match a with
    | .inl n => Nat.beq n 0 || Nat.beq n 1
    | _ => false
  | 3 => match a with
    | .inr (.inr (.inl _)) => true
    | .inr (.inr (.inr (.inr (.inr (.inl false))))) => true
    | _ => false
  | _ => false
/-- what an array of a kind (0 int, 1 long, 2 boolean, 3 byte) keeps of it -/
def xkeep (ty : Nat) (a : xA) : Option xA := match ty with
  | 0 => cond (xbd a).isSome (some a) none
  | 1 => cond (xbdl a).isSome (some a) none
  | 2 => match a with
    | .inl n => cond (Nat.beq n 0 || Nat.beq n 1) (some a) none
    | _ => none
  | 3 => match a with
    | .inl n => some (.inl (x32 (Int32.ofNat n).toInt8.toInt32))
    | a => cond (xbd a).isSome (some xTop) none
  | _ => none
/-- the element of an array of a kind -/
noncomputable def xald (ok : Nat → Bool) (h : xH) (r i : xA) : Option xA := match r, i with
  | .inr (.inr (.inl k)), .inl n => match xcell h k with
    | some (.inr (.inl c)) => cond (ok c.1 && (Nat.blt n c.2.1 && Nat.blt n 2147483648)) (some (xget c.2.2.2 n)) none
    | _ => none
  | _, _ => none
/-- a store; old cells (below o) are never written -/
noncomputable def xast (o : Nat) (ok : Nat → Bool) (h : xH) (r i v : xA) : Option xH := match r, i with
  | .inr (.inr (.inl k)), .inl n => match xcell h k with
    | some (.inr (.inl c)) => match xkeep c.1 v with
      | some w => cond (ok c.1 && (Nat.blt n c.2.1 && (Nat.blt n 2147483648 && (Nat.ble o k && Nat.blt n (Nat.pow 2 c.2.2.1))))) (some (xput h k (some (.inr (.inl (c.1, (c.2.1, (c.2.2.1, xset w n c.2.2.1 0 c.2.2.2)))))))) none
      | none => none
    | _ => none
  | _, _ => none
/-- handlers: the first that covers the pc and takes the exception -/
noncomputable def xcatch (hs : List (Nat × (Nat × (Nat × Nat)))) (pc E : Nat) : Option Nat :=
  List.rec none (fun q _ ih => cond (Nat.ble q.1 pc && (Nat.blt pc q.2.1 && Nat.beq q.2.2.2 E)) (some q.2.2.1) ih) hs
end
section
/-! ===== the runner's step ===== -/
abbrev xK : Type := Nat → List (Nat × xA) → List xA → xH → Option xE
abbrev xF : Type := Nat → List xA → xH → Option xO
/-- what is behind a pool number: a table whose leaves bear their numbers -/
noncomputable def xpool (t : Lean.RArray (Nat × xP)) (i : Nat) : xP := cond (Nat.beq (xget t i).1 i) (xget t i).2 (99, (0, (0, 0)))
def xj {α β : Type} (a : Option α) (k : α → Option β) : Option β := match a with
  | some a => k a
  | none => none
/-- behind a call -/
noncomputable def xback (hs : List (Nat × (Nat × (Nat × Nat)))) (K : xK) (pc nx : Nat) (loc : List (Nat × xA)) (rest : List xA) (r : Option xO) : Option xE := match r with
  | some (0, (rv, (h, _))) => match rv with
    | none => K nx loc rest h
    | some v => K nx loc (v :: rest) h
  | some (1, (_, (h, E))) => match xcatch hs pc E with
    | some t => K t loc [.inr (.inr (.inr (.inr (.inr (.inl true)))))] h
    | none => some (2, (pc, (rest, (h, E))))
  | _ => none
noncomputable def xinvV (call : xF) (hs : List (Nat × (Nat × (Nat × Nat)))) (P : xP) (K : xK) (pc nx : Nat) (loc : List (Nat × xA)) (stk : List xA) (hp : xH) : Option xE :=
  cond (Nat.beq P.1 1) (xj (xtake P.2.2.1 [] stk) fun q => match q.2 with
    | .inr (.inr (.inl k)) :: rest => match xcell hp k with
      | some (.inl c) => cond (Nat.beq c.1 P.2.2.2 && Nat.ble (xcats rest) 8) (xback hs K pc nx loc rest (call P.2.1 (.inr (.inr (.inl k)) :: q.1) hp)) none
      | _ => none
    | _ => none)
  (cond (Nat.beq P.1 28) (xj (xtake P.2.2.1 [] stk) fun q => match q.2 with
    | .inr (.inr (.inl k)) :: rest => match xcell hp k with
      | some (.inr (.inr _)) => cond (Nat.ble (xcats rest) 8) (xback hs K pc nx loc rest (call P.2.1 (.inr (.inr (.inl k)) :: q.1) hp)) none
      | _ => none
    | _ => none) none)
noncomputable def xmath (f : Nat → Nat → Nat) (K : xK) (nx : Nat) (loc : List (Nat × xA)) (stk : List xA) (hp : xH) : Option xE := match stk with
  | .inl y :: .inl x :: rest => cond (Nat.ble (xcats rest) 4) (K nx loc (.inl (f x y) :: rest) hp) none
  | _ => none
noncomputable def xmathl (f : Nat → Nat → Nat) (K : xK) (nx : Nat) (loc : List (Nat × xA)) (stk : List xA) (hp : xH) : Option xE := match stk with
  | .inr (.inl y) :: .inr (.inl x) :: rest => cond (Nat.ble (xcats rest) 4) (K nx loc (.inr (.inl (f x y)) :: rest) hp) none
  | _ => none
/-- an element that an array of a kind may hold -/
def xfa (ty : Nat) (a : xA) : Bool := match ty with
  | 0 => (xbd a).isSome
  | 1 => (xbdl a).isSome
  | 2 => match a with
    | .inl n => Nat.beq n 0 || Nat.beq n 1
    | _ => false
  | 3 => match a with
    | .inl n => Nat.blt n 128
    | _ => false
  | _ => false
noncomputable def xfall (ty : Nat) (f : Lean.RArray xA) (i : Nat) : Nat → Bool := fun n => Nat.rec true (fun n ih => xfa ty (xget f (Nat.add i n)) && ih) n
/-- n elements from place i of one array to place j of another one -/
noncomputable def xcopy (f : Lean.RArray xA) (k : Nat) : Nat → Nat → Nat → Lean.RArray xA → Lean.RArray xA :=
  fun i j n => Nat.rec (fun g => g) (fun n ih g => ih (xset (xget f (Nat.add i n)) (Nat.add j n) k 0 g)) n
noncomputable def xinvS (o : Nat) (call : xF) (hs : List (Nat × (Nat × (Nat × Nat)))) (P : xP) (K : xK) (pc nx : Nat) (loc : List (Nat × xA)) (stk : List xA) (hp : xH) : Option xE :=
  cond (Nat.beq P.1 2) (xj (xtake P.2.2.1 [] stk) fun q => cond (Nat.ble (xcats q.2) 8) (xback hs K pc nx loc q.2 (call P.2.1 q.1 hp)) none)
  (cond (Nat.beq P.1 13) (xmath (fun x y => cond (Nat.blt (xm32 (Nat.add x 2147483648)) (xm32 (Nat.add y 2147483648))) y x) K nx loc stk hp)
  (cond (Nat.beq P.1 14) (xmath (fun x y => cond (Nat.blt (xm32 (Nat.add x 2147483648)) (xm32 (Nat.add y 2147483648))) x y) K nx loc stk hp)
  (cond (Nat.beq P.1 15) (match stk with
    | .inr (.inl x) :: rest => cond (Nat.ble (xcats rest) 4) (K nx loc (.inr (.inl (cond (Nat.blt x 9223372036854775808) x (x64 (-Int64.ofNat x)))) :: rest) hp) none
    | _ => none)
  (cond (Nat.beq P.1 12) (match stk with
    | .inl n :: .inl j :: .inr (.inr (.inl kd)) :: .inl i :: .inr (.inr (.inl ks)) :: rest => match xcell hp ks, xcell hp kd with
      | some (.inr (.inl cs)), some (.inr (.inl cd)) =>
        cond (xfall cs.1 cs.2.2.2 i n && (Nat.beq cs.1 cd.1 && (Nat.ble cs.1 3 && (Nat.ble (Nat.add i n) cs.2.1 && (Nat.ble (Nat.add j n) cd.2.1 && (Nat.blt cs.2.1 2147483648 && (Nat.blt cd.2.1 2147483648 && (Nat.ble o kd && (!(Nat.beq ks kd) && (Nat.ble (Nat.add j n) (Nat.pow 2 cd.2.2.1) && Nat.ble (xcats rest) 4))))))))))
          (K nx loc rest (xput hp kd (some (.inr (.inl (cd.1, (cd.2.1, (cd.2.2.1, xcopy cs.2.2.2 cd.2.2.1 i j n cd.2.2.2)))))))) none
      | _, _ => none
    | _ => none) none))))
noncomputable def xinvI (call : xF) (hs : List (Nat × (Nat × (Nat × Nat)))) (P : xP) (K : xK) (pc nx : Nat) (loc : List (Nat × xA)) (stk : List xA) (hp : xH) : Option xE :=
  cond (Nat.beq P.1 4) (match stk with
    | .inr (.inr (.inl k)) :: rest => cond (Nat.ble (xcats rest) 8) (K nx loc rest hp) none
    | _ => none)
  (cond (Nat.beq P.1 3) (xj (xtake P.2.2.1 [] stk) fun q => match q.2 with
    | .inr (.inr (.inl k)) :: rest => cond (Nat.ble (xcats rest) 8) (xback hs K pc nx loc rest (call P.2.1 (.inr (.inr (.inl k)) :: q.1) hp)) none
    | _ => none) none)
noncomputable def xif (K : xK) (pc nx : Nat) (off : Int) (loc : List (Nat × xA)) (rest : List xA) (hp : xH) (b : Option Bool) : Option xE := xj (xtgt pc off) fun t => match b with
  | some true => K t loc rest hp
  | some false => K nx loc rest hp
  | none => none
noncomputable def xtab (K : xK) (pc : Nat) (dflt lo hi : Int) (offs : Array Int) (loc : List (Nat × xA)) (stk : List xA) (hp : xH) : Option xE := match stk with
  | .inl n :: rest => cond (decide ((Int32.ofNat n).toInt < lo) || decide (hi < (Int32.ofNat n).toInt)) (xj (xtgt pc dflt) fun t => K t loc rest hp)
      (xj offs[((Int32.ofNat n).toInt - lo).toNat]? fun off => xj (xtgt pc off) fun t => K t loc rest hp)
  | _ => none
/-- the class's fields at their start: by their kinds -/
def xdef (ft : Nat) : xA := match ft with
  | 0 => .inl 0
  | 1 => .inr (.inl 0)
  | 2 => .inl 0
  | _ => .inr (.inr (.inr (.inr (.inr (.inl false)))))
noncomputable def xborn (ts : List Nat) : Nat → Lean.RArray xA → Lean.RArray xA := List.rec (fun _ t => t) (fun ft _ ih k t => ih (Nat.add k 1) (xset (xdef ft) k 8 0 t)) ts
def xaty (t : ArrayType) : Option Nat := match t with
  | .int => some 0
  | .long => some 1
  | .boolean => some 2
  | .byte => some 3
  | _ => none
/-- bits that hold so many places -/
def xbits (n : Nat) : Nat := cond (Nat.ble n 32) 5 (cond (Nat.ble n 1024) 10 20)
noncomputable def xnewarr (ty : Nat) (z : xA) (K : xK) (nx : Nat) (loc : List (Nat × xA)) (stk : List xA) (hp : xH) : Option xE := match stk with
  | .inl n :: rest => cond (Nat.ble n 1048576) (xj (xnew hp (some (.inr (.inl (ty, (n, (xbits n, .leaf z)))))) n) fun q => K nx loc (.inr (.inr (.inl q.1)) :: rest) q.2) none
  | _ => none

/-- kinds of value -/
def xik (a : xA) : Bool := (xbd a).isSome
def xlk2 (a : xA) : Bool := (xbdl a).isSome
def xak (a : xA) : Bool := match a with
  | .inr (.inr (.inl _)) => true
  | .inr (.inr (.inr (.inr (.inr (.inl _))))) => true
  | _ => false
/-- a reference into an array of references: kind 4 + t holds objects of class t, kind 64 + t arrays of kind t -/
noncomputable def xaast (o : Nat) (K : xK) (nx : Nat) (loc : List (Nat × xA)) (stk : List xA) (hp : xH) : Option xE := match stk with
  | .inr (.inr (.inl v)) :: .inl n :: .inr (.inr (.inl k)) :: rest => match xcell hp k, xcell hp v with
    | some (.inr (.inl c)), some e =>
      cond ((match e with
        | .inl q => Nat.beq c.1 (Nat.add 4 q.1)
        | .inr (.inl q) => Nat.beq c.1 (Nat.add 64 q.1) && (Nat.blt q.1 4 && Nat.ble o v)
        | _ => false) && (Nat.blt n c.2.1 && (Nat.blt n 2147483648 && (Nat.ble o k && Nat.blt n (Nat.pow 2 c.2.2.1))))) (K nx loc rest (xput hp k (some (.inr (.inl (c.1, (c.2.1, (c.2.2.1, xset (.inr (.inr (.inl v))) n c.2.2.1 0 c.2.2.2)))))))) none
    | _, _ => none
  | _ => none
/-- rows of an array of arrays: n of them, each of m elements, from the next number on -/
noncomputable def xrows (ty m b : Nat) (z : xA) : Nat → Nat → Lean.RArray xC → Lean.RArray xC := fun n lo => Nat.rec (fun h => h) (fun n ih h => ih (xset (some (.inr (.inl (ty, (m, (b, .leaf z)))))) (Nat.add lo n) 12 0 h)) n
noncomputable def xrefs (b lo : Nat) : Nat → Lean.RArray xA → Lean.RArray xA := fun n => Nat.rec (fun t => t) (fun n ih t => ih (xset (.inr (.inr (.inl (Nat.add lo n)))) n b 0 t)) n
noncomputable def xmulti (P : xP) (K : xK) (nx : Nat) (loc : List (Nat × xA)) (stk : List xA) (hp : xH) : Option xE := match stk with
  | .inl m :: .inl n :: rest => cond (Nat.beq P.1 22 && (Nat.ble P.2.1 1 && (Nat.ble n 32 && (Nat.ble m 1048576 && (hp.2.2.1 && Nat.blt (Nat.add hp.2.1 n) 4096)))))
      (K nx loc (.inr (.inr (.inl hp.2.1)) :: rest)
        (xset (some (.inr (.inl (Nat.add 64 P.2.1, (n, (5, xrefs 5 (Nat.add hp.2.1 1) n (.leaf (.inr (.inr (.inr (.inr (.inr (.inl false))))))))))))) hp.2.1 12 0
          (xrows P.2.1 m (xbits m) (cond (Nat.beq P.2.1 1) (.inr (.inl 0)) (.inl 0)) n (Nat.add hp.2.1 1) hp.1),
         (Nat.add hp.2.1 (Nat.add n 1), (true, (Nat.add (Nat.add hp.2.2.2.1 1) n, Nat.add (Nat.add hp.2.2.2.2 n) (Nat.mul n m)))))) none
  | _ => none
/-- one step -/
noncomputable def xstep (o : Nat) (ft : Nat → List Nat) (call : xF) (pool : Nat → xP) (hs : List (Nat × (Nat × (Nat × Nat)))) (K : xK) (i : Instr) (pc nx : Nat) (loc : List (Nat × xA)) (stk : List xA) (hp : xH) : Option xE := match i with
  | .nop => none
  | .aconst_null => K nx loc (.inr (.inr (.inr (.inr (.inr (.inl false))))) :: stk) hp
  | .iconst n => K nx loc (.inl (x32 (Int32.ofInt n)) :: stk) hp
  | .bipush n => K nx loc (.inl (x32 (Int8.ofInt n).toInt32) :: stk) hp
  | .sipush n => K nx loc (.inl (x32 (Int16.ofInt n).toInt32) :: stk) hp
  | .lconst n => K nx loc (.inr (.inl n.val) :: stk) hp
  | .ldc k => cond (Nat.beq (pool k).1 8) (K nx loc (.inl (pool k).2.1 :: stk) hp) (cond (Nat.beq (pool k).1 7) (K nx loc (.inr (.inr (.inl (pool k).2.1)) :: stk) hp) none)
  | .ldc_w k => cond (Nat.beq (pool k).1 8) (K nx loc (.inl (pool k).2.1 :: stk) hp) (cond (Nat.beq (pool k).1 7) (K nx loc (.inr (.inr (.inl (pool k).2.1)) :: stk) hp) none)
  | .ldc2_w k => cond (Nat.beq (pool k).1 9) (K nx loc (.inr (.inl (pool k).2.1) :: stk) hp) none
  | .iload_n k => xj (xlk loc k.val) fun a => cond (xik a) (K nx loc (a :: stk) hp) none
  | .iload k => xj (xlk loc k) fun a => cond (xik a) (K nx loc (a :: stk) hp) none
  | .lload_n k => xj (xlk loc k.val) fun a => cond (xlk2 a) (K nx loc (a :: stk) hp) none
  | .lload k => xj (xlk loc k) fun a => cond (xlk2 a) (K nx loc (a :: stk) hp) none
  | .aload_n k => xj (xlk loc k.val) fun a => cond (xak a) (K nx loc (a :: stk) hp) none
  | .aload k => xj (xlk loc k) fun a => cond (xak a) (K nx loc (a :: stk) hp) none
  | .istore_n k => match stk with
    | a :: rest => cond (xik a) (K nx (xst1 loc k.val a) rest hp) none
    | _ => none
  | .istore k => match stk with
    | a :: rest => cond (xik a) (K nx (xst1 loc k a) rest hp) none
    | _ => none
  | .astore_n k => match stk with
    | a :: rest => cond (xak a) (K nx (xst1 loc k.val a) rest hp) none
    | _ => none
  | .astore k => match stk with
    | a :: rest => cond (xak a) (K nx (xst1 loc k a) rest hp) none
    | _ => none
  | .lstore_n k => match stk with
    | a :: rest => cond (xlk2 a) (K nx (xst2 loc k.val a) rest hp) none
    | _ => none
  | .lstore k => match stk with
    | a :: rest => cond (xlk2 a) (K nx (xst2 loc k a) rest hp) none
    | _ => none
  | .iinc k n => xj (xlk loc k) fun a => xj (xbin (fun x y => xm32 (Nat.add x y)) a (.inl (x32 (Int32.ofInt n)))) fun b => K nx (xst1 loc k b) stk hp
  | .iadd => match stk with
    | b :: a :: rest => xj (xbin (fun x y => xm32 (Nat.add x y)) a b) fun v => K nx loc (v :: rest) hp
    | _ => none
  | .isub => match stk with
    | b :: a :: rest => xj (xbin (fun x y => xm32 (Nat.add x (Nat.sub 4294967296 (xm32 y)))) a b) fun v => K nx loc (v :: rest) hp
    | _ => none
  | .imul => match stk with
    | b :: a :: rest => xj (xbin (fun x y => xm32 (Nat.mul x y)) a b) fun v => K nx loc (v :: rest) hp
    | _ => none
  | .iand => match stk with
    | b :: a :: rest => xj (xand a b) fun v => K nx loc (v :: rest) hp
    | _ => none
  | .ior => match stk with
    | b :: a :: rest => xj (xbin (fun x y => x32 (Int32.ofNat x ||| Int32.ofNat y)) a b) fun v => K nx loc (v :: rest) hp
    | _ => none
  | .ixor => match stk with
    | b :: a :: rest => xj (xbin (fun x y => x32 (Int32.ofNat x ^^^ Int32.ofNat y)) a b) fun v => K nx loc (v :: rest) hp
    | _ => none
  | .idiv => match stk with
    | b :: a :: rest => xj (xdivi (fun x y => x32 (Int32.ofNat x / Int32.ofNat y)) a b) fun v => K nx loc (v :: rest) hp
    | _ => none
  | .irem => match stk with
    | b :: a :: rest => xj (xdivi (fun x y => x32 (Int32.ofNat x - (Int32.ofNat x / Int32.ofNat y) * Int32.ofNat y)) a b) fun v => K nx loc (v :: rest) hp
    | _ => none
  | .ishl => match stk with
    | b :: a :: rest => xj (xbin (fun x y => x32 (Int32.ofNat x <<< (Int32.ofNat y &&& 31))) a b) fun v => K nx loc (v :: rest) hp
    | _ => none
  | .ishr => match stk with
    | b :: a :: rest => xj (xbin (fun x y => x32 (Int32.ofNat x >>> (Int32.ofNat y &&& 31))) a b) fun v => K nx loc (v :: rest) hp
    | _ => none
  | .iushr => match stk with
    | b :: a :: rest => xj (xbin (fun x y => x32 ((Int32.ofNat x).toUInt32 >>> ((Int32.ofNat y).toUInt32 &&& Int32.toUInt32 31)).toInt32) a b) fun v => K nx loc (v :: rest) hp
    | _ => none
  | .ladd => match stk with
    | b :: a :: rest => xj (xbinl (fun x y => x64 (Int64.ofNat x + Int64.ofNat y)) a b) fun v => K nx loc (v :: rest) hp
    | _ => none
  | .lsub => match stk with
    | b :: a :: rest => xj (xbinl (fun x y => x64 (Int64.ofNat x - Int64.ofNat y)) a b) fun v => K nx loc (v :: rest) hp
    | _ => none
  | .lmul => match stk with
    | b :: a :: rest => xj (xbinl (fun x y => x64 (Int64.ofNat x * Int64.ofNat y)) a b) fun v => K nx loc (v :: rest) hp
    | _ => none
  | .land => match stk with
    | b :: a :: rest => xj (xbinl (fun x y => x64 (Int64.ofNat x &&& Int64.ofNat y)) a b) fun v => K nx loc (v :: rest) hp
    | _ => none
  | .lor => match stk with
    | b :: a :: rest => xj (xbinl (fun x y => x64 (Int64.ofNat x ||| Int64.ofNat y)) a b) fun v => K nx loc (v :: rest) hp
    | _ => none
  | .lxor => match stk with
    | b :: a :: rest => xj (xbinl (fun x y => x64 (Int64.ofNat x ^^^ Int64.ofNat y)) a b) fun v => K nx loc (v :: rest) hp
    | _ => none
  | .ldiv => match stk with
    | b :: a :: rest => xj (xdivl (fun x y => x64 (Int64.ofNat x / Int64.ofNat y)) a b) fun v => K nx loc (v :: rest) hp
    | _ => none
  | .lrem => match stk with
    | b :: a :: rest => xj (xdivl (fun x y => x64 (Int64.ofNat x - (Int64.ofNat x / Int64.ofNat y) * Int64.ofNat y)) a b) fun v => K nx loc (v :: rest) hp
    | _ => none
  | .lshl => match stk with
    | b :: a :: rest => xj (xshl (fun x y => x64 (Int64.ofNat x <<< ((Int32.ofNat y).toInt64 &&& 63))) a b) fun v => K nx loc (v :: rest) hp
    | _ => none
  | .lshr => match stk with
    | b :: a :: rest => xj (xshl (fun x y => x64 (Int64.ofNat x >>> ((Int32.ofNat y).toInt64 &&& 63))) a b) fun v => K nx loc (v :: rest) hp
    | _ => none
  | .lushr => match stk with
    | b :: a :: rest => xj (xshl (fun x y => x64 ((Int64.ofNat x).toUInt64 >>> ((Int32.ofNat y).toInt64.toUInt64 &&& Int64.toUInt64 63)).toInt64) a b) fun v => K nx loc (v :: rest) hp
    | _ => none
  | .lcmp => match stk with
    | b :: a :: rest => xj (xlcmp a b) fun v => K nx loc (v :: rest) hp
    | _ => none
  | .ineg => match stk with
    | a :: rest => xj (xneg a) fun v => K nx loc (v :: rest) hp
    | _ => none
  | .lneg => match stk with
    | a :: rest => xj (xnegl a) fun v => K nx loc (v :: rest) hp
    | _ => none
  | .i2l => match stk with
    | a :: rest => xj (xi2l a) fun v => K nx loc (v :: rest) hp
    | _ => none
  | .l2i => match stk with
    | a :: rest => xj (xl2i a) fun v => K nx loc (v :: rest) hp
    | _ => none
  | .i2b => match stk with
    | a :: rest => xj (xi2b a) fun v => K nx loc (v :: rest) hp
    | _ => none
  | .i2c => match stk with
    | a :: rest => xj (xi2c a) fun v => K nx loc (v :: rest) hp
    | _ => none
  | .dup => match stk with
    | a :: rest => cond (Nat.beq (xcat a) 1) (K nx loc (a :: a :: rest) hp) none
    | _ => none
  | .dup_x1 => match stk with
    | a :: b :: rest => cond (Nat.beq (xcat a) 1 && Nat.beq (xcat b) 1) (K nx loc (a :: b :: a :: rest) hp) none
    | _ => none
  | .pop => match stk with
    | a :: rest => cond (Nat.beq (xcat a) 1) (K nx loc rest hp) none
    | _ => none
  | .dup2 => match stk with
    | a :: b :: rest => cond (Nat.beq (xcat a) 1 && Nat.beq (xcat b) 1) (K nx loc (a :: b :: a :: b :: rest) hp) none
    | _ => none
  | .pop2 => match stk with
    | a :: rest => cond (Nat.beq (xcat a) 2) (K nx loc rest hp) none
    | _ => none
  | .goto off => xj (xtgt pc off) fun t => K t loc stk hp
  | .ifCond c off => match stk with
    | a :: rest => xj (xbd a) fun p => xif K pc nx off loc rest hp (xcnd c p (2147483648, 2147483648))
    | _ => none
  | .if_icmp c off => match stk with
    | b :: a :: rest => xj (xbd a) fun p => xj (xbd b) fun q => xif K pc nx off loc rest hp (xcnd c p q)
    | _ => none
  | .tableswitch d lo hi offs => xtab K pc d lo hi offs loc stk hp
  | .arraylength => match stk with
    | .inr (.inr (.inl k)) :: rest => match xcell hp k with
      | some (.inr (.inl c)) => K nx loc (.inl c.2.1 :: rest) hp
      | _ => none
    | _ => none
  | .iaload => match stk with
    | i :: r :: rest => xj (xald (fun t => Nat.beq t 0) hp r i) fun v => K nx loc (v :: rest) hp
    | _ => none
  | .laload => match stk with
    | i :: r :: rest => xj (xald (fun t => Nat.beq t 1) hp r i) fun v => K nx loc (v :: rest) hp
    | _ => none
  | .baload => match stk with
    | i :: r :: rest => xj (xald (fun t => Nat.beq t 2 || Nat.beq t 3) hp r i) fun v => K nx loc (v :: rest) hp
    | _ => none
  | .aaload => match stk with
    | i :: r :: rest => xj (xald (fun t => Nat.ble 4 t) hp r i) fun v => K nx loc (v :: rest) hp
    | _ => none
  | .iastore => match stk with
    | v :: i :: r :: rest => xj (xast o (fun t => Nat.beq t 0) hp r i v) fun h => K nx loc rest h
    | _ => none
  | .lastore => match stk with
    | v :: i :: r :: rest => xj (xast o (fun t => Nat.beq t 1) hp r i v) fun h => K nx loc rest h
    | _ => none
  | .bastore => match stk with
    | v :: i :: r :: rest => xj (xast o (fun t => Nat.beq t 2 || Nat.beq t 3) hp r i v) fun h => K nx loc rest h
    | _ => none
  | .getfield k => match stk with
    | .inr (.inr (.inl r)) :: rest => cond (Nat.beq (pool k).1 0) (match xcell hp r with
      | some (.inl c) => cond (Nat.beq c.1 (pool k).2.1) (K nx loc (xget c.2 (pool k).2.2.1 :: rest) hp) none
      | _ => none) (match xcell hp r with
      | some (.inr (.inr [j])) => cond (Nat.beq (pool k).1 24) (K nx loc (.inr (.inr (.inl j)) :: rest) hp) (cond (Nat.beq (pool k).1 25) (K nx loc (.inl 0 :: rest) hp) none)
      | _ => none)
    | _ => none
  | .putfield k => match stk with
    | v :: .inr (.inr (.inl r)) :: rest => cond (Nat.beq (pool k).1 0 && Nat.ble o r) (match xcell hp r with
      | some (.inl c) => cond (Nat.beq c.1 (pool k).2.1 && xfit (Nat.mod (pool k).2.2.2 8) v) (K nx loc rest (xput hp r (some (.inl (c.1, xset v (pool k).2.2.1 8 0 c.2))))) none
      | _ => none) none
    | _ => none
  | .getstatic k => cond (Nat.beq (pool k).1 10) (K nx loc (.inr (.inr (.inl (pool k).2.1)) :: stk) hp) (cond (Nat.beq (pool k).1 26) (K nx loc (.inl 1 :: stk) hp) (cond (Nat.beq (pool k).1 27) (K nx loc (.inr (.inr (.inr (.inr (.inr (.inl true))))) :: stk) hp) none))
  | .new k => cond (Nat.beq (pool k).1 11) (some (1, (pc, (stk, (hp, (pool k).2.1))))) (cond (Nat.beq (pool k).1 5) (xj (xnew hp (some (.inl ((pool k).2.1, xborn (ft (pool k).2.1) 0 (.leaf (.inl 0))))) (ft (pool k).2.1).length) fun q => K nx loc (.inr (.inr (.inl q.1)) :: stk) q.2) none)
  | .newarray t => xj (xaty t) fun ty => xnewarr ty (cond (Nat.beq ty 1) (.inr (.inl 0)) (.inl 0)) K nx loc stk hp
  | .anewarray k => cond (Nat.beq (pool k).1 6) (xnewarr (pool k).2.1 (.inr (.inr (.inr (.inr (.inr (.inl false)))))) K nx loc stk hp) (cond (Nat.beq (pool k).1 5) (xnewarr (Nat.add 4 (pool k).2.1) (.inr (.inr (.inr (.inr (.inr (.inl false)))))) K nx loc stk hp) none)
  | .aastore => xaast o K nx loc stk hp
  | .multianewarray k _ => xmulti (pool k) K nx loc stk hp
  | .invokevirtual k => xinvV call hs (pool k) K pc nx loc stk hp
  | .invokestatic k => xinvS o call hs (pool k) K pc nx loc stk hp
  | .invokespecial k => xinvI call hs (pool k) K pc nx loc stk hp
  | .ireturn => some (0, (pc, (stk, (hp, 0))))
  | .lreturn => some (0, (pc, (stk, (hp, 0))))
  | .areturn => some (0, (pc, (stk, (hp, 0))))
  | .return_ => some (0, (pc, (stk, (hp, 0))))
  | _ => none
/-- fetch and step -/
noncomputable def xrun (o : Nat) (ft : Nat → List Nat) (call : xF) (pool : Nat → xP) (hs : List (Nat × (Nat × (Nat × Nat)))) (tab : Lean.RArray xI) (fuel : Nat) : xK :=
  Nat.rec (fun _ _ _ _ => none) (fun _ ih pc loc stk hp => cond (Nat.beq (xget tab pc).1 pc) (xstep o ft call pool hs ih (xget tab pc).2.1 (xget tab pc).1 (xget tab pc).2.2.2 loc stk hp) none) fuel
/-- a method's end, by its kind of return (0 void, 1 int, 2 long, 3 reference, 4 boolean) -/
noncomputable def xend (rk : Nat) (r : Option xE) : Option xO := match r with
  | some (0, (_, (stk, (h, _)))) => match rk, stk with
    | 0, [] => some (0, (none, (h, 0)))
    | 1, [a] => cond (xbd a).isSome (some (0, (some a, (h, 0)))) none
    | 2, [a] => cond (xbdl a).isSome (some (0, (some a, (h, 0)))) none
    | 3, [.inr (.inr (.inl k))] => some (0, (some (.inr (.inr (.inl k))), (h, 0)))
    | 5, [.inl n] => cond (Nat.blt n 128) (some (0, (some (.inl n), (h, 0)))) none
    | 4, [.inl n] => cond (Nat.beq n 0 || Nat.beq n 1) (some (0, (some (.inl n), (h, 0)))) none
    | _, _ => none
  | some (1, (_, (stk, (h, E)))) => cond (Nat.ble (xcats stk) 8) (some (1, (none, ((h.1, (h.2.1, (false, (Nat.add h.2.2.2.1 1, Nat.add h.2.2.2.2 6)))), E)))) none
  | some (2, (_, (_, (h, E)))) => some (1, (none, (h, E)))
  | _ => none
noncomputable def xcall (o : Nat) (ft : Nat → List Nat) (pools : Lean.RArray (Lean.RArray (Nat × xP))) (ms : Lean.RArray xM) (d : Nat) : xF :=
  Nat.rec (fun _ _ _ => none) (fun _ ih mi as hp => cond (Nat.ble (xcats as) (xget ms mi).2.1) (xend (xget ms mi).2.2.1 (xrun o ft ih (xpool (xget pools (xget ms mi).2.2.2.1)) (xget ms mi).2.2.2.2 (xget ms mi).1 100000 0 (xargs as 0) [] hp)) none) d
/-- how long an instruction is -/
def xlen (i : Instr) (len : Nat) : Nat := match i with
  | .aload _ => 2
  | .astore _ => 2
  | .iload _ => 2
  | .istore _ => 2
  | .lload _ => 2
  | .lstore _ => 2
  | .bipush _ => 2
  | .sipush _ => 3
  | .ldc _ => 2
  | .ldc_w _ => 3
  | .ldc2_w _ => 3
  | .iinc _ _ => 3
  | .goto _ => 3
  | .ifCond _ _ => 3
  | .if_icmp _ _ => 3
  | .getfield _ => 3
  | .putfield _ => 3
  | .getstatic _ => 3
  | .new _ => 3
  | .newarray _ => 2
  | .anewarray _ => 3
  | .multianewarray _ _ => 4
  | .invokevirtual _ => 3
  | .invokestatic _ => 3
  | .invokespecial _ => 3
  | .tableswitch _ _ _ _ => len
  | _ => 1
/-- whether the local that an instruction writes is there -/
def xsto (nL : Nat) (i : Instr) : Bool := match i with
  | .istore_n k => Nat.blt k.val nL
  | .astore_n k => Nat.blt k.val nL
  | .lstore_n k => Nat.blt (Nat.add k.val 1) nL
  | .istore k => Nat.blt k nL
  | .astore k => Nat.blt k nL
  | .lstore k => Nat.blt (Nat.add k 1) nL
  | .iinc k _ => Nat.blt k nL
  | _ => true
end
section
/-! ===== what the runner's cells say of the machine's ===== -/
theorem xget_leaf {α : Type} (x : α) (n : Nat) : xget (.leaf x) n = x := rfl
theorem xget_branch {α : Type} (p : Nat) (l r : Lean.RArray α) (n : Nat) : xget (.branch p l r) n = cond (Nat.ble p n) (xget r n) (xget l n) := rfl
def xwf {α : Type} (k : Nat) : Nat → Lean.RArray α → Prop :=
  Nat.rec (fun _ t => ∃ y, t = .leaf y) (fun k ih lo t => (∃ y, t = .leaf y) ∨ ∃ l r, t = .branch (lo + 2 ^ k) l r ∧ ih lo l ∧ ih (lo + 2 ^ k) r) k
theorem xwf_leaf {α : Type} (k lo : Nat) (y : α) : xwf k lo (.leaf y) := by
  cases k with
  | zero => exact ⟨y, rfl⟩
  | succ k => exact Or.inl ⟨y, rfl⟩
theorem xset_zero {α : Type} (x : α) (n lo : Nat) (t : Lean.RArray α) : xset x n 0 lo t = .leaf x := rfl
theorem xset_leaf {α : Type} (x : α) (n k lo : Nat) (y : α) : xset x n (k + 1) lo (.leaf y) = cond (Nat.ble (lo + 2 ^ k) n) (.branch (lo + 2 ^ k) (.leaf y) (xset x n k (lo + 2 ^ k) (.leaf y))) (.branch (lo + 2 ^ k) (xset x n k lo (.leaf y)) (.leaf y)) := rfl
theorem xset_branch {α : Type} (x : α) (n k lo p : Nat) (l r : Lean.RArray α) : xset x n (k + 1) lo (.branch p l r) = cond (Nat.ble (lo + 2 ^ k) n) (.branch (lo + 2 ^ k) l (xset x n k (lo + 2 ^ k) r)) (.branch (lo + 2 ^ k) (xset x n k lo l) r) := rfl
theorem xset_wf {α : Type} (x : α) (n : Nat) : ∀ (k lo : Nat) (t : Lean.RArray α), xwf k lo t → xwf k lo (xset x n k lo t) := by
  intro k
  induction k with
  | zero => intro lo t _; exact ⟨x, rfl⟩
  | succ k ih =>
    intro lo t ht
    rcases ht with ⟨y, rfl⟩ | ⟨l, r, rfl, hl, hr⟩
    · rw [xset_leaf]
      cases Nat.ble (lo + 2 ^ k) n
      · exact Or.inr ⟨_, _, rfl, ih _ _ (xwf_leaf _ _ _), xwf_leaf _ _ _⟩
      · exact Or.inr ⟨_, _, rfl, xwf_leaf _ _ _, ih _ _ (xwf_leaf _ _ _)⟩
    · rw [xset_branch]
      cases Nat.ble (lo + 2 ^ k) n
      · exact Or.inr ⟨_, _, rfl, ih _ _ hl, hr⟩
      · exact Or.inr ⟨_, _, rfl, hl, ih _ _ hr⟩
theorem xget_xset {α : Type} (x : α) (n j : Nat) : ∀ (k lo : Nat) (t : Lean.RArray α), xwf k lo t → lo ≤ n → n < lo + 2 ^ k → lo ≤ j → j < lo + 2 ^ k → xget (xset x n k lo t) j = if j = n then x else xget t j := by
  intro k
  induction k with
  | zero =>
    intro lo t _ h1 h2 h3 h4
    have : j = n := by simp at h2 h4; omega
    rw [xset_zero, xget_leaf, if_pos this]
  | succ k ih =>
    intro lo t ht h1 h2 h3 h4
    have hp : 2 ^ (k + 1) = 2 ^ k + 2 ^ k := by rw [Nat.pow_succ]; omega
    rcases ht with ⟨y, rfl⟩ | ⟨l, r, rfl, hl, hr⟩
    · rw [xset_leaf, xget_leaf]
      by_cases hn : lo + 2 ^ k ≤ n
      · rw [show Nat.ble (lo + 2 ^ k) n = true from Nat.ble_eq_true_of_le hn, cond_true, xget_branch]
        by_cases hj : lo + 2 ^ k ≤ j
        · rw [show Nat.ble (lo + 2 ^ k) j = true from Nat.ble_eq_true_of_le hj, cond_true, ih _ _ (xwf_leaf _ _ _) hn (by omega) hj (by omega), xget_leaf]
        · rw [show Nat.ble (lo + 2 ^ k) j = false from Bool.eq_false_iff.mpr fun q => hj (Nat.le_of_ble_eq_true q), cond_false, xget_leaf, if_neg (by omega)]
      · rw [show Nat.ble (lo + 2 ^ k) n = false from Bool.eq_false_iff.mpr fun q => hn (Nat.le_of_ble_eq_true q), cond_false, xget_branch]
        by_cases hj : lo + 2 ^ k ≤ j
        · rw [show Nat.ble (lo + 2 ^ k) j = true from Nat.ble_eq_true_of_le hj, cond_true, xget_leaf, if_neg (by omega)]
        · rw [show Nat.ble (lo + 2 ^ k) j = false from Bool.eq_false_iff.mpr fun q => hj (Nat.le_of_ble_eq_true q), cond_false, ih _ _ (xwf_leaf _ _ _) h1 (by omega) h3 (by omega), xget_leaf]
    · rw [xset_branch, xget_branch]
      by_cases hn : lo + 2 ^ k ≤ n
      · rw [show Nat.ble (lo + 2 ^ k) n = true from Nat.ble_eq_true_of_le hn, cond_true, xget_branch]
        by_cases hj : lo + 2 ^ k ≤ j
        · rw [show Nat.ble (lo + 2 ^ k) j = true from Nat.ble_eq_true_of_le hj, cond_true, cond_true, ih _ _ hr hn (by omega) hj (by omega)]
        · rw [show Nat.ble (lo + 2 ^ k) j = false from Bool.eq_false_iff.mpr fun q => hj (Nat.le_of_ble_eq_true q), cond_false, cond_false, if_neg (by omega)]
      · rw [show Nat.ble (lo + 2 ^ k) n = false from Bool.eq_false_iff.mpr fun q => hn (Nat.le_of_ble_eq_true q), cond_false, xget_branch]
        by_cases hj : lo + 2 ^ k ≤ j
        · rw [show Nat.ble (lo + 2 ^ k) j = true from Nat.ble_eq_true_of_le hj, cond_true, cond_true, if_neg (by omega)]
        · rw [show Nat.ble (lo + 2 ^ k) j = false from Bool.eq_false_iff.mpr fun q => hj (Nat.le_of_ble_eq_true q), cond_false, cond_false, ih _ _ hl h1 (by omega) h3 (by omega)]
theorem xi32 (v : Int32) : Int32.ofNat v.toUInt32.toNat = v := by
  apply Int32.toBitVec_inj.mp
  simp [Int32.toBitVec_ofNat]
theorem xi64 (v : Int64) : Int64.ofNat v.toUInt64.toNat = v := by
  apply Int64.toBitVec_inj.mp
  simp [Int64.toBitVec_ofNat]
theorem xtb (n : Nat) : (Int32.ofNat n).toBitVec = BitVec.ofNat 32 n := rfl
theorem xtbL (n : Nat) : (Int64.ofNat n).toBitVec = BitVec.ofNat 64 n := rfl
theorem xi32m (n : Nat) : Int32.ofNat (xm32 n) = Int32.ofNat n := by
  apply Int32.toBitVec_inj.mp
  rw [xtb, xtb]
  apply BitVec.eq_of_toNat_eq
  rw [BitVec.toNat_ofNat, BitVec.toNat_ofNat]
  show n % 4294967296 % 4294967296 = n % 4294967296
  omega
theorem xi32add (a b : Nat) : Int32.ofNat (xm32 (Nat.add a b)) = Int32.ofNat a + Int32.ofNat b := by
  rw [xi32m]
  apply Int32.toBitVec_inj.mp
  simp [Int32.toBitVec_ofNat, BitVec.ofNat_add]
theorem xi32mul (a b : Nat) : Int32.ofNat (xm32 (Nat.mul a b)) = Int32.ofNat a * Int32.ofNat b := by
  rw [xi32m]
  apply Int32.toBitVec_inj.mp
  simp [Int32.toBitVec_ofNat, BitVec.ofNat_mul]
theorem xi32sub (a b : Nat) : Int32.ofNat (xm32 (Nat.add a (Nat.sub 4294967296 (xm32 b)))) = Int32.ofNat a - Int32.ofNat b := by
  rw [xi32m]
  apply Int32.toBitVec_inj.mp
  rw [Int32.toBitVec_sub, xtb, xtb, xtb]
  apply BitVec.eq_of_toNat_eq
  rw [BitVec.toNat_sub, BitVec.toNat_ofNat, BitVec.toNat_ofNat, BitVec.toNat_ofNat]
  show (a + (4294967296 - b % 4294967296)) % 4294967296 = (4294967296 - b % 4294967296 + a % 4294967296) % 4294967296
  omega
/-- an int, a long, each with 2^31, 2^63 more -/
def xb (x : Int32) : Nat := (x.toInt + 2147483648).toNat
def xbL (x : Int64) : Nat := (x.toInt + 9223372036854775808).toNat
theorem xb_lt {x y : Int32} : x < y ↔ xb x < xb y := by
  have h1 := Int32.le_toInt x
  have h2 := Int32.le_toInt y
  rw [Int32.lt_iff_toInt_lt]
  unfold xb
  omega
theorem xb_inj {x y : Int32} (h : xb x = xb y) : x = y := by
  have h1 := Int32.le_toInt x
  have h2 := Int32.le_toInt y
  apply Int32.toInt_inj.mp
  unfold xb at h
  omega
theorem xbL_lt {x y : Int64} : x < y ↔ xbL x < xbL y := by
  have h1 := Int64.le_toInt x
  have h2 := Int64.le_toInt y
  rw [Int64.lt_iff_toInt_lt]
  unfold xbL
  omega
theorem xbL_inj {x y : Int64} (h : xbL x = xbL y) : x = y := by
  have h1 := Int64.le_toInt x
  have h2 := Int64.le_toInt y
  apply Int64.toInt_inj.mp
  unfold xbL at h
  omega
theorem xb_le (x : Int32) : xb x ≤ 4294967295 := by
  have h1 := Int32.toInt_lt x
  unfold xb
  omega
theorem xbL_le (x : Int64) : xbL x ≤ 18446744073709551615 := by
  have h1 := Int64.toInt_lt x
  unfold xbL
  omega
theorem xb_of (n : Nat) : xb (Int32.ofNat n) = xm32 (Nat.add n 2147483648) := by
  unfold xb
  have e : (Int32.ofNat n).toInt = (BitVec.ofNat 32 n).toInt := rfl
  rw [e, BitVec.toInt_eq_toNat_cond]
  simp only [BitVec.toNat_ofNat]
  show _ = (n + 2147483648) % 4294967296
  split <;> omega
theorem xbL_of (n : Nat) : xbL (Int64.ofNat n) = xm64 (Nat.add n 9223372036854775808) := by
  unfold xbL
  have e : (Int64.ofNat n).toInt = (BitVec.ofNat 64 n).toInt := rfl
  rw [e, BitVec.toInt_eq_toNat_cond]
  simp only [BitVec.toNat_ofNat]
  show _ = (n + 9223372036854775808) % 18446744073709551616
  split <;> omega
/-- what an abstract value stands for -/
def xR (ad : Nat → Nat) (a : xA) (v : Value) : Prop := match a with
  | .inl n => v = .int (Int32.ofNat n)
  | .inr (.inl n) => v = .long (Int64.ofNat n)
  | .inr (.inr (.inl k)) => v = .ref (ad k)
  | .inr (.inr (.inr (.inl q))) => ∃ x : Int32, v = .int x ∧ q.1 ≤ xb x ∧ xb x ≤ q.2
  | .inr (.inr (.inr (.inr (.inl q)))) => ∃ x : Int64, v = .long x ∧ q.1 ≤ xbL x ∧ xbL x ≤ q.2
  | .inr (.inr (.inr (.inr (.inr (.inl false))))) => v = .null
  | .inr (.inr (.inr (.inr (.inr (.inl true))))) => v = .null ∨ ∃ a, v = .ref a
  | .inr (.inr (.inr (.inr (.inr (.inr k))))) => ∃ x : Int32, v = .int x ∧ x &&& 63 = Int32.ofNat k
theorem xR_cat {ad : Nat → Nat} {a : xA} {v : Value} (h : xR ad a v) : v.category = xcat a := by
  rcases a with n | n | n | q | q | (_ | _) | k
  · cases h; rfl
  · cases h; rfl
  · cases h; rfl
  · obtain ⟨x, rfl, -⟩ := h; rfl
  · obtain ⟨x, rfl, -⟩ := h; rfl
  · cases h; rfl
  · rcases h with rfl | ⟨x, rfl⟩ <;> rfl
  · obtain ⟨x, rfl, -⟩ := h; rfl
theorem xR_bd {ad : Nat → Nat} {a : xA} {v : Value} {q : Nat × Nat} (h : xR ad a v) (hb : xbd a = some q) : ∃ x : Int32, v = .int x ∧ q.1 ≤ xb x ∧ xb x ≤ q.2 := by
  rcases a with n | n | n | p | p | b | k
  · have e := Option.some.inj (show some (xm32 (Nat.add n 2147483648), xm32 (Nat.add n 2147483648)) = some q from hb)
    have e2 := xb_of n
    generalize xm32 (Nat.add n 2147483648) = z at e e2
    rw [← e]
    exact ⟨_, h, Nat.le_of_eq e2.symm, Nat.le_of_eq e2⟩
  · cases hb
  · cases hb
  · cases hb; exact h
  · cases hb
  · cases hb
  · cases hb; obtain ⟨x, rfl, -⟩ := h; exact ⟨x, rfl, Nat.zero_le _, xb_le x⟩
theorem xR_bdl {ad : Nat → Nat} {a : xA} {v : Value} {q : Nat × Nat} (h : xR ad a v) (hb : xbdl a = some q) : ∃ x : Int64, v = .long x ∧ q.1 ≤ xbL x ∧ xbL x ≤ q.2 := by
  rcases a with n | n | n | p | p | b | k
  · cases hb
  · have e := Option.some.inj (show some (xm64 (Nat.add n 9223372036854775808), xm64 (Nat.add n 9223372036854775808)) = some q from hb)
    have e2 := xbL_of n
    generalize xm64 (Nat.add n 9223372036854775808) = z at e e2
    rw [← e]
    exact ⟨_, h, Nat.le_of_eq e2.symm, Nat.le_of_eq e2⟩
  · cases hb
  · cases hb
  · cases hb; exact h
  · cases hb
  · cases hb
theorem xR_top (ad : Nat → Nat) (x : Int32) : xR ad xTop (.int x) := ⟨x, rfl, Nat.zero_le _, xb_le x⟩
theorem xR_topL (ad : Nat → Nat) (x : Int64) : xR ad xTopL (.long x) := ⟨x, rfl, Nat.zero_le _, xbL_le x⟩
theorem isSome_of {α : Type} {o : Option α} (h : o.isSome = true) : ∃ a, o = some a := by
  cases o with
  | none => cases h
  | some a => exact ⟨a, rfl⟩
theorem and_true' {a b : Bool} (h : (a && b) = true) : a = true ∧ b = true := by
  cases a <;> cases b <;> simp_all
theorem cond_some {α : Type} {b : Bool} {x : Option α} {y : α} (h : cond b x none = some y) : b = true ∧ x = some y := by
  cases b
  · cases h
  · exact ⟨rfl, h⟩
theorem xj_some {α β : Type} {a : Option α} {k : α → Option β} {y : β} (h : xj a k = some y) : ∃ x, a = some x ∧ k x = some y := by
  cases a with
  | none => cases h
  | some x => exact ⟨x, rfl, h⟩
theorem xbin_ok {ad : Nat → Nat} {f : Nat → Nat → Nat} {op : Int32 → Int32 → Int32} (hf : ∀ x y, Int32.ofNat (f x y) = op (Int32.ofNat x) (Int32.ofNat y)) {a b w : xA} {u v : Value} (ha : xR ad a u) (hb : xR ad b v) (h : xbin f a b = some w) :
    ∃ x y : Int32, u = .int x ∧ v = .int y ∧ xR ad w (.int (op x y)) := by
  have gen : ∀ (p q : Nat × Nat), xbd a = some p → xbd b = some q → w = xTop → ∃ x y : Int32, u = .int x ∧ v = .int y ∧ xR ad w (.int (op x y)) := by
    intro p q h1 h2 h3
    obtain ⟨x, rfl, -⟩ := xR_bd ha h1
    obtain ⟨y, rfl, -⟩ := xR_bd hb h2
    exact ⟨x, y, rfl, rfl, by rw [h3]; exact xR_top ad _⟩
  have rest : cond ((xbd a).isSome && (xbd b).isSome) (some xTop) none = some w → ∃ x y : Int32, u = .int x ∧ v = .int y ∧ xR ad w (.int (op x y)) := by
    intro h
    obtain ⟨h1, h2⟩ := cond_some h
    obtain ⟨h3, h4⟩ := and_true' h1
    obtain ⟨p, hp⟩ := isSome_of h3
    obtain ⟨q, hq⟩ := isSome_of h4
    exact gen p q hp hq (Option.some.inj h2).symm
  rcases a with n | n
  · rcases b with m | m
    · cases ha; cases hb; cases h
      exact ⟨_, _, rfl, rfl, by show Value.int _ = _; rw [hf]⟩
    · exact rest h
  · exact rest h
theorem xbinl_ok {ad : Nat → Nat} {f : Nat → Nat → Nat} {op : Int64 → Int64 → Int64} (hf : ∀ x y, Int64.ofNat (f x y) = op (Int64.ofNat x) (Int64.ofNat y)) {a b w : xA} {u v : Value} (ha : xR ad a u) (hb : xR ad b v) (h : xbinl f a b = some w) :
    ∃ x y : Int64, u = .long x ∧ v = .long y ∧ xR ad w (.long (op x y)) := by
  have rest : cond ((xbdl a).isSome && (xbdl b).isSome) (some xTopL) none = some w → ∃ x y : Int64, u = .long x ∧ v = .long y ∧ xR ad w (.long (op x y)) := by
    intro h
    obtain ⟨h1, h2⟩ := cond_some h
    obtain ⟨h3, h4⟩ := and_true' h1
    obtain ⟨p, hp⟩ := isSome_of h3
    obtain ⟨q, hq⟩ := isSome_of h4
    obtain ⟨x, rfl, -⟩ := xR_bdl ha hp
    obtain ⟨y, rfl, -⟩ := xR_bdl hb hq
    exact ⟨x, y, rfl, rfl, by rw [← Option.some.inj h2]; exact xR_topL ad _⟩
  rcases a with n | n | n
  · exact rest h
  · rcases b with m | m | m
    · exact rest h
    · cases ha; cases hb; cases h
      exact ⟨_, _, rfl, rfl, by show Value.long _ = _; rw [hf]⟩
    · exact rest h
  · exact rest h
end
section
/-! ===== the runner's world and the machine's heap ===== -/
def xcn (c : Nat) : String := match vwCl[c]? with
  | some q => q.1
  | none => ""
def xty1 (t : Nat) : FieldType := match t with
  | 0 => .int
  | 1 => .long
  | 2 => .boolean
  | _ => .byte
def xty (t : Nat) : FieldType := if t < 4 then xty1 t else if t < 64 then .object (xcn (t - 4)) else .array (xty1 (t - 64))
/-- the class of the elements of an array of references -/
def xtn (t : Nat) : String := if t < 64 then xcn (t - 4) else (xty t).toString
def xad (o h0 : Nat) (old : Nat → Nat) (k : Nat) : Nat := if k < o then old k else h0 + (k - o)
/-- what the tables say of an array that was made here -/
def xAr (S : State) (cell : Cell) (ty : Nat) : Prop := cell.vm = .none ∧ S.vm.findClass (FieldType.array (xty ty)).toString = some cell.cls ∧ (4 ≤ ty → ∃ k comp kc, S.vm.classes[cell.cls]? = some k ∧ k.kind = .array comp (xty ty) ∧ S.vm.findClass (xtn ty) = some comp ∧ S.vm.classes[comp]? = some kc)
/-- a constant text: an object of String over a row of bytes, one byte a sign -/
def xstr (S : State) (ad : Nat → Nat) (a : Nat) (cs : List Nat) : Prop := a < S.heap.size ∧ ∃ j : Nat, cs = [j] ∧ va_O "java/lang/String" a (fun q => S.heap.size ≤ q) S S.heap ∧ va_OF "java/lang/String" "coder" "B" (.int 0) a (fun q => S.heap.size ≤ q) S S.heap ∧ va_OF "java/lang/String" "value" "[B" (.ref (ad j)) a (fun q => S.heap.size ≤ q) S S.heap
def xcr (o : Nat) (ad : Nat → Nat) (D : va_G) (S : State) (k : Nat) (c : xC) (H : Heap) : Prop := match c with
  | none => True
  | some (.inl q) => ∃ r : vw_C, vwCl[q.1]? = some r ∧ xwf 8 0 q.2 ∧ r.2.2 ≤ 256 ∧ ∃ V : Nat → Value, t_OB (ad k) (D.1 q.1) r.2.2 (D.2 q.1) H V ∧ ∀ j, j < r.2.2 → xR ad (xget q.2 j) (V j)
  | some (.inr (.inl q)) => ∃ cell : Cell, H[ad k]? = some cell ∧ S.isArrayOf cell (xty q.1) ∧ cell.vm ≠ .unknown ∧ (o ≤ k → xAr S cell q.1) ∧ q.2.1 ≤ cell.slots.size ∧ cell.slots.size.toInt32 = Int32.ofNat q.2.1 ∧ xwf q.2.2.1 0 q.2.2.2 ∧ q.2.1 ≤ 2 ^ q.2.2.1 ∧ ∀ j, j < q.2.1 → ∃ v, cell.slots[j]? = some v ∧ xR ad (xget q.2.2.2 j) v
  | some (.inr (.inr cs)) => xstr S ad (ad k) cs
def xhr (o : Nat) (old : Nat → Nat) (D : va_G) (S : State) (hp : xH) (H : Heap) : Prop :=
  (∀ k, xcr o (xad o S.heap.size old) D S k (xcell hp k) H) ∧ xwf 12 0 hp.1 ∧ (∀ k, hp.2.1 ≤ k → xcell hp k = none) ∧ o ≤ hp.2.1 ∧ hp.2.1 ≤ 4096 ∧ S.heap.size + (hp.2.1 - o) ≤ H.size ∧ (hp.2.2.1 = true → H.size = S.heap.size + (hp.2.1 - o)) ∧ ∀ q, q < S.heap.size → H[q]? = S.heap[q]?
theorem xcr.kept {o : Nat} {ad : Nat → Nat} {D : va_G} {S : State} {k : Nat} {c : xC} {H H' : Heap} (h : xcr o ad D S k c H) (he : H'[ad k]? = H[ad k]?) : xcr o ad D S k c H' := by
  match c with
  | none => trivial
  | some (.inl q) =>
    obtain ⟨r, h1, h2, h3, V, h4, h5⟩ := h
    exact ⟨r, h1, h2, h3, V, h4.kept he, h5⟩
  | some (.inr (.inl q)) =>
    obtain ⟨cell, h1, h2⟩ := h
    exact ⟨cell, by rw [he]; exact h1, h2⟩
  | some (.inr (.inr cs)) => exact h
theorem xcell_lt {hp : xH} {k : Nat} {c : (Nat × Lean.RArray xA) ⊕ ((Nat × (Nat × (Nat × Lean.RArray xA))) ⊕ List Nat)} (h : xcell hp k = some c) : k < 4096 := by
  unfold xcell at h
  cases hb : Nat.blt k 4096 with
  | false => rw [hb] at h; cases h
  | true => exact Nat.le_of_ble_eq_true hb
theorem xcell_put {hp : xH} {k : Nat} {c : xC} (hw : xwf 12 0 hp.1) (hk : k < 4096) (j : Nat) : xcell (xput hp k c) j = if j = k then c else xcell hp j := by
  unfold xcell xput
  by_cases hj : j < 4096
  · rw [show Nat.blt j 4096 = true from Nat.ble_eq_true_of_le hj, cond_true, cond_true]
    exact xget_xset c k j 12 0 hp.1 hw (Nat.zero_le _) (by omega) (Nat.zero_le _) (by omega)
  · rw [show Nat.blt j 4096 = false from Bool.eq_false_iff.mpr fun q => hj (Nat.le_of_ble_eq_true q), cond_false, cond_false, if_neg (by omega)]
theorem xad_ne {o h0 : Nat} {old : Nat → Nat} (hold : ∀ k, k < o → old k < h0) {j k : Nat} (hk : o ≤ k) (hne : j ≠ k) : xad o h0 old j ≠ xad o h0 old k := by
  unfold xad
  rw [if_neg (by omega : ¬ k < o)]
  by_cases hj : j < o
  · rw [if_pos hj]
    have := hold j hj
    omega
  · rw [if_neg hj]
    omega
theorem xhr.put {o : Nat} {old : Nat → Nat} {D : va_G} {S : State} {hp : xH} {H H' : Heap} {k : Nat} {c : xC} (h : xhr o old D S hp H) (hold : ∀ k, k < o → old k < S.heap.size) (hk : o ≤ k) (hn : k < hp.2.1) (hz : H'.size = H.size) (hq : ∀ q, q ≠ xad o S.heap.size old k → H'[q]? = H[q]?)
    (hc : xcr o (xad o S.heap.size old) D S k c H') : xhr o old D S (xput hp k c) H' := by
  obtain ⟨h1, h2, h3, h4, h5, h6, h7, h8⟩ := h
  have hk2 : k < 4096 := by omega
  refine ⟨fun j => ?_, xset_wf _ _ _ _ _ h2, fun j hj => ?_, h4, h5, by rw [hz]; exact h6, fun q => by rw [hz]; exact h7 q, fun q hq' => ?_⟩
  · rw [xcell_put h2 hk2]
    by_cases e : j = k
    · rw [if_pos e, e]; exact hc
    · rw [if_neg e]
      exact (h1 j).kept (hq _ (xad_ne hold hk e))
  · have hj' : hp.2.1 ≤ j := hj
    rw [xcell_put h2 hk2, if_neg (by omega)]
    exact h3 j hj'
  · rw [hq q, h8 q hq']
    unfold xad
    rw [if_neg (by omega)]
    omega
theorem xnew_some {hp : xH} {c : xC} {n : Nat} {q : Nat × xH} (h : xnew hp c n = some q) : hp.2.2.1 = true ∧ hp.2.1 < 4096 ∧ q = (hp.2.1, (xset c hp.2.1 12 0 hp.1, (hp.2.1 + 1, (true, (hp.2.2.2.1 + 1, hp.2.2.2.2 + n))))) := by
  unfold xnew at h
  obtain ⟨h1, h2⟩ := cond_some h
  obtain ⟨h3, h4⟩ := and_true' h1
  exact ⟨h3, Nat.le_of_ble_eq_true h4, (Option.some.inj h2).symm⟩
theorem xhr.new {o : Nat} {old : Nat → Nat} {D : va_G} {S : State} {hp : xH} {H H' : Heap} {c : xC} {n : Nat} {q : Nat × xH} (h : xhr o old D S hp H) (hold : ∀ k, k < o → old k < S.heap.size) (hq : xnew hp c n = some q) (hz : H'.size = H.size + 1) (hs : ∀ x, x < H.size → H'[x]? = H[x]?)
    (hc : xcr o (xad o S.heap.size old) D S q.1 c H') : xhr o old D S q.2 H' ∧ xad o S.heap.size old q.1 = H.size ∧ q.2.2.2.2.1 = hp.2.2.2.1 + 1 ∧ q.2.2.2.2.2 = hp.2.2.2.2 + n := by
  obtain ⟨e1, e2, rfl⟩ := xnew_some hq
  obtain ⟨h1, h2, h3, h4, h5, h6, h7, h8⟩ := h
  have h9 := h7 e1
  have ha : xad o S.heap.size old hp.2.1 = H.size := by
    unfold xad
    rw [if_neg (by omega), h9]
  have hcell : ∀ j, xcell ((xset c hp.2.1 12 0 hp.1, (hp.2.1 + 1, (true, (hp.2.2.2.1 + 1, hp.2.2.2.2 + n)))) : xH) j = if j = hp.2.1 then c else xcell hp j := fun j => xcell_put h2 e2 j
  refine ⟨⟨fun j => ?_, xset_wf _ _ _ _ _ h2, fun j hj => ?_, by show o ≤ hp.2.1 + 1; omega, by show hp.2.1 + 1 ≤ 4096; omega, by show S.heap.size + (hp.2.1 + 1 - o) ≤ _; omega, fun _ => by show _ = S.heap.size + (hp.2.1 + 1 - o); omega, fun x hx => ?_⟩, ha, rfl, rfl⟩
  · rw [hcell j]
    by_cases e : j = hp.2.1
    · rw [if_pos e, e]; exact hc
    · rw [if_neg e]
      by_cases hj : hp.2.1 ≤ j
      · rw [h3 j hj]; trivial
      · refine (h1 j).kept (hs _ ?_)
        unfold xad
        by_cases hjo : j < o
        · rw [if_pos hjo]
          have := hold j hjo
          omega
        · rw [if_neg hjo]; omega
  · have hj' : hp.2.1 + 1 ≤ j := hj
    rw [hcell j, if_neg (by omega)]
    exact h3 j (by omega)
  · rw [hs x (by omega), h8 x hx]
/-- locals and stack -/
def xl2 (ad : Nat → Nat) : List (Nat × xA) → List (Nat × Value) → Prop
  | [], [] => True
  | a :: as, b :: bs => a.1 = b.1 ∧ xR ad a.2 b.2 ∧ xl2 ad as bs
  | _, _ => False
def xs2 (ad : Nat → Nat) : List xA → List Value → Prop
  | [], [] => True
  | a :: as, b :: bs => xR ad a b ∧ xs2 ad as bs
  | _, _ => False
theorem xs2_cons {ad : Nat → Nat} {a : xA} {as : List xA} {st : List Value} (h : xs2 ad (a :: as) st) : ∃ b bs, st = b :: bs ∧ xR ad a b ∧ xs2 ad as bs := by
  cases st with
  | nil => exact h.elim
  | cons b bs => exact ⟨b, bs, rfl, h.1, h.2⟩
theorem xs2_nil {ad : Nat → Nat} {st : List Value} (h : xs2 ad [] st) : st = [] := by
  cases st with
  | nil => rfl
  | cons b bs => exact h.elim
theorem xs2_len {ad : Nat → Nat} : ∀ {as : List xA} {st : List Value}, xs2 ad as st → st.length = as.length := by
  intro as
  induction as with
  | nil => intro st h; rw [xs2_nil h]; rfl
  | cons a as ih =>
    intro st h
    obtain ⟨b, bs, rfl, -, h2⟩ := xs2_cons h
    simp [ih h2]
theorem xs2_cats {ad : Nat → Nat} : ∀ {as : List xA} {st : List Value}, xs2 ad as st → (st.map fun v => v.category).sum = xcats as := by
  intro as
  induction as with
  | nil => intro st h; rw [xs2_nil h]; rfl
  | cons a as ih =>
    intro st h
    obtain ⟨b, bs, rfl, h1, h2⟩ := xs2_cons h
    rw [List.map_cons, List.sum_cons, ih h2, xR_cat h1]
    rfl
theorem xlk_ok {ad : Nat → Nat} {i : Nat} {a : xA} : ∀ {loc : List (Nat × xA)} {lv : List (Nat × Value)}, xl2 ad loc lv → xlk loc i = some a → ∃ (k : Nat) (v : Value), lv[k]? = some (i, v) ∧ xR ad a v := by
  intro loc
  induction loc with
  | nil => intro lv _ h; cases h
  | cons q loc ih =>
    intro lv h2 h
    cases lv with
    | nil => exact h2.elim
    | cons b bs =>
      obtain ⟨e1, e2, e3⟩ := h2
      have h' : cond (Nat.beq q.1 i) (some q.2) (xlk loc i) = some a := h
      cases hb : Nat.beq q.1 i with
      | true =>
        rw [hb] at h'
        have e4 : q.1 = i := Nat.eq_of_beq_eq_true hb
        refine ⟨0, b.2, ?_, by rw [← Option.some.inj h']; exact e2⟩
        show some b = _
        rw [← e4, e1]
      | false =>
        rw [hb] at h'
        obtain ⟨k, v, h5, h6⟩ := ih e3 h'
        exact ⟨k + 1, v, h5, h6⟩
theorem xl2_filter {ad : Nat → Nat} {f : Nat × xA → Bool} {g : Nat × Value → Bool} (hfg : ∀ a b, a.1 = b.1 → xR ad a.2 b.2 → f a = g b) : ∀ {loc : List (Nat × xA)} {lv : List (Nat × Value)}, xl2 ad loc lv → xl2 ad (loc.filter f) (lv.filter g) := by
  intro loc
  induction loc with
  | nil => intro lv h; cases lv with
    | nil => trivial
    | cons => exact h.elim
  | cons a loc ih =>
    intro lv h
    cases lv with
    | nil => exact h.elim
    | cons b bs =>
      obtain ⟨e1, e2, e3⟩ := h
      have e := hfg a b e1 e2
      simp only [List.filter_cons]
      rw [e]
      cases g b
      · exact ih e3
      · exact ⟨e1, e2, ih e3⟩
theorem beq_nat (a b : Nat) : Nat.beq a b = (a == b) := by
  rw [Bool.eq_iff_iff]
  simp
theorem xst1_ok {ad : Nat → Nat} {i : Nat} {a : xA} {v : Value} {loc : List (Nat × xA)} {lv : List (Nat × Value)} (h : xl2 ad loc lv) (ha : xR ad a v) : xl2 ad (xst1 loc i a) ((i, v) :: lv.filter (fun q => !(q.1 == i) && !(q.1 + 1 == i && q.2.category == 2))) := by
  refine ⟨rfl, ha, xl2_filter (fun x y e1 e2 => ?_) h⟩
  rw [xR_cat e2, ← e1]
  simp only [beq_nat]
theorem xst2_ok {ad : Nat → Nat} {i : Nat} {a : xA} {v : Value} {loc : List (Nat × xA)} {lv : List (Nat × Value)} (h : xl2 ad loc lv) (ha : xR ad a v) : xl2 ad (xst2 loc i a) ((i, v) :: lv.filter (fun q => !(q.1 == i) && (!(q.1 == i + 1) && !(q.1 + 1 == i && q.2.category == 2)))) := by
  refine ⟨rfl, ha, xl2_filter (fun x y e1 e2 => ?_) h⟩
  rw [xR_cat e2, ← e1]
  simp only [beq_nat]
end
section
/-! ===== the steps: locals, stack, numbers, branches ===== -/
/-- the frame: machine, code, locals, its class, the tables' words, the tables as at the law's entry, no lock -/
def xFx (p : Program) (s : State) (m : MethodId) (args : Array Value) (meth : Method) (c : Code) (cc : ByteArray) (nL : Nat) (own : String) (S : State) : Prop :=
  p.tables.exec = Jvm.exec ∧ c.code = cc ∧ c.maxLocals = nL ∧ s.vm.findClass own = some m.cls ∧ (∀ w ∈ lw_tbl.filter goodWord, w.before args s = true) ∧ S.WarmedH s.vm ∧ meth.locks = false
/-- from every state of the machine that the runner's state tells of, the goal is reached -/
def xG (p : Program) (l : Launch) (e : Env) (R : Room) (s : State) (m : MethodId) (args : Array Value) (below : List Frame) (meth : Method) (c : Code) (nL : Nat) (S : State) (o : Nat) (old : Nat → Nat) (D : va_G) (c0 s0 : Nat) (Q : State → Prop) (pc : Nat) (loc : List (Nat × xA)) (stk : List xA) (hp : xH) : Prop :=
  ∀ (H : Heap) (locs : List Loc) (cells slots : Nat) (ls : Array Slot) (lv : List (Nat × Value)) (st : List Value), lv_has ls nL lv → xl2 (xad o S.heap.size old) loc lv → xs2 (xad o S.heap.size old) stk st → xhr o old D S hp H → (∀ z ∈ locs, S.heap.size ≤ z.base) → cells + c0 = hp.2.2.2.1 → slots + s0 = hp.2.2.2.2 →
    W p l e R s m args below meth c H locs cells slots Q (F0 m pc ls st)
abbrev xHyp (p : Program) (l : Launch) (e : Env) (R : Room) (s : State) (m : MethodId) (args : Array Value) (below : List Frame) (meth : Method) (c : Code) (nL : Nat) (S : State) (o : Nat) (old : Nat → Nat) (D : va_G) (c0 s0 : Nat) (Q : State → Prop) (K : xK) (out : xE) : Prop :=
  ∀ (pc : Nat) (loc : List (Nat × xA)) (stk : List xA) (hp : xH), K pc loc stk hp = some out → xG p l e R s m args below meth c nL S o old D c0 s0 Q pc loc stk hp
section Steps1
variable {p : Program} {l : Launch} {e : Env} {R : Room} {s : State} {m : MethodId} {args : Array Value} {below : List Frame} {meth : Method} {c : Code} {cc : ByteArray} {nL : Nat} {own : String} {S : State} {o : Nat} {old : Nat → Nat} {D : va_G} {c0 s0 : Nat} {Q : State → Prop}
variable {pc nx : Nat} {K : xK} {out : xE} {loc : List (Nat × xA)} {stk : List xA} {hp : xH} {ft : Nat → List Nat} {call : xF} {pool : Nat → xP} {hs : List (Nat × (Nat × (Nat × Nat)))}

theorem xk_push (F : xFx p s m args meth c cc nL own S) {a : xA} {v : Value} (hv : xR (xad o S.heap.size old) a v) (row : ∀ (H : Heap) (locs : List Loc) (cells slots : Nat) (ls : Array Slot) (st : List Value), W p l e R s m args below meth c H locs cells slots Q (F0 m nx ls (v :: st)) → W p l e R s m args below meth c H locs cells slots Q (F0 m pc ls st)) (hK : xHyp p l e R s m args below meth c nL S o old D c0 s0 Q K out) (h : K nx loc (a :: stk) hp = some out) : xG p l e R s m args below meth c nL S o old D c0 s0 Q pc loc stk hp := by
  intro H locs cells slots ls lv st hlv hl hs1 hh hlo hc hsl
  exact row _ _ _ _ _ _ (hK _ _ _ _ h H locs cells slots ls lv _ hlv hl ⟨hv, hs1⟩ hh hlo hc hsl)
theorem xk_ii (F : xFx p s m args meth c cc nL own S) {f : Nat → Nat → Nat} {op : Int32 → Int32 → Int32} (hf : ∀ x y, Int32.ofNat (f x y) = op (Int32.ofNat x) (Int32.ofNat y)) (row : ∀ (H : Heap) (locs : List Loc) (cells slots : Nat) (ls : Array Slot) (x y : Int32) (st : List Value), W p l e R s m args below meth c H locs cells slots Q (F0 m nx ls (.int (op x y) :: st)) → W p l e R s m args below meth c H locs cells slots Q (F0 m pc ls (.int y :: .int x :: st))) (hK : xHyp p l e R s m args below meth c nL S o old D c0 s0 Q K out) (h : (match stk with
    | b :: a :: rest => xj (xbin f a b) fun v => K nx loc (v :: rest) hp
    | _ => none) = some out) : xG p l e R s m args below meth c nL S o old D c0 s0 Q pc loc stk hp := by
  intro H locs cells slots ls lv st hlv hl hs1 hh hlo hc hsl
  match stk, hs1, h with
  | [], _, h => cases h
  | [_], _, h => cases h
  | b :: a :: rest, hs1, h =>
    obtain ⟨r, hr, h⟩ := xj_some h
    obtain ⟨vb, st1, rfl, rb, hs2⟩ := xs2_cons hs1
    obtain ⟨va, st2, rfl, ra, hs3⟩ := xs2_cons hs2
    obtain ⟨x, y, rfl, rfl, rr⟩ := xbin_ok hf ra rb hr
    exact row _ _ _ _ _ _ _ _ (hK _ _ _ _ h H locs cells slots ls lv _ hlv hl ⟨rr, hs3⟩ hh hlo hc hsl)
theorem xk_ll (F : xFx p s m args meth c cc nL own S) {f : Nat → Nat → Nat} {op : Int64 → Int64 → Int64} (hf : ∀ x y, Int64.ofNat (f x y) = op (Int64.ofNat x) (Int64.ofNat y)) (row : ∀ (H : Heap) (locs : List Loc) (cells slots : Nat) (ls : Array Slot) (x y : Int64) (st : List Value), W p l e R s m args below meth c H locs cells slots Q (F0 m nx ls (.long (op x y) :: st)) → W p l e R s m args below meth c H locs cells slots Q (F0 m pc ls (.long y :: .long x :: st))) (hK : xHyp p l e R s m args below meth c nL S o old D c0 s0 Q K out) (h : (match stk with
    | b :: a :: rest => xj (xbinl f a b) fun v => K nx loc (v :: rest) hp
    | _ => none) = some out) : xG p l e R s m args below meth c nL S o old D c0 s0 Q pc loc stk hp := by
  intro H locs cells slots ls lv st hlv hl hs1 hh hlo hc hsl
  match stk, hs1, h with
  | [], _, h => cases h
  | [_], _, h => cases h
  | b :: a :: rest, hs1, h =>
    obtain ⟨r, hr, h⟩ := xj_some h
    obtain ⟨vb, st1, rfl, rb, hs2⟩ := xs2_cons hs1
    obtain ⟨va, st2, rfl, ra, hs3⟩ := xs2_cons hs2
    obtain ⟨x, y, rfl, rfl, rr⟩ := xbinl_ok hf ra rb hr
    exact row _ _ _ _ _ _ _ _ (hK _ _ _ _ h H locs cells slots ls lv _ hlv hl ⟨rr, hs3⟩ hh hlo hc hsl)
theorem xk_one (F : xFx p s m args meth c cc nL own S) {g : xA → Option xA} {wv : Value → Value → Prop} (hg : ∀ {a r : xA} {v : Value}, xR (xad o S.heap.size old) a v → g a = some r → ∃ u, wv v u ∧ xR (xad o S.heap.size old) r u) (row : ∀ (H : Heap) (locs : List Loc) (cells slots : Nat) (ls : Array Slot) (v u : Value) (st : List Value), wv v u → W p l e R s m args below meth c H locs cells slots Q (F0 m nx ls (u :: st)) → W p l e R s m args below meth c H locs cells slots Q (F0 m pc ls (v :: st))) (hK : xHyp p l e R s m args below meth c nL S o old D c0 s0 Q K out) (h : (match stk with
    | a :: rest => xj (g a) fun v => K nx loc (v :: rest) hp
    | _ => none) = some out) : xG p l e R s m args below meth c nL S o old D c0 s0 Q pc loc stk hp := by
  intro H locs cells slots ls lv st hlv hl hs1 hh hlo hc hsl
  match stk, hs1, h with
  | [], _, h => cases h
  | a :: rest, hs1, h =>
    obtain ⟨r, hr, h⟩ := xj_some h
    obtain ⟨va, st2, rfl, ra, hs1⟩ := xs2_cons hs1
    obtain ⟨u, hu, ru⟩ := hg ra hr
    exact row _ _ _ _ _ _ _ _ hu (hK _ _ _ _ h H locs cells slots ls lv _ hlv hl ⟨ru, hs1⟩ hh hlo hc hsl)
theorem xk_two (F : xFx p s m args meth c cc nL own S) {g : xA → xA → Option xA} {wv : Value → Value → Value → Prop} (hg : ∀ {a b r : xA} {v z : Value}, xR (xad o S.heap.size old) a v → xR (xad o S.heap.size old) b z → g a b = some r → ∃ u, wv v z u ∧ xR (xad o S.heap.size old) r u) (row : ∀ (H : Heap) (locs : List Loc) (cells slots : Nat) (ls : Array Slot) (v z u : Value) (st : List Value), wv v z u → W p l e R s m args below meth c H locs cells slots Q (F0 m nx ls (u :: st)) → W p l e R s m args below meth c H locs cells slots Q (F0 m pc ls (z :: v :: st))) (hK : xHyp p l e R s m args below meth c nL S o old D c0 s0 Q K out) (h : (match stk with
    | b :: a :: rest => xj (g a b) fun v => K nx loc (v :: rest) hp
    | _ => none) = some out) : xG p l e R s m args below meth c nL S o old D c0 s0 Q pc loc stk hp := by
  intro H locs cells slots ls lv st hlv hl hs1 hh hlo hc hsl
  match stk, hs1, h with
  | [], _, h => cases h
  | [_], _, h => cases h
  | b :: a :: rest, hs1, h =>
    obtain ⟨r, hr, h⟩ := xj_some h
    obtain ⟨vb, st1, rfl, rb, hs1⟩ := xs2_cons hs1
    obtain ⟨va, st2, rfl, ra, hs1⟩ := xs2_cons hs1
    obtain ⟨u, hu, ru⟩ := hg ra rb hr
    exact row _ _ _ _ _ _ _ _ _ hu (hK _ _ _ _ h H locs cells slots ls lv _ hlv hl ⟨ru, hs1⟩ hh hlo hc hsl)
theorem xk_load (F : xFx p s m args meth c cc nL own S) {i : Nat} {kk : xA → Bool} (row : ∀ (H : Heap) (locs : List Loc) (cells slots : Nat) (ls : Array Slot) (a : xA) (v : Value) (st : List Value), ls[i]? = some (.val v) → xR (xad o S.heap.size old) a v → kk a = true → W p l e R s m args below meth c H locs cells slots Q (F0 m nx ls (v :: st)) → W p l e R s m args below meth c H locs cells slots Q (F0 m pc ls st)) (hK : xHyp p l e R s m args below meth c nL S o old D c0 s0 Q K out) (h : (xj (xlk loc i) fun a => cond (kk a) (K nx loc (a :: stk) hp) none) = some out) : xG p l e R s m args below meth c nL S o old D c0 s0 Q pc loc stk hp := by
  intro H locs cells slots ls lv st hlv hl hs1 hh hlo hc hsl
  obtain ⟨a, ha, h⟩ := xj_some h
  obtain ⟨hk, h⟩ := cond_some h
  obtain ⟨k, v, h5, h6⟩ := xlk_ok hl ha
  exact row _ _ _ _ _ a v _ (lv_at hlv k h5) h6 hk (hK _ _ _ _ h H locs cells slots ls lv _ hlv hl ⟨h6, hs1⟩ hh hlo hc hsl)
theorem xk_store1 (F : xFx p s m args meth c cc nL own S) {i : Nat} {kk : xA → Bool} (row : ∀ (H : Heap) (locs : List Loc) (cells slots : Nat) (ls : Array Slot) (lv : List (Nat × Value)) (a : xA) (v : Value) (st : List Value), lv_has ls nL lv → xR (xad o S.heap.size old) a v → kk a = true → (∀ ls' : Array Slot, lv_has ls' nL ((i, v) :: lv.filter (fun q => !(q.1 == i) && !(q.1 + 1 == i && q.2.category == 2))) → W p l e R s m args below meth c H locs cells slots Q (F0 m nx ls' st)) → W p l e R s m args below meth c H locs cells slots Q (F0 m pc ls (v :: st))) (hK : xHyp p l e R s m args below meth c nL S o old D c0 s0 Q K out) (h : (match stk with
    | a :: rest => cond (kk a) (K nx (xst1 loc i a) rest hp) none
    | _ => none) = some out) : xG p l e R s m args below meth c nL S o old D c0 s0 Q pc loc stk hp := by
  intro H locs cells slots ls lv st hlv hl hs1 hh hlo hc hsl
  match stk, hs1, h with
  | [], _, h => cases h
  | a :: rest, hs1, h =>
    obtain ⟨hk, h⟩ := cond_some h
    obtain ⟨va, st2, rfl, ra, hs1⟩ := xs2_cons hs1
    exact row _ _ _ _ _ _ a va _ hlv ra hk fun ls' hlv' => hK _ _ _ _ h H locs cells slots ls' _ _ hlv' (xst1_ok hl ra) hs1 hh hlo hc hsl
theorem xk_store2 (F : xFx p s m args meth c cc nL own S) {i : Nat} {kk : xA → Bool} (row : ∀ (H : Heap) (locs : List Loc) (cells slots : Nat) (ls : Array Slot) (lv : List (Nat × Value)) (a : xA) (v : Value) (st : List Value), lv_has ls nL lv → xR (xad o S.heap.size old) a v → kk a = true → (∀ ls' : Array Slot, lv_has ls' nL ((i, v) :: lv.filter (fun q => !(q.1 == i) && (!(q.1 == i + 1) && !(q.1 + 1 == i && q.2.category == 2)))) → W p l e R s m args below meth c H locs cells slots Q (F0 m nx ls' st)) → W p l e R s m args below meth c H locs cells slots Q (F0 m pc ls (v :: st))) (hK : xHyp p l e R s m args below meth c nL S o old D c0 s0 Q K out) (h : (match stk with
    | a :: rest => cond (kk a) (K nx (xst2 loc i a) rest hp) none
    | _ => none) = some out) : xG p l e R s m args below meth c nL S o old D c0 s0 Q pc loc stk hp := by
  intro H locs cells slots ls lv st hlv hl hs1 hh hlo hc hsl
  match stk, hs1, h with
  | [], _, h => cases h
  | a :: rest, hs1, h =>
    obtain ⟨hk, h⟩ := cond_some h
    obtain ⟨va, st2, rfl, ra, hs1⟩ := xs2_cons hs1
    exact row _ _ _ _ _ _ a va _ hlv ra hk fun ls' hlv' => hK _ _ _ _ h H locs cells slots ls' _ _ hlv' (xst2_ok hl ra) hs1 hh hlo hc hsl
end Steps1
end
section
/-! ===== the steps, instruction by instruction: numbers, locals, stack, branches ===== -/
section Steps2
variable {p : Program} {l : Launch} {e : Env} {R : Room} {s : State} {m : MethodId} {args : Array Value} {below : List Frame} {meth : Method} {c : Code} {cc : ByteArray} {nL : Nat} {own : String} {S : State} {o : Nat} {old : Nat → Nat} {D : va_G} {c0 s0 : Nat} {Q : State → Prop}
variable {pc nx : Nat} {K : xK} {out : xE} {loc : List (Nat × xA)} {stk : List xA} {hp : xH} {ft : Nat → List Nat} {call : xF} {pool : Nat → xP} {hs : List (Nat × (Nat × (Nat × Nat)))}

theorem xi_iconst (F : xFx p s m args meth c cc nL own S) {len : Nat} {n : Int} (hd : decode cc pc = .ok (.iconst n, len)) (hl0 : len = xlen (.iconst n) len) (hx0 : nx = pc + len) (hst : xsto nL (.iconst n) = true) (hK : xHyp p l e R s m args below meth c nL S o old D c0 s0 Q K out) (h : xstep o ft call pool hs K (.iconst n) pc nx loc stk hp = some out) : xG p l e R s m args below meth c nL S o old D c0 s0 Q pc loc stk hp := by
  subst hx0
  have hl1 : len = 1 := hl0
  subst hl1
  exact xk_push F (a := .inl (x32 ((Int32.ofInt n)))) (v := .int (Int32.ofInt n)) (congrArg Value.int (xi32 _).symm) (fun _ _ _ _ _ _ k => lv_iconst F.1 F.2.1 hd rfl k) hK h
theorem xi_bipush (F : xFx p s m args meth c cc nL own S) {len : Nat} {n : Int} (hd : decode cc pc = .ok (.bipush n, len)) (hl0 : len = xlen (.bipush n) len) (hx0 : nx = pc + len) (hst : xsto nL (.bipush n) = true) (hK : xHyp p l e R s m args below meth c nL S o old D c0 s0 Q K out) (h : xstep o ft call pool hs K (.bipush n) pc nx loc stk hp = some out) : xG p l e R s m args below meth c nL S o old D c0 s0 Q pc loc stk hp := by
  subst hx0
  have hl1 : len = 2 := hl0
  subst hl1
  exact xk_push F (a := .inl (x32 ((Int8.ofInt n).toInt32))) (v := .int (Int8.ofInt n).toInt32) (congrArg Value.int (xi32 _).symm) (fun _ _ _ _ _ _ k => lv_bipush F.1 F.2.1 hd rfl k) hK h
theorem xi_sipush (F : xFx p s m args meth c cc nL own S) {len : Nat} {n : Int} (hd : decode cc pc = .ok (.sipush n, len)) (hl0 : len = xlen (.sipush n) len) (hx0 : nx = pc + len) (hst : xsto nL (.sipush n) = true) (hK : xHyp p l e R s m args below meth c nL S o old D c0 s0 Q K out) (h : xstep o ft call pool hs K (.sipush n) pc nx loc stk hp = some out) : xG p l e R s m args below meth c nL S o old D c0 s0 Q pc loc stk hp := by
  subst hx0
  have hl1 : len = 3 := hl0
  subst hl1
  exact xk_push F (a := .inl (x32 ((Int16.ofInt n).toInt32))) (v := .int (Int16.ofInt n).toInt32) (congrArg Value.int (xi32 _).symm) (fun _ _ _ _ _ _ k => lv_sipush F.1 F.2.1 hd rfl k) hK h
theorem xi_lconst (F : xFx p s m args meth c cc nL own S) {len : Nat} {n : Fin 2} (hd : decode cc pc = .ok (.lconst n, len)) (hl0 : len = xlen (.lconst n) len) (hx0 : nx = pc + len) (hst : xsto nL (.lconst n) = true) (hK : xHyp p l e R s m args below meth c nL S o old D c0 s0 Q K out) (h : xstep o ft call pool hs K (.lconst n) pc nx loc stk hp = some out) : xG p l e R s m args below meth c nL S o old D c0 s0 Q pc loc stk hp := by
  subst hx0
  have hl1 : len = 1 := hl0
  subst hl1
  exact xk_push F (a := .inr (.inl n.val)) (v := .long (Int64.ofNat n.val)) rfl (fun _ _ _ _ _ _ k => lv_lconst F.1 F.2.1 hd rfl k) hK h
theorem xi_aconst_null (F : xFx p s m args meth c cc nL own S) {len : Nat}  (hd : decode cc pc = .ok (.aconst_null, len)) (hl0 : len = xlen (.aconst_null) len) (hx0 : nx = pc + len) (hst : xsto nL (.aconst_null) = true) (hK : xHyp p l e R s m args below meth c nL S o old D c0 s0 Q K out) (h : xstep o ft call pool hs K (.aconst_null) pc nx loc stk hp = some out) : xG p l e R s m args below meth c nL S o old D c0 s0 Q pc loc stk hp := by
  subst hx0
  have hl1 : len = 1 := hl0
  subst hl1
  exact xk_push F (a := .inr (.inr (.inr (.inr (.inr (.inl false)))))) (v := .null) rfl (fun _ _ _ _ _ _ k => lv_null F.1 F.2.1 hd k) hK h
theorem xi_iload_n (F : xFx p s m args meth c cc nL own S) {len : Nat} {k : Fin 4} (hd : decode cc pc = .ok (.iload_n k, len)) (hl0 : len = xlen (.iload_n k) len) (hx0 : nx = pc + len) (hst : xsto nL (.iload_n k) = true) (hK : xHyp p l e R s m args below meth c nL S o old D c0 s0 Q K out) (h : xstep o ft call pool hs K (.iload_n k) pc nx loc stk hp = some out) : xG p l e R s m args below meth c nL S o old D c0 s0 Q pc loc stk hp := by
  subst hx0
  have hl1 : len = 1 := hl0
  subst hl1
  refine xk_load F (i := k.val) (kk := xik) (fun _ _ _ _ _ a v _ hl ha hk k9 => ?_) hK h
  obtain ⟨q, hq⟩ := isSome_of hk
  obtain ⟨x, rfl, -⟩ := xR_bd ha hq
  exact lv_iload_n F.1 F.2.1 hd rfl hl k9
theorem xi_iload (F : xFx p s m args meth c cc nL own S) {len : Nat} {k : Nat} (hd : decode cc pc = .ok (.iload k, len)) (hl0 : len = xlen (.iload k) len) (hx0 : nx = pc + len) (hst : xsto nL (.iload k) = true) (hK : xHyp p l e R s m args below meth c nL S o old D c0 s0 Q K out) (h : xstep o ft call pool hs K (.iload k) pc nx loc stk hp = some out) : xG p l e R s m args below meth c nL S o old D c0 s0 Q pc loc stk hp := by
  subst hx0
  have hl1 : len = 2 := hl0
  subst hl1
  refine xk_load F (i := k) (kk := xik) (fun _ _ _ _ _ a v _ hl ha hk k9 => ?_) hK h
  obtain ⟨q, hq⟩ := isSome_of hk
  obtain ⟨x, rfl, -⟩ := xR_bd ha hq
  exact lv_iload F.1 F.2.1 hd hl k9
theorem xi_lload_n (F : xFx p s m args meth c cc nL own S) {len : Nat} {k : Fin 4} (hd : decode cc pc = .ok (.lload_n k, len)) (hl0 : len = xlen (.lload_n k) len) (hx0 : nx = pc + len) (hst : xsto nL (.lload_n k) = true) (hK : xHyp p l e R s m args below meth c nL S o old D c0 s0 Q K out) (h : xstep o ft call pool hs K (.lload_n k) pc nx loc stk hp = some out) : xG p l e R s m args below meth c nL S o old D c0 s0 Q pc loc stk hp := by
  subst hx0
  have hl1 : len = 1 := hl0
  subst hl1
  refine xk_load F (i := k.val) (kk := xlk2) (fun _ _ _ _ _ a v _ hl ha hk k9 => ?_) hK h
  obtain ⟨q, hq⟩ := isSome_of hk
  obtain ⟨x, rfl, -⟩ := xR_bdl ha hq
  exact lv_lload_n F.1 F.2.1 hd rfl hl k9
theorem xi_lload (F : xFx p s m args meth c cc nL own S) {len : Nat} {k : Nat} (hd : decode cc pc = .ok (.lload k, len)) (hl0 : len = xlen (.lload k) len) (hx0 : nx = pc + len) (hst : xsto nL (.lload k) = true) (hK : xHyp p l e R s m args below meth c nL S o old D c0 s0 Q K out) (h : xstep o ft call pool hs K (.lload k) pc nx loc stk hp = some out) : xG p l e R s m args below meth c nL S o old D c0 s0 Q pc loc stk hp := by
  subst hx0
  have hl1 : len = 2 := hl0
  subst hl1
  refine xk_load F (i := k) (kk := xlk2) (fun _ _ _ _ _ a v _ hl ha hk k9 => ?_) hK h
  obtain ⟨q, hq⟩ := isSome_of hk
  obtain ⟨x, rfl, -⟩ := xR_bdl ha hq
  exact lv_lload F.1 F.2.1 hd hl k9
theorem xak_ok {ad : Nat → Nat} {a : xA} {v : Value} (h : xR ad a v) (hk : xak a = true) : v = .null ∨ ∃ q, v = .ref q := by
  rcases a with n | n | n | q | q | (_ | _) | k
  · cases hk
  · cases hk
  · exact Or.inr ⟨_, h⟩
  · cases hk
  · cases hk
  · exact Or.inl h
  · exact h
  · cases hk
theorem xi_aload_n (F : xFx p s m args meth c cc nL own S) {len : Nat} {k : Fin 4} (hd : decode cc pc = .ok (.aload_n k, len)) (hl0 : len = xlen (.aload_n k) len) (hx0 : nx = pc + len) (hst : xsto nL (.aload_n k) = true) (hK : xHyp p l e R s m args below meth c nL S o old D c0 s0 Q K out) (h : xstep o ft call pool hs K (.aload_n k) pc nx loc stk hp = some out) : xG p l e R s m args below meth c nL S o old D c0 s0 Q pc loc stk hp := by
  subst hx0
  have hl1 : len = 1 := hl0
  subst hl1
  refine xk_load F (i := k.val) (kk := xak) (fun _ _ _ _ _ a v _ hl ha hk k9 => ?_) hK h
  rcases xak_ok ha hk with rfl | ⟨q, rfl⟩
  · exact lv_aload_nN F.1 F.2.1 hd rfl hl k9
  · exact lv_aload_n F.1 F.2.1 hd rfl hl k9
theorem xi_aload (F : xFx p s m args meth c cc nL own S) {len : Nat} {k : Nat} (hd : decode cc pc = .ok (.aload k, len)) (hl0 : len = xlen (.aload k) len) (hx0 : nx = pc + len) (hst : xsto nL (.aload k) = true) (hK : xHyp p l e R s m args below meth c nL S o old D c0 s0 Q K out) (h : xstep o ft call pool hs K (.aload k) pc nx loc stk hp = some out) : xG p l e R s m args below meth c nL S o old D c0 s0 Q pc loc stk hp := by
  subst hx0
  have hl1 : len = 2 := hl0
  subst hl1
  refine xk_load F (i := k) (kk := xak) (fun _ _ _ _ _ a v _ hl ha hk k9 => ?_) hK h
  rcases xak_ok ha hk with rfl | ⟨q, rfl⟩
  · exact lv_aloadN F.1 F.2.1 hd hl k9
  · exact lv_aload F.1 F.2.1 hd hl k9
theorem xi_istore_n (F : xFx p s m args meth c cc nL own S) {len : Nat} {k : Fin 4} (hd : decode cc pc = .ok (.istore_n k, len)) (hl0 : len = xlen (.istore_n k) len) (hx0 : nx = pc + len) (hst : xsto nL (.istore_n k) = true) (hK : xHyp p l e R s m args below meth c nL S o old D c0 s0 Q K out) (h : xstep o ft call pool hs K (.istore_n k) pc nx loc stk hp = some out) : xG p l e R s m args below meth c nL S o old D c0 s0 Q pc loc stk hp := by
  subst hx0
  have hl1 : len = 1 := hl0
  subst hl1
  refine xk_store1 F (i := k.val) (kk := xik) (fun _ _ _ _ _ _ a v _ hlv ha hk k9 => ?_) hK h
  obtain ⟨q, hq⟩ := isSome_of hk
  obtain ⟨x, rfl, -⟩ := xR_bd ha hq
  exact lv_istore_n F.1 F.2.1 hd rfl hlv (Nat.le_of_ble_eq_true hst) rfl k9
theorem xi_istore (F : xFx p s m args meth c cc nL own S) {len : Nat} {k : Nat} (hd : decode cc pc = .ok (.istore k, len)) (hl0 : len = xlen (.istore k) len) (hx0 : nx = pc + len) (hst : xsto nL (.istore k) = true) (hK : xHyp p l e R s m args below meth c nL S o old D c0 s0 Q K out) (h : xstep o ft call pool hs K (.istore k) pc nx loc stk hp = some out) : xG p l e R s m args below meth c nL S o old D c0 s0 Q pc loc stk hp := by
  subst hx0
  have hl1 : len = 2 := hl0
  subst hl1
  refine xk_store1 F (i := k) (kk := xik) (fun _ _ _ _ _ _ a v _ hlv ha hk k9 => ?_) hK h
  obtain ⟨q, hq⟩ := isSome_of hk
  obtain ⟨x, rfl, -⟩ := xR_bd ha hq
  exact lv_istore F.1 F.2.1 hd hlv (Nat.le_of_ble_eq_true hst) rfl k9
theorem xi_lstore_n (F : xFx p s m args meth c cc nL own S) {len : Nat} {k : Fin 4} (hd : decode cc pc = .ok (.lstore_n k, len)) (hl0 : len = xlen (.lstore_n k) len) (hx0 : nx = pc + len) (hst : xsto nL (.lstore_n k) = true) (hK : xHyp p l e R s m args below meth c nL S o old D c0 s0 Q K out) (h : xstep o ft call pool hs K (.lstore_n k) pc nx loc stk hp = some out) : xG p l e R s m args below meth c nL S o old D c0 s0 Q pc loc stk hp := by
  subst hx0
  have hl1 : len = 1 := hl0
  subst hl1
  refine xk_store2 F (i := k.val) (kk := xlk2) (fun _ _ _ _ _ _ a v _ hlv ha hk k9 => ?_) hK h
  obtain ⟨q, hq⟩ := isSome_of hk
  obtain ⟨x, rfl, -⟩ := xR_bdl ha hq
  exact lv_lstore_n F.1 F.2.1 hd rfl hlv (Nat.le_of_ble_eq_true hst) rfl k9
theorem xi_lstore (F : xFx p s m args meth c cc nL own S) {len : Nat} {k : Nat} (hd : decode cc pc = .ok (.lstore k, len)) (hl0 : len = xlen (.lstore k) len) (hx0 : nx = pc + len) (hst : xsto nL (.lstore k) = true) (hK : xHyp p l e R s m args below meth c nL S o old D c0 s0 Q K out) (h : xstep o ft call pool hs K (.lstore k) pc nx loc stk hp = some out) : xG p l e R s m args below meth c nL S o old D c0 s0 Q pc loc stk hp := by
  subst hx0
  have hl1 : len = 2 := hl0
  subst hl1
  refine xk_store2 F (i := k) (kk := xlk2) (fun _ _ _ _ _ _ a v _ hlv ha hk k9 => ?_) hK h
  obtain ⟨q, hq⟩ := isSome_of hk
  obtain ⟨x, rfl, -⟩ := xR_bdl ha hq
  exact lv_lstore F.1 F.2.1 hd hlv (Nat.le_of_ble_eq_true hst) rfl k9
theorem xi_astore_n (F : xFx p s m args meth c cc nL own S) {len : Nat} {k : Fin 4} (hd : decode cc pc = .ok (.astore_n k, len)) (hl0 : len = xlen (.astore_n k) len) (hx0 : nx = pc + len) (hst : xsto nL (.astore_n k) = true) (hK : xHyp p l e R s m args below meth c nL S o old D c0 s0 Q K out) (h : xstep o ft call pool hs K (.astore_n k) pc nx loc stk hp = some out) : xG p l e R s m args below meth c nL S o old D c0 s0 Q pc loc stk hp := by
  subst hx0
  have hl1 : len = 1 := hl0
  subst hl1
  refine xk_store1 F (i := k.val) (kk := xak) (fun _ _ _ _ _ _ a v _ hlv ha hk k9 => ?_) hK h
  rcases xak_ok ha hk with rfl | ⟨q, rfl⟩
  · exact lv_astore_nN F.1 F.2.1 hd rfl hlv (Nat.le_of_ble_eq_true hst) rfl k9
  · exact lv_astore_n F.1 F.2.1 hd rfl hlv (Nat.le_of_ble_eq_true hst) rfl k9
theorem xi_astore (F : xFx p s m args meth c cc nL own S) {len : Nat} {k : Nat} (hd : decode cc pc = .ok (.astore k, len)) (hl0 : len = xlen (.astore k) len) (hx0 : nx = pc + len) (hst : xsto nL (.astore k) = true) (hK : xHyp p l e R s m args below meth c nL S o old D c0 s0 Q K out) (h : xstep o ft call pool hs K (.astore k) pc nx loc stk hp = some out) : xG p l e R s m args below meth c nL S o old D c0 s0 Q pc loc stk hp := by
  subst hx0
  have hl1 : len = 2 := hl0
  subst hl1
  refine xk_store1 F (i := k) (kk := xak) (fun _ _ _ _ _ _ a v _ hlv ha hk k9 => ?_) hK h
  rcases xak_ok ha hk with rfl | ⟨q, rfl⟩
  · exact lv_astoreN F.1 F.2.1 hd hlv (Nat.le_of_ble_eq_true hst) rfl k9
  · exact lv_astore F.1 F.2.1 hd hlv (Nat.le_of_ble_eq_true hst) rfl k9
theorem xi_iinc (F : xFx p s m args meth c cc nL own S) {len : Nat} {k : Nat} {n : Int} (hd : decode cc pc = .ok (.iinc k n, len)) (hl0 : len = xlen (.iinc k n) len) (hx0 : nx = pc + len) (hst : xsto nL (.iinc k n) = true) (hK : xHyp p l e R s m args below meth c nL S o old D c0 s0 Q K out) (h : xstep o ft call pool hs K (.iinc k n) pc nx loc stk hp = some out) : xG p l e R s m args below meth c nL S o old D c0 s0 Q pc loc stk hp := by
  subst hx0
  have hl1 : len = 3 := hl0
  subst hl1
  intro H locs cells slots ls lv st hlv hl hs1 hh hlo hc hsl
  obtain ⟨a, ha, h⟩ := xj_some (show xj (xlk loc k) _ = some out from h)
  obtain ⟨b, hb, h⟩ := xj_some h
  obtain ⟨q, v, h5, h6⟩ := xlk_ok hl ha
  obtain ⟨x, y, rfl, hy, hr⟩ := xbin_ok (op := fun x y => x + y) xi32add h6 (show xR (xad o S.heap.size old) (.inl (x32 (Int32.ofInt n))) (.int (Int32.ofInt n)) by show Value.int _ = _; rw [xi32]) hb
  cases hy
  exact lv_iinc F.1 F.2.1 hd hlv h5 rfl (Nat.le_of_ble_eq_true hst) rfl fun ls' hlv' => hK _ _ _ _ h H locs cells slots ls' _ _ hlv' (xst1_ok hl hr) hs1 hh hlo hc hsl
theorem xi_iadd (F : xFx p s m args meth c cc nL own S) {len : Nat}  (hd : decode cc pc = .ok (.iadd, len)) (hl0 : len = xlen (.iadd) len) (hx0 : nx = pc + len) (hst : xsto nL (.iadd) = true) (hK : xHyp p l e R s m args below meth c nL S o old D c0 s0 Q K out) (h : xstep o ft call pool hs K (.iadd) pc nx loc stk hp = some out) : xG p l e R s m args below meth c nL S o old D c0 s0 Q pc loc stk hp := by
  subst hx0
  have hl1 : len = 1 := hl0
  subst hl1
  exact xk_ii F (op := fun x y => x + y) (xi32add) (fun _ _ _ _ _ _ _ _ k => lv_iadd F.1 F.2.1 hd k) hK h
theorem xi_isub (F : xFx p s m args meth c cc nL own S) {len : Nat}  (hd : decode cc pc = .ok (.isub, len)) (hl0 : len = xlen (.isub) len) (hx0 : nx = pc + len) (hst : xsto nL (.isub) = true) (hK : xHyp p l e R s m args below meth c nL S o old D c0 s0 Q K out) (h : xstep o ft call pool hs K (.isub) pc nx loc stk hp = some out) : xG p l e R s m args below meth c nL S o old D c0 s0 Q pc loc stk hp := by
  subst hx0
  have hl1 : len = 1 := hl0
  subst hl1
  exact xk_ii F (op := fun x y => x - y) (xi32sub) (fun _ _ _ _ _ _ _ _ k => lv_isub F.1 F.2.1 hd k) hK h
theorem xi_imul (F : xFx p s m args meth c cc nL own S) {len : Nat}  (hd : decode cc pc = .ok (.imul, len)) (hl0 : len = xlen (.imul) len) (hx0 : nx = pc + len) (hst : xsto nL (.imul) = true) (hK : xHyp p l e R s m args below meth c nL S o old D c0 s0 Q K out) (h : xstep o ft call pool hs K (.imul) pc nx loc stk hp = some out) : xG p l e R s m args below meth c nL S o old D c0 s0 Q pc loc stk hp := by
  subst hx0
  have hl1 : len = 1 := hl0
  subst hl1
  exact xk_ii F (op := fun x y => x * y) (xi32mul) (fun _ _ _ _ _ _ _ _ k => lv_imul F.1 F.2.1 hd k) hK h
theorem xi_ior (F : xFx p s m args meth c cc nL own S) {len : Nat}  (hd : decode cc pc = .ok (.ior, len)) (hl0 : len = xlen (.ior) len) (hx0 : nx = pc + len) (hst : xsto nL (.ior) = true) (hK : xHyp p l e R s m args below meth c nL S o old D c0 s0 Q K out) (h : xstep o ft call pool hs K (.ior) pc nx loc stk hp = some out) : xG p l e R s m args below meth c nL S o old D c0 s0 Q pc loc stk hp := by
  subst hx0
  have hl1 : len = 1 := hl0
  subst hl1
  exact xk_ii F (op := fun x y => x ||| y) (fun _ _ => xi32 _) (fun _ _ _ _ _ _ _ _ k => lv_ior F.1 F.2.1 hd k) hK h
theorem xi_ixor (F : xFx p s m args meth c cc nL own S) {len : Nat}  (hd : decode cc pc = .ok (.ixor, len)) (hl0 : len = xlen (.ixor) len) (hx0 : nx = pc + len) (hst : xsto nL (.ixor) = true) (hK : xHyp p l e R s m args below meth c nL S o old D c0 s0 Q K out) (h : xstep o ft call pool hs K (.ixor) pc nx loc stk hp = some out) : xG p l e R s m args below meth c nL S o old D c0 s0 Q pc loc stk hp := by
  subst hx0
  have hl1 : len = 1 := hl0
  subst hl1
  exact xk_ii F (op := fun x y => x ^^^ y) (fun _ _ => xi32 _) (fun _ _ _ _ _ _ _ _ k => lv_ixor F.1 F.2.1 hd k) hK h
theorem xi_ishl (F : xFx p s m args meth c cc nL own S) {len : Nat}  (hd : decode cc pc = .ok (.ishl, len)) (hl0 : len = xlen (.ishl) len) (hx0 : nx = pc + len) (hst : xsto nL (.ishl) = true) (hK : xHyp p l e R s m args below meth c nL S o old D c0 s0 Q K out) (h : xstep o ft call pool hs K (.ishl) pc nx loc stk hp = some out) : xG p l e R s m args below meth c nL S o old D c0 s0 Q pc loc stk hp := by
  subst hx0
  have hl1 : len = 1 := hl0
  subst hl1
  exact xk_ii F (op := fun x y => x <<< (y &&& 31)) (fun _ _ => xi32 _) (fun _ _ _ _ _ _ _ _ k => lv_ishl F.1 F.2.1 hd k) hK h
theorem xi_ishr (F : xFx p s m args meth c cc nL own S) {len : Nat}  (hd : decode cc pc = .ok (.ishr, len)) (hl0 : len = xlen (.ishr) len) (hx0 : nx = pc + len) (hst : xsto nL (.ishr) = true) (hK : xHyp p l e R s m args below meth c nL S o old D c0 s0 Q K out) (h : xstep o ft call pool hs K (.ishr) pc nx loc stk hp = some out) : xG p l e R s m args below meth c nL S o old D c0 s0 Q pc loc stk hp := by
  subst hx0
  have hl1 : len = 1 := hl0
  subst hl1
  exact xk_ii F (op := fun x y => x >>> (y &&& 31)) (fun _ _ => xi32 _) (fun _ _ _ _ _ _ _ _ k => lv_ishr F.1 F.2.1 hd k) hK h
theorem xi_iushr (F : xFx p s m args meth c cc nL own S) {len : Nat}  (hd : decode cc pc = .ok (.iushr, len)) (hl0 : len = xlen (.iushr) len) (hx0 : nx = pc + len) (hst : xsto nL (.iushr) = true) (hK : xHyp p l e R s m args below meth c nL S o old D c0 s0 Q K out) (h : xstep o ft call pool hs K (.iushr) pc nx loc stk hp = some out) : xG p l e R s m args below meth c nL S o old D c0 s0 Q pc loc stk hp := by
  subst hx0
  have hl1 : len = 1 := hl0
  subst hl1
  exact xk_ii F (op := fun x y => (x.toUInt32 >>> (y.toUInt32 &&& Int32.toUInt32 31)).toInt32) (fun _ _ => xi32 _) (fun _ _ _ _ _ _ _ _ k => lv_iushr F.1 F.2.1 hd rfl k) hK h
theorem xi_ladd (F : xFx p s m args meth c cc nL own S) {len : Nat}  (hd : decode cc pc = .ok (.ladd, len)) (hl0 : len = xlen (.ladd) len) (hx0 : nx = pc + len) (hst : xsto nL (.ladd) = true) (hK : xHyp p l e R s m args below meth c nL S o old D c0 s0 Q K out) (h : xstep o ft call pool hs K (.ladd) pc nx loc stk hp = some out) : xG p l e R s m args below meth c nL S o old D c0 s0 Q pc loc stk hp := by
  subst hx0
  have hl1 : len = 1 := hl0
  subst hl1
  exact xk_ll F (op := fun x y => x + y) (fun _ _ => xi64 _) (fun _ _ _ _ _ _ _ _ k => lv_ladd F.1 F.2.1 hd k) hK h
theorem xi_lsub (F : xFx p s m args meth c cc nL own S) {len : Nat}  (hd : decode cc pc = .ok (.lsub, len)) (hl0 : len = xlen (.lsub) len) (hx0 : nx = pc + len) (hst : xsto nL (.lsub) = true) (hK : xHyp p l e R s m args below meth c nL S o old D c0 s0 Q K out) (h : xstep o ft call pool hs K (.lsub) pc nx loc stk hp = some out) : xG p l e R s m args below meth c nL S o old D c0 s0 Q pc loc stk hp := by
  subst hx0
  have hl1 : len = 1 := hl0
  subst hl1
  exact xk_ll F (op := fun x y => x - y) (fun _ _ => xi64 _) (fun _ _ _ _ _ _ _ _ k => lv_lsub F.1 F.2.1 hd k) hK h
theorem xi_lmul (F : xFx p s m args meth c cc nL own S) {len : Nat}  (hd : decode cc pc = .ok (.lmul, len)) (hl0 : len = xlen (.lmul) len) (hx0 : nx = pc + len) (hst : xsto nL (.lmul) = true) (hK : xHyp p l e R s m args below meth c nL S o old D c0 s0 Q K out) (h : xstep o ft call pool hs K (.lmul) pc nx loc stk hp = some out) : xG p l e R s m args below meth c nL S o old D c0 s0 Q pc loc stk hp := by
  subst hx0
  have hl1 : len = 1 := hl0
  subst hl1
  exact xk_ll F (op := fun x y => x * y) (fun _ _ => xi64 _) (fun _ _ _ _ _ _ _ _ k => lv_lmul F.1 F.2.1 hd k) hK h
theorem xi_land (F : xFx p s m args meth c cc nL own S) {len : Nat}  (hd : decode cc pc = .ok (.land, len)) (hl0 : len = xlen (.land) len) (hx0 : nx = pc + len) (hst : xsto nL (.land) = true) (hK : xHyp p l e R s m args below meth c nL S o old D c0 s0 Q K out) (h : xstep o ft call pool hs K (.land) pc nx loc stk hp = some out) : xG p l e R s m args below meth c nL S o old D c0 s0 Q pc loc stk hp := by
  subst hx0
  have hl1 : len = 1 := hl0
  subst hl1
  exact xk_ll F (op := fun x y => x &&& y) (fun _ _ => xi64 _) (fun _ _ _ _ _ _ _ _ k => lv_land F.1 F.2.1 hd k) hK h
theorem xi_lor (F : xFx p s m args meth c cc nL own S) {len : Nat}  (hd : decode cc pc = .ok (.lor, len)) (hl0 : len = xlen (.lor) len) (hx0 : nx = pc + len) (hst : xsto nL (.lor) = true) (hK : xHyp p l e R s m args below meth c nL S o old D c0 s0 Q K out) (h : xstep o ft call pool hs K (.lor) pc nx loc stk hp = some out) : xG p l e R s m args below meth c nL S o old D c0 s0 Q pc loc stk hp := by
  subst hx0
  have hl1 : len = 1 := hl0
  subst hl1
  exact xk_ll F (op := fun x y => x ||| y) (fun _ _ => xi64 _) (fun _ _ _ _ _ _ _ _ k => lv_lor F.1 F.2.1 hd k) hK h
theorem xi_lxor (F : xFx p s m args meth c cc nL own S) {len : Nat}  (hd : decode cc pc = .ok (.lxor, len)) (hl0 : len = xlen (.lxor) len) (hx0 : nx = pc + len) (hst : xsto nL (.lxor) = true) (hK : xHyp p l e R s m args below meth c nL S o old D c0 s0 Q K out) (h : xstep o ft call pool hs K (.lxor) pc nx loc stk hp = some out) : xG p l e R s m args below meth c nL S o old D c0 s0 Q pc loc stk hp := by
  subst hx0
  have hl1 : len = 1 := hl0
  subst hl1
  exact xk_ll F (op := fun x y => x ^^^ y) (fun _ _ => xi64 _) (fun _ _ _ _ _ _ _ _ k => lv_lxor F.1 F.2.1 hd k) hK h
theorem xand_ok {ad : Nat → Nat} {a b w : xA} {u v : Value} (ha : xR ad a u) (hb : xR ad b v) (h : xand a b = some w) : ∃ x y : Int32, u = .int x ∧ v = .int y ∧ xR ad w (.int (x &&& y)) := by
  have gen : xbin (fun x y => x32 (Int32.ofNat x &&& Int32.ofNat y)) a b = some w → ∃ x y : Int32, u = .int x ∧ v = .int y ∧ xR ad w (.int (x &&& y)) := fun h => xbin_ok (op := fun x y => x &&& y) (fun _ _ => xi32 _) ha hb h
  unfold xand at h
  split at h
  · obtain ⟨x, rfl, hx⟩ := ha
    cases hb
    cases h
    exact ⟨x, 63, rfl, rfl, by show Value.int _ = _; rw [hx]⟩
  · exact gen h
theorem xdivi_ok {ad : Nat → Nat} {f : Nat → Nat → Nat} {op : Int32 → Int32 → Int32} (hf : ∀ x y, Int32.ofNat (f x y) = op (Int32.ofNat x) (Int32.ofNat y)) {a b w : xA} {u v : Value} (ha : xR ad a u) (hb : xR ad b v) (h : xdivi f a b = some w) : ∃ x y : Int32, u = .int x ∧ v = .int y ∧ ¬ y = 0 ∧ xR ad w (.int (op x y)) := by
  rcases b with n | n
  · have h' : cond (Nat.beq (xm32 n) 0) none (xbin f a (.inl n)) = some w := h
    cases hz : Nat.beq (xm32 n) 0 with
    | true => rw [hz] at h'; cases h'
    | false =>
      rw [hz] at h'
      obtain ⟨x, y, h1, h2, h3⟩ := xbin_ok hf ha hb h'
      refine ⟨x, y, h1, h2, fun e => ?_, h3⟩
      have e2 : Int32.ofNat n = y := by
        have := hb.symm.trans h2
        cases this; rfl
      have e3 : (BitVec.ofNat 32 n).toNat = 0 := by
        rw [← xtb n, e2, e]; rfl
      rw [BitVec.toNat_ofNat] at e3
      have e4 : Nat.beq (n % 4294967296) 0 = true := by rw [show n % 4294967296 = 0 from e3]; rfl
      exact Bool.noConfusion (hz.symm.trans e4)
  · cases h
theorem xdivl_ok {ad : Nat → Nat} {f : Nat → Nat → Nat} {op : Int64 → Int64 → Int64} (hf : ∀ x y, Int64.ofNat (f x y) = op (Int64.ofNat x) (Int64.ofNat y)) {a b w : xA} {u v : Value} (ha : xR ad a u) (hb : xR ad b v) (h : xdivl f a b = some w) : ∃ x y : Int64, u = .long x ∧ v = .long y ∧ ¬ y = 0 ∧ xR ad w (.long (op x y)) := by
  rcases b with n | n | n
  · cases h
  · have h' : cond (Nat.beq (xm64 n) 0) none (xbinl f a (.inr (.inl n))) = some w := h
    cases hz : Nat.beq (xm64 n) 0 with
    | true => rw [hz] at h'; cases h'
    | false =>
      rw [hz] at h'
      obtain ⟨x, y, h1, h2, h3⟩ := xbinl_ok hf ha hb h'
      refine ⟨x, y, h1, h2, fun e => ?_, h3⟩
      have e2 : Int64.ofNat n = y := by
        have := hb.symm.trans h2
        cases this; rfl
      have e3 : (BitVec.ofNat 64 n).toNat = 0 := by
        rw [← xtbL n, e2, e]; rfl
      rw [BitVec.toNat_ofNat] at e3
      have e4 : Nat.beq (n % 18446744073709551616) 0 = true := by rw [show n % 18446744073709551616 = 0 from e3]; rfl
      exact Bool.noConfusion (hz.symm.trans e4)
  · cases h
theorem xshl_ok {ad : Nat → Nat} {f : Nat → Nat → Nat} {op : Int64 → Int32 → Int64} (hf : ∀ x y, Int64.ofNat (f x y) = op (Int64.ofNat x) (Int32.ofNat y)) {a b w : xA} {u v : Value} (ha : xR ad a u) (hb : xR ad b v) (h : xshl f a b = some w) : ∃ (x : Int64) (y : Int32), u = .long x ∧ v = .int y ∧ xR ad w (.long (op x y)) := by
  unfold xshl at h
  split at h
  · cases ha; cases hb; cases h
    exact ⟨_, _, rfl, rfl, by show Value.long _ = _; rw [hf]⟩
  · cases h
theorem xi_iand (F : xFx p s m args meth c cc nL own S) {len : Nat}  (hd : decode cc pc = .ok (.iand, len)) (hl0 : len = xlen (.iand) len) (hx0 : nx = pc + len) (hst : xsto nL (.iand) = true) (hK : xHyp p l e R s m args below meth c nL S o old D c0 s0 Q K out) (h : xstep o ft call pool hs K (.iand) pc nx loc stk hp = some out) : xG p l e R s m args below meth c nL S o old D c0 s0 Q pc loc stk hp := by
  subst hx0
  have hl1 : len = 1 := hl0
  subst hl1
  refine xk_two F (g := _) (wv := fun v z u => ∃ x y : Int32, v = .int x ∧ z = .int y ∧ u = .int (x &&& y)) (fun ha hb hr => ?_) (fun _ _ _ _ _ v z u _ hu k => ?_) hK h
  · obtain ⟨x, y, e1, e2, hr2⟩ := xand_ok ha hb hr
    exact ⟨_, ⟨x, y, e1, e2, rfl⟩, hr2⟩
  · obtain ⟨x, y, rfl, rfl, rfl⟩ := hu
    exact lv_iand F.1 F.2.1 hd k
theorem xi_idiv (F : xFx p s m args meth c cc nL own S) {len : Nat}  (hd : decode cc pc = .ok (.idiv, len)) (hl0 : len = xlen (.idiv) len) (hx0 : nx = pc + len) (hst : xsto nL (.idiv) = true) (hK : xHyp p l e R s m args below meth c nL S o old D c0 s0 Q K out) (h : xstep o ft call pool hs K (.idiv) pc nx loc stk hp = some out) : xG p l e R s m args below meth c nL S o old D c0 s0 Q pc loc stk hp := by
  subst hx0
  have hl1 : len = 1 := hl0
  subst hl1
  refine xk_two F (g := _) (wv := fun v z u => ∃ x y : Int32, v = .int x ∧ z = .int y ∧ ¬ y = 0 ∧ u = .int (x / y)) (fun ha hb hr => ?_) (fun _ _ _ _ _ v z u _ hu k => ?_) hK h
  · obtain ⟨x, y, e1, e2, hne, hr2⟩ := xdivi_ok (op := fun x y => x / y) (fun _ _ => xi32 _) ha hb hr
    exact ⟨_, ⟨x, y, e1, e2, hne, rfl⟩, hr2⟩
  · obtain ⟨x, y, rfl, rfl, hne, rfl⟩ := hu
    exact lv_idiv F.1 F.2.1 hd hne k
theorem xi_irem (F : xFx p s m args meth c cc nL own S) {len : Nat}  (hd : decode cc pc = .ok (.irem, len)) (hl0 : len = xlen (.irem) len) (hx0 : nx = pc + len) (hst : xsto nL (.irem) = true) (hK : xHyp p l e R s m args below meth c nL S o old D c0 s0 Q K out) (h : xstep o ft call pool hs K (.irem) pc nx loc stk hp = some out) : xG p l e R s m args below meth c nL S o old D c0 s0 Q pc loc stk hp := by
  subst hx0
  have hl1 : len = 1 := hl0
  subst hl1
  refine xk_two F (g := _) (wv := fun v z u => ∃ x y : Int32, v = .int x ∧ z = .int y ∧ ¬ y = 0 ∧ u = .int (x - (x / y) * y)) (fun ha hb hr => ?_) (fun _ _ _ _ _ v z u _ hu k => ?_) hK h
  · obtain ⟨x, y, e1, e2, hne, hr2⟩ := xdivi_ok (op := fun x y => x - (x / y) * y) (fun _ _ => xi32 _) ha hb hr
    exact ⟨_, ⟨x, y, e1, e2, hne, rfl⟩, hr2⟩
  · obtain ⟨x, y, rfl, rfl, hne, rfl⟩ := hu
    exact lv_irem F.1 F.2.1 hd hne k
theorem xi_ldiv (F : xFx p s m args meth c cc nL own S) {len : Nat}  (hd : decode cc pc = .ok (.ldiv, len)) (hl0 : len = xlen (.ldiv) len) (hx0 : nx = pc + len) (hst : xsto nL (.ldiv) = true) (hK : xHyp p l e R s m args below meth c nL S o old D c0 s0 Q K out) (h : xstep o ft call pool hs K (.ldiv) pc nx loc stk hp = some out) : xG p l e R s m args below meth c nL S o old D c0 s0 Q pc loc stk hp := by
  subst hx0
  have hl1 : len = 1 := hl0
  subst hl1
  refine xk_two F (g := _) (wv := fun v z u => ∃ x y : Int64, v = .long x ∧ z = .long y ∧ ¬ y = 0 ∧ u = .long (x / y)) (fun ha hb hr => ?_) (fun _ _ _ _ _ v z u _ hu k => ?_) hK h
  · obtain ⟨x, y, e1, e2, hne, hr2⟩ := xdivl_ok (op := fun x y => x / y) (fun _ _ => xi64 _) ha hb hr
    exact ⟨_, ⟨x, y, e1, e2, hne, rfl⟩, hr2⟩
  · obtain ⟨x, y, rfl, rfl, hne, rfl⟩ := hu
    exact lv_ldiv F.1 F.2.1 hd hne k
theorem xi_lrem (F : xFx p s m args meth c cc nL own S) {len : Nat}  (hd : decode cc pc = .ok (.lrem, len)) (hl0 : len = xlen (.lrem) len) (hx0 : nx = pc + len) (hst : xsto nL (.lrem) = true) (hK : xHyp p l e R s m args below meth c nL S o old D c0 s0 Q K out) (h : xstep o ft call pool hs K (.lrem) pc nx loc stk hp = some out) : xG p l e R s m args below meth c nL S o old D c0 s0 Q pc loc stk hp := by
  subst hx0
  have hl1 : len = 1 := hl0
  subst hl1
  refine xk_two F (g := _) (wv := fun v z u => ∃ x y : Int64, v = .long x ∧ z = .long y ∧ ¬ y = 0 ∧ u = .long (x - (x / y) * y)) (fun ha hb hr => ?_) (fun _ _ _ _ _ v z u _ hu k => ?_) hK h
  · obtain ⟨x, y, e1, e2, hne, hr2⟩ := xdivl_ok (op := fun x y => x - (x / y) * y) (fun _ _ => xi64 _) ha hb hr
    exact ⟨_, ⟨x, y, e1, e2, hne, rfl⟩, hr2⟩
  · obtain ⟨x, y, rfl, rfl, hne, rfl⟩ := hu
    exact lv_lrem F.1 F.2.1 hd hne k
theorem xi_lshl (F : xFx p s m args meth c cc nL own S) {len : Nat}  (hd : decode cc pc = .ok (.lshl, len)) (hl0 : len = xlen (.lshl) len) (hx0 : nx = pc + len) (hst : xsto nL (.lshl) = true) (hK : xHyp p l e R s m args below meth c nL S o old D c0 s0 Q K out) (h : xstep o ft call pool hs K (.lshl) pc nx loc stk hp = some out) : xG p l e R s m args below meth c nL S o old D c0 s0 Q pc loc stk hp := by
  subst hx0
  have hl1 : len = 1 := hl0
  subst hl1
  refine xk_two F (g := _) (wv := fun v z u => ∃ (x : Int64) (y : Int32), v = .long x ∧ z = .int y ∧ u = .long (x <<< (y.toInt64 &&& 63))) (fun ha hb hr => ?_) (fun _ _ _ _ _ v z u _ hu k => ?_) hK h
  · obtain ⟨x, y, e1, e2, hr2⟩ := xshl_ok (op := fun x y => x <<< (y.toInt64 &&& 63)) (fun _ _ => xi64 _) ha hb hr
    exact ⟨_, ⟨x, y, e1, e2, rfl⟩, hr2⟩
  · obtain ⟨x, y, rfl, rfl, rfl⟩ := hu
    exact lv_lshl F.1 F.2.1 hd rfl k
theorem xi_lshr (F : xFx p s m args meth c cc nL own S) {len : Nat}  (hd : decode cc pc = .ok (.lshr, len)) (hl0 : len = xlen (.lshr) len) (hx0 : nx = pc + len) (hst : xsto nL (.lshr) = true) (hK : xHyp p l e R s m args below meth c nL S o old D c0 s0 Q K out) (h : xstep o ft call pool hs K (.lshr) pc nx loc stk hp = some out) : xG p l e R s m args below meth c nL S o old D c0 s0 Q pc loc stk hp := by
  subst hx0
  have hl1 : len = 1 := hl0
  subst hl1
  refine xk_two F (g := _) (wv := fun v z u => ∃ (x : Int64) (y : Int32), v = .long x ∧ z = .int y ∧ u = .long (x >>> (y.toInt64 &&& 63))) (fun ha hb hr => ?_) (fun _ _ _ _ _ v z u _ hu k => ?_) hK h
  · obtain ⟨x, y, e1, e2, hr2⟩ := xshl_ok (op := fun x y => x >>> (y.toInt64 &&& 63)) (fun _ _ => xi64 _) ha hb hr
    exact ⟨_, ⟨x, y, e1, e2, rfl⟩, hr2⟩
  · obtain ⟨x, y, rfl, rfl, rfl⟩ := hu
    exact lv_lshr F.1 F.2.1 hd rfl k
theorem xi_lushr (F : xFx p s m args meth c cc nL own S) {len : Nat}  (hd : decode cc pc = .ok (.lushr, len)) (hl0 : len = xlen (.lushr) len) (hx0 : nx = pc + len) (hst : xsto nL (.lushr) = true) (hK : xHyp p l e R s m args below meth c nL S o old D c0 s0 Q K out) (h : xstep o ft call pool hs K (.lushr) pc nx loc stk hp = some out) : xG p l e R s m args below meth c nL S o old D c0 s0 Q pc loc stk hp := by
  subst hx0
  have hl1 : len = 1 := hl0
  subst hl1
  refine xk_two F (g := _) (wv := fun v z u => ∃ (x : Int64) (y : Int32), v = .long x ∧ z = .int y ∧ u = .long ((x.toUInt64 >>> (y.toInt64.toUInt64 &&& Int64.toUInt64 63)).toInt64)) (fun ha hb hr => ?_) (fun _ _ _ _ _ v z u _ hu k => ?_) hK h
  · obtain ⟨x, y, e1, e2, hr2⟩ := xshl_ok (op := fun x y => (x.toUInt64 >>> (y.toInt64.toUInt64 &&& Int64.toUInt64 63)).toInt64) (fun _ _ => xi64 _) ha hb hr
    exact ⟨_, ⟨x, y, e1, e2, rfl⟩, hr2⟩
  · obtain ⟨x, y, rfl, rfl, rfl⟩ := hu
    exact lv_lushr F.1 F.2.1 hd rfl k
theorem xlt_ok {p q : Nat × Nat} {x y : Nat} {b : Bool} (h1 : p.1 ≤ x ∧ x ≤ p.2) (h2 : q.1 ≤ y ∧ y ≤ q.2) (h : xlt p q = some b) : b = true ↔ x < y := by
  unfold xlt at h
  cases ha : Nat.blt p.2 q.1 with
  | true =>
    rw [ha] at h
    cases h
    have := Nat.le_of_ble_eq_true ha
    constructor
    · intro _; omega
    · intro _; rfl
  | false =>
    rw [ha] at h
    obtain ⟨h3, h4⟩ := cond_some h
    cases h4
    have := Nat.le_of_ble_eq_true h3
    constructor
    · intro z; cases z
    · intro z; omega
theorem xeq_ok {p q : Nat × Nat} {x y : Nat} {b : Bool} (h1 : p.1 ≤ x ∧ x ≤ p.2) (h2 : q.1 ≤ y ∧ y ≤ q.2) (h : xeq p q = some b) : b = true ↔ x = y := by
  unfold xeq at h
  cases ha : (Nat.blt p.2 q.1 || Nat.blt q.2 p.1) with
  | true =>
    rw [ha] at h
    cases h
    rw [Bool.or_eq_true] at ha
    constructor
    · intro z; cases z
    · intro z
      rcases ha with ha | ha
      · have := Nat.le_of_ble_eq_true ha; omega
      · have := Nat.le_of_ble_eq_true ha; omega
  | false =>
    rw [ha] at h
    obtain ⟨h3, h4⟩ := cond_some h
    cases h4
    obtain ⟨h5, h6⟩ := and_true' h3
    obtain ⟨h7, h8⟩ := and_true' h6
    have e1 := Nat.eq_of_beq_eq_true h5
    have e2 := Nat.eq_of_beq_eq_true h7
    have e3 := Nat.eq_of_beq_eq_true h8
    constructor
    · intro _; omega
    · intro _; rfl
theorem xnot_ok {b : Option Bool} {r : Bool} (h : xnot b = some r) : b = some (!r) := by
  unfold xnot at h
  split at h
  · cases h; simp
  · cases h
/-- what a condition says -/
def xcP (c : ClassFile.Cond) (x y : Nat) : Prop := match c with
  | .eq => x = y
  | .ne => ¬ x = y
  | .lt => x < y
  | .ge => ¬ x < y
  | .gt => y < x
  | .le => ¬ y < x
theorem xcnd_ok {cd : ClassFile.Cond} {p q : Nat × Nat} {x y : Nat} {b : Bool} (h1 : p.1 ≤ x ∧ x ≤ p.2) (h2 : q.1 ≤ y ∧ y ≤ q.2) (h : xcnd cd p q = some b) : b = true ↔ xcP cd x y := by
  cases cd
  · exact xeq_ok h1 h2 h
  · have := xeq_ok h1 h2 (xnot_ok h)
    show b = true ↔ ¬ x = y
    rw [← this]; cases b <;> simp
  · exact xlt_ok h1 h2 h
  · have := xlt_ok h1 h2 (xnot_ok h)
    show b = true ↔ ¬ x < y
    rw [← this]; cases b <;> simp
  · exact xlt_ok h2 h1 h
  · have := xlt_ok h2 h1 (xnot_ok h)
    show b = true ↔ ¬ y < x
    rw [← this]; cases b <;> simp
theorem xlcmp_ok {ad : Nat → Nat} {a b w : xA} {u v : Value} (ha : xR ad a u) (hb : xR ad b v) (h : xlcmp a b = some w) : ∃ x y : Int64, u = .long x ∧ v = .long y ∧ xR ad w (.int (lg_cmp x y)) := by
  unfold xlcmp at h
  split at h
  next p q hp hq =>
    obtain ⟨x, rfl, hx⟩ := xR_bdl ha hp
    obtain ⟨y, rfl, hy⟩ := xR_bdl hb hq
    refine ⟨x, y, rfl, rfl, ?_⟩
    split at h
    next he =>
      cases h
      have e := xbL_inj ((xeq_ok hx hy he).mp rfl)
      subst e
      show Value.int _ = _
      have : ¬ x < x := by rw [xbL_lt]; omega
      simp [lg_cmp, this]
    next he =>
      have hne : ¬ xbL x = xbL y := fun e => by
        have := (xeq_ok hx hy he).mpr e
        cases this
      split at h
      next hl =>
        cases h
        have h1 : xbL x < xbL y := (xlt_ok hx hy hl).mp rfl
        have h2 : x < y := xbL_lt.mpr h1
        have h3 : ¬ y < x := by rw [xbL_lt]; omega
        show Value.int _ = _
        have h4 : ¬ x = y := fun e => hne (by rw [e])
        simp [lg_cmp, h3, h4]
      next hl =>
        cases h
        have h1 : ¬ xbL x < xbL y := fun z => by
          have := (xlt_ok hx hy hl).mpr z
          cases this
        have h3 : y < x := by rw [xbL_lt]; omega
        show Value.int _ = _
        simp [lg_cmp, h3]
      next => cases h
    next => cases h
  next => cases h
theorem xi_lcmp (F : xFx p s m args meth c cc nL own S) {len : Nat}  (hd : decode cc pc = .ok (.lcmp, len)) (hl0 : len = xlen (.lcmp) len) (hx0 : nx = pc + len) (hst : xsto nL (.lcmp) = true) (hK : xHyp p l e R s m args below meth c nL S o old D c0 s0 Q K out) (h : xstep o ft call pool hs K (.lcmp) pc nx loc stk hp = some out) : xG p l e R s m args below meth c nL S o old D c0 s0 Q pc loc stk hp := by
  subst hx0
  have hl1 : len = 1 := hl0
  subst hl1
  refine xk_two F (g := _) (wv := fun v z u => ∃ x y : Int64, v = .long x ∧ z = .long y ∧ u = .int (lg_cmp x y)) (fun ha hb hr => ?_) (fun _ _ _ _ _ v z u _ hu k => ?_) hK h
  · obtain ⟨x, y, e1, e2, hr2⟩ := xlcmp_ok ha hb hr
    exact ⟨_, ⟨x, y, e1, e2, rfl⟩, hr2⟩
  · obtain ⟨x, y, rfl, rfl, rfl⟩ := hu
    exact W.lcmp F.1 F.2.1 hd k
theorem xneg_ok {ad : Nat → Nat} {a w : xA} {u : Value} (ha : xR ad a u) (h : xneg a = some w) : ∃ x : Int32, u = .int x ∧ xR ad w (.int (-x)) := by
  unfold xneg at h
  split at h
  · cases ha; cases h
    exact ⟨_, rfl, by show Value.int _ = _; rw [xi32]⟩
  · obtain ⟨h1, h2⟩ := cond_some h
    obtain ⟨q, hq⟩ := isSome_of h1
    obtain ⟨x, rfl, -⟩ := xR_bd ha hq
    exact ⟨x, rfl, by rw [← Option.some.inj h2]; exact xR_top _ _⟩
theorem xnegl_ok {ad : Nat → Nat} {a w : xA} {u : Value} (ha : xR ad a u) (h : xnegl a = some w) : ∃ x : Int64, u = .long x ∧ xR ad w (.long (-x)) := by
  unfold xnegl at h
  split at h
  · cases ha; cases h
    exact ⟨_, rfl, by show Value.long _ = _; rw [xi64]⟩
  · obtain ⟨h1, h2⟩ := cond_some h
    obtain ⟨q, hq⟩ := isSome_of h1
    obtain ⟨x, rfl, -⟩ := xR_bdl ha hq
    exact ⟨x, rfl, by rw [← Option.some.inj h2]; exact xR_topL _ _⟩
theorem xl2i_ok {ad : Nat → Nat} {a w : xA} {u : Value} (ha : xR ad a u) (h : xl2i a = some w) : ∃ x : Int64, u = .long x ∧ xR ad w (.int x.toInt32) := by
  unfold xl2i at h
  split at h
  · cases ha; cases h
    exact ⟨_, rfl, by show Value.int _ = _; rw [xi32]⟩
  · obtain ⟨h1, h2⟩ := cond_some h
    obtain ⟨q, hq⟩ := isSome_of h1
    obtain ⟨x, rfl, -⟩ := xR_bdl ha hq
    exact ⟨x, rfl, by rw [← Option.some.inj h2]; exact xR_top _ _⟩
theorem xi2b_ok {ad : Nat → Nat} {a w : xA} {u : Value} (ha : xR ad a u) (h : xi2b a = some w) : ∃ x : Int32, u = .int x ∧ xR ad w (.int x.toInt8.toInt32) := by
  unfold xi2b at h
  split at h
  · cases ha; cases h
    exact ⟨_, rfl, by show Value.int _ = _; rw [xi32]⟩
  · obtain ⟨h1, h2⟩ := cond_some h
    obtain ⟨q, hq⟩ := isSome_of h1
    obtain ⟨x, rfl, -⟩ := xR_bd ha hq
    exact ⟨x, rfl, by rw [← Option.some.inj h2]; exact xR_top _ _⟩
theorem xi2c_ok {ad : Nat → Nat} {a w : xA} {u : Value} (ha : xR ad a u) (h : xi2c a = some w) : ∃ x : Int32, u = .int x ∧ xR ad w (.int (x.toUInt32 % 65536).toInt32) := by
  unfold xi2c at h
  split at h
  · cases ha; cases h
    exact ⟨_, rfl, by show Value.int _ = _; rw [xi32]⟩
  · obtain ⟨h1, h2⟩ := cond_some h
    obtain ⟨q, hq⟩ := isSome_of h1
    obtain ⟨x, rfl, -⟩ := xR_bd ha hq
    exact ⟨x, rfl, by rw [← Option.some.inj h2]; exact xR_top _ _⟩
theorem xi2l_ok {ad : Nat → Nat} {a w : xA} {u : Value} (ha : xR ad a u) (h : xi2l a = some w) : ∃ x : Int32, u = .int x ∧ xR ad w (.long x.toInt64) := by
  unfold xi2l at h
  split at h
  · cases ha; cases h
    exact ⟨_, rfl, by show Value.long _ = _; rw [xi64]⟩
  · split at h
    next q hq =>
      cases h
      obtain ⟨x, rfl, h1, h2⟩ := xR_bd ha hq
      refine ⟨x, rfl, x.toInt64, rfl, ?_, ?_⟩
      · show Nat.add q.1 9223372034707292160 ≤ xbL _
        have e : x.toInt64.toInt = x.toInt := Int32.toInt_toInt64 x
        have := Int32.le_toInt x
        unfold xb at h1
        unfold xbL
        rw [e]
        show q.1 + 9223372034707292160 ≤ _
        omega
      · show xbL _ ≤ Nat.add q.2 9223372034707292160
        have e : x.toInt64.toInt = x.toInt := Int32.toInt_toInt64 x
        have := Int32.le_toInt x
        unfold xb at h2
        unfold xbL
        rw [e]
        show _ ≤ q.2 + 9223372034707292160
        omega
    next => cases h
theorem xi_ineg (F : xFx p s m args meth c cc nL own S) {len : Nat}  (hd : decode cc pc = .ok (.ineg, len)) (hl0 : len = xlen (.ineg) len) (hx0 : nx = pc + len) (hst : xsto nL (.ineg) = true) (hK : xHyp p l e R s m args below meth c nL S o old D c0 s0 Q K out) (h : xstep o ft call pool hs K (.ineg) pc nx loc stk hp = some out) : xG p l e R s m args below meth c nL S o old D c0 s0 Q pc loc stk hp := by
  subst hx0
  have hl1 : len = 1 := hl0
  subst hl1
  refine xk_one F (g := _) (wv := fun v u => ∃ x : Int32, v = .int x ∧ u = .int (-x)) (fun ha hr => ?_) (fun _ _ _ _ _ v u _ hu k => ?_) hK h
  · obtain ⟨x, e1, hr2⟩ := xneg_ok ha hr
    exact ⟨_, ⟨x, e1, rfl⟩, hr2⟩
  · obtain ⟨x, rfl, rfl⟩ := hu
    exact lv_ineg F.1 F.2.1 hd k
theorem xi_lneg (F : xFx p s m args meth c cc nL own S) {len : Nat}  (hd : decode cc pc = .ok (.lneg, len)) (hl0 : len = xlen (.lneg) len) (hx0 : nx = pc + len) (hst : xsto nL (.lneg) = true) (hK : xHyp p l e R s m args below meth c nL S o old D c0 s0 Q K out) (h : xstep o ft call pool hs K (.lneg) pc nx loc stk hp = some out) : xG p l e R s m args below meth c nL S o old D c0 s0 Q pc loc stk hp := by
  subst hx0
  have hl1 : len = 1 := hl0
  subst hl1
  refine xk_one F (g := _) (wv := fun v u => ∃ x : Int64, v = .long x ∧ u = .long (-x)) (fun ha hr => ?_) (fun _ _ _ _ _ v u _ hu k => ?_) hK h
  · obtain ⟨x, e1, hr2⟩ := xnegl_ok ha hr
    exact ⟨_, ⟨x, e1, rfl⟩, hr2⟩
  · obtain ⟨x, rfl, rfl⟩ := hu
    exact lv_lneg F.1 F.2.1 hd k
theorem xi_l2i (F : xFx p s m args meth c cc nL own S) {len : Nat}  (hd : decode cc pc = .ok (.l2i, len)) (hl0 : len = xlen (.l2i) len) (hx0 : nx = pc + len) (hst : xsto nL (.l2i) = true) (hK : xHyp p l e R s m args below meth c nL S o old D c0 s0 Q K out) (h : xstep o ft call pool hs K (.l2i) pc nx loc stk hp = some out) : xG p l e R s m args below meth c nL S o old D c0 s0 Q pc loc stk hp := by
  subst hx0
  have hl1 : len = 1 := hl0
  subst hl1
  refine xk_one F (g := _) (wv := fun v u => ∃ x : Int64, v = .long x ∧ u = .int x.toInt32) (fun ha hr => ?_) (fun _ _ _ _ _ v u _ hu k => ?_) hK h
  · obtain ⟨x, e1, hr2⟩ := xl2i_ok ha hr
    exact ⟨_, ⟨x, e1, rfl⟩, hr2⟩
  · obtain ⟨x, rfl, rfl⟩ := hu
    exact lv_l2i F.1 F.2.1 hd rfl k
theorem xi_i2b (F : xFx p s m args meth c cc nL own S) {len : Nat}  (hd : decode cc pc = .ok (.i2b, len)) (hl0 : len = xlen (.i2b) len) (hx0 : nx = pc + len) (hst : xsto nL (.i2b) = true) (hK : xHyp p l e R s m args below meth c nL S o old D c0 s0 Q K out) (h : xstep o ft call pool hs K (.i2b) pc nx loc stk hp = some out) : xG p l e R s m args below meth c nL S o old D c0 s0 Q pc loc stk hp := by
  subst hx0
  have hl1 : len = 1 := hl0
  subst hl1
  refine xk_one F (g := _) (wv := fun v u => ∃ x : Int32, v = .int x ∧ u = .int x.toInt8.toInt32) (fun ha hr => ?_) (fun _ _ _ _ _ v u _ hu k => ?_) hK h
  · obtain ⟨x, e1, hr2⟩ := xi2b_ok ha hr
    exact ⟨_, ⟨x, e1, rfl⟩, hr2⟩
  · obtain ⟨x, rfl, rfl⟩ := hu
    exact lv_i2b F.1 F.2.1 hd rfl k
theorem xi_i2c (F : xFx p s m args meth c cc nL own S) {len : Nat}  (hd : decode cc pc = .ok (.i2c, len)) (hl0 : len = xlen (.i2c) len) (hx0 : nx = pc + len) (hst : xsto nL (.i2c) = true) (hK : xHyp p l e R s m args below meth c nL S o old D c0 s0 Q K out) (h : xstep o ft call pool hs K (.i2c) pc nx loc stk hp = some out) : xG p l e R s m args below meth c nL S o old D c0 s0 Q pc loc stk hp := by
  subst hx0
  have hl1 : len = 1 := hl0
  subst hl1
  refine xk_one F (g := _) (wv := fun v u => ∃ x : Int32, v = .int x ∧ u = .int (x.toUInt32 % 65536).toInt32) (fun ha hr => ?_) (fun _ _ _ _ _ v u _ hu k => ?_) hK h
  · obtain ⟨x, e1, hr2⟩ := xi2c_ok ha hr
    exact ⟨_, ⟨x, e1, rfl⟩, hr2⟩
  · obtain ⟨x, rfl, rfl⟩ := hu
    exact lv_i2c F.1 F.2.1 hd rfl k
theorem xi_i2l (F : xFx p s m args meth c cc nL own S) {len : Nat}  (hd : decode cc pc = .ok (.i2l, len)) (hl0 : len = xlen (.i2l) len) (hx0 : nx = pc + len) (hst : xsto nL (.i2l) = true) (hK : xHyp p l e R s m args below meth c nL S o old D c0 s0 Q K out) (h : xstep o ft call pool hs K (.i2l) pc nx loc stk hp = some out) : xG p l e R s m args below meth c nL S o old D c0 s0 Q pc loc stk hp := by
  subst hx0
  have hl1 : len = 1 := hl0
  subst hl1
  refine xk_one F (g := _) (wv := fun v u => ∃ x : Int32, v = .int x ∧ u = .long x.toInt64) (fun ha hr => ?_) (fun _ _ _ _ _ v u _ hu k => ?_) hK h
  · obtain ⟨x, e1, hr2⟩ := xi2l_ok ha hr
    exact ⟨_, ⟨x, e1, rfl⟩, hr2⟩
  · obtain ⟨x, rfl, rfl⟩ := hu
    exact lv_i2l F.1 F.2.1 hd rfl k
end Steps2
end
section
/-! ===== the steps: stack, branches, arrays, fields ===== -/
section Steps3
variable {p : Program} {l : Launch} {e : Env} {R : Room} {s : State} {m : MethodId} {args : Array Value} {below : List Frame} {meth : Method} {c : Code} {cc : ByteArray} {nL : Nat} {own : String} {S : State} {o : Nat} {old : Nat → Nat} {D : va_G} {c0 s0 : Nat} {Q : State → Prop}
variable {pc nx : Nat} {K : xK} {out : xE} {loc : List (Nat × xA)} {stk : List xA} {hp : xH} {ft : Nat → List Nat} {call : xF} {pool : Nat → xP} {hs : List (Nat × (Nat × (Nat × Nat)))}

theorem xtgt_ok {off : Int} {t : Nat} (h : xtgt pc off = some t) : (pc : Int) + off = (t : Int) := by
  unfold xtgt at h
  split at h
  next q hq => cases h; exact hq
  next => cases h
theorem xi_dup (F : xFx p s m args meth c cc nL own S) {len : Nat}  (hd : decode cc pc = .ok (.dup, len)) (hl0 : len = xlen (.dup) len) (hx0 : nx = pc + len) (hst : xsto nL (.dup) = true) (hK : xHyp p l e R s m args below meth c nL S o old D c0 s0 Q K out) (h : xstep o ft call pool hs K (.dup) pc nx loc stk hp = some out) : xG p l e R s m args below meth c nL S o old D c0 s0 Q pc loc stk hp := by
  subst hx0
  have hl1 : len = 1 := hl0
  subst hl1
  intro H locs cells slots ls lv st hlv hl hs1 hh hlo hc hsl
  match stk, hs1, h with
  | [], _, h => cases h
  | a :: rest, hs1, h =>
    obtain ⟨h1, h⟩ := cond_some (show cond _ (K (pc + 1) loc (a :: a :: rest) hp) none = some out from h)
    obtain ⟨va, st2, rfl, ra, hs2⟩ := xs2_cons hs1
    exact lv_dup F.1 F.2.1 hd ((xR_cat ra).trans (Nat.eq_of_beq_eq_true h1)) (hK _ _ _ _ h H locs cells slots ls lv _ hlv hl ⟨ra, ra, hs2⟩ hh hlo hc hsl)
theorem xi_dup_x1 (F : xFx p s m args meth c cc nL own S) {len : Nat}  (hd : decode cc pc = .ok (.dup_x1, len)) (hl0 : len = xlen (.dup_x1) len) (hx0 : nx = pc + len) (hst : xsto nL (.dup_x1) = true) (hK : xHyp p l e R s m args below meth c nL S o old D c0 s0 Q K out) (h : xstep o ft call pool hs K (.dup_x1) pc nx loc stk hp = some out) : xG p l e R s m args below meth c nL S o old D c0 s0 Q pc loc stk hp := by
  subst hx0
  have hl1 : len = 1 := hl0
  subst hl1
  intro H locs cells slots ls lv st hlv hl hs1 hh hlo hc hsl
  match stk, hs1, h with
  | [], _, h => cases h
  | [_], _, h => cases h
  | a :: b :: rest, hs1, h =>
    obtain ⟨h1, h⟩ := cond_some (show cond _ (K (pc + 1) loc (a :: b :: a :: rest) hp) none = some out from h)
    obtain ⟨h2, h3⟩ := and_true' h1
    obtain ⟨va, st2, rfl, ra, hs2⟩ := xs2_cons hs1
    obtain ⟨vb, st3, rfl, rb, hs3⟩ := xs2_cons hs2
    exact lv_dup_x1 F.1 F.2.1 hd ((xR_cat ra).trans (Nat.eq_of_beq_eq_true h2)) ((xR_cat rb).trans (Nat.eq_of_beq_eq_true h3)) (hK _ _ _ _ h H locs cells slots ls lv _ hlv hl ⟨ra, rb, ra, hs3⟩ hh hlo hc hsl)
theorem xi_dup2 (F : xFx p s m args meth c cc nL own S) {len : Nat}  (hd : decode cc pc = .ok (.dup2, len)) (hl0 : len = xlen (.dup2) len) (hx0 : nx = pc + len) (hst : xsto nL (.dup2) = true) (hK : xHyp p l e R s m args below meth c nL S o old D c0 s0 Q K out) (h : xstep o ft call pool hs K (.dup2) pc nx loc stk hp = some out) : xG p l e R s m args below meth c nL S o old D c0 s0 Q pc loc stk hp := by
  subst hx0
  have hl1 : len = 1 := hl0
  subst hl1
  intro H locs cells slots ls lv st hlv hl hs1 hh hlo hc hsl
  match stk, hs1, h with
  | [], _, h => cases h
  | [_], _, h => cases h
  | a :: b :: rest, hs1, h =>
    obtain ⟨h1, h⟩ := cond_some (show cond _ (K (pc + 1) loc (a :: b :: a :: b :: rest) hp) none = some out from h)
    obtain ⟨h2, h3⟩ := and_true' h1
    obtain ⟨va, st2, rfl, ra, hs2⟩ := xs2_cons hs1
    obtain ⟨vb, st3, rfl, rb, hs3⟩ := xs2_cons hs2
    exact lv_dup2_11 F.1 F.2.1 hd ((xR_cat ra).trans (Nat.eq_of_beq_eq_true h2)) ((xR_cat rb).trans (Nat.eq_of_beq_eq_true h3)) (hK _ _ _ _ h H locs cells slots ls lv _ hlv hl ⟨ra, rb, ra, rb, hs3⟩ hh hlo hc hsl)
theorem xi_pop (F : xFx p s m args meth c cc nL own S) {len : Nat}  (hd : decode cc pc = .ok (.pop, len)) (hl0 : len = xlen (.pop) len) (hx0 : nx = pc + len) (hst : xsto nL (.pop) = true) (hK : xHyp p l e R s m args below meth c nL S o old D c0 s0 Q K out) (h : xstep o ft call pool hs K (.pop) pc nx loc stk hp = some out) : xG p l e R s m args below meth c nL S o old D c0 s0 Q pc loc stk hp := by
  subst hx0
  have hl1 : len = 1 := hl0
  subst hl1
  intro H locs cells slots ls lv st hlv hl hs1 hh hlo hc hsl
  match stk, hs1, h with
  | [], _, h => cases h
  | a :: rest, hs1, h =>
    obtain ⟨h1, h⟩ := cond_some (show cond _ (K (pc + 1) loc rest hp) none = some out from h)
    obtain ⟨va, st2, rfl, ra, hs2⟩ := xs2_cons hs1
    exact lv_pop F.1 F.2.1 hd ((xR_cat ra).trans (Nat.eq_of_beq_eq_true h1)) (hK _ _ _ _ h H locs cells slots ls lv _ hlv hl hs2 hh hlo hc hsl)
theorem xi_pop2 (F : xFx p s m args meth c cc nL own S) {len : Nat}  (hd : decode cc pc = .ok (.pop2, len)) (hl0 : len = xlen (.pop2) len) (hx0 : nx = pc + len) (hst : xsto nL (.pop2) = true) (hK : xHyp p l e R s m args below meth c nL S o old D c0 s0 Q K out) (h : xstep o ft call pool hs K (.pop2) pc nx loc stk hp = some out) : xG p l e R s m args below meth c nL S o old D c0 s0 Q pc loc stk hp := by
  subst hx0
  have hl1 : len = 1 := hl0
  subst hl1
  intro H locs cells slots ls lv st hlv hl hs1 hh hlo hc hsl
  match stk, hs1, h with
  | [], _, h => cases h
  | a :: rest, hs1, h =>
    obtain ⟨h1, h⟩ := cond_some (show cond _ (K (pc + 1) loc rest hp) none = some out from h)
    obtain ⟨va, st2, rfl, ra, hs2⟩ := xs2_cons hs1
    exact lv_pop2_2 F.1 F.2.1 hd ((xR_cat ra).trans (Nat.eq_of_beq_eq_true h1)) (hK _ _ _ _ h H locs cells slots ls lv _ hlv hl hs2 hh hlo hc hsl)
theorem xi_goto (F : xFx p s m args meth c cc nL own S) {len : Nat} {off : Int} (hd : decode cc pc = .ok (.goto off, len)) (hl0 : len = xlen (.goto off) len) (hx0 : nx = pc + len) (hst : xsto nL (.goto off) = true) (hK : xHyp p l e R s m args below meth c nL S o old D c0 s0 Q K out) (h : xstep o ft call pool hs K (.goto off) pc nx loc stk hp = some out) : xG p l e R s m args below meth c nL S o old D c0 s0 Q pc loc stk hp := by
  subst hx0
  have hl1 : len = 3 := hl0
  subst hl1
  intro H locs cells slots ls lv st hlv hl hs1 hh hlo hc hsl
  obtain ⟨t, ht, h⟩ := xj_some (show xj (xtgt pc off) _ = some out from h)
  exact lv_goto F.1 F.2.1 hd (xtgt_ok ht) (hK _ _ _ _ h H locs cells slots ls lv _ hlv hl hs1 hh hlo hc hsl)
theorem xif_ok (F : xFx p s m args meth c cc nL own S) {off : Int} {rest : List xA} {b : Option Bool} {P : Prop} (hb : ∀ r, b = some r → (r = true ↔ P)) (hK : xHyp p l e R s m args below meth c nL S o old D c0 s0 Q K out) (h : xif K pc nx off loc rest hp b = some out) :
    ∃ t : Nat, (pc : Int) + off = (t : Int) ∧ (P → xG p l e R s m args below meth c nL S o old D c0 s0 Q t loc rest hp) ∧ (¬ P → xG p l e R s m args below meth c nL S o old D c0 s0 Q nx loc rest hp) := by
  obtain ⟨t, ht, h⟩ := xj_some h
  refine ⟨t, xtgt_ok ht, fun hP => ?_, fun hP => ?_⟩
  · split at h
    · exact hK _ _ _ _ h
    · have := (hb false rfl).mpr hP
      cases this
    · cases h
  · split at h
    · exact absurd ((hb true rfl).mp rfl) hP
    · exact hK _ _ _ _ h
    · cases h
theorem xb0 : xb 0 = 2147483648 := by decide
theorem xcP_int {cd : ClassFile.Cond} {x y : Int32} : xcP cd (xb x) (xb y) ↔ (match cd with
    | .eq => x = y
    | .ne => ¬ x = y
    | .lt => x < y
    | .ge => y ≤ x
    | .gt => y < x
    | .le => x ≤ y) := by
  have e1 : xb x = xb y ↔ x = y := ⟨xb_inj, fun h => by rw [h]⟩
  cases cd
  · exact e1
  · exact not_congr e1
  · exact xb_lt.symm
  · show ¬ xb x < xb y ↔ y ≤ x
    rw [← xb_lt]; exact Int32.not_lt
  · exact xb_lt.symm
  · show ¬ xb y < xb x ↔ x ≤ y
    rw [← xb_lt]; exact Int32.not_lt
theorem xi_ifCond (F : xFx p s m args meth c cc nL own S) {len : Nat} {cd : ClassFile.Cond} {off : Int} (hd : decode cc pc = .ok (.ifCond cd off, len)) (hl0 : len = xlen (.ifCond cd off) len) (hx0 : nx = pc + len) (hst : xsto nL (.ifCond cd off) = true) (hK : xHyp p l e R s m args below meth c nL S o old D c0 s0 Q K out) (h : xstep o ft call pool hs K (.ifCond cd off) pc nx loc stk hp = some out) : xG p l e R s m args below meth c nL S o old D c0 s0 Q pc loc stk hp := by
  subst hx0
  have hl1 : len = 3 := hl0
  subst hl1
  intro H locs cells slots ls lv st hlv hl hs1 hh hlo hc hsl
  match stk, hs1, h with
  | [], _, h => cases h
  | a :: rest, hs1, h =>
    obtain ⟨q, hq, h⟩ := xj_some (show xj (xbd a) _ = some out from h)
    obtain ⟨va, st2, rfl, ra, hs2⟩ := xs2_cons hs1
    obtain ⟨x, rfl, hx⟩ := xR_bd ra hq
    obtain ⟨t, ht, kt, kf⟩ := xif_ok F (P := xcP cd (xb x) (xb 0)) (fun r hr => xcnd_ok hx (by rw [xb0]; exact ⟨Nat.le_refl _, Nat.le_refl _⟩) hr) hK h
    have kt2 : xcP cd (xb x) (xb 0) → W p l e R s m args below meth c H locs cells slots Q (F0 m t ls st2) := fun hP => kt hP H locs cells slots ls lv _ hlv hl hs2 hh hlo hc hsl
    have kf2 : ¬ xcP cd (xb x) (xb 0) → W p l e R s m args below meth c H locs cells slots Q (F0 m (pc + 3) ls st2) := fun hP => kf hP H locs cells slots ls lv _ hlv hl hs2 hh hlo hc hsl
    rw [xcP_int] at kt2 kf2
    cases cd
    · exact lv_if_eq F.1 F.2.1 hd ht kt2 kf2
    · exact lv_if_ne F.1 F.2.1 hd ht kt2 (fun z => kf2 (fun y => y z))
    · exact lv_if_lt F.1 F.2.1 hd ht kt2 kf2
    · exact lv_if_ge F.1 F.2.1 hd ht kt2 kf2
    · exact lv_if_gt F.1 F.2.1 hd ht kt2 kf2
    · exact lv_if_le F.1 F.2.1 hd ht kt2 kf2
theorem xi_if_icmp (F : xFx p s m args meth c cc nL own S) {len : Nat} {cd : ClassFile.Cond} {off : Int} (hd : decode cc pc = .ok (.if_icmp cd off, len)) (hl0 : len = xlen (.if_icmp cd off) len) (hx0 : nx = pc + len) (hst : xsto nL (.if_icmp cd off) = true) (hK : xHyp p l e R s m args below meth c nL S o old D c0 s0 Q K out) (h : xstep o ft call pool hs K (.if_icmp cd off) pc nx loc stk hp = some out) : xG p l e R s m args below meth c nL S o old D c0 s0 Q pc loc stk hp := by
  subst hx0
  have hl1 : len = 3 := hl0
  subst hl1
  intro H locs cells slots ls lv st hlv hl hs1 hh hlo hc hsl
  match stk, hs1, h with
  | [], _, h => cases h
  | [_], _, h => cases h
  | b :: a :: rest, hs1, h =>
    obtain ⟨q, hq, h⟩ := xj_some (show xj (xbd a) _ = some out from h)
    obtain ⟨q2, hq2, h⟩ := xj_some h
    obtain ⟨vb, st1, rfl, rb, hs2⟩ := xs2_cons hs1
    obtain ⟨va, st2, rfl, ra, hs3⟩ := xs2_cons hs2
    obtain ⟨x, rfl, hx⟩ := xR_bd ra hq
    obtain ⟨y, rfl, hy⟩ := xR_bd rb hq2
    obtain ⟨t, ht, kt, kf⟩ := xif_ok F (P := xcP cd (xb x) (xb y)) (fun r hr => xcnd_ok hx hy hr) hK h
    have kt2 : xcP cd (xb x) (xb y) → W p l e R s m args below meth c H locs cells slots Q (F0 m t ls st2) := fun hP => kt hP H locs cells slots ls lv _ hlv hl hs3 hh hlo hc hsl
    have kf2 : ¬ xcP cd (xb x) (xb y) → W p l e R s m args below meth c H locs cells slots Q (F0 m (pc + 3) ls st2) := fun hP => kf hP H locs cells slots ls lv _ hlv hl hs3 hh hlo hc hsl
    rw [xcP_int] at kt2 kf2
    cases cd
    · exact lv_icmp_eq F.1 F.2.1 hd ht kt2 kf2
    · exact lv_icmp_ne F.1 F.2.1 hd ht kt2 (fun z => kf2 (fun y => y z))
    · exact lv_icmp_lt F.1 F.2.1 hd ht kt2 kf2
    · exact lv_icmp_ge F.1 F.2.1 hd ht kt2 kf2
    · exact lv_icmp_gt F.1 F.2.1 hd ht kt2 kf2
    · exact lv_icmp_le F.1 F.2.1 hd ht kt2 kf2
theorem xi_tableswitch (F : xFx p s m args meth c cc nL own S) {len : Nat} {dflt lo hi : Int} {offs : Array Int} (hd : decode cc pc = .ok (.tableswitch dflt lo hi offs, len)) (hl0 : len = xlen (.tableswitch dflt lo hi offs) len) (hx0 : nx = pc + len) (hst : xsto nL (.tableswitch dflt lo hi offs) = true) (hK : xHyp p l e R s m args below meth c nL S o old D c0 s0 Q K out) (h : xstep o ft call pool hs K (.tableswitch dflt lo hi offs) pc nx loc stk hp = some out) : xG p l e R s m args below meth c nL S o old D c0 s0 Q pc loc stk hp := by
  subst hx0
  have hl1 : len = len := hl0
  intro H locs cells slots ls lv st hlv hl hs1 hh hlo hc hsl
  have h' : xtab K pc dflt lo hi offs loc stk hp = some out := h
  unfold xtab at h'
  split at h'
  next n rest =>
    obtain ⟨va, st2, rfl, ra, hs2⟩ := xs2_cons hs1
    cases ra
    cases hb : (decide ((Int32.ofNat n).toInt < lo) || decide (hi < (Int32.ofNat n).toInt)) with
    | true =>
      rw [hb] at h'
      obtain ⟨t, ht, h⟩ := xj_some h'
      rw [Bool.or_eq_true, decide_eq_true_eq, decide_eq_true_eq] at hb
      exact lv_tableOut F.1 F.2.1 hd hb (xtgt_ok ht) (hK _ _ _ _ h H locs cells slots ls lv _ hlv hl hs2 hh hlo hc hsl)
    | false =>
      rw [hb] at h'
      obtain ⟨off, hoff, h⟩ := xj_some h'
      obtain ⟨t, ht, h⟩ := xj_some h
      rw [Bool.or_eq_false_iff, decide_eq_false_iff_not, decide_eq_false_iff_not] at hb
      exact lv_tableIn F.1 F.2.1 hd hb.1 hb.2 hoff (xtgt_ok ht) (hK _ _ _ _ h H locs cells slots ls lv _ hlv hl hs2 hh hlo hc hsl)
  next => cases h'
theorem xix {n size : Nat} (h1 : n < 2147483648) (h2 : n < size) : ¬ (Int32.ofNat n < 0 ∨ size ≤ (Int32.ofNat n).toNatClampNeg) := by
  rw [clamp_of rfl h1]
  rintro (q | q)
  · exact nI_pos h1 q
  · omega
theorem xald_ok {ok : Nat → Bool} {r i a : xA} (h : xald ok hp r i = some a) : ∃ (k n : Nat) (q : Nat × (Nat × (Nat × Lean.RArray xA))), r = .inr (.inr (.inl k)) ∧ i = .inl n ∧ xcell hp k = some (.inr (.inl q)) ∧ ok q.1 = true ∧ n < q.2.1 ∧ n < 2147483648 ∧ a = xget q.2.2.2 n := by
  unfold xald at h
  split at h
  next k n =>
    split at h
    next q hq =>
      obtain ⟨h1, h2⟩ := cond_some h
      obtain ⟨h3, h4⟩ := and_true' h1
      obtain ⟨h5, h6⟩ := and_true' h4
      exact ⟨k, n, q, rfl, rfl, hq, h3, Nat.le_of_ble_eq_true h5, Nat.le_of_ble_eq_true h6, (Option.some.inj h2).symm⟩
    next => cases h
  next => cases h
theorem xk_ald (F : xFx p s m args meth c cc nL own S) {ok : Nat → Bool} (row : ∀ (H : Heap) (locs : List Loc) (cells slots : Nat) (ls : Array Slot) (a : Addr) (cell : Cell) (ty : Nat) (j : Int32) (v : Value) (st : List Value), ok ty = true → H[a]? = some cell → s.isArrayOf cell (xty ty) → cell.vm ≠ .unknown → ¬ (j < 0 ∨ cell.slots.size ≤ j.toNatClampNeg) → cell.slots[j.toNatClampNeg]? = some v → W p l e R s m args below meth c H locs cells slots Q (F0 m nx ls (v :: st)) → W p l e R s m args below meth c H locs cells slots Q (F0 m pc ls (.int j :: .ref a :: st))) (hK : xHyp p l e R s m args below meth c nL S o old D c0 s0 Q K out)
    (h : (match stk with
    | i :: r :: rest => xj (xald ok hp r i) fun v => K nx loc (v :: rest) hp
    | _ => none) = some out) : xG p l e R s m args below meth c nL S o old D c0 s0 Q pc loc stk hp := by
  intro H locs cells slots ls lv st hlv hl hs1 hh hlo hc hsl
  match stk, hs1, h with
  | [], _, h => cases h
  | [_], _, h => cases h
  | i :: r :: rest, hs1, h =>
    obtain ⟨a, ha, h⟩ := xj_some h
    obtain ⟨k, n, q, rfl, rfl, hq, hok, h1, h2, rfl⟩ := xald_ok ha
    obtain ⟨vi, st1, rfl, ri, hs2⟩ := xs2_cons hs1
    obtain ⟨vr, st2, rfl, rr, hs3⟩ := xs2_cons hs2
    cases ri
    cases rr
    have hcr := hh.1 k
    rw [hq] at hcr
    obtain ⟨cell, g1, g2, g3, g4, g5, g6, g7, -, g8⟩ := hcr
    obtain ⟨v, g9, g10⟩ := g8 n h1
    exact row _ _ _ _ _ _ cell q.1 _ v _ hok g1 (State.isArrayOf_alike F.2.2.2.2.2.1.alike g2) g3 (xix h2 (Nat.lt_of_lt_of_le h1 g5)) (by rw [clamp_of rfl h2]; exact g9) (hK _ _ _ _ h H locs cells slots ls lv _ hlv hl ⟨g10, hs3⟩ hh hlo hc hsl)
theorem xi_iaload (F : xFx p s m args meth c cc nL own S) {len : Nat}  (hd : decode cc pc = .ok (.iaload, len)) (hl0 : len = xlen (.iaload) len) (hx0 : nx = pc + len) (hst : xsto nL (.iaload) = true) (hK : xHyp p l e R s m args below meth c nL S o old D c0 s0 Q K out) (h : xstep o ft call pool hs K (.iaload) pc nx loc stk hp = some out) : xG p l e R s m args below meth c nL S o old D c0 s0 Q pc loc stk hp := by
  subst hx0
  have hl1 : len = 1 := hl0
  subst hl1
  refine xk_ald F (ok := fun t => Nat.beq t 0) (fun _ _ _ _ _ a cell ty j v st ho h1 h2 h3 h4 h5 k => ?_) hK h
  have e := Nat.eq_of_beq_eq_true ho
  subst e
  exact W.iald F.1 F.2.1 h1 h2 h3 h4 h5 rfl rfl hd k
theorem xi_laload (F : xFx p s m args meth c cc nL own S) {len : Nat}  (hd : decode cc pc = .ok (.laload, len)) (hl0 : len = xlen (.laload) len) (hx0 : nx = pc + len) (hst : xsto nL (.laload) = true) (hK : xHyp p l e R s m args below meth c nL S o old D c0 s0 Q K out) (h : xstep o ft call pool hs K (.laload) pc nx loc stk hp = some out) : xG p l e R s m args below meth c nL S o old D c0 s0 Q pc loc stk hp := by
  subst hx0
  have hl1 : len = 1 := hl0
  subst hl1
  refine xk_ald F (ok := fun t => Nat.beq t 1) (fun _ _ _ _ _ a cell ty j v st ho h1 h2 h3 h4 h5 k => ?_) hK h
  have e := Nat.eq_of_beq_eq_true ho
  subst e
  exact W.lald F.1 F.2.1 h1 h2 h3 h4 h5 rfl rfl hd k
theorem xi_baload (F : xFx p s m args meth c cc nL own S) {len : Nat}  (hd : decode cc pc = .ok (.baload, len)) (hl0 : len = xlen (.baload) len) (hx0 : nx = pc + len) (hst : xsto nL (.baload) = true) (hK : xHyp p l e R s m args below meth c nL S o old D c0 s0 Q K out) (h : xstep o ft call pool hs K (.baload) pc nx loc stk hp = some out) : xG p l e R s m args below meth c nL S o old D c0 s0 Q pc loc stk hp := by
  subst hx0
  have hl1 : len = 1 := hl0
  subst hl1
  refine xk_ald F (ok := fun t => Nat.beq t 2 || Nat.beq t 3) (fun _ _ _ _ _ a cell ty j v st ho h1 h2 h3 h4 h5 k => ?_) hK h
  rcases Bool.or_eq_true _ _ ▸ ho with ho | ho
  · have e := Nat.eq_of_beq_eq_true ho
    subst e
    exact W.zald F.1 F.2.1 h1 h2 h3 h4 h5 rfl rfl hd k
  · have e := Nat.eq_of_beq_eq_true ho
    subst e
    exact W.bald F.1 F.2.1 h1 h2 h3 h4 h5 rfl rfl hd k
theorem xty_ref {t : Nat} (h : 4 ≤ t) : (xty t).isReference = true := by
  unfold xty
  rw [if_neg (by omega)]
  split <;> rfl
theorem xi_aaload (F : xFx p s m args meth c cc nL own S) {len : Nat}  (hd : decode cc pc = .ok (.aaload, len)) (hl0 : len = xlen (.aaload) len) (hx0 : nx = pc + len) (hst : xsto nL (.aaload) = true) (hK : xHyp p l e R s m args below meth c nL S o old D c0 s0 Q K out) (h : xstep o ft call pool hs K (.aaload) pc nx loc stk hp = some out) : xG p l e R s m args below meth c nL S o old D c0 s0 Q pc loc stk hp := by
  subst hx0
  have hl1 : len = 1 := hl0
  subst hl1
  refine xk_ald F (ok := fun t => Nat.ble 4 t) (fun _ _ _ _ _ a cell ty j v st ho h1 h2 h3 h4 h5 k => ?_) hK h
  exact W.aald F.1 F.2.1 h1 h2 (xty_ref (Nat.le_of_ble_eq_true ho)) h3 h4 h5 rfl rfl hd k
theorem xast_ok {ok : Nat → Bool} {r i v : xA} {h' : xH} (h : xast o ok hp r i v = some h') : ∃ (k n : Nat) (q : Nat × (Nat × (Nat × Lean.RArray xA))) (w : xA), r = .inr (.inr (.inl k)) ∧ i = .inl n ∧ xcell hp k = some (.inr (.inl q)) ∧ xkeep q.1 v = some w ∧ ok q.1 = true ∧ n < q.2.1 ∧ n < 2147483648 ∧ o ≤ k ∧ n < 2 ^ q.2.2.1 ∧ h' = xput hp k (some (.inr (.inl (q.1, (q.2.1, (q.2.2.1, xset w n q.2.2.1 0 q.2.2.2)))))) := by
  unfold xast at h
  split at h
  next k n =>
    split at h
    next q hq =>
      split at h
      next w hw =>
        obtain ⟨h1, h2⟩ := cond_some h
        obtain ⟨h3, h4⟩ := and_true' h1
        obtain ⟨h5, h6⟩ := and_true' h4
        obtain ⟨h7, h8⟩ := and_true' h6
        obtain ⟨h9, h10⟩ := and_true' h8
        exact ⟨k, n, q, w, rfl, rfl, hq, hw, h3, Nat.le_of_ble_eq_true h5, Nat.le_of_ble_eq_true h7, Nat.le_of_ble_eq_true h9, Nat.le_of_ble_eq_true h10, (Option.some.inj h2).symm⟩
      next => cases h
    next => cases h
  next => cases h
theorem xcell_n {H : Heap} {k : Nat} {x : (Nat × Lean.RArray xA) ⊕ ((Nat × (Nat × (Nat × Lean.RArray xA))) ⊕ List Nat)} (hh : xhr o old D S hp H) (hq : xcell hp k = some x) : k < hp.2.1 := by
  rcases Nat.lt_or_ge k hp.2.1 with z | z
  · exact z
  · have := hh.2.2.1 k z
    rw [hq] at this
    cases this
/-- an array with one element written -/
theorem xcr_set {H H' : Heap} {k n : Nat} {q : Nat × (Nat × (Nat × Lean.RArray xA))} {w : xA} {u : Value} {ad : Nat → Nat} {cell : Cell} (h : xcr o ad D S k (some (.inr (.inl q))) H) (hc : H[ad k]? = some cell) (hn : n < q.2.1) (hb : n < 2 ^ q.2.2.1) (hw : xR ad w u) (e : H'[ad k]? = some (cell.setSlot n u)) :
    xcr o ad D S k (some (.inr (.inl (q.1, (q.2.1, (q.2.2.1, xset w n q.2.2.1 0 q.2.2.2)))))) H' := by
  obtain ⟨cell', g1, g2, g3, g4, g5, g6, g7, hb2, g8⟩ := h
  cases Option.some.inj (g1.symm.trans hc)
  have hz : (cell.setSlot n u).slots.size = cell.slots.size := by simp [Cell.setSlot]
  refine ⟨_, e, g2, g3, g4, by rw [hz]; exact g5, by rw [hz]; exact g6, xset_wf _ _ _ _ _ g7, hb2, fun j hj => ?_⟩
  have hj' : j < q.2.1 := hj
  show ∃ v, _ ∧ xR ad (xget (xset w n q.2.2.1 0 q.2.2.2) j) v
  rw [xget_xset w n j q.2.2.1 0 q.2.2.2 g7 (Nat.zero_le _) (by omega) (Nat.zero_le _) (by omega)]
  by_cases hjn : j = n
  · rw [if_pos hjn, hjn]
    exact ⟨u, Cell.slots_setSlot_self u (Nat.lt_of_lt_of_le hn g5), hw⟩
  · rw [if_neg hjn]
    obtain ⟨v, v1, v2⟩ := g8 j hj'
    exact ⟨v, by rw [slot_ne _ _ (Ne.symm hjn)]; exact v1, v2⟩
end Steps3
end
section
/-! ===== the steps: stores, fields, new cells ===== -/
abbrev xW : List Cond := lw_tbl.filter goodWord
/-- the kind of a field's type -/
def xfk (t : FieldType) : Nat := match t with
  | .int => 0
  | .long => 1
  | .boolean => 2
  | .object _ => 3
  | .array _ => 3
  | _ => 9
/-- a class: its fields, their kinds, its words -/
def xCl (ft : Nat → List Nat) (c : Nat) : Prop := ∃ (C : String) (T : u_T) (N : Nat) (ty : Nat → FieldType), vwCl[c]? = some (C, T, N) ∧ N ≤ 256 ∧ (∀ w ∈ u_ws C T N, w ∈ xW) ∧ (∀ k, k < N → parseFieldDescriptor (T k).2.2.1 = some (ty k)) ∧
  (∀ a, a < N → ∀ b, b < N → a ≠ b → (T a).2.1 ≠ (T b).2.1) ∧ (ft c).length = N ∧ ∀ k, k < N → (ft c)[k]? = some (xfk (ty k))
/-- a field's pool entry -/
def xPf (own : String) (ix : Nat) (P : xP) : Prop := ∃ (C : String) (T : u_T) (N : Nat) (ty : FieldType), vwCl[P.2.1]? = some (C, T, N) ∧ P.2.2.1 < N ∧ Cond.fieldLink own ix (T P.2.2.1).1 (T P.2.2.1).2.1 (T P.2.2.1).2.2.1 ∈ xW ∧ parseFieldDescriptor (T P.2.2.1).2.2.1 = some ty ∧ xfk ty = P.2.2.2 % 8 ∧
  ((T P.2.2.1).2.2.2 = false ∨ ((T P.2.2.1).2.2.2 = true ∧ 8 ≤ P.2.2.2 ∧ (T P.2.2.1).1 = own))
/-- .. that is read -/
def xPg (own : String) (ix : Nat) (P : xP) : Prop := ∃ (C : String) (T : u_T) (N : Nat), vwCl[P.2.1]? = some (C, T, N) ∧ P.2.2.1 < N ∧ Cond.fieldLink own ix (T P.2.2.1).1 (T P.2.2.1).2.1 (T P.2.2.1).2.2.1 ∈ xW
/-- a field that is put outside its constructors is not final -/
def xpfo (ini : Bool) (pool : Nat → xP) (i : Instr) : Bool := match i with
  | .putfield k => Nat.blt (pool k).2.2.2 8 || ini
  | _ => true
/-- what the walk rests on beside the frame: old addresses, the classes -/
def xBs (S : State) (o : Nat) (old : Nat → Nat) (D : va_G) (ft : Nat → List Nat) : Prop := (∀ k, k < o → old k < S.heap.size) ∧ va_K D vwCl [] S ∧ ∀ c q, vwCl[c]? = some q → xCl ft c
section Steps4
variable {p : Program} {l : Launch} {e : Env} {R : Room} {s : State} {m : MethodId} {args : Array Value} {below : List Frame} {meth : Method} {c : Code} {cc : ByteArray} {nL : Nat} {own : String} {S : State} {o : Nat} {old : Nat → Nat} {D : va_G} {c0 s0 : Nat} {Q : State → Prop}
variable {pc nx : Nat} {K : xK} {out : xE} {loc : List (Nat × xA)} {stk : List xA} {hp : xH} {ft : Nat → List Nat} {call : xF} {pool : Nat → xP} {hs : List (Nat × (Nat × (Nat × Nat)))}

theorem xfit_ok {f : Nat} {a : xA} {v : Value} {ad : Nat → Nat} {ty : FieldType} (h : xR ad a v) (hf : xfit f a = true) (ht : xfk ty = f) : narrow ty v = v ∧ fits ty v = true := by
  subst ht
  cases ty with
  | int =>
    obtain ⟨q, hq⟩ := isSome_of (show (xbd a).isSome = true from hf)
    obtain ⟨x, rfl, -⟩ := xR_bd h hq
    exact ⟨rfl, rfl⟩
  | long =>
    obtain ⟨q, hq⟩ := isSome_of (show (xbdl a).isSome = true from hf)
    obtain ⟨x, rfl, -⟩ := xR_bdl h hq
    exact ⟨rfl, rfl⟩
  | boolean =>
    rcases a with n | n | n | q | q | b | k
    · have hf' : (Nat.beq n 0 || Nat.beq n 1) = true := hf
      cases h
      rcases Bool.or_eq_true _ _ ▸ hf' with z | z
      · have e := Nat.eq_of_beq_eq_true z
        subst e
        exact ⟨rfl, rfl⟩
      · have e := Nat.eq_of_beq_eq_true z
        subst e
        exact ⟨rfl, rfl⟩
    · cases hf
    · cases hf
    · cases hf
    · cases hf
    · cases hf
    · cases hf
  | object C =>
    rcases a with n | n | n | q | q | (_ | _) | k
    · cases hf
    · cases hf
    · cases h; exact ⟨rfl, rfl⟩
    · cases hf
    · cases hf
    · cases h; exact ⟨rfl, rfl⟩
    · cases hf
    · cases hf
  | array t =>
    rcases a with n | n | n | q | q | (_ | _) | k
    · cases hf
    · cases hf
    · cases h; exact ⟨rfl, rfl⟩
    · cases hf
    · cases hf
    · cases h; exact ⟨rfl, rfl⟩
    · cases hf
    · cases hf
  | byte => cases hf
  | char => cases hf
  | double => cases hf
  | float => cases hf
  | short => cases hf
theorem xk_ast (F : xFx p s m args meth c cc nL own S) (B : xBs S o old D ft) {ok : Nat → Bool} (row : ∀ (H : Heap) (locs : List Loc) (cells slots : Nat) (ls : Array Slot) (a : Addr) (cell : Cell) (ty : Nat) (j : Int32) (v : xA) (w : xA) (u : Value) (ad : Nat → Nat) (st : List Value), ok ty = true → xR ad v u → xkeep ty v = some w → H[a]? = some cell → s.isArrayOf cell (xty ty) → cell.vm ≠ .unknown → ¬ (j < 0 ∨ cell.slots.size ≤ j.toNatClampNeg) →
      (∀ (H' : Heap) (z : Value), xR ad w z → H'[a]? = some (cell.setSlot j.toNatClampNeg z) → H'.size = H.size → (∀ q, q ≠ a → H'[q]? = H[q]?) → W p l e R s m args below meth c H' (locs ++ [⟨a, j.toNatClampNeg⟩]) cells slots Q (F0 m nx ls st)) → W p l e R s m args below meth c H locs cells slots Q (F0 m pc ls (u :: .int j :: .ref a :: st))) (hK : xHyp p l e R s m args below meth c nL S o old D c0 s0 Q K out)
    (h : (match stk with
    | v :: i :: r :: rest => xj (xast o ok hp r i v) fun h => K nx loc rest h
    | _ => none) = some out) : xG p l e R s m args below meth c nL S o old D c0 s0 Q pc loc stk hp := by
  intro H locs cells slots ls lv st hlv hl hs1 hh hlo hc hsl
  match stk, hs1, h with
  | [], _, h => cases h
  | [_], _, h => cases h
  | [_, _], _, h => cases h
  | v :: i :: r :: rest, hs1, h =>
    obtain ⟨h', ha, h⟩ := xj_some h
    obtain ⟨k, n, q, w, rfl, rfl, hq, hw, hok, h1, h2, h3, h4, rfl⟩ := xast_ok ha
    obtain ⟨u, st0, rfl, ru, hs2⟩ := xs2_cons hs1
    obtain ⟨vi, st1, rfl, ri, hs3⟩ := xs2_cons hs2
    obtain ⟨vr, st2, rfl, rr, hs4⟩ := xs2_cons hs3
    cases ri
    cases rr
    have hcr := hh.1 k
    rw [hq] at hcr
    have hcr' := hcr
    obtain ⟨cell, g1, g2, g3, g4, g5, g6, g7, -, g8⟩ := hcr
    refine row _ _ _ _ _ _ cell q.1 _ v w u (xad o S.heap.size old) _ hok ru hw g1 (State.isArrayOf_alike F.2.2.2.2.2.1.alike g2) g3 (xix h2 (Nat.lt_of_lt_of_le h1 g5)) fun H' z rz e1 e2 e3 => ?_
    rw [clamp_of rfl h2] at e1 ⊢
    refine hK _ _ _ _ h H' _ cells slots ls lv _ hlv hl hs4 (hh.put B.1 h3 (xcell_n hh hq) e2 e3 (xcr_set hcr' g1 h1 h4 rz e1)) (fun y hy => ?_) hc hsl
    rcases List.mem_append.mp hy with y1 | y1
    · exact hlo y y1
    · rw [List.mem_singleton] at y1
      subst y1
      show S.heap.size ≤ xad o S.heap.size old k
      unfold xad
      rw [if_neg (by omega)]
      omega
theorem xi_iastore (F : xFx p s m args meth c cc nL own S) {len : Nat} (B : xBs S o old D ft) (hd : decode cc pc = .ok (.iastore, len)) (hl0 : len = xlen (.iastore) len) (hx0 : nx = pc + len) (hst : xsto nL (.iastore) = true) (hK : xHyp p l e R s m args below meth c nL S o old D c0 s0 Q K out) (h : xstep o ft call pool hs K (.iastore) pc nx loc stk hp = some out) : xG p l e R s m args below meth c nL S o old D c0 s0 Q pc loc stk hp := by
  subst hx0
  have hl1 : len = 1 := hl0
  subst hl1
  refine xk_ast F B (ok := fun t => Nat.beq t 0) (fun _ _ _ _ _ a cell ty j v w u ad st ho hv hw h1 h2 h3 h4 k => ?_) hK h
  have e := Nat.eq_of_beq_eq_true ho
  subst e
  obtain ⟨hi, h9⟩ := cond_some (show cond (xbd v).isSome (some v) none = some w from hw)
  cases h9
  obtain ⟨q, hq⟩ := isSome_of hi
  obtain ⟨x, rfl, -⟩ := xR_bd hv hq
  exact W.iast F.1 F.2.1 h1 h2 h3 h4 rfl rfl hd (fun H' e1 e2 e3 => k H' _ hv e1 e2 e3)
theorem xi_lastore (F : xFx p s m args meth c cc nL own S) {len : Nat} (B : xBs S o old D ft) (hd : decode cc pc = .ok (.lastore, len)) (hl0 : len = xlen (.lastore) len) (hx0 : nx = pc + len) (hst : xsto nL (.lastore) = true) (hK : xHyp p l e R s m args below meth c nL S o old D c0 s0 Q K out) (h : xstep o ft call pool hs K (.lastore) pc nx loc stk hp = some out) : xG p l e R s m args below meth c nL S o old D c0 s0 Q pc loc stk hp := by
  subst hx0
  have hl1 : len = 1 := hl0
  subst hl1
  refine xk_ast F B (ok := fun t => Nat.beq t 1) (fun _ _ _ _ _ a cell ty j v w u ad st ho hv hw h1 h2 h3 h4 k => ?_) hK h
  have e := Nat.eq_of_beq_eq_true ho
  subst e
  obtain ⟨hi, h9⟩ := cond_some (show cond (xbdl v).isSome (some v) none = some w from hw)
  cases h9
  obtain ⟨q, hq⟩ := isSome_of hi
  obtain ⟨x, rfl, -⟩ := xR_bdl hv hq
  exact W.last F.1 F.2.1 h1 h2 h3 h4 rfl rfl hd (fun H' e1 e2 e3 => k H' _ hv e1 e2 e3)
theorem xi_bastore (F : xFx p s m args meth c cc nL own S) {len : Nat} (B : xBs S o old D ft) (hd : decode cc pc = .ok (.bastore, len)) (hl0 : len = xlen (.bastore) len) (hx0 : nx = pc + len) (hst : xsto nL (.bastore) = true) (hK : xHyp p l e R s m args below meth c nL S o old D c0 s0 Q K out) (h : xstep o ft call pool hs K (.bastore) pc nx loc stk hp = some out) : xG p l e R s m args below meth c nL S o old D c0 s0 Q pc loc stk hp := by
  subst hx0
  have hl1 : len = 1 := hl0
  subst hl1
  refine xk_ast F B (ok := fun t => Nat.beq t 2 || Nat.beq t 3) (fun _ _ _ _ _ a cell ty j v w u ad st ho hv hw h1 h2 h3 h4 k => ?_) hK h
  rcases Bool.or_eq_true _ _ ▸ ho with ho | ho
  · have e := Nat.eq_of_beq_eq_true ho
    subst e
    rcases v with n | n | n | q | q | b | k2
    · obtain ⟨hi, h9⟩ := cond_some (show cond (Nat.beq n 0 || Nat.beq n 1) (some (.inl n)) none = some w from hw)
      cases h9
      cases hv
      refine W.zast F.1 F.2.1 h1 h2 h3 h4 rfl rfl hd (fun H' e1 e2 e3 => k H' _ ?_ e1 e2 e3)
      rcases Bool.or_eq_true _ _ ▸ hi with z | z
      · have e := Nat.eq_of_beq_eq_true z
        subst e
        exact narrow_b0
      · have e := Nat.eq_of_beq_eq_true z
        subst e
        exact narrow_b1
    · cases hw
    · cases hw
    · cases hw
    · cases hw
    · cases hw
    · cases hw
  · have e := Nat.eq_of_beq_eq_true ho
    subst e
    have hz : ∃ x : Int32, u = .int x ∧ xR ad w (.int x.toInt8.toInt32) := by
      have hw' : xkeep 3 v = some w := hw
      unfold xkeep at hw'
      split at hw'
      · rename_i e; cases e
      · rename_i e; cases e
      · rename_i e; cases e
      · split at hw'
        · cases hv; cases hw'
          exact ⟨_, rfl, by show Value.int _ = _; rw [xi32]⟩
        · obtain ⟨hi, h9⟩ := cond_some hw'
          obtain ⟨q, hq⟩ := isSome_of hi
          obtain ⟨x, rfl, -⟩ := xR_bd hv hq
          exact ⟨x, rfl, by rw [← Option.some.inj h9]; exact xR_top _ _⟩
      · cases hw'
    obtain ⟨x, rfl, hx⟩ := hz
    exact W.bast F.1 F.2.1 h1 h2 h3 h4 rfl rfl hd (fun H' e1 e2 e3 => k H' _ hx e1 e2 e3)
theorem xi_arraylength (F : xFx p s m args meth c cc nL own S) {len : Nat}  (hd : decode cc pc = .ok (.arraylength, len)) (hl0 : len = xlen (.arraylength) len) (hx0 : nx = pc + len) (hst : xsto nL (.arraylength) = true) (hK : xHyp p l e R s m args below meth c nL S o old D c0 s0 Q K out) (h : xstep o ft call pool hs K (.arraylength) pc nx loc stk hp = some out) : xG p l e R s m args below meth c nL S o old D c0 s0 Q pc loc stk hp := by
  subst hx0
  have hl1 : len = 1 := hl0
  subst hl1
  intro H locs cells slots ls lv st hlv hl hs1 hh hlo hc hsl
  match stk, hs1, h with
  | .inr (.inr (.inl k)) :: rest, hs1, h =>
    have h : (match xcell hp k with
      | some (.inr (.inl c)) => K (pc + 1) loc (.inl c.2.1 :: rest) hp
      | _ => none) = some out := h
    split at h
    next q hq =>
      obtain ⟨vr, st2, rfl, rr, hs2⟩ := xs2_cons hs1
      cases rr
      have hcr := hh.1 k
      rw [hq] at hcr
      obtain ⟨cell, g1, g2, g3, g4, g5, g6, g7, -, g8⟩ := hcr
      exact W.alen F.1 F.2.1 g1 (State.isArrayOf_alike F.2.2.2.2.2.1.alike g2) g6 rfl rfl hd (hK _ _ _ _ h H locs cells slots ls lv _ hlv hl ⟨rfl, hs2⟩ hh hlo hc hsl)
    next => cases h
  | [], _, h => cases h
  | .inl _ :: _, _, h => cases h
  | .inr (.inl _) :: _, _, h => cases h
  | .inr (.inr (.inr _)) :: _, _, h => cases h
theorem xi_getfield (F : xFx p s m args meth c cc nL own S) {len : Nat} (B : xBs S o old D ft) {k : Nat} (HP : ((pool k).1 = 0 → xPg own k (pool k)) ∧ ((pool k).1 = 24 → Cond.fieldLink own k "java/lang/String" "value" "[B" ∈ xW) ∧ ((pool k).1 = 25 → Cond.fieldLink own k "java/lang/String" "coder" "B" ∈ xW)) (hd : decode cc pc = .ok (.getfield k, len)) (hl0 : len = xlen (.getfield k) len) (hx0 : nx = pc + len) (hst : xsto nL (.getfield k) = true) (hK : xHyp p l e R s m args below meth c nL S o old D c0 s0 Q K out) (h : xstep o ft call pool hs K (.getfield k) pc nx loc stk hp = some out) : xG p l e R s m args below meth c nL S o old D c0 s0 Q pc loc stk hp := by
  subst hx0
  have hl1 : len = 3 := hl0
  subst hl1
  intro H locs cells slots ls lv st hlv hl hs1 hh hlo hc hsl
  match stk, hs1, h with
  | .inr (.inr (.inl r)) :: rest, hs1, h =>
    obtain ⟨vr, st2, rfl, rr, hs2⟩ := xs2_cons hs1
    cases rr
    have h : cond (Nat.beq (pool k).1 0) (match xcell hp r with
      | some (.inl c) => cond (Nat.beq c.1 (pool k).2.1) (K (pc + 3) loc (xget c.2 (pool k).2.2.1 :: rest) hp) none
      | _ => none) (match xcell hp r with
      | some (.inr (.inr [j])) => cond (Nat.beq (pool k).1 24) (K (pc + 3) loc (.inr (.inr (.inl j)) :: rest) hp) (cond (Nat.beq (pool k).1 25) (K (pc + 3) loc (.inl 0 :: rest) hp) none)
      | _ => none) = some out := h
    have hcr := hh.1 r
    have hKs := va_K.moved F.2.2.2.2.2.1.alike B.2.1
    cases hb : Nat.beq (pool k).1 0 with
    | true =>
      rw [hb, cond_true] at h
      split at h
      next q hq =>
        obtain ⟨h1, h2⟩ := cond_some h
        have e1 := Nat.eq_of_beq_eq_true h1
        rw [hq] at hcr
        obtain ⟨r0, g1, g2, g3, V, ⟨cell, q1, q2, q3, q4⟩, g5⟩ := hcr
        obtain ⟨C, T, N, f1, f2, f3⟩ := HP.1 (Nat.eq_of_beq_eq_true hb)
        rw [← e1] at f1
        cases Option.some.inj (g1.symm.trans f1)
        obtain ⟨C', T', N', ty', c1, c2, c3, c4, c5, c6, c7⟩ := B.2.2 _ _ f1
        cases Option.some.inj (c1.symm.trans f1)
        obtain ⟨hS, hfc, kC, hkC, hkind⟩ := hKs.1 q.1 _ f1
        obtain ⟨cf, kf, fi, f, hi, hsl2⟩ := hS _ f2
        refine W.getf F.1 F.2.1 F.2.2.2.1 (F.2.2.2.2.1 _ f3) hi (u_facts hfc hkC (u_lays F.2.2.2.2.1 c3 f2) hi).1 q1 (by rw [q3]; exact fun h => by cases h) (v := V (pool k).2.2.1) (by rw [hsl2, q4 _ f2]) rfl rfl hd ?_
        exact hK _ _ _ _ h2 H locs cells slots ls lv _ hlv hl ⟨g5 _ f2, hs2⟩ hh hlo hc hsl
      next => cases h
    | false =>
      rw [hb, cond_false] at h
      split at h
      next j hq =>
        rw [hq] at hcr
        obtain ⟨ha, j', e0, o1, o2, o3⟩ := hcr
        cases e0
        have hH : ∀ q : Nat, q < S.heap.size → ¬ S.heap.size ≤ q → H[q]? = S.heap[q]? := fun q h1 _ => hh.2.2.2.2.2.2.2 q h1
        have get : ∀ (n d : String) (v : Value), va_OF "java/lang/String" n d v (xad o S.heap.size old r) (fun q => S.heap.size ≤ q) S S.heap → Cond.fieldLink own k "java/lang/String" n d ∈ xW → W p l e R s m args below meth c H locs cells slots Q (F0 m (pc + 3) ls (v :: st2)) → W p l e R s m args below meth c H locs cells slots Q (F0 m pc ls (.ref (xad o S.heap.size old r) :: st2)) := by
          intro n d v hO hw kk
          obtain ⟨cf, k1, fi, f, cell, p1, p2, p3, p4, p5, p6⟩ := va_OF.moved F.2.2.2.2.2.1.alike (hO.kept hH)
          exact W.getf F.1 F.2.1 F.2.2.2.1 (F.2.2.2.2.1 _ hw) p1 p2 p3 p4 (v := v) p5 rfl rfl hd kk
        cases hb2 : Nat.beq (pool k).1 24 with
        | true =>
          rw [hb2, cond_true] at h
          exact get _ _ _ o3 (HP.2.1 (Nat.eq_of_beq_eq_true hb2)) (hK _ _ _ _ h H locs cells slots ls lv _ hlv hl ⟨rfl, hs2⟩ hh hlo hc hsl)
        | false =>
          rw [hb2, cond_false] at h
          obtain ⟨h3, h4⟩ := cond_some h
          exact get _ _ _ o2 (HP.2.2 (Nat.eq_of_beq_eq_true h3)) (hK _ _ _ _ h4 H locs cells slots ls lv _ hlv hl ⟨rfl, hs2⟩ hh hlo hc hsl)
      next => cases h
  | [], _, h => cases h
  | .inl _ :: _, _, h => cases h
  | .inr (.inl _) :: _, _, h => cases h
  | .inr (.inr (.inr _)) :: _, _, h => cases h
theorem xi_putfield (F : xFx p s m args meth c cc nL own S) {len : Nat} (B : xBs S o old D ft) {k : Nat} (HP : (pool k).1 = 0 → xPf own k (pool k)) {ini : Bool} (hpf : xpfo ini pool (.putfield k) = true) (hini : ini = true → meth.name = "<init>") (hd : decode cc pc = .ok (.putfield k, len)) (hl0 : len = xlen (.putfield k) len) (hx0 : nx = pc + len) (hst : xsto nL (.putfield k) = true) (hK : xHyp p l e R s m args below meth c nL S o old D c0 s0 Q K out) (h : xstep o ft call pool hs K (.putfield k) pc nx loc stk hp = some out) : xG p l e R s m args below meth c nL S o old D c0 s0 Q pc loc stk hp := by
  subst hx0
  have hl1 : len = 3 := hl0
  subst hl1
  intro H locs cells slots ls lv st hlv hl hs1 hh hlo hc hsl
  match stk, hs1, h with
  | v :: .inr (.inr (.inl r)) :: rest, hs1, h =>
    obtain ⟨u, st1, rfl, ru, hs2⟩ := xs2_cons hs1
    obtain ⟨vr, st2, rfl, rr, hs3⟩ := xs2_cons hs2
    cases rr
    have h : cond (Nat.beq (pool k).1 0 && Nat.ble o r) (match xcell hp r with
      | some (.inl c) => cond (Nat.beq c.1 (pool k).2.1 && xfit (Nat.mod (pool k).2.2.2 8) v) (K (pc + 3) loc rest (xput hp r (some (.inl (c.1, xset v (pool k).2.2.1 8 0 c.2))))) none
      | _ => none) none = some out := h
    obtain ⟨h0, h⟩ := cond_some h
    obtain ⟨h01, h02⟩ := and_true' h0
    have hor : o ≤ r := Nat.le_of_ble_eq_true h02
    have hcr := hh.1 r
    have hKs := va_K.moved F.2.2.2.2.2.1.alike B.2.1
    split at h
    next q hq =>
      obtain ⟨h1, h2⟩ := cond_some h
      obtain ⟨h11, h12⟩ := and_true' h1
      have e1 := Nat.eq_of_beq_eq_true h11
      rw [hq] at hcr
      obtain ⟨r0, g1, g2, g3, V, ⟨cell, q1, q2, q3, q4⟩, g5⟩ := hcr
      obtain ⟨C, T, N, ty, f1, f2, f3, f4, f5, f6⟩ := HP (Nat.eq_of_beq_eq_true h01)
      rw [← e1] at f1
      cases Option.some.inj (g1.symm.trans f1)
      obtain ⟨C', T', N', ty', c1, c2, c3, c4, c5, c6, c7⟩ := B.2.2 _ _ f1
      cases Option.some.inj (c1.symm.trans f1)
      obtain ⟨hS, hfc, kC, hkC, hkind⟩ := hKs.1 q.1 _ f1
      obtain ⟨cf, kf, fi, f, hi, hsl2⟩ := hS _ f2
      have hap := va_apart (own := own) F.2.2.2.2.1 c3 ty' c4 c5 hKs f1
      obtain ⟨hn, hfit⟩ := xfit_ok ru h12 f5
      have fin : ∀ H' : Heap, H'[xad o S.heap.size old r]? = some (cell.setSlot f.slot u) → H'.size = H.size → (∀ q, q ≠ xad o S.heap.size old r → H'[q]? = H[q]?) → W p l e R s m args below meth c H' (locs ++ [⟨xad o S.heap.size old r, f.slot⟩]) cells slots Q (F0 m (pc + 3) ls st2) := by
        intro H' e2 e3 e4
        rw [hsl2] at e2
        refine hK _ _ _ _ h2 H' _ cells slots ls lv _ hlv hl hs3 (hh.put B.1 hor (xcell_n hh hq) e3 e4 ⟨(C, T, N), f1, xset_wf _ _ _ _ _ g2, g3, updV V (pool k).2.2.1 u, ⟨_, e2, q2, q3, t_set q4 hap f2 u⟩, fun j hj => ?_⟩) (fun y hy => ?_) hc hsl
        · show xR _ (xget (xset v (pool k).2.2.1 8 0 q.2) j) _
          have hj2 : j < N := hj
          have hN : N ≤ 256 := c2
          rw [xget_xset v _ j 8 0 q.2 g2 (Nat.zero_le _) (by omega) (Nat.zero_le _) (by omega)]
          unfold updV
          by_cases hjk : j = (pool k).2.2.1
          · rw [if_pos hjk, if_pos hjk]; exact ru
          · rw [if_neg hjk, if_neg hjk]; exact g5 j hj
        · rcases List.mem_append.mp hy with y1 | y1
          · exact hlo y y1
          · rw [List.mem_singleton] at y1
            subst y1
            show S.heap.size ≤ xad o S.heap.size old r
            unfold xad
            rw [if_neg (by omega)]
            omega
      have hst2 := (u_facts hfc hkC (u_lays F.2.2.2.2.1 c3 f2) hi).1
      have hlay := F.2.2.2.2.1 _ (c3 _ (u_in_lay f2))
      unfold u_lay at hlay
      rcases f6 with f6 | ⟨f6, f7, f8⟩
      · rw [if_neg (by rw [f6]; decide)] at hlay
        have h6 := u_store hfc hkC hkind hlay hi f4 hn hfit
        exact W.putK F.1 F.2.1 (f := f) ⟨F.2.2.2.1, F.2.2.2.2.1 _ f3, ⟨_, _, _, hi⟩, hst2⟩ (by rw [q2]; exact h6) q1 q3 (by rw [hsl2]; exact k2_hasslot (q4 _ f2)) rfl rfl hd fin
      · rw [if_pos f6] at hlay
        have hin2 : meth.name = "<init>" := hini (by
          have z : (Nat.blt (pool k).2.2.2 8 || ini) = true := hpf
          rw [Bool.or_eq_true] at z
          rcases z with z | z
          · have := Nat.le_of_ble_eq_true z; omega
          · exact z)
        have hcf : m.cls = cf := by
          obtain ⟨_, _, c', _, _, _, -, -, hf', -, -, -, hown2, -⟩ := Cond.laysFinal_spec hlay
          have e1 : c' = cf := by have := hi.symm.trans hf'; simp at this; exact this.1.symm
          rw [f8] at hown2
          rw [← e1]; exact Option.some.inj (F.2.2.2.1.symm.trans hown2)
        have h6 := u_fits hfc hkC hkind (Or.inr hlay) hi f4 hn hfit
        exact W.putFinK F.1 F.2.1 F.2.2.2.1 (F.2.2.2.2.1 _ f3) hi hst2 hcf hin2 (by rw [q2]; exact h6) q1 q3 (by rw [hsl2]; exact k2_hasslot (q4 _ f2)) rfl rfl hd fin
    next => cases h
  | [], _, h => cases h
  | [_], _, h => cases h
  | _ :: .inl _ :: _, _, h => cases h
  | _ :: .inr (.inl _) :: _, _, h => cases h
  | _ :: .inr (.inr (.inr _)) :: _, _, h => cases h
end Steps4
end
section
/-! ===== the steps: new cells, constants, statics ===== -/
/-- what the way on keeps and the frame's room -/
def xRm (K : xK) (out : xE) (R : Room) (c0 s0 : Nat) : Prop := (∀ pc loc stk hp, K pc loc stk hp = some out → hp.2.2.2.1 ≤ out.2.2.2.1.2.2.2.1 ∧ hp.2.2.2.2 ≤ out.2.2.2.1.2.2.2.2) ∧ out.2.2.2.1.2.2.2.1 ≤ R.cells + c0 ∧ out.2.2.2.1.2.2.2.2 ≤ R.slots + s0
theorem va_AOA.moved {t : FieldType} {u U : State} (hvm : u.vm.Alike U.vm) (h : va_AOA t u) : va_AOA t U := by
  obtain ⟨comp, c, k, h1, h2, h3, h4, h5⟩ := arrayOverA_spec (args := #[]) (first := u) (s := u) (o := none) (idx := []) h
  obtain ⟨k', hk', he⟩ := hvm.2.2 _ _ h3
  have hi : (U.vm.classes.findIdx? fun (x : Class) => match x.kind with | .array component _ => component == comp | _ => false) = some c := by
    rw [hvm.findIdx?_eq _ (fun _ => rfl)]; exact h2
  have hkind : k'.kind = .array comp (.array t) := by rw [he]; exact h4
  have f1 : U.vm.findClass (FieldType.array t).toString = some comp := by rw [hvm.findClass]; exact h1
  have f2 : U.vm.findClass ("[" ++ (FieldType.array t).toString) = some c := by rw [hvm.findClass]; exact h5
  unfold va_AOA Cond.before Cond.holds
  simp only [Cond.value]
  rw [f1, Option.bind_some]
  refine (congrArg (fun o : Option Nat => (o.bind (fun c => (U.vm.classes[c]?).map fun (k : Class) => match k.kind with | .array _ ty => decide (ty = FieldType.array t) && decide (U.vm.findClass ("[" ++ (FieldType.array t).toString) = some c) | _ => false) == some true)) hi).trans ?_
  simp [hk', hkind, f2]
section Steps5
variable {p : Program} {l : Launch} {e : Env} {R : Room} {s : State} {m : MethodId} {args : Array Value} {below : List Frame} {meth : Method} {c : Code} {cc : ByteArray} {nL : Nat} {own : String} {S : State} {o : Nat} {old : Nat → Nat} {D : va_G} {c0 s0 : Nat} {Q : State → Prop}
variable {pc nx : Nat} {K : xK} {out : xE} {loc : List (Nat × xA)} {stk : List xA} {hp : xH} {ft : Nat → List Nat} {call : xF} {pool : Nat → xP} {hs : List (Nat × (Nat × (Nat × Nat)))}

theorem xborn_ok : ∀ (ts : List Nat) (k : Nat) (t : Lean.RArray xA), xwf 8 0 t → k + ts.length ≤ 256 → xwf 8 0 (xborn ts k t) ∧ ∀ j, j < 256 → xget (xborn ts k t) j = if k ≤ j ∧ j < k + ts.length then xdef (ts.getD (j - k) 0) else xget t j := by
  intro ts
  induction ts with
  | nil => intro k t h _; exact ⟨h, fun j _ => by show xget t j = _; rw [if_neg (by simp)]⟩
  | cons f ts ih =>
    intro k t h hk
    rw [List.length_cons] at hk
    obtain ⟨h1, h2⟩ := ih (k + 1) (xset (xdef f) k 8 0 t) (xset_wf _ _ _ _ _ h) (by omega)
    refine ⟨h1, fun j hj => ?_⟩
    have e := h2 j hj
    show xget (xborn ts (k + 1) (xset (xdef f) k 8 0 t)) j = _
    rw [e, xget_xset _ _ _ 8 0 t h (Nat.zero_le _) (by omega) (Nat.zero_le _) (by omega), List.length_cons]
    by_cases hjk : j = k
    · subst hjk
      rw [if_neg (by omega), if_pos rfl, if_pos (by omega)]
      simp
    · rw [if_neg hjk]
      by_cases h5 : k + 1 ≤ j ∧ j < k + 1 + ts.length
      · rw [if_pos h5, if_pos (by omega)]
        have e2 : j - k = (j - (k + 1)) + 1 := by omega
        rw [e2]
        rfl
      · rw [if_neg h5, if_neg (by omega)]
theorem xdef_ok {ad : Nat → Nat} {ty : FieldType} (h : xfk ty ≤ 3) : xR ad (xdef (xfk ty)) (defaultValue ty) := by
  cases ty with
  | int => rfl
  | long => rfl
  | boolean => rfl
  | object C => rfl
  | array t => rfl
  | byte => exact absurd h (by decide)
  | char => exact absurd h (by decide)
  | double => exact absurd h (by decide)
  | float => exact absurd h (by decide)
  | short => exact absurd h (by decide)
/-- a class's pool entry -/
def xPc (own : String) (ix : Nat) (P : xP) : Prop := ∃ (C : String) (T : u_T) (N : Nat), vwCl[P.2.1]? = some (C, T, N) ∧ Cond.classLink own ix C ∈ xW ∧ Cond.instantiable C N ∈ xW ∧ Cond.initialized C ∈ xW
theorem xi_new (F : xFx p s m args meth c cc nL own S) {len : Nat} (B : xBs S o old D ft) {k : Nat} (HP : (pool k).1 = 5 → xPc own k (pool k)) (Rm : xRm K out R c0 s0) (h11 : Nat.beq (pool k).1 11 = false) (hf : ∀ (c k t : Nat), (ft c)[k]? = some t → t ≤ 3) (hd : decode cc pc = .ok (.new k, len)) (hl0 : len = xlen (.new k) len) (hx0 : nx = pc + len) (hst : xsto nL (.new k) = true) (hK : xHyp p l e R s m args below meth c nL S o old D c0 s0 Q K out) (h : xstep o ft call pool hs K (.new k) pc nx loc stk hp = some out) : xG p l e R s m args below meth c nL S o old D c0 s0 Q pc loc stk hp := by
  subst hx0
  have hl1 : len = 3 := hl0
  subst hl1
  intro H locs cells slots ls lv st hlv hl hs1 hh hlo hc hsl
  have h : cond (Nat.beq (pool k).1 11) (some (1, (pc, (stk, (hp, (pool k).2.1))))) (cond (Nat.beq (pool k).1 5) (xj (xnew hp (some (.inl ((pool k).2.1, xborn (ft (pool k).2.1) 0 (.leaf (.inl 0))))) (ft (pool k).2.1).length) fun q => K (pc + 3) loc (.inr (.inr (.inl q.1)) :: stk) q.2) none) = some out := h
  rw [h11, cond_false] at h
  obtain ⟨h5, h⟩ := cond_some h
  obtain ⟨q, hq, h⟩ := xj_some h
  obtain ⟨C, T, N, f1, f2, f3, f4⟩ := HP (Nat.eq_of_beq_eq_true h5)
  obtain ⟨C', T', N', ty', c1, c2, c3, c4, c5, c6, c7⟩ := B.2.2 _ _ f1
  cases Option.some.inj (c1.symm.trans f1)
  have hKs := va_K.moved F.2.2.2.2.2.1.alike B.2.1
  have hKn := hKs.1 _ _ f1
  have hn := xnew_some hq
  have hm := Rm.1 _ _ _ _ h
  have e1 : q.2.2.2.2.1 = hp.2.2.2.1 + 1 := by rw [hn.2.2]
  have e2 : q.2.2.2.2.2 = hp.2.2.2.2 + N := by rw [hn.2.2, c6]
  rw [e1, e2] at hm
  refine W.newcK F.1 F.2.1 F.2.2.2.1 (F.2.2.2.2.1 _ f2) (F.2.2.2.2.1 _ f3) (F.2.2.2.2.1 _ f4) rfl hd (by have := Rm.2.1; omega) (by have := Rm.2.2; omega) hKn.2.1 rfl fun H' kC hkC z1 z2 z3 => ?_
  obtain ⟨w1, w2⟩ := xborn_ok (ft (pool k).2.1) 0 (.leaf (.inl 0)) (xwf_leaf _ _ _) (by rw [c6]; omega)
  have had : xad o S.heap.size old q.1 = H.size := by
    rw [hn.2.2]
    unfold xad
    rw [if_neg (by have := hh.2.2.2.1; show ¬ hp.2.1 < o; omega)]
    exact (hh.2.2.2.2.2.2.1 hn.1).symm
  have hcr : xcr o (xad o S.heap.size old) D S q.1 (some (.inl ((pool k).2.1, xborn (ft (pool k).2.1) 0 (.leaf (.inl 0))))) H' := by
    refine ⟨(C, T, N), f1, w1, c2, fun j => defaultValue (ty' j), ?_, fun j hj => ?_⟩
    · rw [had]
      exact u_born ty' F.2.2.2.2.1 c3 hKn hkC z1 c4
    · have hj' : j < N := hj
      show xR _ (xget (xborn (ft (pool k).2.1) 0 (.leaf (.inl 0))) j) _
      rw [w2 j (by omega), if_pos (by rw [c6]; omega)]
      have e3 := c7 j hj'
      have e4 : (ft (pool k).2.1).getD (j - 0) 0 = xfk (ty' j) := by rw [List.getD_eq_getElem?_getD, Nat.sub_zero, e3]; rfl
      rw [e4]
      exact xdef_ok (hf _ _ _ e3)
  obtain ⟨hh2, a1, a2, a3⟩ := hh.new B.1 hq z2 z3 hcr
  refine hK _ _ _ _ h H' locs (cells + 1) (slots + N) ls lv _ hlv hl ⟨?_, hs1⟩ hh2 hlo (by omega) (by rw [a3, c6]; omega)
  show Value.ref H.size = Value.ref (xad o S.heap.size old q.1)
  rw [a1]
theorem xbits_ok {n : Nat} (h : n ≤ 1048576) : n ≤ 2 ^ xbits n := by
  unfold xbits
  cases h1 : Nat.ble n 32 with
  | true => rw [cond_true]; exact Nat.le_of_ble_eq_true h1
  | false =>
    rw [cond_false]
    cases h2 : Nat.ble n 1024 with
    | true => rw [cond_true]; exact Nat.le_of_ble_eq_true h2
    | false => rw [cond_false]; exact h
/-- a new array of one value -/
theorem xcr_arr {H' : Heap} {k ty n b : Nat} {z : xA} {u : Value} {cA : ClassId} {ad : Nat → Nat} (hA : S.isArrayOf (arrV cA n (fun _ => u)) (xty ty)) (hx : xAr S (arrV cA n (fun _ => u)) ty) (e : H'[ad k]? = some (arrV cA n (fun _ => u))) (hb : n ≤ 2 ^ b) (hz : xR ad z u) : xcr o ad D S k (some (.inr (.inl (ty, (n, (b, .leaf z)))))) H' :=
  ⟨_, e, hA, (fun h => by cases h), (fun _ => hx), (by rw [arrV_size]; exact Nat.le_refl _), (by rw [arrV_size] <;> rfl), xwf_leaf _ _ _, hb, fun j hj => ⟨u, by rw [arrV_read _ _ hj], hz⟩⟩
theorem xk_new1 (F : xFx p s m args meth c cc nL own S) (B : xBs S o old D ft) {ty n : Nat} {z : xA} {u : Value} {rest : List xA} (hz : ∀ ad : Nat → Nat, xR ad z u) (Rm : xRm K out R c0 s0) (hK : xHyp p l e R s m args below meth c nL S o old D c0 s0 Q K out)
    (row : ∀ (H : Heap) (locs : List Loc) (cells slots : Nat) (ls : Array Slot) (st : List Value), n ≤ 1048576 → cells + 1 ≤ R.cells → slots + n ≤ R.slots → (∀ (H' : Heap) (cA : ClassId), H'[H.size]? = some (arrV cA n (fun _ => u)) → H'.size = H.size + 1 → (∀ q, q < H.size → H'[q]? = H[q]?) → s.isArrayOf (arrV cA n (fun _ => u)) (xty ty) → xAr s (arrV cA n (fun _ => u)) ty → W p l e R s m args below meth c H' locs (cells + 1) (slots + n) Q (F0 m nx ls (.ref H.size :: st))) → W p l e R s m args below meth c H locs cells slots Q (F0 m pc ls (.int (Int32.ofNat n) :: st)))
    (h : xnewarr ty z K nx loc (.inl n :: rest) hp = some out) : xG p l e R s m args below meth c nL S o old D c0 s0 Q pc loc (.inl n :: rest) hp := by
  intro H locs cells slots ls lv st hlv hl hs1 hh hlo hc hsl
  have h : cond (Nat.ble n 1048576) (xj (xnew hp (some (.inr (.inl (ty, (n, (xbits n, .leaf z)))))) n) fun q => K nx loc (.inr (.inr (.inl q.1)) :: rest) q.2) none = some out := h
  obtain ⟨hn0, h⟩ := cond_some h
  obtain ⟨q, hq, h⟩ := xj_some h
  obtain ⟨vn, st2, rfl, rn, hs2⟩ := xs2_cons hs1
  cases rn
  have hn1 : n ≤ 1048576 := Nat.le_of_ble_eq_true hn0
  have hn := xnew_some hq
  have hm := Rm.1 _ _ _ _ h
  have e1 : q.2.2.2.2.1 = hp.2.2.2.1 + 1 := by rw [hn.2.2]
  have e2 : q.2.2.2.2.2 = hp.2.2.2.2 + n := by rw [hn.2.2]
  rw [e1, e2] at hm
  have hal := F.2.2.2.2.2.1.alike
  refine row _ _ _ _ _ _ hn1 (by have := Rm.2.1; omega) (by have := Rm.2.2; omega) fun H' cA z1 z2 z3 z4 z5 => ?_
  have had : xad o S.heap.size old q.1 = H.size := by
    rw [hn.2.2]
    unfold xad
    rw [if_neg (by have := hh.2.2.2.1; show ¬ hp.2.1 < o; omega)]
    exact (hh.2.2.2.2.2.2.1 hn.1).symm
  have hx : xAr S (arrV cA n (fun _ => u)) ty := by
    obtain ⟨y1, y2, y3⟩ := z5
    refine ⟨y1, by rw [← hal.findClass]; exact y2, fun y4 => ?_⟩
    obtain ⟨k1, comp, kc, y5, y6, y7, y8⟩ := y3 y4
    obtain ⟨k1', y9, y10⟩ := hal.symm.2.2 _ _ y5
    obtain ⟨kc', y11, y12⟩ := hal.symm.2.2 _ _ y8
    exact ⟨k1', comp, kc', y9, by rw [y10]; exact y6, by rw [← hal.findClass]; exact y7, y11⟩
  have hcr : xcr o (xad o S.heap.size old) D S q.1 (some (.inr (.inl (ty, (n, (xbits n, .leaf z)))))) H' := xcr_arr (State.isArrayOf_alike hal.symm z4) hx (by rw [had]; exact z1) (xbits_ok hn1) (hz _)
  obtain ⟨hh2, a1, a2, a3⟩ := hh.new B.1 hq z2 z3 hcr
  refine hK _ _ _ _ h H' locs (cells + 1) (slots + n) ls lv _ hlv hl ⟨?_, hs2⟩ hh2 hlo (by omega) (by omega)
  show Value.ref H.size = Value.ref (xad o S.heap.size old q.1)
  rw [a1]
theorem xnewarr_inl {ty : Nat} {z : xA} (h : xnewarr ty z K nx loc stk hp = some out) : ∃ n rest, stk = .inl n :: rest := by
  unfold xnewarr at h
  split at h
  next n rest => exact ⟨n, rest, rfl⟩
  next => cases h
theorem xi_newarray (F : xFx p s m args meth c cc nL own S) {len : Nat} (B : xBs S o old D ft) {t : ArrayType} (HA : ∀ t, t < 4 → Cond.arrayClass (xty1 t) ∈ xW) (Rm : xRm K out R c0 s0) (hd : decode cc pc = .ok (.newarray t, len)) (hl0 : len = xlen (.newarray t) len) (hx0 : nx = pc + len) (hst : xsto nL (.newarray t) = true) (hK : xHyp p l e R s m args below meth c nL S o old D c0 s0 Q K out) (h : xstep o ft call pool hs K (.newarray t) pc nx loc stk hp = some out) : xG p l e R s m args below meth c nL S o old D c0 s0 Q pc loc stk hp := by
  subst hx0
  have hl1 : len = 2 := hl0
  subst hl1
  obtain ⟨ty, hty, h⟩ := xj_some (show xj (xaty t) (fun ty => xnewarr ty (cond (Nat.beq ty 1) (.inr (.inl 0)) (.inl 0)) K (pc + 2) loc stk hp) = some out from h)
  obtain ⟨n, rest, rfl⟩ := xnewarr_inl h
  cases t with
  | int =>
    cases hty
    refine xk_new1 F B (ty := 0) (z := .inl 0) (u := .int 0) (fun _ => rfl) Rm hK (fun H locs cells slots ls st h1 h2 h3 kk => ?_) h
    exact va_newaK (atype := .int) F.1 F.2.1 (F.2.2.2.2.1 _ (HA 0 (by decide))) rfl hd rfl (nI_pos (by omega)) (clamp_of rfl (by omega)) (by show n * 4 ≤ _; omega) h2 h3 rfl fun H' cA z1 z2 z3 z4 z5 => kk H' cA z1 z2 z3 (z4 n _) ⟨rfl, z5, fun q => absurd q (by decide)⟩
  | long =>
    cases hty
    refine xk_new1 F B (ty := 1) (z := .inr (.inl 0)) (u := .long 0) (fun _ => rfl) Rm hK (fun H locs cells slots ls st h1 h2 h3 kk => ?_) h
    exact va_newaK (atype := .long) F.1 F.2.1 (F.2.2.2.2.1 _ (HA 1 (by decide))) rfl hd rfl (nI_pos (by omega)) (clamp_of rfl (by omega)) (by show n * 8 ≤ _; omega) h2 h3 rfl fun H' cA z1 z2 z3 z4 z5 => kk H' cA z1 z2 z3 (z4 n _) ⟨rfl, z5, fun q => absurd q (by decide)⟩
  | boolean =>
    cases hty
    refine xk_new1 F B (ty := 2) (z := .inl 0) (u := .int 0) (fun _ => rfl) Rm hK (fun H locs cells slots ls st h1 h2 h3 kk => ?_) h
    exact va_newaK (atype := .boolean) F.1 F.2.1 (F.2.2.2.2.1 _ (HA 2 (by decide))) rfl hd rfl (nI_pos (by omega)) (clamp_of rfl (by omega)) (by show n * 1 ≤ _; omega) h2 h3 rfl fun H' cA z1 z2 z3 z4 z5 => kk H' cA z1 z2 z3 (z4 n _) ⟨rfl, z5, fun q => absurd q (by decide)⟩
  | byte =>
    cases hty
    refine xk_new1 F B (ty := 3) (z := .inl 0) (u := .int 0) (fun _ => rfl) Rm hK (fun H locs cells slots ls st h1 h2 h3 kk => ?_) h
    exact va_newaK (atype := .byte) F.1 F.2.1 (F.2.2.2.2.1 _ (HA 3 (by decide))) rfl hd rfl (nI_pos (by omega)) (clamp_of rfl (by omega)) (by show n * 1 ≤ _; omega) h2 h3 rfl fun H' cA z1 z2 z3 z4 z5 => kk H' cA z1 z2 z3 (z4 n _) ⟨rfl, z5, fun q => absurd q (by decide)⟩
  | char => cases hty
  | float => cases hty
  | double => cases hty
  | short => cases hty
/-- an array class over a class, over an array -/
def xAO (S : State) (t : Nat) : Prop := if t < 64 then va_AO (xcn (t - 4)) S else va_AOA (xty1 (t - 64)) S
/-- the pool entry of 'new T[n]': its kind and its class -/
def xPa (S : State) (own : String) (ix : Nat) (P : xP) : Prop := (P.1 = 5 → 4 + P.2.1 < 64 ∧ Cond.classLink own ix (xcn P.2.1) ∈ xW ∧ va_AO (xcn P.2.1) S) ∧ (P.1 = 6 → 64 ≤ P.2.1 ∧ Cond.classLink own ix (FieldType.array (xty1 (P.2.1 - 64))).toString ∈ xW ∧ va_AOA (xty1 (P.2.1 - 64)) S)
theorem arrN_new (cA : ClassId) (n : Nat) : ({ cls := cA, slots := Array.replicate n Value.null, vm := .none } : Cell) = arrV cA n (fun _ => Value.null) := arrV_new cA n .null
theorem xi_anewarray (F : xFx p s m args meth c cc nL own S) {len : Nat} (B : xBs S o old D ft) {k : Nat} (HP : xPa S own k (pool k)) (Rm : xRm K out R c0 s0) (hd : decode cc pc = .ok (.anewarray k, len)) (hl0 : len = xlen (.anewarray k) len) (hx0 : nx = pc + len) (hst : xsto nL (.anewarray k) = true) (hK : xHyp p l e R s m args below meth c nL S o old D c0 s0 Q K out) (h : xstep o ft call pool hs K (.anewarray k) pc nx loc stk hp = some out) : xG p l e R s m args below meth c nL S o old D c0 s0 Q pc loc stk hp := by
  subst hx0
  have hl1 : len = 3 := hl0
  subst hl1
  have h : cond (Nat.beq (pool k).1 6) (xnewarr (pool k).2.1 (.inr (.inr (.inr (.inr (.inr (.inl false)))))) K (pc + 3) loc stk hp) (cond (Nat.beq (pool k).1 5) (xnewarr (Nat.add 4 (pool k).2.1) (.inr (.inr (.inr (.inr (.inr (.inl false)))))) K (pc + 3) loc stk hp) none) = some out := h
  have hal := F.2.2.2.2.2.1.alike
  cases h6 : Nat.beq (pool k).1 6 with
  | true =>
    rw [h6, cond_true] at h
    obtain ⟨n, rest, rfl⟩ := xnewarr_inl h
    obtain ⟨g1, g2, g3⟩ := HP.2 (Nat.eq_of_beq_eq_true h6)
    have ex : xty (pool k).2.1 = .array (xty1 ((pool k).2.1 - 64)) := by
      unfold xty
      rw [if_neg (by omega), if_neg (by omega)]
    have en : xtn (pool k).2.1 = (FieldType.array (xty1 ((pool k).2.1 - 64))).toString := by
      unfold xtn
      rw [if_neg (by omega), ex]
    refine xk_new1 F B (z := .inr (.inr (.inr (.inr (.inr (.inl false)))))) (u := .null) (fun _ => rfl) Rm hK (fun H locs cells slots ls st h1 h2 h3 kk => ?_) h
    refine W.anewA F.1 F.2.1 F.2.2.2.1 (F.2.2.2.2.1 _ g2) (va_AOA.use (va_AOA.moved hal g3)) rfl hd rfl (nI_pos (by omega)) (by rw [clamp_of rfl (by omega)]; omega) h2 (by rw [clamp_of rfl (by omega)]; exact h3) fun cA kA comp y1 y2 y3 y4 => ?_
    rw [clamp_of rfl (by omega)]
    obtain ⟨kc, hkc, -⟩ := Vm.findClass_spec y4
    refine kk _ cA ?_ (by simp) (fun q hq => by rw [Array.getElem?_push, if_neg (Nat.ne_of_lt hq)]) ⟨fun k h => (by cases h), kA, y2, comp, by rw [ex]; exact y3⟩ ⟨rfl, by rw [ex]; exact y1, fun _ => ⟨kA, comp, kc, y2, by rw [ex]; exact y3, by rw [en]; exact y4, hkc⟩⟩
    rw [arrN_new]
    simp
  | false =>
    rw [h6, cond_false] at h
    obtain ⟨h5, h⟩ := cond_some h
    obtain ⟨n, rest, rfl⟩ := xnewarr_inl h
    obtain ⟨g1, g2, g3⟩ := HP.1 (Nat.eq_of_beq_eq_true h5)
    have ex : xty (Nat.add 4 (pool k).2.1) = .object (xcn (pool k).2.1) := by
      show xty (4 + (pool k).2.1) = _
      unfold xty
      rw [if_neg (by omega), if_pos (by omega), Nat.add_sub_cancel_left]
    have en : xtn (Nat.add 4 (pool k).2.1) = xcn (pool k).2.1 := by
      show xtn (4 + (pool k).2.1) = _
      unfold xtn
      rw [if_pos (by omega), Nat.add_sub_cancel_left]
    refine xk_new1 F B (z := .inr (.inr (.inr (.inr (.inr (.inl false)))))) (u := .null) (fun _ => rfl) Rm hK (fun H locs cells slots ls st h1 h2 h3 kk => ?_) h
    refine W.anew F.1 F.2.1 F.2.2.2.1 (F.2.2.2.2.1 _ g2) (va_AO.use (va_AO.moved hal g3)) rfl hd rfl (nI_pos (by omega)) (by rw [clamp_of rfl (by omega)]; omega) h2 (by rw [clamp_of rfl (by omega)]; exact h3) fun cA kA comp y1 y2 y3 y4 => ?_
    rw [clamp_of rfl (by omega)]
    obtain ⟨kc, hkc, -⟩ := Vm.findClass_spec y4
    refine kk _ cA ?_ (by simp) (fun q hq => by rw [Array.getElem?_push, if_neg (Nat.ne_of_lt hq)]) ⟨fun k h => (by cases h), kA, y2, comp, by rw [ex]; exact y3⟩ ⟨rfl, by rw [ex]; exact y1, fun _ => ⟨kA, comp, kc, y2, by rw [ex]; exact y3, by rw [en]; exact y4, hkc⟩⟩
    rw [arrN_new]
    simp
end Steps5
end
section
/-! ===== the steps: references into arrays, arrays of arrays, constants ===== -/
section Steps6
variable {p : Program} {l : Launch} {e : Env} {R : Room} {s : State} {m : MethodId} {args : Array Value} {below : List Frame} {meth : Method} {c : Code} {cc : ByteArray} {nL : Nat} {own : String} {S : State} {o : Nat} {old : Nat → Nat} {D : va_G} {c0 s0 : Nat} {Q : State → Prop}
variable {pc nx : Nat} {K : xK} {out : xE} {loc : List (Nat × xA)} {stk : List xA} {hp : xH} {ft : Nat → List Nat} {call : xF} {pool : Nat → xP} {hs : List (Nat × (Nat × (Nat × Nat)))}

theorem xi_aastore (F : xFx p s m args meth c cc nL own S) {len : Nat} (B : xBs S o old D ft) (hd : decode cc pc = .ok (.aastore, len)) (hl0 : len = xlen (.aastore) len) (hx0 : nx = pc + len) (hst : xsto nL (.aastore) = true) (hK : xHyp p l e R s m args below meth c nL S o old D c0 s0 Q K out) (h : xstep o ft call pool hs K (.aastore) pc nx loc stk hp = some out) : xG p l e R s m args below meth c nL S o old D c0 s0 Q pc loc stk hp := by
  subst hx0
  have hl1 : len = 1 := hl0
  subst hl1
  intro H locs cells slots ls lv st hlv hl hs1 hh hlo hc hsl
  have h : xaast o K (pc + 1) loc stk hp = some out := h
  unfold xaast at h
  split at h
  next v n k rest _ =>
    split at h
    next c9 e hc9 he =>
      obtain ⟨h0, h⟩ := cond_some h
      obtain ⟨h1, h2⟩ := and_true' h0
      obtain ⟨h3, h4⟩ := and_true' h2
      obtain ⟨h5, h6⟩ := and_true' h4
      obtain ⟨h7, h8⟩ := and_true' h6
      have n1 : n < c9.2.1 := Nat.le_of_ble_eq_true h3
      have n2 : n < 2147483648 := Nat.le_of_ble_eq_true h5
      have n3 : o ≤ k := Nat.le_of_ble_eq_true h7
      have n4 : n < 2 ^ c9.2.2.1 := Nat.le_of_ble_eq_true h8
      obtain ⟨vv, st0, rfl, rv, hs2⟩ := xs2_cons hs1
      obtain ⟨vn, st1, rfl, rn, hs3⟩ := xs2_cons hs2
      obtain ⟨vk, st2, rfl, rk, hs4⟩ := xs2_cons hs3
      cases rv
      cases rn
      cases rk
      have hal := F.2.2.2.2.2.1.alike
      have hcr := hh.1 k
      rw [hc9] at hcr
      have hcr' := hcr
      obtain ⟨cell, g1, g2, g3, g4, g5, g6, g7, -, g8⟩ := hcr
      obtain ⟨y1, y2, y3⟩ := g4 n3
      have hv := hh.1 v
      rw [he] at hv
      -- the class of what is put in
      have key : 4 ≤ c9.1 ∧ ∃ cv : Cell, H[xad o S.heap.size old v]? = some cv ∧ (∀ q, cv.vm ≠ .statics q) ∧ S.vm.findClass (xtn c9.1) = some cv.cls := by
        match e, h1, hv with
        | .inl q, h1, hv =>
          have e1 : c9.1 = 4 + q.1 := Nat.eq_of_beq_eq_true h1
          obtain ⟨r, r1, r2, r3, V, ⟨cv, v1, v2, v3, v4⟩, v5⟩ := hv
          obtain ⟨hS, hfc, kC, hkC, hkind⟩ := B.2.1.1 q.1 _ r1
          have hq : q.1 < 60 := by
            have := (List.getElem?_eq_some_iff.mp r1).1
            have e : vwCl.length ≤ 60 := by decide
            omega
          refine ⟨by omega, cv, v1, fun z h => (by rw [v3] at h; cases h), ?_⟩
          rw [e1]
          unfold xtn
          rw [if_pos (by omega), Nat.add_sub_cancel_left]
          unfold xcn
          rw [r1, v2]
          exact hfc
        | .inr (.inl q), h1, hv =>
          obtain ⟨h11, h12⟩ := and_true' h1
          obtain ⟨h13, h14⟩ := and_true' h12
          have e1 : c9.1 = 64 + q.1 := Nat.eq_of_beq_eq_true h11
          obtain ⟨cv, v1, v2, v3, v4, -⟩ := hv
          have hov : o ≤ v := Nat.le_of_ble_eq_true h14
          obtain ⟨y4, y5, -⟩ := v4 hov
          have hq4 : q.1 < 4 := Nat.le_of_ble_eq_true h13
          refine ⟨by omega, cv, v1, fun z h => (by rw [y4] at h; cases h), ?_⟩
          rw [e1]
          unfold xtn
          rw [if_neg (by omega)]
          have ex : xty (64 + q.1) = .array (xty1 q.1) := by
            unfold xty
            rw [if_neg (by omega), if_neg (by omega), Nat.add_sub_cancel_left]
          have ex2 : xty q.1 = xty1 q.1 := by
            unfold xty
            rw [if_pos hq4]
          rw [ex, ← ex2]
          exact y5
        | .inr (.inr cs), h1, hv => cases h1
      obtain ⟨k4, cv, v1, v2, v3⟩ := key
      obtain ⟨kA, comp, kc, z1, z2, z3, z4⟩ := y3 k4
      cases Option.some.inj (z3.symm.trans v3)
      obtain ⟨kA', w1, w2⟩ := hal.2.2 _ _ z1
      obtain ⟨kc', w3, w4⟩ := hal.2.2 _ _ z4
      refine W.aast (j := Int32.ofNat n) F.1 F.2.1 g1 (fun q h => by rw [y1] at h; cases h) g3 w1 (by rw [w2]; exact z2) (xty_ref k4) w3 ⟨nI_pos n2, by rw [clamp_of rfl n2]; exact Nat.lt_of_lt_of_le n1 g5⟩ v1 v2 w3 (va_asg _ _) rfl rfl hd fun H' e1 e2 e3 => ?_
      rw [clamp_of rfl n2] at e1 ⊢
      refine hK _ _ _ _ h H' _ cells slots ls lv _ hlv hl hs4 (hh.put B.1 n3 (xcell_n hh hc9) e2 e3 (xcr_set hcr' g1 n1 n4 rfl e1)) (fun y hy => ?_) hc hsl
      rcases List.mem_append.mp hy with y1 | y1
      · exact hlo y y1
      · rw [List.mem_singleton] at y1
        subst y1
        show S.heap.size ≤ xad o S.heap.size old k
        unfold xad
        rw [if_neg (by omega)]
        omega
    next => cases h
  next => cases h
end Steps6
end
section
/-! ===== the steps: arrays of arrays, constants, statics ===== -/
section Steps7
variable {p : Program} {l : Launch} {e : Env} {R : Room} {s : State} {m : MethodId} {args : Array Value} {below : List Frame} {meth : Method} {c : Code} {cc : ByteArray} {nL : Nat} {own : String} {S : State} {o : Nat} {old : Nat → Nat} {D : va_G} {c0 s0 : Nat} {Q : State → Prop}
variable {pc nx : Nat} {K : xK} {out : xE} {loc : List (Nat × xA)} {stk : List xA} {hp : xH} {ft : Nat → List Nat} {call : xF} {pool : Nat → xP} {hs : List (Nat × (Nat × (Nat × Nat)))}

theorem xW_mna (F : xFx p s m args meth c cc nL own S) {index : Nat} {ty : FieldType} {H : Heap} {locs : List Loc} {cells slots : Nat} {ls : Array Slot} {rest : List Value} (hclink : Cond.classLink own index ("[" ++ (FieldType.array ty).toString) ∈ xW) (hover : va_AOA ty S) (harr : Cond.arrayClass ty ∈ xW) {n k : Nat} (hn : n ≤ 32) (hk : k ≤ 1048576) (hcb : componentBytes ty ≤ 8)
    (hdf : fits ty (defaultValue ty) = true) (hdd : (defaultValue ty).isDefault = true) (hcells : cells + (1 + n) ≤ R.cells) (hslots : slots + (n + n * k) ≤ R.slots) (hdg : decode cc pc = .ok (.multianewarray index 2, 4))
    (kk : ∀ (H' : Heap) (cA cy : ClassId), H'.size = H.size + 1 + n → H'[H.size]? = some (arrV cA n (fun j => va_rf (if j < n then some (H.size + 1 + j) else none))) → (∀ j, j < n → H'[H.size + 1 + j]? = some (arrV cy k (fun _ => defaultValue ty))) → (∀ q, q < H.size → H'[q]? = H[q]?) →
      s.isArrayOf (arrV cA n (fun j => va_rf (if j < n then some (H.size + 1 + j) else none))) (.array ty) → s.isArrayOf (arrV cy k (fun _ => defaultValue ty)) ty → s.vm.findClass (FieldType.array (.array ty)).toString = some cA → s.vm.findClass (FieldType.array ty).toString = some cy →
      W p l e R s m args below meth c H' locs (cells + 1 + n) (slots + n + n * k) Q (F0 m (pc + 4) ls (.ref H.size :: rest))) : W p l e R s m args below meth c H locs cells slots Q (F0 m pc ls (.int (Int32.ofNat k) :: .int (Int32.ofNat n) :: rest)) := by
  intro T hT Xs
  have cn : (Int32.ofNat n).toNatClampNeg = n := clamp_of rfl (by omega)
  have ck : (Int32.ofNat k).toNatClampNeg = k := clamp_of rfl (by omega)
  have hkc : k * componentBytes ty ≤ 536870912 := Nat.le_trans (Nat.mul_le_mul hk hcb) (by decide)
  obtain ⟨vm₁, cA, comp, -, fA, fC, hO, hI, X', step⟩ := Xs.multianewarray2F F.1 F.2.2.2.1 (F.2.2.2.2.1 _ hclink) (va_AOA.use (va_AOA.moved F.2.2.2.2.2.1.alike hover)) (F.2.2.2.2.1 _ harr) (g := F0 m pc ls (.int (Int32.ofNat k) :: .int (Int32.ofNat n) :: rest)) rfl (by rw [F.2.1]; exact hdg) rfl (nI_pos (by omega)) (nI_pos (by omega)) (by rw [cn]; omega) (by rw [ck]; exact hkc) (by rw [ck]; omega) hdf hdd (by rw [cn]; exact hcells) (by rw [cn, ck]; exact hslots)
  rw [cn, ck] at X' step
  generalize hF : Jvm.Free.Multi.fill (T.setVm vm₁) cA comp n k (defaultValue ty) n = G at X' step
  have hTh : (T.setVm vm₁).heap = H := hT
  obtain ⟨f1, f2, -, -⟩ := Jvm.Free.Multi.fill_facts (T.setVm vm₁) cA comp n k (defaultValue ty) n
  rw [hF, hTh] at f1 f2
  have hold : ∀ x : Nat, x < H.size → G.heap[x]? = H[x]? := fun x hx => by
    have := Jvm.Free.Multi.fill_old (T.setVm vm₁) cA comp n k (defaultValue ty) (a := x) (by rw [hTh]; exact hx) n
    rw [hF, hTh] at this
    exact this
  have hin : Jvm.Free.Multi.innerC comp k (defaultValue ty) = arrV comp k (fun _ => defaultValue ty) := arrV_new comp k _
  have hrow : ∀ j : Nat, j < n → G.heap[H.size + 1 + j]? = some (arrV comp k (fun _ => defaultValue ty)) := fun j hj => by
    have := Jvm.Free.Multi.fill_inner (T.setVm vm₁) cA comp n k (defaultValue ty) n j hj
    rw [hF, hTh, hin] at this
    exact this
  have hout : Jvm.Free.Multi.outerC cA n H.size n = arrV cA n (fun j => va_rf (if j < n then some (H.size + 1 + j) else none)) := vr_outer cA n H.size n
  rw [hout] at f2
  have hO2 := (hO n H.size n).1
  rw [hout] at hO2
  have hI2 := (hI k (defaultValue ty)).1
  rw [hin] at hI2
  obtain ⟨t, a1, b1⟩ := kk G.heap cA comp f1 f2 hrow hold hO2 hI2 fA fC G rfl X'
  rw [hT] at step
  exact ⟨t, step t a1, b1⟩
theorem xrefs_ok : ∀ (n b lo : Nat) (t : Lean.RArray xA), xwf b 0 t → n ≤ 2 ^ b → xwf b 0 (xrefs b lo n t) ∧ ∀ j, j < 2 ^ b → xget (xrefs b lo n t) j = if j < n then .inr (.inr (.inl (lo + j))) else xget t j := by
  intro n
  induction n with
  | zero => intro b lo t h _; exact ⟨h, fun j _ => rfl⟩
  | succ n ih =>
    intro b lo t h hn
    obtain ⟨h1, h2⟩ := ih b lo (xset (.inr (.inr (.inl (Nat.add lo n)))) n b 0 t) (xset_wf _ _ _ _ _ h) (by omega)
    refine ⟨h1, fun j hj => ?_⟩
    show xget (xrefs b lo n (xset (.inr (.inr (.inl (Nat.add lo n)))) n b 0 t)) j = _
    rw [h2 j hj, xget_xset _ _ _ b 0 t h (Nat.zero_le _) (by omega) (Nat.zero_le _) (by omega)]
    by_cases e : j = n
    · subst e
      rw [if_neg (by omega), if_pos rfl, if_pos (by omega)]
      rfl
    · rw [if_neg e]
      by_cases e2 : j < n
      · rw [if_pos e2, if_pos (by omega)]
      · rw [if_neg e2, if_neg (by omega)]
theorem xrows_ok {ty mm b : Nat} {z : xA} : ∀ (n lo : Nat) (t : Lean.RArray xC), xwf 12 0 t → lo + n ≤ 4096 → xwf 12 0 (xrows ty mm b z n lo t) ∧ ∀ j, j < 4096 → xget (xrows ty mm b z n lo t) j = if lo ≤ j ∧ j < lo + n then some (.inr (.inl (ty, (mm, (b, .leaf z))))) else xget t j := by
  intro n
  induction n with
  | zero => intro lo t h _; exact ⟨h, fun j _ => by show xget t j = _; rw [if_neg (by omega)]⟩
  | succ n ih =>
    intro lo t h hn
    obtain ⟨h1, h2⟩ := ih lo (xset (some (.inr (.inl (ty, (mm, (b, .leaf z)))))) (Nat.add lo n) 12 0 t) (xset_wf _ _ _ _ _ h) (by omega)
    refine ⟨h1, fun j hj => ?_⟩
    show xget (xrows ty mm b z n lo (xset (some (.inr (.inl (ty, (mm, (b, .leaf z)))))) (Nat.add lo n) 12 0 t)) j = _
    rw [h2 j hj, xget_xset _ _ _ 12 0 t h (Nat.zero_le _) (by show lo + n < _; omega) (Nat.zero_le _) (by omega)]
    by_cases e : j = lo + n
    · rw [if_neg (by omega), if_pos (show j = Nat.add lo n from e), if_pos (by omega)]
    · rw [if_neg (show ¬ j = Nat.add lo n from e)]
      by_cases e2 : lo ≤ j ∧ j < lo + n
      · rw [if_pos e2, if_pos (by omega)]
      · rw [if_neg e2, if_neg (by omega)]
theorem xcell_get {h : xH} {k : Nat} (hk : k < 4096) : xcell h k = xget h.1 k := by
  unfold xcell
  rw [show Nat.blt k 4096 = true from Nat.ble_eq_true_of_le hk, cond_true]
theorem xcell_out {h : xH} {k : Nat} (hk : ¬ k < 4096) : xcell h k = none := by
  unfold xcell
  rw [show Nat.blt k 4096 = false from Bool.eq_false_iff.mpr fun q => hk (Nat.le_of_ble_eq_true q), cond_false]
/-- the pool entry of 'new T[n][m]' -/
def xPm (S : State) (own : String) (ix : Nat) (P : xP) : Prop := Cond.classLink own ix ("[" ++ (FieldType.array (xty1 P.2.1)).toString) ∈ xW ∧ va_AOA (xty1 P.2.1) S
theorem xi_multianewarray (F : xFx p s m args meth c cc nL own S) {len : Nat} (B : xBs S o old D ft) {k d : Nat} (hd2 : d = 2) (HP : (pool k).1 = 22 → xPm S own k (pool k)) (HA : ∀ t, t < 4 → Cond.arrayClass (xty1 t) ∈ xW) (Rm : xRm K out R c0 s0) (hd : decode cc pc = .ok (.multianewarray k d, len)) (hl0 : len = xlen (.multianewarray k d) len) (hx0 : nx = pc + len) (hst : xsto nL (.multianewarray k d) = true) (hK : xHyp p l e R s m args below meth c nL S o old D c0 s0 Q K out) (h : xstep o ft call pool hs K (.multianewarray k d) pc nx loc stk hp = some out) : xG p l e R s m args below meth c nL S o old D c0 s0 Q pc loc stk hp := by
  subst hx0
  have hl1 : len = 4 := hl0
  subst hl1
  intro H locs cells slots ls lv st hlv hl hs1 hh hlo hc hsl
  subst hd2
  have h : xmulti (pool k) K (pc + 4) loc stk hp = some out := h
  unfold xmulti at h
  split at h
  next mm n rest _ =>
    obtain ⟨h0, h⟩ := cond_some h
    obtain ⟨h1, h2⟩ := and_true' h0
    obtain ⟨h3, h4⟩ := and_true' h2
    obtain ⟨h5, h6⟩ := and_true' h4
    obtain ⟨h7, h8⟩ := and_true' h6
    obtain ⟨h9, h10⟩ := and_true' h8
    have t1 : (pool k).2.1 ≤ 1 := Nat.le_of_ble_eq_true h3
    have n1 : n ≤ 32 := Nat.le_of_ble_eq_true h5
    have m1 : mm ≤ 1048576 := Nat.le_of_ble_eq_true h7
    have n2 : hp.2.1 + n < 4096 := Nat.le_of_ble_eq_true h10
    obtain ⟨p1, p2⟩ := HP (Nat.eq_of_beq_eq_true h1)
    obtain ⟨vm, st1, rfl, rm, hs2⟩ := xs2_cons hs1
    obtain ⟨vn, st2, rfl, rn, hs3⟩ := xs2_cons hs2
    cases rm
    cases rn
    have hal := F.2.2.2.2.2.1.alike
    generalize hN : hp.2.1 = N at *
    generalize ht : (pool k).2.1 = t at *
    have hm := Rm.1 _ _ _ _ h
    have hm1 : Nat.add (Nat.add hp.2.2.2.1 1) n ≤ out.2.2.2.1.2.2.2.1 := hm.1
    have hm2 : Nat.add (Nat.add hp.2.2.2.2 n) (Nat.mul n mm) ≤ out.2.2.2.1.2.2.2.2 := hm.2
    have hm1 : hp.2.2.2.1 + 1 + n ≤ out.2.2.2.1.2.2.2.1 := hm1
    have hm2 : hp.2.2.2.2 + n + n * mm ≤ out.2.2.2.1.2.2.2.2 := hm2
    obtain ⟨w1, w2, w3, w4, w5, w6, w7, w8⟩ := hh
    rw [hN] at w3 w4 w5 w6 w7
    have w9 := w7 h9
    have htcb : componentBytes (xty1 t) ≤ 8 := by
      rcases (by omega : t = 0 ∨ t = 1) with rfl | rfl <;> decide
    have hz : ∀ ad : Nat → Nat, xR ad (cond (Nat.beq t 1) (.inr (.inl 0)) (.inl 0)) (defaultValue (xty1 t)) := by
      intro ad
      rcases (by omega : t = 0 ∨ t = 1) with rfl | rfl <;> rfl
    have hdf : fits (xty1 t) (defaultValue (xty1 t)) = true := by
      rcases (by omega : t = 0 ∨ t = 1) with rfl | rfl <;> rfl
    have hdd : (defaultValue (xty1 t)).isDefault = true := by
      rcases (by omega : t = 0 ∨ t = 1) with rfl | rfl <;> rfl
    have hxt : xty t = xty1 t := by
      unfold xty
      rw [if_pos (by omega)]
    have hx64 : xty (64 + t) = .array (xty1 t) := by
      unfold xty
      rw [if_neg (by omega), if_neg (by omega), Nat.add_sub_cancel_left]
    have hn64 : xtn (64 + t) = (FieldType.array (xty1 t)).toString := by
      unfold xtn
      rw [if_neg (by omega), hx64]
    refine xW_mna F p1 p2 (HA t (by omega)) n1 m1 htcb hdf hdd (by have := Rm.2.1; omega) (by have := Rm.2.2; omega) hd fun H' cA cy z1 z2 z3 z4 z5 z6 z7 z8 => ?_
    have had : ∀ j, N ≤ j → xad o S.heap.size old j = H.size + (j - N) := fun j hj => by
      unfold xad
      rw [if_neg (by omega), w9]
      omega
    have hov := arrayOverA_spec (args := #[]) (first := S) (s := S) (o := none) (idx := []) p2
    obtain ⟨comp, cA', kA, y1, y2, y3, y4, y5⟩ := hov
    have e1 : comp = cy := by
      have e : S.vm.findClass (FieldType.array (xty1 t)).toString = some cy := by rw [← hal.findClass]; exact z8
      rw [y1] at e
      exact Option.some.inj e
    have e2 : cA' = cA := by
      have e : S.vm.findClass ("[" ++ (FieldType.array (xty1 t)).toString) = some cA := by rw [← hal.findClass]; exact z7
      rw [y5] at e
      exact Option.some.inj e
    subst e1
    subst e2
    obtain ⟨kc, hkc, -⟩ := Vm.findClass_spec y1
    have n2' : N + n < 4096 := n2
    have n1' : n ≤ 32 := n1
    generalize hz9 : (cond (Nat.beq t 1) (.inr (.inl 0)) (.inl 0) : xA) = z at *
    obtain ⟨r1, r2⟩ := xrows_ok (ty := t) (mm := mm) (b := xbits mm) (z := z) n (Nat.add N 1) hp.1 w2 (by show N + 1 + n ≤ 4096; omega)
    obtain ⟨q1, q2⟩ := xrefs_ok n 5 (Nat.add N 1) (.leaf (.inr (.inr (.inr (.inr (.inr (.inl false))))))) (xwf_leaf _ _ _) (by omega)
    have hcellN : ∀ j, xcell ((xset (some (.inr (.inl (Nat.add 64 t, (n, (5, xrefs 5 (Nat.add N 1) n (.leaf (.inr (.inr (.inr (.inr (.inr (.inl false))))))))))))) N 12 0 (xrows t mm (xbits mm) z n (Nat.add N 1) hp.1), (Nat.add N (Nat.add n 1), (true, (Nat.add (Nat.add hp.2.2.2.1 1) n, Nat.add (Nat.add hp.2.2.2.2 n) (Nat.mul n mm))))) : xH) j =
        if j = N then some (.inr (.inl (64 + t, (n, (5, xrefs 5 (Nat.add N 1) n (.leaf (.inr (.inr (.inr (.inr (.inr (.inl false)))))))))))) else if N + 1 ≤ j ∧ j < N + 1 + n then some (.inr (.inl (t, (mm, (xbits mm, .leaf z))))) else xcell hp j := by
      intro j
      by_cases hj : j < 4096
      · rw [xcell_get hj, xcell_get hj]
        show xget (xset _ N 12 0 _) j = _
        rw [xget_xset _ _ _ 12 0 _ r1 (Nat.zero_le _) (by omega) (Nat.zero_le _) (by omega)]
        by_cases e : j = N
        · rw [if_pos e, if_pos e]
          rfl
        · rw [if_neg e, if_neg e, r2 j hj]
      · rw [xcell_out hj, xcell_out hj, if_neg (by omega), if_neg (by omega)]
    refine hK _ _ _ _ h H' locs (cells + 1 + n) (slots + n + n * mm) ls lv _ hlv hl ⟨?_, hs3⟩ ⟨fun j => ?_, xset_wf _ _ _ _ _ r1, fun j hj => ?_, ?_, ?_, ?_, fun _ => ?_, fun x hx => ?_⟩ hlo ?_ ?_
    · show Value.ref H.size = Value.ref (xad o S.heap.size old N)
      rw [had N (Nat.le_refl _), Nat.sub_self]
      rfl
    · rw [hcellN j]
      by_cases e : j = N
      · rw [if_pos e]
        refine ⟨_, by rw [e, had N (Nat.le_refl _), Nat.sub_self]; exact z2, ?_, (fun q => by cases q), fun _ => ⟨rfl, ?_, fun _ => ⟨kA, comp, kc, y3, ?_, ?_, hkc⟩⟩, by rw [arrV_size]; exact Nat.le_refl _, by rw [arrV_size] <;> rfl, q1, by show n ≤ 2 ^ 5; omega, fun i hi => ?_⟩
        · show S.isArrayOf _ (xty (64 + t))
          rw [hx64]
          exact State.isArrayOf_alike hal.symm z5
        · show S.vm.findClass (FieldType.array (xty (64 + t))).toString = _
          rw [hx64]
          exact y5
        · show kA.kind = .array comp (xty (64 + t))
          rw [hx64]
          exact y4
        · show S.vm.findClass (xtn (64 + t)) = _
          rw [hn64]
          exact y1
        · have hi' : i < n := hi
          refine ⟨_, by rw [arrV_read _ _ hi'], ?_⟩
          rw [if_pos hi']
          show xR _ (xget (xrefs 5 (Nat.add N 1) n _) i) _
          rw [q2 i (by omega), if_pos hi']
          show Value.ref (H.size + 1 + i) = Value.ref (xad o S.heap.size old (N + 1 + i))
          rw [had _ (by omega), show H.size + (N + 1 + i - N) = H.size + 1 + i by omega]
      · rw [if_neg e]
        by_cases e3 : N + 1 ≤ j ∧ j < N + 1 + n
        · rw [if_pos e3]
          refine xcr_arr (u := defaultValue (xty1 t)) (cA := comp) ?_ ⟨rfl, ?_, fun q => by omega⟩ ?_ (xbits_ok m1) (hz _)
          · rw [hxt]
            exact State.isArrayOf_alike hal.symm z6
          · rw [hxt]
            exact y1
          · have := z3 (j - (N + 1)) (by omega)
            rw [had j (by omega)]
            rw [show H.size + (j - N) = H.size + 1 + (j - (N + 1)) by omega]
            exact this
        · rw [if_neg e3]
          by_cases e4 : N ≤ j
          · rw [w3 j e4]
            trivial
          · refine (w1 j).kept (z4 _ ?_)
            unfold xad
            by_cases e5 : j < o
            · rw [if_pos e5]
              have := B.1 j e5
              omega
            · rw [if_neg e5]
              omega
    · have hj' : N + (n + 1) ≤ j := hj
      rw [hcellN j, if_neg (by omega), if_neg (by omega)]
      exact w3 j (by omega)
    · show o ≤ N + (n + 1)
      omega
    · show N + (n + 1) ≤ 4096
      omega
    · show S.heap.size + (N + (n + 1) - o) ≤ H'.size
      omega
    · show H'.size = S.heap.size + (N + (n + 1) - o)
      omega
    · rw [z4 x (by omega), w8 x hx]
    · show cells + 1 + n + c0 = hp.2.2.2.1 + 1 + n
      omega
    · show slots + n + n * mm + s0 = hp.2.2.2.2 + n + n * mm
      omega
  next => cases h
/-- constants: ints, longs, texts -/
def xPk (S : State) (ad : Nat → Nat) (own : String) (ix : Nat) (P : xP) : Prop := (P.1 = 8 → Cond.constant own ix (Int32.ofNat P.2.1) ∈ xW) ∧ (P.1 = 9 → Cond.constantLong own ix (Int64.ofNat P.2.1) ∈ xW) ∧ (P.1 = 7 → ∃ tx, vk_R own ix tx (ad P.2.1) S)
/-- statics: a row of numbers, an int that is 1, some reference -/
def xPs (S : State) (ad : Nat → Nat) (own : String) (ix : Nat) (P : xP) : Prop := (P.1 = 10 → ∃ C n d, Cond.fieldLink own ix C n d ∈ xW ∧ va_Z C n d (.ref (ad P.2.1)) (fun q => S.heap.size ≤ q) S S.heap) ∧ (P.1 = 26 → ∃ C n d, Cond.fieldLink own ix C n d ∈ xW ∧ va_Z C n d (.int 1) (fun q => S.heap.size ≤ q) S S.heap) ∧ (P.1 = 27 → ∃ C n d, Cond.fieldLink own ix C n d ∈ xW ∧ va_Zq C n d (fun q => S.heap.size ≤ q) S S.heap)
theorem xi_ldc (F : xFx p s m args meth c cc nL own S) {len : Nat} {k : Nat} (HP : xPk S (xad o S.heap.size old) own k (pool k)) (hd : decode cc pc = .ok (.ldc k, len)) (hl0 : len = xlen (.ldc k) len) (hx0 : nx = pc + len) (hst : xsto nL (.ldc k) = true) (hK : xHyp p l e R s m args below meth c nL S o old D c0 s0 Q K out) (h : xstep o ft call pool hs K (.ldc k) pc nx loc stk hp = some out) : xG p l e R s m args below meth c nL S o old D c0 s0 Q pc loc stk hp := by
  subst hx0
  have hl1 : len = 2 := hl0
  subst hl1
  have h : cond (Nat.beq (pool k).1 8) (K (pc + 2) loc (.inl (pool k).2.1 :: stk) hp) (cond (Nat.beq (pool k).1 7) (K (pc + 2) loc (.inr (.inr (.inl (pool k).2.1)) :: stk) hp) none) = some out := h
  cases h8 : Nat.beq (pool k).1 8 with
  | true =>
    rw [h8, cond_true] at h
    exact xk_push F (a := .inl (pool k).2.1) (v := .int (Int32.ofNat (pool k).2.1)) rfl (fun _ _ _ _ _ _ k9 => lv_ldc F.1 F.2.1 F.2.2.2.1 (F.2.2.2.2.1 _ (HP.1 (Nat.eq_of_beq_eq_true h8))) hd k9) hK h
  | false =>
    rw [h8, cond_false] at h
    obtain ⟨h7, h⟩ := cond_some h
    obtain ⟨tx, htx⟩ := HP.2.2 (Nat.eq_of_beq_eq_true h7)
    exact xk_push F (a := .inr (.inr (.inl (pool k).2.1))) (v := .ref (xad o S.heap.size old (pool k).2.1)) rfl (fun _ _ _ _ _ _ k9 => va_ldcS F.1 F.2.1 F.2.2.2.1 (vk_R.warm F.2.2.2.2.2.1 htx) hd k9) hK h
theorem xi_ldc_w (F : xFx p s m args meth c cc nL own S) {len : Nat} {k : Nat} (HP : xPk S (xad o S.heap.size old) own k (pool k)) (hno : ¬ (pool k).1 = 7) (hd : decode cc pc = .ok (.ldc_w k, len)) (hl0 : len = xlen (.ldc_w k) len) (hx0 : nx = pc + len) (hst : xsto nL (.ldc_w k) = true) (hK : xHyp p l e R s m args below meth c nL S o old D c0 s0 Q K out) (h : xstep o ft call pool hs K (.ldc_w k) pc nx loc stk hp = some out) : xG p l e R s m args below meth c nL S o old D c0 s0 Q pc loc stk hp := by
  subst hx0
  have hl1 : len = 3 := hl0
  subst hl1
  have h : cond (Nat.beq (pool k).1 8) (K (pc + 3) loc (.inl (pool k).2.1 :: stk) hp) (cond (Nat.beq (pool k).1 7) (K (pc + 3) loc (.inr (.inr (.inl (pool k).2.1)) :: stk) hp) none) = some out := h
  cases h8 : Nat.beq (pool k).1 8 with
  | true =>
    rw [h8, cond_true] at h
    exact xk_push F (a := .inl (pool k).2.1) (v := .int (Int32.ofNat (pool k).2.1)) rfl (fun _ _ _ _ _ _ k9 => lv_ldcw F.1 F.2.1 F.2.2.2.1 (F.2.2.2.2.1 _ (HP.1 (Nat.eq_of_beq_eq_true h8))) hd k9) hK h
  | false =>
    rw [h8, cond_false] at h
    obtain ⟨h7, h⟩ := cond_some h
    obtain ⟨tx, htx⟩ := HP.2.2 (Nat.eq_of_beq_eq_true h7)
    exact absurd (Nat.eq_of_beq_eq_true h7) hno
theorem xi_ldc2_w (F : xFx p s m args meth c cc nL own S) {len : Nat} {k : Nat} (HP : xPk S (xad o S.heap.size old) own k (pool k)) (hd : decode cc pc = .ok (.ldc2_w k, len)) (hl0 : len = xlen (.ldc2_w k) len) (hx0 : nx = pc + len) (hst : xsto nL (.ldc2_w k) = true) (hK : xHyp p l e R s m args below meth c nL S o old D c0 s0 Q K out) (h : xstep o ft call pool hs K (.ldc2_w k) pc nx loc stk hp = some out) : xG p l e R s m args below meth c nL S o old D c0 s0 Q pc loc stk hp := by
  subst hx0
  have hl1 : len = 3 := hl0
  subst hl1
  obtain ⟨h9, h⟩ := cond_some (show cond (Nat.beq (pool k).1 9) (K (pc + 3) loc (.inr (.inl (pool k).2.1) :: stk) hp) none = some out from h)
  exact xk_push F (a := .inr (.inl (pool k).2.1)) (v := .long (Int64.ofNat (pool k).2.1)) rfl (fun _ _ _ _ _ _ k9 => lv_ldc2 F.1 F.2.1 F.2.2.2.1 (F.2.2.2.2.1 _ (HP.2.1 (Nat.eq_of_beq_eq_true h9))) hd k9) hK h
theorem xi_getstatic (F : xFx p s m args meth c cc nL own S) {len : Nat} {k : Nat} (HP : xPs S (xad o S.heap.size old) own k (pool k)) (hd : decode cc pc = .ok (.getstatic k, len)) (hl0 : len = xlen (.getstatic k) len) (hx0 : nx = pc + len) (hst : xsto nL (.getstatic k) = true) (hK : xHyp p l e R s m args below meth c nL S o old D c0 s0 Q K out) (h : xstep o ft call pool hs K (.getstatic k) pc nx loc stk hp = some out) : xG p l e R s m args below meth c nL S o old D c0 s0 Q pc loc stk hp := by
  subst hx0
  have hl1 : len = 3 := hl0
  subst hl1
  intro H locs cells slots ls lv st hlv hl hs1 hh hlo hc hsl
  have h : cond (Nat.beq (pool k).1 10) (K (pc + 3) loc (.inr (.inr (.inl (pool k).2.1)) :: stk) hp) (cond (Nat.beq (pool k).1 26) (K (pc + 3) loc (.inl 1 :: stk) hp) (cond (Nat.beq (pool k).1 27) (K (pc + 3) loc (.inr (.inr (.inr (.inr (.inr (.inl true))))) :: stk) hp) none)) = some out := h
  have hH : ∀ q : Nat, q < S.heap.size → ¬ S.heap.size ≤ q → H[q]? = S.heap[q]? := fun q h1 _ => hh.2.2.2.2.2.2.2 q h1
  have get : ∀ (C n d : String) (v : Value), va_Z C n d v (fun q => S.heap.size ≤ q) S S.heap → Cond.fieldLink own k C n d ∈ xW → W p l e R s m args below meth c H locs cells slots Q (F0 m (pc + 3) ls (v :: st)) → W p l e R s m args below meth c H locs cells slots Q (F0 m pc ls st) := by
    intro C n d v hZ hw kk
    obtain ⟨cf, kf, fi, f, a, cell, p1, p2, p3, p4, p5, p6, p7, p8⟩ := va_Z.moved F.2.2.2.2.2.1.alike (hZ.kept hH)
    exact W.gets F.1 F.2.1 F.2.2.2.1 (F.2.2.2.2.1 _ hw) p1 p2 p3 p4 p5 (fun e => by rw [e] at p6; cases p6) p7 rfl hd kk
  cases h10 : Nat.beq (pool k).1 10 with
  | true =>
    rw [h10, cond_true] at h
    obtain ⟨C, n, d, q1, q2⟩ := HP.1 (Nat.eq_of_beq_eq_true h10)
    exact get C n d _ q2 q1 (hK _ _ _ _ h H locs cells slots ls lv _ hlv hl ⟨rfl, hs1⟩ hh hlo hc hsl)
  | false =>
    rw [h10, cond_false] at h
    cases h26 : Nat.beq (pool k).1 26 with
    | true =>
      rw [h26, cond_true] at h
      obtain ⟨C, n, d, q1, q2⟩ := HP.2.1 (Nat.eq_of_beq_eq_true h26)
      exact get C n d _ q2 q1 (hK _ _ _ _ h H locs cells slots ls lv _ hlv hl ⟨rfl, hs1⟩ hh hlo hc hsl)
    | false =>
      rw [h26, cond_false] at h
      obtain ⟨h27, h⟩ := cond_some h
      obtain ⟨C, n, d, q1, q2⟩ := HP.2.2 (Nat.eq_of_beq_eq_true h27)
      rcases q2 with q2 | ⟨t, q2⟩
      · exact get C n d _ q2 q1 (hK _ _ _ _ h H locs cells slots ls lv _ hlv hl ⟨Or.inl rfl, hs1⟩ hh hlo hc hsl)
      · exact get C n d _ q2 q1 (hK _ _ _ _ h H locs cells slots ls lv _ hlv hl ⟨Or.inr ⟨_, rfl⟩, hs1⟩ hh hlo hc hsl)
end Steps7
end
section
/-! ===== the steps: calls, throws, ends ===== -/
/-- a method: its name, bytes, locals, what it returns, its handlers where its word tells them -/
abbrev xY : Type := MethodName × (ByteArray × (Nat × (Option FieldType × Option (List (Nat × (Nat × (Nat × Nat)))))))
def xcw (q : xY) : Cond := match q.2.2.2.2 with
  | none => Cond.code q.1 q.2.1 q.2.2.1 q.2.2.2.1
  | some hh => Cond.codeWith q.1 q.2.1 q.2.2.1 q.2.2.2.1 hh
def xhh (q : xY) : List (Nat × (Nat × (Nat × Nat))) := match q.2.2.2.2 with
  | none => []
  | some hh => hh
/-- the exceptions -/
def xen (E : Nat) : String := match E with
  | 0 => "java/lang/IllegalArgumentException"
  | 1 => "java/lang/IllegalStateException"
  | _ => "java/lang/IndexOutOfBoundsException"
def xrm (d c n : Nat) : Room := { frames := 10 + d, cells := c, slots := n, locals := 200 + 64 * d }
def xPre (S : State) (o : Nat) (old : Nat → Nat) (D : va_G) (as : List xA) (hp : xH) (a : Array Value) (st : State) : Prop := S.WarmedH st.vm ∧ xs2 (xad o S.heap.size old) as a.toList ∧ xhr o old D S hp st.heap
def xrv (ad : Nat → Nat) (a : Option xA) (v : Option Value) : Prop := match a, v with
  | none, none => True
  | some a, some v => xR ad a v
  | _, _ => False
def xPost (S : State) (o : Nat) (old : Nat → Nat) (D : va_G) (r : xO) (_ : Array Value) (_ : State) (oc : Outcome) (t : State) : Prop := ∃ v, oc = .returned v ∧ r.1 = 0 ∧ xrv (xad o S.heap.size old) r.2.1 v ∧ xhr o old D S r.2.2.1 t.heap
def xPex (S : State) (o : Nat) (old : Nat → Nat) (D : va_G) (r : xO) (E : String) (_ : State) (t : State) : Prop := r.1 = 1 ∧ E = xen r.2.2.2 ∧ r.2.2.2 < 3 ∧ xhr o old D S r.2.2.1 t.heap
def xMet (l : Launch) (S : State) (o : Nat) (old : Nat → Nat) (D : va_G) (q : xY) (as : List xA) (hp : xH) (r : xO) (d : Nat) : Prop :=
  vx_Met l q.1 (xcw q :: xW) (xrm d (r.2.2.1.2.2.2.1 - hp.2.2.2.1) (r.2.2.1.2.2.2.2 - hp.2.2.2.2)) (xPre S o old D as hp) (xPost S o old D r) (xPex S o old D r) (r.2.2.1.2.2.2.1 - hp.2.2.2.1) (r.2.2.1.2.2.2.2 - hp.2.2.2.2) (fun q => S.heap.size ≤ q)
/-- the runner's handlers and the machine's -/
def xHs (own : String) : List (Nat × (Nat × (Nat × Nat))) → List (Nat × (Nat × (Nat × Nat))) → Prop
  | [], [] => True
  | a :: as, b :: bs => (a.1 = b.1 ∧ a.2.1 = b.2.1 ∧ a.2.2.1 = b.2.2.1 ∧ b.2.2.2 ≠ 0 ∧ a.2.2.2 < 3 ∧ Cond.classLink own b.2.2.2 (xen a.2.2.2) ∈ xW) ∧ xHs own as bs
  | _, _ => False
/-- the exceptions: each is one of its own class, none is one of another's -/
def xEx (S : State) : Prop := (∀ E, E < 3 → (Cond.castable (xen E) (xen E)).before #[] S = true) ∧ ∀ E E', E < 3 → E' < 3 → E ≠ E' → va_Nc (xen E) (xen E') S
def xps (S : State) (own : String) (pc E : Nat) (z : ExceptionTableEntry) : Prop := covers z pc = false ∨ (z.catchType ≠ 0 ∧ ∃ E', E' < 3 ∧ Cond.classLink own z.catchType (xen E') ∈ xW ∧ va_Nc (xen E) (xen E') S)
theorem xps_one {S : State} {own : String} {pc E : Nat} (X : xEx S) (hE : E < 3) {a b : Nat × (Nat × (Nat × Nat))} (h1 : a.1 = b.1) (h2 : a.2.1 = b.2.1) (h4 : b.2.2.2 ≠ 0) (h5 : a.2.2.2 < 3) (h6 : Cond.classLink own b.2.2.2 (xen a.2.2.2) ∈ xW)
    (hn : (Nat.ble a.1 pc && (Nat.blt pc a.2.1 && Nat.beq a.2.2.2 E)) = false) : xps S own pc E { startPc := b.1, endPc := b.2.1, handlerPc := b.2.2.1, catchType := b.2.2.2 } := by
  by_cases hc : covers { startPc := b.1, endPc := b.2.1, handlerPc := b.2.2.1, catchType := b.2.2.2 : ExceptionTableEntry } pc = true
  · refine Or.inr ⟨h4, a.2.2.2, h5, h6, X.2 E _ hE h5 fun e => ?_⟩
    unfold covers at hc
    rw [Bool.and_eq_true, decide_eq_true_eq, decide_eq_true_eq] at hc
    obtain ⟨c1, c2⟩ := hc
    have c1 : b.1 ≤ pc := c1
    have c2 : pc < b.2.1 := c2
    rw [show Nat.ble a.1 pc = true from Nat.ble_eq_true_of_le (by omega), show Nat.blt pc a.2.1 = true from Nat.ble_eq_true_of_le (by omega), show Nat.beq a.2.2.2 E = true by rw [← e]; exact Nat.beq_refl _] at hn
    cases hn
  · exact Or.inl (by simpa using hc)
theorem xcatch_ok {S : State} {own : String} {pc E : Nat} (X : xEx S) (hE : E < 3) : ∀ {hs hh : List (Nat × (Nat × (Nat × Nat)))}, xHs own hs hh →
    (∀ t, xcatch hs pc E = some t → ∃ (pre : List ExceptionTableEntry) (x : ExceptionTableEntry) (suf : List ExceptionTableEntry), tableOf hh = pre ++ x :: suf ∧ (∀ z ∈ pre, xps S own pc E z) ∧ covers x pc = true ∧ x.catchType ≠ 0 ∧ Cond.classLink own x.catchType (xen E) ∈ xW ∧ x.handlerPc = t) ∧
    (xcatch hs pc E = none → ∀ z ∈ tableOf hh, xps S own pc E z) := by
  intro hs
  induction hs with
  | nil =>
    intro hh h
    cases hh with
    | nil => exact ⟨fun t h => (by cases h), fun _ z hz => (by cases hz)⟩
    | cons => exact h.elim
  | cons a hs ih =>
    intro hh h
    cases hh with
    | nil => exact h.elim
    | cons b hh =>
      obtain ⟨⟨h1, h2, h3, h4, h5, h6⟩, hr⟩ := h
      obtain ⟨i1, i2⟩ := ih hr
      have hx : xcatch (a :: hs) pc E = cond (Nat.ble a.1 pc && (Nat.blt pc a.2.1 && Nat.beq a.2.2.2 E)) (some a.2.2.1) (xcatch hs pc E) := rfl
      have ht : tableOf (b :: hh) = { startPc := b.1, endPc := b.2.1, handlerPc := b.2.2.1, catchType := b.2.2.2 } :: tableOf hh := rfl
      cases hb : (Nat.ble a.1 pc && (Nat.blt pc a.2.1 && Nat.beq a.2.2.2 E)) with
      | true =>
        rw [hb, cond_true] at hx
        obtain ⟨c1, c2⟩ := and_true' hb
        obtain ⟨c2, c3⟩ := and_true' c2
        have c1 := Nat.le_of_ble_eq_true c1
        have c2 : pc < a.2.1 := Nat.le_of_ble_eq_true c2
        have c3 := Nat.eq_of_beq_eq_true c3
        refine ⟨fun t h => ⟨[], _, tableOf hh, ht, fun z hz => (by cases hz), ?_, h4, by rw [← c3]; exact h6, ?_⟩, fun h => by rw [hx] at h; cases h⟩
        · unfold covers
          rw [Bool.and_eq_true, decide_eq_true_eq, decide_eq_true_eq]
          exact ⟨by show b.1 ≤ pc; omega, by show pc < b.2.1; omega⟩
        · rw [hx] at h
          rw [← Option.some.inj h]
          exact h3.symm
      | false =>
        have hp := xps_one (S := S) X hE h1 h2 h4 h5 h6 hb
        rw [hb, cond_false] at hx
        refine ⟨fun t h => ?_, fun h z hz => ?_⟩
        · obtain ⟨pre, x, suf, j1, j2⟩ := i1 t (by rw [← hx]; exact h)
          refine ⟨_ :: pre, x, suf, by rw [ht, j1]; rfl, fun z hz => ?_, j2.2⟩
          rcases List.mem_cons.mp hz with rfl | hz
          · exact hp
          · exact j2.1 z hz
        · rw [ht] at hz
          rcases List.mem_cons.mp hz with rfl | hz
          · exact hp
          · exact i2 (by rw [← hx]; exact h) z hz
end
section
section Steps9
variable {p : Program} {l : Launch} {e : Env} {R : Room} {s : State} {m : MethodId} {args : Array Value} {below : List Frame} {meth : Method} {c : Code} {cc : ByteArray} {nL : Nat} {own : String} {S : State} {o : Nat} {old : Nat → Nat} {D : va_G} {c0 s0 : Nat} {Q : State → Prop}
variable {pc nx : Nat} {K : xK} {out : xE} {loc : List (Nat × xA)} {stk : List xA} {hp : xH} {ft : Nat → List Nat} {call : xF} {pool : Nat → xP} {hs : List (Nat × (Nat × (Nat × Nat)))}
variable {hh : List (Nat × (Nat × (Nat × Nat)))} {rk : Nat} {r0 : xO}
abbrev xQ (below : List Frame) (S : State) (o : Nat) (old : Nat → Nat) (D : va_G) (r0 : xO) (args : Array Value) (s : State) (c0 s0 : Nat) : State → Prop :=
  vx_MQ below (xPost S o old D r0) (xPex S o old D r0) args s (r0.2.2.1.2.2.2.1 - c0) (r0.2.2.1.2.2.2.2 - s0) (fun q => S.heap.size ≤ q)
/-- how a body's run may end: it went where it was to go (9), or it ended as its end says -/
def xQh (R : Room) (below : List Frame) (S : State) (o : Nat) (old : Nat → Nat) (D : va_G) (args : Array Value) (s : State) (c0 s0 rk : Nat) (Q : State → Prop) (out : xE) : Prop := out.1 = 9 ∨ ∃ r0, xend rk (some out) = some r0 ∧ Q = xQ below S o old D r0 args s c0 s0 ∧ r0.2.2.1.2.2.2.1 ≤ R.cells + c0 ∧ r0.2.2.1.2.2.2.2 ≤ R.slots + s0
/-- a word that warmer tables keep, though no list of good words has it -/
theorem xface (F : xFx p s m args meth c cc nL own S) {w : Cond} (h1 : w.faceAtom = true) (h2 : w.onTables = true) (h : w.before #[] S = true) : w.before args s = true := by
  have a := Cond.faceAtom_setVm (args := #[]) F.2.2.2.2.2.1.alike w h1 h
  exact va_tabs h2 (rfl : (S.setVm s.vm).vm = s.vm) a
theorem xps.use (F : xFx p s m args meth c cc nL own S) {E : Nat} {z : ExceptionTableEntry} (h : xps S own pc E z) : covers z pc = false ∨ (z.catchType ≠ 0 ∧ ∃ nm : String, (Cond.classLink own z.catchType nm).before args s = true ∧ va_Nc (xen E) nm s) := by
  rcases h with h | ⟨h1, E', h2, h3, h4⟩
  · exact Or.inl h
  · exact Or.inr ⟨h1, _, F.2.2.2.2.1 _ h3, va_Nc.moved F.2.2.2.2.2.1.alike h4⟩
/-- behind a call: it returned, it threw and is caught here, it threw and goes on -/
theorem xback_ok (F : xFx p s m args meth c cc nL own S) (X : xEx S) (hT : c.exceptionTable.toList = tableOf hh) (HH : xHs own hs hh) (hQ : xQh R below S o old D args s c0 s0 rk Q out)
    (hK : xHyp p l e R s m args below meth c nL S o old D c0 s0 Q K out) {r : xO} {a : Array Value} {H : Heap} {locs : List Loc} {cells slots : Nat} {ls : Array Slot} {lv : List (Nat × Value)} {stv rv : List Value} {rest : List xA}
    (h : xback hs K pc (pc + 3) loc rest (some r) = some out)
    (hrun : vx_Run p l e R s m args below meth c H locs cells slots (r.2.2.1.2.2.2.1 - hp.2.2.2.1) (r.2.2.1.2.2.2.2 - hp.2.2.2.2) (F0 m pc ls stv) rv (xPost S o old D r a) (xPex S o old D r) (fun q => S.heap.size ≤ q))
    (hm : hp.2.2.2.1 ≤ r.2.2.1.2.2.2.1 ∧ hp.2.2.2.2 ≤ r.2.2.1.2.2.2.2) (hlv : lv_has ls nL lv) (hl : xl2 (xad o S.heap.size old) loc lv) (hs2 : xs2 (xad o S.heap.size old) rest rv) (hlo : ∀ z ∈ locs, S.heap.size ≤ z.base) (hc : cells + c0 = hp.2.2.2.1) (hsl : slots + s0 = hp.2.2.2.2) :
    W p l e R s m args below meth c H locs cells slots Q (F0 m pc ls stv) := by
  intro T hT' Xs
  obtain ⟨tag, rvv, h', E0⟩ := r
  have hm1 : hp.2.2.2.1 ≤ h'.2.2.2.1 := hm.1
  have hm2 : hp.2.2.2.2 ≤ h'.2.2.2.2 := hm.2
  rcases hrun T hT' Xs with ⟨v, st₀, t, T', L, g0, X', hL, e1, e2, ⟨v', q1, q2, q3, q4⟩, st⟩ | ⟨q, st₀, t, T', L, E, ce, g0, X', hL, e1, e2, ⟨q2, q3, q4, q5⟩, hce, hcv, hcl, st⟩
  · have q2 : tag = 0 := q2
    subst q2
    cases q1
    have hlo' : ∀ z ∈ locs ++ L, S.heap.size ≤ z.base := fun z hz => (List.mem_append.mp hz).elim (hlo z) (hL z)
    have hx : xhr o old D S h' T'.heap := by rw [e1]; exact q4
    have kk : ∀ (u : List xA) (w : List Value), xs2 (xad o S.heap.size old) u w → K (pc + 3) loc u h' = some out → w = v.toList ++ rv → ∃ t, Steps p.tables e below (T.setTop (F0 m pc ls stv)) t ∧ Q t := by
      intro u w hu hk hw
      have hc' : (cells + (h'.2.2.2.1 - hp.2.2.2.1)) + c0 = h'.2.2.2.1 := by omega
      have hsl' : (slots + (h'.2.2.2.2 - hp.2.2.2.2)) + s0 = h'.2.2.2.2 := by omega
      obtain ⟨t2, a1, b1⟩ := hK _ _ _ _ hk T'.heap (locs ++ L) _ _ ls lv w hlv hl hu hx hlo' hc' hsl' T' rfl X'
      refine ⟨t2, st t2 ?_, b1⟩
      rw [hw] at a1
      exact a1
    cases rvv with
    | none =>
      cases v with
      | none => exact kk _ _ hs2 h rfl
      | some v => exact q3.elim
    | some b =>
      cases v with
      | none => exact q3.elim
      | some v => exact kk (b :: rest) (v :: rv) ⟨q3, hs2⟩ h rfl
  · have q2 : tag = 1 := q2
    subst q2
    have q3 : E = xen E0 := q3
    have q4 : E0 < 3 := q4
    subst q3
    have hlo' : ∀ z ∈ locs ++ L, S.heap.size ≤ z.base := fun z hz => (List.mem_append.mp hz).elim (hlo z) (hL z)
    have hx : xhr o old D S h' T'.heap := by rw [e1]; exact q5
    have hce' : T'.heap[q]? = some ce := by rw [e1]; exact hce
    have hc' : (cells + (h'.2.2.2.1 - hp.2.2.2.1)) + c0 = h'.2.2.2.1 := by omega
    have hsl' : (slots + (h'.2.2.2.2 - hp.2.2.2.2)) + s0 = h'.2.2.2.2 := by omega
    obtain ⟨i1, i2⟩ := xcatch_ok (S := S) (pc := pc) X q4 HH
    have h : (match xcatch hs pc E0 with
      | some t => K t loc [.inr (.inr (.inr (.inr (.inr (.inl true)))))] h'
      | none => some (2, (pc, (rest, (h', E0))))) = some out := h
    have done : vx_W p l e R s m args below meth c T'.heap (locs ++ L) (cells + (h'.2.2.2.1 - hp.2.2.2.1)) (slots + (h'.2.2.2.2 - hp.2.2.2.2)) Q (F0 m pc ls rv) q := by
      cases hx9 : xcatch hs pc E0 with
      | some tg =>
        rw [hx9] at h
        obtain ⟨pre, x, suf, j1, j2, j3, j4, j5, j6⟩ := i1 tg hx9
        refine vx_catch F.2.2.2.1 pre x suf (hT.trans j1) (fun z hz => (j2 z hz).use F) j3 j4 (F.2.2.2.2.1 _ j5) (xface F rfl rfl (X.1 _ q4)) hce' hcv hcl ?_
        rw [j6]
        exact hK _ _ _ _ h T'.heap (locs ++ L) _ _ ls lv [.ref q] hlv hl ⟨Or.inr ⟨q, rfl⟩, trivial⟩ hx hlo' hc' hsl'
      | none =>
        rw [hx9] at h
        have hj := i2 hx9
        cases h
        rcases hQ with h9 | ⟨r0, hend, rfl, -, -⟩
        · cases h9
        have hend' : some ((1, (none, (h', E0))) : xO) = some r0 := hend
        cases hend'
        refine vx_outP F.2.2.2.1 F.2.2.2.2.2.2 (fun z hz => (hj z (by rw [← hT]; exact hz)).use F) hce' hcv hcl (fun t ht _ => ⟨rfl, rfl, q4, by rw [ht]; exact hx⟩) hlo' ?_ ?_
        · show _ ≤ h'.2.2.2.1 - c0
          omega
        · show _ ≤ h'.2.2.2.2 - s0
          omega
    obtain ⟨t2, a1, b1⟩ := done T' rfl X'
    exact ⟨t2, st.trans a1, b1⟩
theorem xtake_ok {ad : Nat → Nat} : ∀ (n : Nat) (acc stk : List xA) (av st : List Value) (q : List xA × List xA), xs2 ad acc av → xs2 ad stk st → xtake n acc stk = some q → ∃ As rv : List Value, As.length = n ∧ st = As.reverse ++ rv ∧ xs2 ad q.1 (As ++ av) ∧ xs2 ad q.2 rv := by
  intro n
  induction n with
  | zero =>
    intro acc stk av st q h1 h2 h
    cases h
    exact ⟨[], st, rfl, rfl, h1, h2⟩
  | succ n ih =>
    intro acc stk av st q h1 h2 h
    cases stk with
    | nil => cases h
    | cons a t =>
      obtain ⟨b, bs, rfl, r1, r2⟩ := xs2_cons h2
      obtain ⟨As, rv, k1, k2, k3, k4⟩ := ih (a :: acc) t (b :: av) bs q ⟨r1, h1⟩ r2 h
      refine ⟨As ++ [b], rv, by simp [k1], ?_, ?_, k4⟩
      · rw [k2]
        simp
      · simpa using k3
end Steps9
end
section
section Steps10
variable {p : Program} {l : Launch} {e : Env} {R : Room} {s : State} {m : MethodId} {args : Array Value} {below : List Frame} {meth : Method} {c : Code} {cc : ByteArray} {nL : Nat} {own : String} {S : State} {o : Nat} {old : Nat → Nat} {D : va_G} {c0 s0 : Nat} {Q : State → Prop}
variable {pc nx : Nat} {K : xK} {out : xE} {loc : List (Nat × xA)} {stk : List xA} {hp : xH} {ft : Nat → List Nat} {call : xF} {pool : Nat → xP} {hs : List (Nat × (Nat × (Nat × Nat)))}
variable {hh : List (Nat × (Nat × (Nat × Nat)))} {rk : Nat} {r0 : xO} {mt : Nat → xY} {d : Nat}
/-- what is known of a callee -/
def xHC (l : Launch) (S : State) (o : Nat) (old : Nat → Nat) (D : va_G) (mt : Nat → xY) (call : xF) (d : Nat) : Prop := ∀ (mi : Nat) (as : List xA) (hp : xH) (r : xO), call mi as hp = some r → (hp.2.2.2.1 ≤ r.2.2.1.2.2.2.1 ∧ hp.2.2.2.2 ≤ r.2.2.1.2.2.2.2) ∧ xMet l S o old D (mt mi) as hp r d
theorem xback_mono {rest : List xA} {r : xO} (h : xback hs K pc nx loc rest (some r) = some out) (Rm : xRm K out R c0 s0) : r.2.2.1.2.2.2.1 ≤ out.2.2.2.1.2.2.2.1 ∧ r.2.2.1.2.2.2.2 ≤ out.2.2.2.1.2.2.2.2 := by
  obtain ⟨tag, rvv, h', E0⟩ := r
  match tag, h with
  | 0, h =>
    cases rvv with
    | none => exact Rm.1 _ _ _ _ h
    | some v => exact Rm.1 _ _ _ _ h
  | 1, h =>
    have h : (match xcatch hs pc E0 with
      | some t => K t loc [.inr (.inr (.inr (.inr (.inr (.inl true)))))] h'
      | none => some (2, (pc, (rest, (h', E0))))) = some out := h
    cases hx : xcatch hs pc E0 with
    | some t => rw [hx] at h; exact Rm.1 _ _ _ _ h
    | none =>
      rw [hx] at h
      cases h
      exact ⟨Nat.le_refl _, Nat.le_refl _⟩
  | _ + 2, h => cases h
theorem xpay (F : xFx p s m args meth c cc nL own S) {q : xY} (h : xcw q ∈ xW) : ∀ w ∈ xcw q :: xW, ∀ (a' : Array Value) (U : State), s.WarmedH U.vm → w.before a' U = true :=
  pay_in F.2.2.2.2.1 fun w hw => by
    have hw' : w ∈ xW := (List.mem_cons.mp hw).elim (fun e => by rw [e]; exact h) id
    exact ⟨hw', good_of_word (List.mem_filter.mp hw').2⟩
theorem xblind {as : List xA} : FrameBlind (xPre S o old D as hp) := fun _ _ _ _ h => h
/-- a callee's words -/
def xQw (q : xY) (n : Nat) : Prop := xcw q ∈ xW ∧ Cond.initialized q.1.cls ∈ xW ∧ (q.1.cls ≠ "java/lang/invoke/MethodHandle" ∧ q.1.cls ≠ "java/lang/invoke/VarHandle") ∧ (parseMethodDescriptor q.1.desc).map (fun d => d.parameters.length) = some n ∧ q.2.2.1 ≤ 45
theorem xQw.sig {q : xY} {n : Nat} (h : xQw q n) : ∀ sig, parseMethodDescriptor q.1.desc = some sig → n = sig.parameters.length := fun sig hs => by
  have h2 := h.2.2.2.1
  rw [hs] at h2
  exact (Option.some.inj h2).symm
/-- a static call's pool entry -/
def xP2 (mt : Nat → xY) (own : String) (ix : Nat) (P : xP) : Prop := xQw (mt P.2.1) P.2.2.1 ∧ Cond.methodLink own ix (mt P.2.1).1 ∈ xW ∧ Cond.static (mt P.2.1).1 ∈ xW
theorem xrunS (F : xFx p s m args meth c cc nL own S) (hR : d + 11 ≤ R.frames ∧ 264 + 64 * d ≤ R.locals) {q : xY} {n ix : Nat} {as : List xA} {r : xO} (hq : xQw q n) (hl : Cond.methodLink own ix q.1 ∈ xW) (hst : Cond.static q.1 ∈ xW)
    (hM : xMet l S o old D q as hp r d) {H : Heap} {locs : List Loc} {cells slots : Nat} {ls : Array Slot} {lv : List (Nat × Value)} {As rv : List Value} (hn : As.length = n) (has : xs2 (xad o S.heap.size old) as As) (hx : xhr o old D S hp H) (hlv : lv_has ls nL lv)
    (hW : (rv.map fun v => v.category).sum ≤ 8) (hdg : decode cc pc = .ok (.invokestatic ix, 3)) (hf : cells + (r.2.2.1.2.2.2.1 - hp.2.2.2.1) ≤ R.cells ∧ slots + (r.2.2.1.2.2.2.2 - hp.2.2.2.2) ≤ R.slots) :
    vx_Run p l e R s m args below meth c H locs cells slots (r.2.2.1.2.2.2.1 - hp.2.2.2.1) (r.2.2.1.2.2.2.2 - hp.2.2.2.2) (F0 m pc ls (As.reverse ++ rv)) rv (xPost S o old D r As.toArray) (xPex S o old D r) (fun q => S.heap.size ≤ q) := by
  have hp9 : PreS s H (xPre S o old D as hp) As := ⟨xblind, fun U hU hW => ⟨F.2.2.2.2.2.1.trans hW, has, by rw [hU]; exact hx⟩⟩
  have hpay := xpay F hq.1
  have hsig := hq.sig
  obtain ⟨y, bytes, maxL, ret, ho⟩ := q
  have hml : maxL ≤ 45 := hq.2.2.2.2
  cases ho with
  | none =>
    exact vx_runS (Ts := xW) (own := own) (bytes := bytes) (maxL := maxL) (ret := ret) ⟨F.1, F.2.1, F.2.2.1, F.2.2.2.1, F.2.2.2.2.1⟩ hM
      ⟨⟨rfl, rfl, by show 10 + d + 1 ≤ _; omega, by show 8 + (maxL + 11) + (200 + 64 * d) ≤ _; omega, hpay, List.mem_cons_self, F.2.2.2.2.1 _ hq.1, F.2.2.2.2.1 _ hq.2.1, hq.2.2.1, hsig, F.2.2.2.2.1 _ hl⟩, F.2.2.2.2.1 _ hst⟩
      hp9 rfl hn hlv.1 rfl (by show 2 * 0 + _ ≤ 8; omega) hdg hf
  | some hh9 =>
    exact vx_runSX (Ts := xW) (own := own) (bytes := bytes) (maxL := maxL) (ret := ret) (hh := hh9) ⟨F.1, F.2.1, F.2.2.1, F.2.2.2.1, F.2.2.2.2.1⟩ hM
      ⟨⟨rfl, rfl, by show 10 + d + 1 ≤ _; omega, by show 8 + (maxL + 11) + (200 + 64 * d) ≤ _; omega, hpay, List.mem_cons_self⟩, F.2.2.2.2.1 _ hq.1, F.2.2.2.2.1 _ hq.2.1, hq.2.2.1, hsig, F.2.2.2.2.1 _ hl, F.2.2.2.2.1 _ hst⟩
      hp9 rfl hn hlv.1 rfl (by show 2 * 0 + _ ≤ 8; omega) hdg hf
theorem xrunV (F : xFx p s m args meth c cc nL own S) (hR : d + 11 ≤ R.frames ∧ 264 + 64 * d ≤ R.locals) {q : xY} {n ix : Nat} {as : List xA} {r : xO} {C : String} {b : Addr} (hq : xQw q n) (hno : q.2.2.2.2 = none) (hl : Cond.methodLink own ix q.1 ∈ xW) (hin : Cond.instanceMethod q.1 ∈ xW) (hse : Cond.selects C q.1 q.1 ∈ xW)
    (hM : xMet l S o old D q as hp r d) {H : Heap} {locs : List Loc} {cells slots : Nat} {ls : Array Slot} {lv : List (Nat × Value)} {As rv : List Value} (hn : As.length = n) (has : xs2 (xad o S.heap.size old) as (.ref b :: As)) (hx : xhr o old D S hp H) (hlv : lv_has ls nL lv)
    (hb : ∃ cellB, H[b]? = some cellB ∧ cellB.vm.isStatics = false ∧ s.vm.findClass C = some cellB.cls)
    (hW : (rv.map fun v => v.category).sum ≤ 8) (hdg : decode cc pc = .ok (.invokevirtual ix, 3)) (hf : cells + (r.2.2.1.2.2.2.1 - hp.2.2.2.1) ≤ R.cells ∧ slots + (r.2.2.1.2.2.2.2 - hp.2.2.2.2) ≤ R.slots) :
    vx_Run p l e R s m args below meth c H locs cells slots (r.2.2.1.2.2.2.1 - hp.2.2.2.1) (r.2.2.1.2.2.2.2 - hp.2.2.2.2) (F0 m pc ls (As.reverse ++ .ref b :: rv)) rv (xPost S o old D r (Value.ref b :: As).toArray) (xPex S o old D r) (fun q => S.heap.size ≤ q) := by
  have hp9 : PreV s H C b (xPre S o old D as hp) As := ⟨xblind, hb, fun U hU hW => ⟨F.2.2.2.2.2.1.trans hW, has, by rw [hU]; exact hx⟩⟩
  have hpay := xpay F hq.1
  have hsig := hq.sig
  obtain ⟨y, bytes, maxL, ret, ho⟩ := q
  have hno : ho = none := hno
  subst hno
  have hml : maxL ≤ 45 := hq.2.2.2.2
  exact vx_runV (Ts := xW) (own := own) (bytes := bytes) (maxL := maxL) (ret := ret) ⟨F.1, F.2.1, F.2.2.1, F.2.2.2.1, F.2.2.2.2.1⟩ hM
      ⟨⟨rfl, rfl, by show 10 + d + 1 ≤ _; omega, by show 8 + (maxL + 11) + (200 + 64 * d) ≤ _; omega, hpay, List.mem_cons_self, F.2.2.2.2.1 _ hq.1, F.2.2.2.2.1 _ hq.2.1, hq.2.2.1, hsig, F.2.2.2.2.1 _ hl⟩, F.2.2.2.2.1 _ hin, F.2.2.2.2.1 _ hse⟩
      hp9 rfl hn hlv.1 rfl (by show 2 * 0 + _ ≤ 8; omega) hdg hf
theorem xrunI (F : xFx p s m args meth c cc nL own S) (hR : d + 11 ≤ R.frames ∧ 264 + 64 * d ≤ R.locals) {q : xY} {n ix : Nat} {as : List xA} {r : xO} {b : Addr} (hq : xQw q n) (hno : q.2.2.2.2 = none) (hret : q.2.2.2.1 = none) (hname : q.1.name = "<init>") (hl : Cond.methodLink own ix q.1 ∈ xW ∨ ∃ host, va_Nw (.methodLinkNest own ix q.1 host) S) (hin : Cond.instanceMethod q.1 ∈ xW)
    (hM : xMet l S o old D q as hp r d) {H : Heap} {locs : List Loc} {cells slots : Nat} {ls : Array Slot} {lv : List (Nat × Value)} {As rv : List Value} (hn : As.length = n) (has : xs2 (xad o S.heap.size old) as (.ref b :: As)) (hx : xhr o old D S hp H) (hlv : lv_has ls nL lv)
    (hW : (rv.map fun v => v.category).sum ≤ 8) (hdg : decode cc pc = .ok (.invokespecial ix, 3)) (hf : cells + (r.2.2.1.2.2.2.1 - hp.2.2.2.1) ≤ R.cells ∧ slots + (r.2.2.1.2.2.2.2 - hp.2.2.2.2) ≤ R.slots) :
    vx_Run p l e R s m args below meth c H locs cells slots (r.2.2.1.2.2.2.1 - hp.2.2.2.1) (r.2.2.1.2.2.2.2 - hp.2.2.2.2) (F0 m pc ls (As.reverse ++ .ref b :: rv)) rv (xPost S o old D r (Value.ref b :: As).toArray) (xPex S o old D r) (fun q => S.heap.size ≤ q) := by
  have hp9 : PreS s H (xPre S o old D as hp) (.ref b :: As) := ⟨xblind, fun U hU hW => ⟨F.2.2.2.2.2.1.trans hW, has, by rw [hU]; exact hx⟩⟩
  have hpay := xpay F hq.1
  have hsig := hq.sig
  obtain ⟨y, bytes, maxL, ret, ho⟩ := q
  have hno : ho = none := hno
  subst hno
  have hret : ret = none := hret
  subst hret
  have hml : maxL ≤ 45 := hq.2.2.2.2
  rcases hl with hl | ⟨host, hl⟩
  · exact vx_runI (Ts := xW) (own := own) (bytes := bytes) (maxL := maxL) ⟨F.1, F.2.1, F.2.2.1, F.2.2.2.1, F.2.2.2.2.1⟩ hM
      ⟨⟨rfl, rfl, by show 10 + d + 1 ≤ _; omega, by show 8 + (maxL + 11) + (200 + 64 * d) ≤ _; omega, hpay, List.mem_cons_self, F.2.2.2.2.1 _ hq.1, F.2.2.2.2.1 _ hq.2.1, hq.2.2.1, hsig, F.2.2.2.2.1 _ hl⟩, hname, F.2.2.2.2.1 _ hin⟩
      hp9 rfl hn hlv.1 rfl (by show 2 * 0 + _ ≤ 8; omega) hdg hf
  · exact vx_runIN (Ts := xW) (own := own) (bytes := bytes) (maxL := maxL) (host := host) ⟨F.1, F.2.1, F.2.2.1, F.2.2.2.1, F.2.2.2.2.1⟩ hM
      ⟨⟨⟨rfl, rfl, by show 10 + d + 1 ≤ _; omega, by show 8 + (maxL + 11) + (200 + 64 * d) ≤ _; omega, hpay, List.mem_cons_self⟩, F.2.2.2.2.1 _ hq.1, F.2.2.2.2.1 _ hq.2.1, hq.2.2.1, hsig, va_Nw.use rfl (va_Nw.warmM F.2.2.2.2.2.1 hl)⟩, hname, F.2.2.2.2.1 _ hin⟩
      hp9 rfl hn hlv.1 rfl (by show 2 * 0 + _ ≤ 8; omega) hdg hf
end Steps10
end
section
section Steps11
variable {p : Program} {l : Launch} {e : Env} {R : Room} {s : State} {m : MethodId} {args : Array Value} {below : List Frame} {meth : Method} {c : Code} {cc : ByteArray} {nL : Nat} {own : String} {S : State} {o : Nat} {old : Nat → Nat} {D : va_G} {c0 s0 : Nat} {Q : State → Prop}
variable {pc nx : Nat} {K : xK} {out : xE} {loc : List (Nat × xA)} {stk : List xA} {hp : xH} {ft : Nat → List Nat} {call : xF} {pool : Nat → xP} {hs : List (Nat × (Nat × (Nat × Nat)))}
variable {hh : List (Nat × (Nat × (Nat × Nat)))} {rk : Nat} {r0 : xO} {mt : Nat → xY} {d : Nat}
/-- from the abstract call to the machine's -/
theorem xcalled (F : xFx p s m args meth c cc nL own S) (X : xEx S) (hT : c.exceptionTable.toList = tableOf hh) (HH : xHs own hs hh) (hQ : xQh R below S o old D args s c0 s0 rk Q out) (Rm : xRm K out R c0 s0) (HC : xHC l S o old D mt call d)
    (hK : xHyp p l e R s m args below meth c nL S o old D c0 s0 Q K out) {mi : Nat} {as : List xA} {rest : List xA} {a : Array Value} {H : Heap} {locs : List Loc} {cells slots : Nat} {ls : Array Slot} {lv : List (Nat × Value)} {stv rv : List Value}
    (h : xback hs K pc (pc + 3) loc rest (call mi as hp) = some out)
    (run : ∀ r, xMet l S o old D (mt mi) as hp r d → cells + (r.2.2.1.2.2.2.1 - hp.2.2.2.1) ≤ R.cells ∧ slots + (r.2.2.1.2.2.2.2 - hp.2.2.2.2) ≤ R.slots → vx_Run p l e R s m args below meth c H locs cells slots (r.2.2.1.2.2.2.1 - hp.2.2.2.1) (r.2.2.1.2.2.2.2 - hp.2.2.2.2) (F0 m pc ls stv) rv (xPost S o old D r a) (xPex S o old D r) (fun q => S.heap.size ≤ q))
    (hlv : lv_has ls nL lv) (hl : xl2 (xad o S.heap.size old) loc lv) (hs2 : xs2 (xad o S.heap.size old) rest rv) (hlo : ∀ z ∈ locs, S.heap.size ≤ z.base) (hc : cells + c0 = hp.2.2.2.1) (hsl : slots + s0 = hp.2.2.2.2) :
    W p l e R s m args below meth c H locs cells slots Q (F0 m pc ls stv) := by
  cases hr : call mi as hp with
  | none => rw [hr] at h; cases h
  | some r =>
    rw [hr] at h
    obtain ⟨h1, h2⟩ := HC _ _ _ _ hr
    obtain ⟨h3, h4⟩ := xback_mono h Rm
    have h5 := Rm.2.1
    have h6 := Rm.2.2
    exact xback_ok F X hT HH hQ hK h (run r h2 ⟨by omega, by omega⟩) h1 hlv hl hs2 hlo hc hsl
theorem xi_invokestatic2 (F : xFx p s m args meth c cc nL own S) (X : xEx S) (hT : c.exceptionTable.toList = tableOf hh) (HH : xHs own hs hh) (hQ : xQh R below S o old D args s c0 s0 rk Q out) (Rm : xRm K out R c0 s0) (HC : xHC l S o old D mt call d) (hR : d + 11 ≤ R.frames ∧ 264 + 64 * d ≤ R.locals)
    (hK : xHyp p l e R s m args below meth c nL S o old D c0 s0 Q K out) {ix : Nat} {P : xP} (HP : xP2 mt own ix P) (hd : decode cc pc = .ok (.invokestatic ix, 3))
    (h : (xj (xtake P.2.2.1 [] stk) fun q => cond (Nat.ble (xcats q.2) 8) (xback hs K pc (pc + 3) loc q.2 (call P.2.1 q.1 hp)) none) = some out) :
    xG p l e R s m args below meth c nL S o old D c0 s0 Q pc loc stk hp := by
  intro H locs cells slots ls lv st hlv hl hs1 hx hlo hc hsl
  obtain ⟨q, hq, h⟩ := xj_some h
  obtain ⟨h8, h⟩ := cond_some h
  obtain ⟨As, rv, k1, rfl, k3, k4⟩ := xtake_ok _ [] _ [] _ _ trivial hs1 hq
  rw [List.append_nil] at k3
  have h8 : xcats q.2 ≤ 8 := Nat.le_of_ble_eq_true h8
  rw [← xs2_cats k4] at h8
  exact xcalled F X hT HH hQ Rm HC hK h (fun r hM hf => xrunS F hR HP.1 HP.2.1 HP.2.2 hM k1 k3 hx hlv h8 hd hf) hlv hl k4 hlo hc hsl
/-- a virtual call's pool entry: on an object of the program, on a text -/
def xP1 (mt : Nat → xY) (own : String) (ix : Nat) (P : xP) : Prop := xQw (mt P.2.1) P.2.2.1 ∧ (mt P.2.1).2.2.2.2 = none ∧ Cond.methodLink own ix (mt P.2.1).1 ∈ xW ∧ Cond.instanceMethod (mt P.2.1).1 ∈ xW ∧
  (P.1 = 1 → ∃ (C : String) (T : u_T) (N : Nat), vwCl[P.2.2.2]? = some (C, T, N) ∧ Cond.selects C (mt P.2.1).1 (mt P.2.1).1 ∈ xW) ∧ (P.1 = 28 → Cond.selects "java/lang/String" (mt P.2.1).1 (mt P.2.1).1 ∈ xW)
theorem xi_invokevirtual (F : xFx p s m args meth c cc nL own S) (B : xBs S o old D ft) (X : xEx S) (hT : c.exceptionTable.toList = tableOf hh) (HH : xHs own hs hh) (hQ : xQh R below S o old D args s c0 s0 rk Q out) (Rm : xRm K out R c0 s0) (HC : xHC l S o old D mt call d) (hR : d + 11 ≤ R.frames ∧ 264 + 64 * d ≤ R.locals)
    (hK : xHyp p l e R s m args below meth c nL S o old D c0 s0 Q K out) {ix : Nat} {P : xP} (HP : P.1 = 1 ∨ P.1 = 28 → xP1 mt own ix P) (hd : decode cc pc = .ok (.invokevirtual ix, 3))
    (h : xinvV call hs P K pc (pc + 3) loc stk hp = some out) :
    xG p l e R s m args below meth c nL S o old D c0 s0 Q pc loc stk hp := by
  intro H locs cells slots ls lv st hlv hl hs1 hx hlo hc hsl
  have hcr := hx.1
  unfold xinvV at h
  cases hb : Nat.beq P.1 1 with
  | true =>
    rw [hb, cond_true] at h
    have e1 := Nat.eq_of_beq_eq_true hb
    obtain ⟨q, hq, h⟩ := xj_some h
    obtain ⟨As, rv, k1, rfl, k3, k4⟩ := xtake_ok _ [] _ [] _ _ trivial hs1 hq
    rw [List.append_nil] at k3
    split at h
    next k rest he =>
      rw [he] at k4
      obtain ⟨b, rv, rfl, r1, k5⟩ := xs2_cons k4
      cases r1
      split at h
      next q9 hq9 =>
        obtain ⟨h7, h⟩ := cond_some h
        obtain ⟨h7, h8⟩ := and_true' h7
        have h7 := Nat.eq_of_beq_eq_true h7
        have h8 : xcats rest ≤ 8 := Nat.le_of_ble_eq_true h8
        rw [← xs2_cats k5] at h8
        obtain ⟨w1, w2, w3, w4, w5, -⟩ := HP (Or.inl e1)
        obtain ⟨C, T, N, f1, f2⟩ := w5 e1
        have hcr := hcr k
        rw [hq9] at hcr
        obtain ⟨r9, g1, g2, g3, V, ⟨cell, q1, q2, q3, q4⟩, g5⟩ := hcr
        rw [h7] at q2
        obtain ⟨-, hfc, -⟩ := (va_K.moved F.2.2.2.2.2.1.alike B.2.1).1 _ _ f1
        exact xcalled F X hT HH hQ Rm HC hK h (fun r hM hf => xrunV F hR w1 w2 w3 w4 f2 hM k1 ⟨rfl, k3⟩ hx hlv ⟨cell, q1, by rw [q3]; rfl, by rw [q2]; exact hfc⟩ h8 hd hf) hlv hl k5 hlo hc hsl
      next => cases h
    next => cases h
  | false =>
    rw [hb, cond_false] at h
    obtain ⟨hb2, h⟩ := cond_some h
    have e1 := Nat.eq_of_beq_eq_true hb2
    obtain ⟨q, hq, h⟩ := xj_some h
    obtain ⟨As, rv, k1, rfl, k3, k4⟩ := xtake_ok _ [] _ [] _ _ trivial hs1 hq
    rw [List.append_nil] at k3
    split at h
    next k rest he =>
      rw [he] at k4
      obtain ⟨b, rv, rfl, r1, k5⟩ := xs2_cons k4
      cases r1
      split at h
      next q9 hq9 =>
        obtain ⟨h8, h⟩ := cond_some h
        have h8 : xcats rest ≤ 8 := Nat.le_of_ble_eq_true h8
        rw [← xs2_cats k5] at h8
        obtain ⟨w1, w2, w3, w4, -, w5⟩ := HP (Or.inr e1)
        have hcr := hcr k
        rw [hq9] at hcr
        obtain ⟨ha, j', e0, o1, o2, o3⟩ := hcr
        have hH : ∀ q : Nat, q < S.heap.size → ¬ S.heap.size ≤ q → H[q]? = S.heap[q]? := fun q h1 _ => hx.2.2.2.2.2.2.2 q h1
        obtain ⟨cell, q1, q2, q3, -⟩ := va_O.moved F.2.2.2.2.2.1.alike (o1.kept hH)
        exact xcalled F X hT HH hQ Rm HC hK h (fun r hM hf => xrunV F hR w1 w2 w3 w4 (w5 e1) hM k1 ⟨rfl, k3⟩ hx hlv ⟨cell, q1, q2, q3⟩ h8 hd hf) hlv hl k5 hlo hc hsl
      next => cases h
    next => cases h
/-- a constructor call's pool entry -/
def xP3 (S : State) (mt : Nat → xY) (own : String) (ix : Nat) (P : xP) : Prop := xQw (mt P.2.1) P.2.2.1 ∧ (mt P.2.1).2.2.2.2 = none ∧ (mt P.2.1).2.2.2.1 = none ∧ (mt P.2.1).1.name = "<init>" ∧ (Cond.methodLink own ix (mt P.2.1).1 ∈ xW ∨ ∃ host, va_Nw (.methodLinkNest own ix (mt P.2.1).1 host) S) ∧ Cond.instanceMethod (mt P.2.1).1 ∈ xW
def xP4 (own : String) (ix : Nat) : Prop := Cond.methodLink own ix Lib.objectInit ∈ xW ∧ Cond.instanceMethod Lib.objectInit ∈ xW ∧ Cond.code Lib.objectInit { data := #[177] } 1 none ∈ xW
theorem xi_invokespecial (F : xFx p s m args meth c cc nL own S) (X : xEx S) (hT : c.exceptionTable.toList = tableOf hh) (HH : xHs own hs hh) (hQ : xQh R below S o old D args s c0 s0 rk Q out) (Rm : xRm K out R c0 s0) (HC : xHC l S o old D mt call d) (hR : d + 11 ≤ R.frames ∧ 264 + 64 * d ≤ R.locals)
    (hK : xHyp p l e R s m args below meth c nL S o old D c0 s0 Q K out) {ix : Nat} {P : xP} (HP : P.1 = 3 → xP3 S mt own ix P) (HP4 : P.1 = 4 → xP4 own ix) (hd : decode cc pc = .ok (.invokespecial ix, 3))
    (h : xinvI call hs P K pc (pc + 3) loc stk hp = some out) :
    xG p l e R s m args below meth c nL S o old D c0 s0 Q pc loc stk hp := by
  intro H locs cells slots ls lv st hlv hl hs1 hx hlo hc hsl
  unfold xinvI at h
  cases hb : Nat.beq P.1 4 with
  | true =>
    rw [hb, cond_true] at h
    obtain ⟨w1, w2, w3⟩ := HP4 (Nat.eq_of_beq_eq_true hb)
    split at h
    next k rest =>
      obtain ⟨h8, h⟩ := cond_some h
      have h8 : xcats rest ≤ 8 := Nat.le_of_ble_eq_true h8
      obtain ⟨b, rv, rfl, r1, k4⟩ := xs2_cons hs1
      cases r1
      rw [← xs2_cats k4] at h8
      exact W.objInit (g := F0 m pc ls (Value.ref (xad o S.heap.size old k) :: rv)) F.1 F.2.1 F.2.2.2.1 (F.2.2.2.2.1 _ w1) (F.2.2.2.2.1 _ w2) (F.2.2.2.2.1 _ w3) rfl (by rw [F.2.2.1]; exact hlv.1) rfl hd (by omega) (by show 2 * 0 + _ + 12 ≤ _; omega)
        (hK _ _ _ _ h H locs cells slots ls lv _ hlv hl k4 hx hlo hc hsl)
    next => cases h
  | false =>
    rw [hb, cond_false] at h
    obtain ⟨hb2, h⟩ := cond_some h
    obtain ⟨w1, w2, w3, w4, w5, w6⟩ := HP (Nat.eq_of_beq_eq_true hb2)
    obtain ⟨q, hq, h⟩ := xj_some h
    obtain ⟨As, rv, k1, rfl, k3, k4⟩ := xtake_ok _ [] _ [] _ _ trivial hs1 hq
    rw [List.append_nil] at k3
    split at h
    next k rest he =>
      rw [he] at k4
      obtain ⟨b, rv, rfl, r1, k5⟩ := xs2_cons k4
      cases r1
      obtain ⟨h8, h⟩ := cond_some h
      have h8 : xcats rest ≤ 8 := Nat.le_of_ble_eq_true h8
      rw [← xs2_cats k5] at h8
      exact xcalled F X hT HH hQ Rm HC hK h (fun r hM hf => xrunI F hR w1 w2 w3 w4 w5 w6 hM k1 ⟨rfl, k3⟩ hx hlv h8 hd hf) hlv hl k5 hlo hc hsl
    next => cases h
end Steps11
end
section
section Steps12
variable {p : Program} {l : Launch} {e : Env} {R : Room} {s : State} {m : MethodId} {args : Array Value} {below : List Frame} {meth : Method} {c : Code} {cc : ByteArray} {nL : Nat} {own : String} {S : State} {o : Nat} {old : Nat → Nat} {D : va_G} {c0 s0 : Nat} {Q : State → Prop}
variable {pc nx : Nat} {K : xK} {out : xE} {loc : List (Nat × xA)} {stk : List xA} {hp : xH} {ft : Nat → List Nat} {call : xF} {pool : Nat → xP} {hs : List (Nat × (Nat × (Nat × Nat)))}
variable {hh : List (Nat × (Nat × (Nat × Nat)))} {rk : Nat} {r0 : xO} {mt : Nat → xY} {d : Nat}
/-- more cells came that nothing is known of -/
theorem xhr.grow {H H' : Heap} {a b : Nat} (h : xhr o old D S hp H) (hz : H.size ≤ H'.size) (hq : ∀ q : Nat, q < H.size → H'[q]? = H[q]?) : xhr o old D S (hp.1, (hp.2.1, (false, (a, b)))) H' := by
  obtain ⟨h1, h2, h3, h4, h5, h6, h7, h8⟩ := h
  refine ⟨fun k => ?_, h2, h3, h4, h5, Nat.le_trans h6 hz, fun q => (by cases q), fun q hq' => by rw [hq q (by omega), h8 q hq']⟩
  show xcr o (xad o S.heap.size old) D S k (xcell hp k) H'
  have hk := h1 k
  match hx : xcell hp k, hk with
  | none, _ => trivial
  | some (.inl q), hk =>
    have hk9 := hk
    obtain ⟨r9, g1, g2, g3, V, ⟨cell, q1, -⟩, -⟩ := hk9
    exact hk.kept (hq _ (Array.getElem?_eq_some_iff.mp q1).1)
  | some (.inr (.inl q)), hk =>
    have hk9 := hk
    obtain ⟨cell, q1, -⟩ := hk9
    exact hk.kept (hq _ (Array.getElem?_eq_some_iff.mp q1).1)
  | some (.inr (.inr q)), hk => exact hk
/-- 'throw new E("..")' at a pc -/
def xTh (S : State) (own : String) (cc : ByteArray) (hh : List (Nat × (Nat × (Nat × Nat)))) (pc ik E : Nat) : Prop := hh = [] ∧ E < 3 ∧ ∃ (names : List String) (text : String) (is ic sa : Nat), Bundle.fit (xen E) = true ∧ (∀ n ∈ names, Bundle.fit n = true) ∧ names.length ≤ 6 ∧ Cond.classLink own ik (xen E) ∈ xW ∧ Cond.initialized (xen E) ∈ xW ∧ vk_R own is text sa S ∧ (∀ w ∈ vx_atS own ic (xen E) names, w ∈ xW ∨ (w.faceAtom = true ∧ w.onTables = true ∧ w.before #[] S = true)) ∧
  decode cc pc = .ok (.new ik, 3) ∧ decode cc (pc + 3) = .ok (.dup, 1) ∧
  ((decode cc (pc + 4) = .ok (.ldc is, 2) ∧ decode cc (pc + 6) = .ok (.invokespecial ic, 3) ∧ decode cc (pc + 9) = .ok (.athrow, 1)) ∨ (decode cc (pc + 4) = .ok (.ldc_w is, 3) ∧ decode cc (pc + 7) = .ok (.invokespecial ic, 3) ∧ decode cc (pc + 10) = .ok (.athrow, 1)))
/-- the two statics that a throw reads -/
def xZs (S : State) : Prop := vx_Zq Bundle.tN "UNASSIGNED_STACK" Bundle.steD (fun q => S.heap.size ≤ q) S S.heap ∧ vx_Zq Bundle.tN "SUPPRESSED_SENTINEL" Bundle.listD (fun q => S.heap.size ≤ q) S S.heap
theorem xi_throw (F : xFx p s m args meth c cc nL own S) (hl9 : l.stackTraces = false) (hT : c.exceptionTable.toList = tableOf hh) (Z : xZs S) (hS0 : S.heap.size ≤ s.heap.size ∧ ∀ q, q < S.heap.size → s.heap[q]? = S.heap[q]?) {E ik : Nat} (hend : xend rk (some (1, (pc, (stk, (hp, E))))) = some r0)
    (hR : d + 11 ≤ R.frames ∧ 264 + 64 * d ≤ R.locals) (hR2 : r0.2.2.1.2.2.2.1 ≤ R.cells + c0 ∧ r0.2.2.1.2.2.2.2 ≤ R.slots + s0) (HT : xTh S own cc hh pc ik E) :
    xG p l e R s m args below meth c nL S o old D c0 s0 (xQ below S o old D r0 args s c0 s0) pc loc stk hp := by
  intro H locs cells slots ls lv st hlv hl hs1 hx hlo hc hsl
  have hend' : cond (Nat.ble (xcats stk) 8) (some ((1, (none, ((hp.1, (hp.2.1, (false, (Nat.add hp.2.2.2.1 1, Nat.add hp.2.2.2.2 6)))), E))) : xO)) none = some r0 := hend
  obtain ⟨h8, hr⟩ := cond_some hend'
  cases hr
  have h8 : xcats stk ≤ 8 := Nat.le_of_ble_eq_true h8
  rw [← xs2_cats hs1] at h8
  have hR3 : hp.2.2.2.1 + 1 ≤ R.cells + c0 := hR2.1
  have hR4 : hp.2.2.2.2 + 6 ≤ R.slots + s0 := hR2.2
  obtain ⟨rfl, hE, names, text, is, ic, sa, b1, b2, b3, b4, b5, b6, b7, b8, b9, b10⟩ := HT
  have hout : ∀ z ∈ c.exceptionTable.toList, ∀ q, covers z q = false := fun z hz => by rw [hT] at hz; cases hz
  have hkS : ∀ q : Nat, q < S.heap.size → ¬ S.heap.size ≤ q → s.heap[q]? = S.heap[q]? := fun q h1 _ => hS0.2 q h1
  have hU := vx_Zq.moved F.2.2.2.2.2.1.alike (Z.1.kept hkS)
  have hN := vx_Zq.moved F.2.2.2.2.2.1.alike (Z.2.kept hkS)
  have hgW : ∀ w : Cond, w ∈ xW → vx_ot w = true := fun w hw => by
    unfold vx_ot
    rw [(List.mem_filter.mp hw).2, Bool.or_true]
  have hgood : ∀ w ∈ Cond.classLink own ik (xen E) :: Cond.initialized (xen E) :: vx_atS own ic (xen E) names, vx_ot w = true := fun w hw => by
    rcases List.mem_cons.mp hw with rfl | hw
    · exact hgW _ b4
    · rcases List.mem_cons.mp hw with rfl | hw
      · exact hgW _ b5
      · rcases b7 _ hw with h | ⟨-, h, -⟩
        · exact hgW _ h
        · unfold vx_ot
          rw [h, Bool.true_or]
  have hat : ∀ w ∈ vx_atS own ic (xen E) names, w.before args s = true := fun w hw => by
    rcases b7 _ hw with h | ⟨h1, h2, h3⟩
    · exact F.2.2.2.2.1 _ h
    · exact xface F h1 h2 h3
  have hxx : ∀ t : State, s.vm.Alike t.vm → H.size ≤ t.heap.size → (∀ q : Nat, q < H.size → t.heap[q]? = H[q]?) → xPex S o old D (1, (none, ((hp.1, (hp.2.1, (false, (Nat.add hp.2.2.2.1 1, Nat.add hp.2.2.2.2 6)))), E))) (xen E) s t := fun t _ h1 h2 => ⟨rfl, rfl, hE, hx.grow h1 h2⟩
  intro T hT9 Xs
  have hsz := (vx_frame (Xs.ends []).2).1
  have hsz : s.heap.size ≤ H.size := by rw [← hT9]; exact hsz
  have hSS : va_S (fun q => S.heap.size ≤ q) s.heap H locs := ⟨hsz, fun q _ h2 => by rw [hx.2.2.2.2.2.2.2 q (by omega), hS0.2 q (by omega)], hlo⟩
  have hcc : cells + 1 ≤ (Nat.add hp.2.2.2.1 1) - c0 := by show _ ≤ hp.2.2.2.1 + 1 - c0; omega
  have hss : slots + 6 ≤ (Nat.add hp.2.2.2.2 6) - s0 := by show _ ≤ hp.2.2.2.2 + 6 - s0; omega
  rcases b10 with ⟨y1, y2, y3⟩ | ⟨y1, y2, y3⟩
  · exact vx_throwS (names := names) (text := text) (rest := st) (own := own) (cls := xen E) F.1 F.2.1 hl9 F.2.2.2.1 b1 b2 (F.2.2.2.2.1 _ b4) (F.2.2.2.2.1 _ b5) (vk_R.warm F.2.2.2.2.2.1 b6) hat hgood hU hN hSS (by rw [F.2.2.1]; exact hlv.1) b8 b9 y1 y2 y3 (fun z hz => hout z hz _) (by omega) (by omega) (by omega) (by omega) F.2.2.2.2.2.2 hxx hlo hcc hss T hT9 Xs
  · exact vx_throwSW (names := names) (text := text) (rest := st) (own := own) (cls := xen E) F.1 F.2.1 hl9 F.2.2.2.1 b1 b2 (F.2.2.2.2.1 _ b4) (F.2.2.2.2.1 _ b5) (vk_R.warm F.2.2.2.2.2.1 b6) hat hgood hU hN hSS (by rw [F.2.2.1]; exact hlv.1) b8 b9 y1 y2 y3 (fun z hz => hout z hz _) (by omega) (by omega) (by omega) (by omega) F.2.2.2.2.2.2 hxx hlo hcc hss T hT9 Xs
/-- what a method returns, by its kind -/
def xRk (rk : Nat) (ret : Option FieldType) : Prop := match rk with
  | 0 => ret = none
  | 1 => ret = some .int
  | 2 => ret = some .long
  | 3 => ∃ t, ret = some t ∧ ((∃ n, t = .object n) ∨ ∃ u, t = .array u)
  | 4 => ret = some .boolean
  | 5 => ret = some .byte ∨ ret = some .char
  | _ => False
/-- a return's instruction fits the kind -/
def xro (rk : Nat) (i : Instr) : Bool := match i with
  | .ireturn => Nat.beq rk 1 || (Nat.beq rk 4 || Nat.beq rk 5)
  | .lreturn => Nat.beq rk 2
  | .areturn => Nat.beq rk 3
  | .return_ => Nat.beq rk 0
  | _ => true
theorem xnar5 : ∀ n, n < 128 → narrow .byte (.int (Int32.ofNat n)) = .int (Int32.ofNat n) ∧ narrow .char (.int (Int32.ofNat n)) = .int (Int32.ofNat n) := by decide +kernel
theorem xnar4 : narrow .boolean (.int (Int32.ofNat 0)) = .int (Int32.ofNat 0) ∧ narrow .boolean (.int (Int32.ofNat 1)) = .int (Int32.ofNat 1) := by decide +kernel
theorem xretc {H : Heap} {locs : List Loc} {cells slots : Nat} {g : JFrame} (hc : cells + c0 = hp.2.2.2.1) (hsl : slots + s0 = hp.2.2.2.2) {rv : Option xA}
    (k : W p l e R s m args below meth c H locs cells slots (MQ below (xPost S o old D (0, (rv, (hp, 0)))) args s cells slots (fun q => S.heap.size ≤ q)) g) : W p l e R s m args below meth c H locs cells slots (xQ below S o old D (0, (rv, (hp, 0))) args s c0 s0) g := by
  have e1 : hp.2.2.2.1 - c0 = cells := by omega
  have e2 : hp.2.2.2.2 - s0 = slots := by omega
  show W p l e R s m args below meth c H locs cells slots (vx_MQ below (xPost S o old D (0, (rv, (hp, 0)))) (xPex S o old D (0, (rv, (hp, 0)))) args s (hp.2.2.2.1 - c0) (hp.2.2.2.2 - s0) (fun q => S.heap.size ≤ q)) g
  rw [e1, e2]
  exact vx_ret k
theorem xi_return (F : xFx p s m args meth c cc nL own S) (hrk : xRk rk meth.sig.returnType) (hend : xend rk (some (0, (pc, (stk, (hp, 0))))) = some r0) {i : Instr} (hi : i = .ireturn ∨ i = .lreturn ∨ i = .areturn ∨ i = .return_) (hro : xro rk i = true) (hd : decode cc pc = .ok (i, 1)) :
    xG p l e R s m args below meth c nL S o old D c0 s0 (xQ below S o old D r0 args s c0 s0) pc loc stk hp := by
  intro H locs cells slots ls lv st hlv hl hs1 hx hlo hc hsl
  have hlocks := F.2.2.2.2.2.2
  match rk, hrk, hend, hro with
  | 0, hrk, hend, hro =>
    match stk, hs1, hend with
    | [], hs1, hend =>
      cases hend
      cases xs2_nil hs1
      have : i = .return_ := by rcases hi with rfl | rfl | rfl | rfl <;> first | rfl | cases hro
      subst this
      exact xretc hc hsl (W.vret F.1 F.2.1 hrk (fun t ht _ => ⟨none, rfl, rfl, trivial, by rw [ht]; exact hx⟩) hlo hd)
    | _ :: _, _, hend => cases hend
  | 1, hrk, hend, hro =>
    match stk, hs1, hend with
    | [a], hs1, hend =>
      obtain ⟨h1, h2⟩ := cond_some (show cond (xbd a).isSome (some ((0, (some a, (hp, 0))) : xO)) none = some r0 from hend)
      cases h2
      obtain ⟨v, st2, rfl, ra, hs2⟩ := xs2_cons hs1
      cases xs2_nil hs2
      obtain ⟨q, hq⟩ := isSome_of h1
      obtain ⟨x, rfl, -, -⟩ := xR_bd ra hq
      have : i = .ireturn := by rcases hi with rfl | rfl | rfl | rfl <;> first | rfl | cases hro
      subst this
      exact xretc hc hsl (W.iret F.1 F.2.1 hrk (fun t ht _ => ⟨some _, rfl, rfl, ra, by rw [ht]; exact hx⟩) hlo hd)
    | [], _, hend => cases hend
    | _ :: _ :: _, _, hend => cases hend
  | 2, hrk, hend, hro =>
    match stk, hs1, hend with
    | [a], hs1, hend =>
      obtain ⟨h1, h2⟩ := cond_some (show cond (xbdl a).isSome (some ((0, (some a, (hp, 0))) : xO)) none = some r0 from hend)
      cases h2
      obtain ⟨v, st2, rfl, ra, hs2⟩ := xs2_cons hs1
      cases xs2_nil hs2
      obtain ⟨q, hq⟩ := isSome_of h1
      obtain ⟨x, rfl, -, -⟩ := xR_bdl ra hq
      have : i = .lreturn := by rcases hi with rfl | rfl | rfl | rfl <;> first | rfl | cases hro
      subst this
      exact xretc hc hsl (W.lret F.1 F.2.1 hrk (fun t ht _ => ⟨some _, rfl, rfl, ra, by rw [ht]; exact hx⟩) hlo hd)
    | [], _, hend => cases hend
    | _ :: _ :: _, _, hend => cases hend
  | 3, hrk, hend, hro =>
    match stk, hs1, hend with
    | [.inr (.inr (.inl k))], hs1, hend =>
      cases (show some ((0, (some (.inr (.inr (.inl k))), (hp, 0))) : xO) = some r0 from hend)
      obtain ⟨v, st2, rfl, ra, hs2⟩ := xs2_cons hs1
      cases xs2_nil hs2
      have : i = .areturn := by rcases hi with rfl | rfl | rfl | rfl <;> first | rfl | cases hro
      subst this
      obtain ⟨ty, h1, h2⟩ := hrk
      exact xretc hc hsl (W.aret F.1 F.2.1 h1 h2 (Or.inr ⟨_, ra⟩) (fun t ht _ => ⟨some _, rfl, rfl, ra, by rw [ht]; exact hx⟩) hlo hd)
    | [], _, hend => cases hend
    | .inl _ :: _ :: _, _, hend => cases hend
    | .inr (.inl _) :: _ :: _, _, hend => cases hend
    | .inr (.inr (.inl _)) :: _ :: _, _, hend => cases hend
    | .inr (.inr (.inr _)) :: _ :: _, _, hend => cases hend
    | [.inl _], _, hend => cases hend
    | [.inr (.inl _)], _, hend => cases hend
    | [.inr (.inr (.inr _))], _, hend => cases hend
  | 4, hrk, hend, hro =>
    match stk, hs1, hend with
    | [.inl n], hs1, hend =>
      obtain ⟨h1, h2⟩ := cond_some (show cond (Nat.beq n 0 || Nat.beq n 1) (some ((0, (some (.inl n), (hp, 0))) : xO)) none = some r0 from hend)
      cases h2
      obtain ⟨v, st2, rfl, ra, hs2⟩ := xs2_cons hs1
      cases xs2_nil hs2
      have : i = .ireturn := by rcases hi with rfl | rfl | rfl | rfl <;> first | rfl | cases hro
      subst this
      cases ra
      have hn : narrow .boolean (.int (Int32.ofNat n)) = .int (Int32.ofNat n) := by
        rcases Bool.or_eq_true _ _ ▸ h1 with h | h <;> rw [Nat.eq_of_beq_eq_true h]
        · exact xnar4.1
        · exact xnar4.2
      exact xretc hc hsl (W.zret F.1 F.2.1 hrk hn (fun t ht _ => ⟨some _, rfl, rfl, rfl, by rw [ht]; exact hx⟩) hlo hd)
    | [], _, hend => cases hend
    | .inl _ :: _ :: _, _, hend => cases hend
    | .inr _ :: _ :: _, _, hend => cases hend
    | [.inr _], _, hend => cases hend
  | 5, hrk, hend, hro =>
    match stk, hs1, hend with
    | [.inl n], hs1, hend =>
      obtain ⟨h1, h2⟩ := cond_some (show cond (Nat.blt n 128) (some ((0, (some (.inl n), (hp, 0))) : xO)) none = some r0 from hend)
      cases h2
      obtain ⟨v, st2, rfl, ra, hs2⟩ := xs2_cons hs1
      cases xs2_nil hs2
      have : i = .ireturn := by rcases hi with rfl | rfl | rfl | rfl <;> first | rfl | cases hro
      subst this
      cases ra
      have hn := xnar5 n (Nat.le_of_ble_eq_true h1)
      rcases hrk with hrk | hrk
      · exact xretc hc hsl (W.zret F.1 F.2.1 hrk hn.1 (fun t ht _ => ⟨some _, rfl, rfl, rfl, by rw [ht]; exact hx⟩) hlo hd)
      · exact xretc hc hsl (W.zret F.1 F.2.1 hrk hn.2 (fun t ht _ => ⟨some _, rfl, rfl, rfl, by rw [ht]; exact hx⟩) hlo hd)
    | [], _, hend => cases hend
    | .inl _ :: _ :: _, _, hend => cases hend
    | .inr _ :: _ :: _, _, hend => cases hend
    | [.inr _], _, hend => cases hend
  | _ + 6, hrk, _, _ => exact hrk.elim
end Steps12
end
section
section Steps13
variable {o : Nat} {pc nx : Nat} {K : xK} {out : xE} {loc : List (Nat × xA)} {stk : List xA} {hp : xH} {ft : Nat → List Nat} {call : xF} {pool : Nat → xP} {hs : List (Nat × (Nat × (Nat × Nat)))}
/-- no cell is ever uncounted -/
abbrev xLe (hp : xH) (h' : xH) : Prop := hp.2.2.2.1 ≤ h'.2.2.2.1 ∧ hp.2.2.2.2 ≤ h'.2.2.2.2
abbrev xMK (K : xK) (out : xE) : Prop := ∀ pc loc stk hp, K pc loc stk hp = some out → hp.2.2.2.1 ≤ out.2.2.2.1.2.2.2.1 ∧ hp.2.2.2.2 ≤ out.2.2.2.1.2.2.2.2
theorem xLe.rf (hp : xH) : xLe hp hp := ⟨Nat.le_refl _, Nat.le_refl _⟩
theorem xLe.tr {a b c : xH} (h : xLe a b) (k : xLe b c) : xLe a c := ⟨Nat.le_trans h.1 k.1, Nat.le_trans h.2 k.2⟩
theorem cond_or {α : Type} {b : Bool} {x y : Option α} {z : α} (h : cond b x y = some z) : x = some z ∨ y = some z := by
  cases b
  · exact Or.inr h
  · exact Or.inl h
theorem xmono_back {rest : List xA} {r : Option xO} (hK : xMK K out) (hr : ∀ r9, r = some r9 → xLe hp r9.2.2.1) (h : xback hs K pc nx loc rest r = some out) : xLe hp out.2.2.2.1 := by
  match r, hr, h with
  | none, _, h => cases h
  | some (0, (none, (h', E))), hr, h => exact (hr _ rfl).tr (hK _ _ _ _ h)
  | some (0, (some v, (h', E))), hr, h => exact (hr _ rfl).tr (hK _ _ _ _ h)
  | some (1, (rv, (h', E))), hr, h =>
    have h : (match xcatch hs pc E with
      | some t => K t loc [.inr (.inr (.inr (.inr (.inr (.inl true)))))] h'
      | none => some (2, (pc, (rest, (h', E))))) = some out := h
    split at h
    · exact (hr _ rfl).tr (hK _ _ _ _ h)
    · cases h
      exact hr _ rfl
  | some (_ + 2, _), _, h => cases h
theorem xmono_new {c : xC} {n : Nat} {q : Nat × xH} (h : xnew hp c n = some q) : xLe hp q.2 := by
  obtain ⟨-, -, rfl⟩ := xnew_some h
  exact ⟨Nat.le_succ _, Nat.le_add_right _ _⟩
theorem xmono_newarr {ty : Nat} {z : xA} (hK : xMK K out) (h : xnewarr ty z K nx loc stk hp = some out) : xLe hp out.2.2.2.1 := by
  unfold xnewarr at h
  split at h
  · obtain ⟨-, h⟩ := cond_some h
    obtain ⟨q, hq, h⟩ := xj_some h
    exact (xmono_new hq).tr (hK _ _ _ _ h)
  · cases h
theorem xmono_ast {ok : Nat → Bool} {r i v : xA} {h' : xH} (h : xast o ok hp r i v = some h') : xLe hp h' := by
  obtain ⟨k, n, q, w, -, -, -, -, -, -, -, -, -, rfl⟩ := xast_ok h
  exact xLe.rf hp
theorem xmono_if {off : Int} {rest : List xA} {b : Option Bool} (hK : xMK K out) (h : xif K pc nx off loc rest hp b = some out) : xLe hp out.2.2.2.1 := by
  unfold xif at h
  obtain ⟨t, -, h⟩ := xj_some h
  split at h
  · exact hK _ _ _ _ h
  · exact hK _ _ _ _ h
  · cases h
theorem xmono_tab {d lo hi : Int} {offs : Array Int} (hK : xMK K out) (h : xtab K pc d lo hi offs loc stk hp = some out) : xLe hp out.2.2.2.1 := by
  unfold xtab at h
  split at h
  · rcases cond_or h with h | h
    · obtain ⟨t, -, h⟩ := xj_some h
      exact hK _ _ _ _ h
    · obtain ⟨t, -, h⟩ := xj_some h
      obtain ⟨t, -, h⟩ := xj_some h
      exact hK _ _ _ _ h
  · cases h
theorem xmono_aast (hK : xMK K out) (h : xaast o K nx loc stk hp = some out) : xLe hp out.2.2.2.1 := by
  unfold xaast at h
  split at h
  · split at h
    · obtain ⟨-, h⟩ := cond_some h
      refine xLe.tr ?_ (hK _ _ _ _ h)
      exact xLe.rf hp
    · cases h
  · cases h
theorem xmono_multi {P : xP} (hK : xMK K out) (h : xmulti P K nx loc stk hp = some out) : xLe hp out.2.2.2.1 := by
  unfold xmulti at h
  split at h
  · obtain ⟨-, h⟩ := cond_some h
    refine xLe.tr ?_ (hK _ _ _ _ h)
    refine ⟨?_, ?_⟩
    · show _ ≤ hp.2.2.2.1 + 1 + _
      omega
    · show _ ≤ hp.2.2.2.2 + _ + _
      omega
  · cases h
theorem xmono_math {f : Nat → Nat → Nat} (hK : xMK K out) (h : xmath f K nx loc stk hp = some out) : xLe hp out.2.2.2.1 := by
  unfold xmath at h
  split at h
  · obtain ⟨-, h⟩ := cond_some h
    exact hK _ _ _ _ h
  · cases h
theorem xmono_V {P : xP} (hK : xMK K out) (hc : ∀ mi as hp r, call mi as hp = some r → xLe hp r.2.2.1) (h : xinvV call hs P K pc nx loc stk hp = some out) : xLe hp out.2.2.2.1 := by
  unfold xinvV at h
  rcases cond_or h with h | h
  · obtain ⟨q, -, h⟩ := xj_some h
    split at h
    · split at h
      · obtain ⟨-, h⟩ := cond_some h
        exact xmono_back hK (fun r9 hr => hc _ _ _ _ hr) h
      · cases h
    · cases h
  · obtain ⟨-, h⟩ := cond_some h
    obtain ⟨q, -, h⟩ := xj_some h
    split at h
    · split at h
      · obtain ⟨-, h⟩ := cond_some h
        exact xmono_back hK (fun r9 hr => hc _ _ _ _ hr) h
      · cases h
    · cases h
theorem xmono_I {P : xP} (hK : xMK K out) (hc : ∀ mi as hp r, call mi as hp = some r → xLe hp r.2.2.1) (h : xinvI call hs P K pc nx loc stk hp = some out) : xLe hp out.2.2.2.1 := by
  unfold xinvI at h
  rcases cond_or h with h | h
  · split at h
    · obtain ⟨-, h⟩ := cond_some h
      exact hK _ _ _ _ h
    · cases h
  · obtain ⟨-, h⟩ := cond_some h
    obtain ⟨q, -, h⟩ := xj_some h
    split at h
    · obtain ⟨-, h⟩ := cond_some h
      exact xmono_back hK (fun r9 hr => hc _ _ _ _ hr) h
    · cases h
theorem xmono_S {P : xP} (hK : xMK K out) (hc : ∀ mi as hp r, call mi as hp = some r → xLe hp r.2.2.1) (h : xinvS o call hs P K pc nx loc stk hp = some out) : xLe hp out.2.2.2.1 := by
  unfold xinvS at h
  rcases cond_or h with h | h
  · obtain ⟨q, -, h⟩ := xj_some h
    obtain ⟨-, h⟩ := cond_some h
    exact xmono_back hK (fun r9 hr => hc _ _ _ _ hr) h
  rcases cond_or h with h | h
  · exact xmono_math hK h
  rcases cond_or h with h | h
  · exact xmono_math hK h
  rcases cond_or h with h | h
  · split at h
    · obtain ⟨-, h⟩ := cond_some h
      exact hK _ _ _ _ h
    · cases h
  obtain ⟨-, h⟩ := cond_some h
  split at h
  · split at h
    · obtain ⟨-, h⟩ := cond_some h
      refine xLe.tr ?_ (hK _ _ _ _ h)
      exact xLe.rf hp
    · cases h
  · cases h
theorem xm_load {i : Nat} {kk : xA → Bool} (hK : xMK K out) (h : (xj (xlk loc i) fun a => cond (kk a) (K nx loc (a :: stk) hp) none) = some out) : xLe hp out.2.2.2.1 := by
  obtain ⟨a, -, h⟩ := xj_some h
  obtain ⟨-, h⟩ := cond_some h
  exact hK _ _ _ _ h
theorem xm_store {kk : xA → Bool} {f : xA → List (Nat × xA)} (hK : xMK K out) (h : (match stk with
    | a :: rest => cond (kk a) (K nx (f a) rest hp) none
    | _ => none) = some out) : xLe hp out.2.2.2.1 := by
  match stk, h with
  | [], h => cases h
  | a :: rest, h =>
    obtain ⟨-, h⟩ := cond_some h
    exact hK _ _ _ _ h
theorem xm_bin {g : xA → xA → Option xA} (hK : xMK K out) (h : (match stk with
    | b :: a :: rest => xj (g a b) fun v => K nx loc (v :: rest) hp
    | _ => none) = some out) : xLe hp out.2.2.2.1 := by
  match stk, h with
  | [], h => cases h
  | [_], h => cases h
  | b :: a :: rest, h =>
    obtain ⟨v, -, h⟩ := xj_some h
    exact hK _ _ _ _ h
theorem xm_ld {g : xA → xA → Option xA} (hK : xMK K out) (h : (match stk with
    | i :: r :: rest => xj (g r i) fun v => K nx loc (v :: rest) hp
    | _ => none) = some out) : xLe hp out.2.2.2.1 := by
  match stk, h with
  | [], h => cases h
  | [_], h => cases h
  | b :: a :: rest, h =>
    obtain ⟨v, -, h⟩ := xj_some h
    exact hK _ _ _ _ h
theorem xm_un {g : xA → Option xA} (hK : xMK K out) (h : (match stk with
    | a :: rest => xj (g a) fun v => K nx loc (v :: rest) hp
    | _ => none) = some out) : xLe hp out.2.2.2.1 := by
  match stk, h with
  | [], h => cases h
  | a :: rest, h =>
    obtain ⟨v, -, h⟩ := xj_some h
    exact hK _ _ _ _ h
theorem xm_st {ok : Nat → Bool} (hK : xMK K out) (h : (match stk with
    | v :: i :: r :: rest => xj (xast o ok hp r i v) fun h => K nx loc rest h
    | _ => none) = some out) : xLe hp out.2.2.2.1 := by
  match stk, h with
  | [], h => cases h
  | [_], h => cases h
  | [_, _], h => cases h
  | v :: i :: r :: rest, h =>
    obtain ⟨w, hw, h⟩ := xj_some h
    exact (xmono_ast hw).tr (hK _ _ _ _ h)

theorem xm_aconst_null (hK : xMK K out) (h : xstep o ft call pool hs K (.aconst_null) pc nx loc stk hp = some out) : xLe hp out.2.2.2.1 := by
  exact hK _ _ _ _ h

theorem xm_iconst {n : Int} (hK : xMK K out) (h : xstep o ft call pool hs K (.iconst n) pc nx loc stk hp = some out) : xLe hp out.2.2.2.1 := by
  exact hK _ _ _ _ h

theorem xm_bipush {n : Int} (hK : xMK K out) (h : xstep o ft call pool hs K (.bipush n) pc nx loc stk hp = some out) : xLe hp out.2.2.2.1 := by
  exact hK _ _ _ _ h

theorem xm_sipush {n : Int} (hK : xMK K out) (h : xstep o ft call pool hs K (.sipush n) pc nx loc stk hp = some out) : xLe hp out.2.2.2.1 := by
  exact hK _ _ _ _ h

theorem xm_lconst {n : Fin 2} (hK : xMK K out) (h : xstep o ft call pool hs K (.lconst n) pc nx loc stk hp = some out) : xLe hp out.2.2.2.1 := by
  exact hK _ _ _ _ h

theorem xm_ldc {k : Nat} (hK : xMK K out) (h : xstep o ft call pool hs K (.ldc k) pc nx loc stk hp = some out) : xLe hp out.2.2.2.1 := by
  have h : cond (Nat.beq (pool k).1 8) (K nx loc (.inl (pool k).2.1 :: stk) hp) (cond (Nat.beq (pool k).1 7) (K nx loc (.inr (.inr (.inl (pool k).2.1)) :: stk) hp) none) = some out := h
  rcases cond_or h with h | h
  · exact hK _ _ _ _ h
  obtain ⟨-, h⟩ := cond_some h
  exact hK _ _ _ _ h

theorem xm_ldc_w {k : Nat} (hK : xMK K out) (h : xstep o ft call pool hs K (.ldc_w k) pc nx loc stk hp = some out) : xLe hp out.2.2.2.1 := by
  have h : cond (Nat.beq (pool k).1 8) (K nx loc (.inl (pool k).2.1 :: stk) hp) (cond (Nat.beq (pool k).1 7) (K nx loc (.inr (.inr (.inl (pool k).2.1)) :: stk) hp) none) = some out := h
  rcases cond_or h with h | h
  · exact hK _ _ _ _ h
  obtain ⟨-, h⟩ := cond_some h
  exact hK _ _ _ _ h

theorem xm_ldc2_w {k : Nat} (hK : xMK K out) (h : xstep o ft call pool hs K (.ldc2_w k) pc nx loc stk hp = some out) : xLe hp out.2.2.2.1 := by
  have h : cond (Nat.beq (pool k).1 9) (K nx loc (.inr (.inl (pool k).2.1) :: stk) hp) none = some out := h
  obtain ⟨-, h⟩ := cond_some h
  exact hK _ _ _ _ h

theorem xm_iload_n {k : Fin 4} (hK : xMK K out) (h : xstep o ft call pool hs K (.iload_n k) pc nx loc stk hp = some out) : xLe hp out.2.2.2.1 := by
  exact xm_load hK h

theorem xm_iload {k : Nat} (hK : xMK K out) (h : xstep o ft call pool hs K (.iload k) pc nx loc stk hp = some out) : xLe hp out.2.2.2.1 := by
  exact xm_load hK h

theorem xm_lload_n {k : Fin 4} (hK : xMK K out) (h : xstep o ft call pool hs K (.lload_n k) pc nx loc stk hp = some out) : xLe hp out.2.2.2.1 := by
  exact xm_load hK h

theorem xm_lload {k : Nat} (hK : xMK K out) (h : xstep o ft call pool hs K (.lload k) pc nx loc stk hp = some out) : xLe hp out.2.2.2.1 := by
  exact xm_load hK h

theorem xm_aload_n {k : Fin 4} (hK : xMK K out) (h : xstep o ft call pool hs K (.aload_n k) pc nx loc stk hp = some out) : xLe hp out.2.2.2.1 := by
  exact xm_load hK h

theorem xm_aload {k : Nat} (hK : xMK K out) (h : xstep o ft call pool hs K (.aload k) pc nx loc stk hp = some out) : xLe hp out.2.2.2.1 := by
  exact xm_load hK h

theorem xm_istore_n {k : Fin 4} (hK : xMK K out) (h : xstep o ft call pool hs K (.istore_n k) pc nx loc stk hp = some out) : xLe hp out.2.2.2.1 := by
  exact xm_store hK h

theorem xm_istore {k : Nat} (hK : xMK K out) (h : xstep o ft call pool hs K (.istore k) pc nx loc stk hp = some out) : xLe hp out.2.2.2.1 := by
  exact xm_store hK h

theorem xm_lstore_n {k : Fin 4} (hK : xMK K out) (h : xstep o ft call pool hs K (.lstore_n k) pc nx loc stk hp = some out) : xLe hp out.2.2.2.1 := by
  exact xm_store hK h

theorem xm_lstore {k : Nat} (hK : xMK K out) (h : xstep o ft call pool hs K (.lstore k) pc nx loc stk hp = some out) : xLe hp out.2.2.2.1 := by
  exact xm_store hK h

theorem xm_astore_n {k : Fin 4} (hK : xMK K out) (h : xstep o ft call pool hs K (.astore_n k) pc nx loc stk hp = some out) : xLe hp out.2.2.2.1 := by
  exact xm_store hK h

theorem xm_astore {k : Nat} (hK : xMK K out) (h : xstep o ft call pool hs K (.astore k) pc nx loc stk hp = some out) : xLe hp out.2.2.2.1 := by
  exact xm_store hK h

theorem xm_iinc {k : Nat} {n : Int} (hK : xMK K out) (h : xstep o ft call pool hs K (.iinc k n) pc nx loc stk hp = some out) : xLe hp out.2.2.2.1 := by
  obtain ⟨a, -, h⟩ := xj_some (show xj (xlk loc k) (fun a => xj (xbin (fun x y => xm32 (Nat.add x y)) a (.inl (x32 (Int32.ofInt n)))) fun b => K nx (xst1 loc k b) stk hp) = some out from h)
  obtain ⟨b, -, h⟩ := xj_some h
  exact hK _ _ _ _ h

theorem xm_iadd (hK : xMK K out) (h : xstep o ft call pool hs K (.iadd) pc nx loc stk hp = some out) : xLe hp out.2.2.2.1 := by
  exact xm_bin hK h

theorem xm_isub (hK : xMK K out) (h : xstep o ft call pool hs K (.isub) pc nx loc stk hp = some out) : xLe hp out.2.2.2.1 := by
  exact xm_bin hK h

theorem xm_imul (hK : xMK K out) (h : xstep o ft call pool hs K (.imul) pc nx loc stk hp = some out) : xLe hp out.2.2.2.1 := by
  exact xm_bin hK h

theorem xm_iand (hK : xMK K out) (h : xstep o ft call pool hs K (.iand) pc nx loc stk hp = some out) : xLe hp out.2.2.2.1 := by
  exact xm_bin hK h

theorem xm_ior (hK : xMK K out) (h : xstep o ft call pool hs K (.ior) pc nx loc stk hp = some out) : xLe hp out.2.2.2.1 := by
  exact xm_bin hK h

theorem xm_ixor (hK : xMK K out) (h : xstep o ft call pool hs K (.ixor) pc nx loc stk hp = some out) : xLe hp out.2.2.2.1 := by
  exact xm_bin hK h

theorem xm_idiv (hK : xMK K out) (h : xstep o ft call pool hs K (.idiv) pc nx loc stk hp = some out) : xLe hp out.2.2.2.1 := by
  exact xm_bin hK h

theorem xm_irem (hK : xMK K out) (h : xstep o ft call pool hs K (.irem) pc nx loc stk hp = some out) : xLe hp out.2.2.2.1 := by
  exact xm_bin hK h

theorem xm_ishl (hK : xMK K out) (h : xstep o ft call pool hs K (.ishl) pc nx loc stk hp = some out) : xLe hp out.2.2.2.1 := by
  exact xm_bin hK h

theorem xm_ishr (hK : xMK K out) (h : xstep o ft call pool hs K (.ishr) pc nx loc stk hp = some out) : xLe hp out.2.2.2.1 := by
  exact xm_bin hK h

theorem xm_iushr (hK : xMK K out) (h : xstep o ft call pool hs K (.iushr) pc nx loc stk hp = some out) : xLe hp out.2.2.2.1 := by
  exact xm_bin hK h

theorem xm_ladd (hK : xMK K out) (h : xstep o ft call pool hs K (.ladd) pc nx loc stk hp = some out) : xLe hp out.2.2.2.1 := by
  exact xm_bin hK h

theorem xm_lsub (hK : xMK K out) (h : xstep o ft call pool hs K (.lsub) pc nx loc stk hp = some out) : xLe hp out.2.2.2.1 := by
  exact xm_bin hK h

theorem xm_lmul (hK : xMK K out) (h : xstep o ft call pool hs K (.lmul) pc nx loc stk hp = some out) : xLe hp out.2.2.2.1 := by
  exact xm_bin hK h

theorem xm_land (hK : xMK K out) (h : xstep o ft call pool hs K (.land) pc nx loc stk hp = some out) : xLe hp out.2.2.2.1 := by
  exact xm_bin hK h

theorem xm_lor (hK : xMK K out) (h : xstep o ft call pool hs K (.lor) pc nx loc stk hp = some out) : xLe hp out.2.2.2.1 := by
  exact xm_bin hK h

theorem xm_lxor (hK : xMK K out) (h : xstep o ft call pool hs K (.lxor) pc nx loc stk hp = some out) : xLe hp out.2.2.2.1 := by
  exact xm_bin hK h

theorem xm_ldiv (hK : xMK K out) (h : xstep o ft call pool hs K (.ldiv) pc nx loc stk hp = some out) : xLe hp out.2.2.2.1 := by
  exact xm_bin hK h

theorem xm_lrem (hK : xMK K out) (h : xstep o ft call pool hs K (.lrem) pc nx loc stk hp = some out) : xLe hp out.2.2.2.1 := by
  exact xm_bin hK h

theorem xm_lshl (hK : xMK K out) (h : xstep o ft call pool hs K (.lshl) pc nx loc stk hp = some out) : xLe hp out.2.2.2.1 := by
  exact xm_bin hK h

theorem xm_lshr (hK : xMK K out) (h : xstep o ft call pool hs K (.lshr) pc nx loc stk hp = some out) : xLe hp out.2.2.2.1 := by
  exact xm_bin hK h

theorem xm_lushr (hK : xMK K out) (h : xstep o ft call pool hs K (.lushr) pc nx loc stk hp = some out) : xLe hp out.2.2.2.1 := by
  exact xm_bin hK h

theorem xm_lcmp (hK : xMK K out) (h : xstep o ft call pool hs K (.lcmp) pc nx loc stk hp = some out) : xLe hp out.2.2.2.1 := by
  exact xm_bin hK h

theorem xm_ineg (hK : xMK K out) (h : xstep o ft call pool hs K (.ineg) pc nx loc stk hp = some out) : xLe hp out.2.2.2.1 := by
  exact xm_un hK h

theorem xm_lneg (hK : xMK K out) (h : xstep o ft call pool hs K (.lneg) pc nx loc stk hp = some out) : xLe hp out.2.2.2.1 := by
  exact xm_un hK h

theorem xm_i2l (hK : xMK K out) (h : xstep o ft call pool hs K (.i2l) pc nx loc stk hp = some out) : xLe hp out.2.2.2.1 := by
  exact xm_un hK h

theorem xm_l2i (hK : xMK K out) (h : xstep o ft call pool hs K (.l2i) pc nx loc stk hp = some out) : xLe hp out.2.2.2.1 := by
  exact xm_un hK h

theorem xm_i2b (hK : xMK K out) (h : xstep o ft call pool hs K (.i2b) pc nx loc stk hp = some out) : xLe hp out.2.2.2.1 := by
  exact xm_un hK h

theorem xm_i2c (hK : xMK K out) (h : xstep o ft call pool hs K (.i2c) pc nx loc stk hp = some out) : xLe hp out.2.2.2.1 := by
  exact xm_un hK h

theorem xm_dup (hK : xMK K out) (h : xstep o ft call pool hs K (.dup) pc nx loc stk hp = some out) : xLe hp out.2.2.2.1 := by
  match stk, h with
  | [], h => cases h
  | a :: rest, h =>
    obtain ⟨-, h⟩ := cond_some h
    exact hK _ _ _ _ h

theorem xm_pop (hK : xMK K out) (h : xstep o ft call pool hs K (.pop) pc nx loc stk hp = some out) : xLe hp out.2.2.2.1 := by
  match stk, h with
  | [], h => cases h
  | a :: rest, h =>
    obtain ⟨-, h⟩ := cond_some h
    exact hK _ _ _ _ h

theorem xm_pop2 (hK : xMK K out) (h : xstep o ft call pool hs K (.pop2) pc nx loc stk hp = some out) : xLe hp out.2.2.2.1 := by
  match stk, h with
  | [], h => cases h
  | a :: rest, h =>
    obtain ⟨-, h⟩ := cond_some h
    exact hK _ _ _ _ h

theorem xm_dup_x1 (hK : xMK K out) (h : xstep o ft call pool hs K (.dup_x1) pc nx loc stk hp = some out) : xLe hp out.2.2.2.1 := by
  match stk, h with
  | [], h => cases h
  | [_], h => cases h
  | a :: b :: rest, h =>
    obtain ⟨-, h⟩ := cond_some h
    exact hK _ _ _ _ h

theorem xm_dup2 (hK : xMK K out) (h : xstep o ft call pool hs K (.dup2) pc nx loc stk hp = some out) : xLe hp out.2.2.2.1 := by
  match stk, h with
  | [], h => cases h
  | [_], h => cases h
  | a :: b :: rest, h =>
    obtain ⟨-, h⟩ := cond_some h
    exact hK _ _ _ _ h

theorem xm_goto {off : Int} (hK : xMK K out) (h : xstep o ft call pool hs K (.goto off) pc nx loc stk hp = some out) : xLe hp out.2.2.2.1 := by
  obtain ⟨t, -, h⟩ := xj_some (show xj (xtgt pc off) (fun t => K t loc stk hp) = some out from h)
  exact hK _ _ _ _ h

theorem xm_ifCond {cd : ClassFile.Cond} {off : Int} (hK : xMK K out) (h : xstep o ft call pool hs K (.ifCond cd off) pc nx loc stk hp = some out) : xLe hp out.2.2.2.1 := by
  match stk, h with
  | [], h => cases h
  | a :: rest, h =>
    obtain ⟨q, -, h⟩ := xj_some (show xj (xbd a) (fun p => xif K pc nx off loc rest hp (xcnd cd p (2147483648, 2147483648))) = some out from h)
    exact xmono_if hK h

theorem xm_if_icmp {cd : ClassFile.Cond} {off : Int} (hK : xMK K out) (h : xstep o ft call pool hs K (.if_icmp cd off) pc nx loc stk hp = some out) : xLe hp out.2.2.2.1 := by
  match stk, h with
  | [], h => cases h
  | [_], h => cases h
  | b :: a :: rest, h =>
    obtain ⟨q, -, h⟩ := xj_some (show xj (xbd a) (fun p => xj (xbd b) fun q => xif K pc nx off loc rest hp (xcnd cd p q)) = some out from h)
    obtain ⟨q2, -, h⟩ := xj_some h
    exact xmono_if hK h

theorem xm_tableswitch {d lo hi : Int} {offs : Array Int} (hK : xMK K out) (h : xstep o ft call pool hs K (.tableswitch d lo hi offs) pc nx loc stk hp = some out) : xLe hp out.2.2.2.1 := by
  exact xmono_tab hK h

theorem xm_arraylength (hK : xMK K out) (h : xstep o ft call pool hs K (.arraylength) pc nx loc stk hp = some out) : xLe hp out.2.2.2.1 := by
  match stk, h with
  | [], h => cases h
  | .inl _ :: _, h => cases h
  | .inr (.inl _) :: _, h => cases h
  | .inr (.inr (.inr _)) :: _, h => cases h
  | .inr (.inr (.inl k)) :: rest, h =>
    have h : (match xcell hp k with
      | some (.inr (.inl c)) => K nx loc (.inl c.2.1 :: rest) hp
      | _ => none) = some out := h
    split at h
    · exact hK _ _ _ _ h
    · cases h

theorem xm_iaload (hK : xMK K out) (h : xstep o ft call pool hs K (.iaload) pc nx loc stk hp = some out) : xLe hp out.2.2.2.1 := by
  exact xm_ld (g := xald _ hp) hK h

theorem xm_laload (hK : xMK K out) (h : xstep o ft call pool hs K (.laload) pc nx loc stk hp = some out) : xLe hp out.2.2.2.1 := by
  exact xm_ld (g := xald _ hp) hK h

theorem xm_baload (hK : xMK K out) (h : xstep o ft call pool hs K (.baload) pc nx loc stk hp = some out) : xLe hp out.2.2.2.1 := by
  exact xm_ld (g := xald _ hp) hK h

theorem xm_aaload (hK : xMK K out) (h : xstep o ft call pool hs K (.aaload) pc nx loc stk hp = some out) : xLe hp out.2.2.2.1 := by
  exact xm_ld (g := xald _ hp) hK h

theorem xm_iastore (hK : xMK K out) (h : xstep o ft call pool hs K (.iastore) pc nx loc stk hp = some out) : xLe hp out.2.2.2.1 := by
  exact xm_st hK h

theorem xm_lastore (hK : xMK K out) (h : xstep o ft call pool hs K (.lastore) pc nx loc stk hp = some out) : xLe hp out.2.2.2.1 := by
  exact xm_st hK h

theorem xm_bastore (hK : xMK K out) (h : xstep o ft call pool hs K (.bastore) pc nx loc stk hp = some out) : xLe hp out.2.2.2.1 := by
  exact xm_st hK h

theorem xm_getfield {k : Nat} (hK : xMK K out) (h : xstep o ft call pool hs K (.getfield k) pc nx loc stk hp = some out) : xLe hp out.2.2.2.1 := by
  match stk, h with
  | [], h => cases h
  | .inl _ :: _, h => cases h
  | .inr (.inl _) :: _, h => cases h
  | .inr (.inr (.inr _)) :: _, h => cases h
  | .inr (.inr (.inl r)) :: rest, h =>
    have h : cond (Nat.beq (pool k).1 0) (match xcell hp r with
      | some (.inl c) => cond (Nat.beq c.1 (pool k).2.1) (K nx loc (xget c.2 (pool k).2.2.1 :: rest) hp) none
      | _ => none) (match xcell hp r with
      | some (.inr (.inr [j])) => cond (Nat.beq (pool k).1 24) (K nx loc (.inr (.inr (.inl j)) :: rest) hp) (cond (Nat.beq (pool k).1 25) (K nx loc (.inl 0 :: rest) hp) none)
      | _ => none) = some out := h
    rcases cond_or h with h | h
    · split at h
      · obtain ⟨-, h⟩ := cond_some h
        exact hK _ _ _ _ h
      · cases h
    · split at h
      · rcases cond_or h with h | h
        · exact hK _ _ _ _ h
        · obtain ⟨-, h⟩ := cond_some h
          exact hK _ _ _ _ h
      · cases h

theorem xm_putfield {k : Nat} (hK : xMK K out) (h : xstep o ft call pool hs K (.putfield k) pc nx loc stk hp = some out) : xLe hp out.2.2.2.1 := by
  match stk, h with
  | [], h => cases h
  | [_], h => cases h
  | _ :: .inl _ :: _, h => cases h
  | _ :: .inr (.inl _) :: _, h => cases h
  | _ :: .inr (.inr (.inr _)) :: _, h => cases h
  | v :: .inr (.inr (.inl r)) :: rest, h =>
    obtain ⟨-, h⟩ := cond_some (show cond (Nat.beq (pool k).1 0 && Nat.ble o r) (match xcell hp r with
      | some (.inl c) => cond (Nat.beq c.1 (pool k).2.1 && xfit (Nat.mod (pool k).2.2.2 8) v) (K nx loc rest (xput hp r (some (.inl (c.1, xset v (pool k).2.2.1 8 0 c.2))))) none
      | _ => none) none = some out from h)
    split at h
    · obtain ⟨-, h⟩ := cond_some h
      refine xLe.tr ?_ (hK _ _ _ _ h)
      exact xLe.rf hp
    · cases h

theorem xm_getstatic {k : Nat} (hK : xMK K out) (h : xstep o ft call pool hs K (.getstatic k) pc nx loc stk hp = some out) : xLe hp out.2.2.2.1 := by
  have h : cond (Nat.beq (pool k).1 10) (K nx loc (.inr (.inr (.inl (pool k).2.1)) :: stk) hp) (cond (Nat.beq (pool k).1 26) (K nx loc (.inl 1 :: stk) hp) (cond (Nat.beq (pool k).1 27) (K nx loc (.inr (.inr (.inr (.inr (.inr (.inl true))))) :: stk) hp) none)) = some out := h
  rcases cond_or h with h | h
  · exact hK _ _ _ _ h
  rcases cond_or h with h | h
  · exact hK _ _ _ _ h
  obtain ⟨-, h⟩ := cond_some h
  exact hK _ _ _ _ h

theorem xm_new {k : Nat} (hK : xMK K out) (h : xstep o ft call pool hs K (.new k) pc nx loc stk hp = some out) : xLe hp out.2.2.2.1 := by
  have h : cond (Nat.beq (pool k).1 11) (some (1, (pc, (stk, (hp, (pool k).2.1))))) (cond (Nat.beq (pool k).1 5) (xj (xnew hp (some (.inl ((pool k).2.1, xborn (ft (pool k).2.1) 0 (.leaf (.inl 0))))) (ft (pool k).2.1).length) fun q => K nx loc (.inr (.inr (.inl q.1)) :: stk) q.2) none) = some out := h
  rcases cond_or h with h | h
  · cases h
    exact xLe.rf hp
  obtain ⟨-, h⟩ := cond_some h
  obtain ⟨q, hq, h⟩ := xj_some h
  exact (xmono_new hq).tr (hK _ _ _ _ h)

theorem xm_newarray {t : ArrayType} (hK : xMK K out) (h : xstep o ft call pool hs K (.newarray t) pc nx loc stk hp = some out) : xLe hp out.2.2.2.1 := by
  obtain ⟨ty, -, h⟩ := xj_some (show xj (xaty t) (fun ty => xnewarr ty (cond (Nat.beq ty 1) (.inr (.inl 0)) (.inl 0)) K nx loc stk hp) = some out from h)
  exact xmono_newarr hK h

theorem xm_anewarray {k : Nat} (hK : xMK K out) (h : xstep o ft call pool hs K (.anewarray k) pc nx loc stk hp = some out) : xLe hp out.2.2.2.1 := by
  have h : cond (Nat.beq (pool k).1 6) (xnewarr (pool k).2.1 (.inr (.inr (.inr (.inr (.inr (.inl false)))))) K nx loc stk hp) (cond (Nat.beq (pool k).1 5) (xnewarr (Nat.add 4 (pool k).2.1) (.inr (.inr (.inr (.inr (.inr (.inl false)))))) K nx loc stk hp) none) = some out := h
  rcases cond_or h with h | h
  · exact xmono_newarr hK h
  obtain ⟨-, h⟩ := cond_some h
  exact xmono_newarr hK h

theorem xm_aastore (hK : xMK K out) (h : xstep o ft call pool hs K (.aastore) pc nx loc stk hp = some out) : xLe hp out.2.2.2.1 := by
  exact xmono_aast hK h

theorem xm_multianewarray {k d : Nat} (hK : xMK K out) (h : xstep o ft call pool hs K (.multianewarray k d) pc nx loc stk hp = some out) : xLe hp out.2.2.2.1 := by
  exact xmono_multi hK h

theorem xm_ireturn (hK : xMK K out) (h : xstep o ft call pool hs K (.ireturn) pc nx loc stk hp = some out) : xLe hp out.2.2.2.1 := by
  cases (show some ((0, (pc, (stk, (hp, 0)))) : xE) = some out from h)
  exact xLe.rf hp

theorem xm_lreturn (hK : xMK K out) (h : xstep o ft call pool hs K (.lreturn) pc nx loc stk hp = some out) : xLe hp out.2.2.2.1 := by
  cases (show some ((0, (pc, (stk, (hp, 0)))) : xE) = some out from h)
  exact xLe.rf hp

theorem xm_areturn (hK : xMK K out) (h : xstep o ft call pool hs K (.areturn) pc nx loc stk hp = some out) : xLe hp out.2.2.2.1 := by
  cases (show some ((0, (pc, (stk, (hp, 0)))) : xE) = some out from h)
  exact xLe.rf hp

theorem xm_return_ (hK : xMK K out) (h : xstep o ft call pool hs K (.return_) pc nx loc stk hp = some out) : xLe hp out.2.2.2.1 := by
  cases (show some ((0, (pc, (stk, (hp, 0)))) : xE) = some out from h)
  exact xLe.rf hp
end Steps13
end
section
section Steps14
variable {p : Program} {l : Launch} {e : Env} {R : Room} {s : State} {m : MethodId} {args : Array Value} {below : List Frame} {meth : Method} {c : Code} {cc : ByteArray} {nL : Nat} {own : String} {S : State} {o : Nat} {old : Nat → Nat} {D : va_G} {c0 s0 : Nat} {Q : State → Prop}
variable {pc nx : Nat} {K : xK} {out : xE} {loc : List (Nat × xA)} {stk : List xA} {hp : xH} {ft : Nat → List Nat} {call : xF} {pool : Nat → xP} {hs : List (Nat × (Nat × (Nat × Nat)))}
variable {hh : List (Nat × (Nat × (Nat × Nat)))} {rk : Nat} {r0 : xO} {mt : Nat → xY} {d : Nat}
theorem xfall_ok {ty i : Nat} {f : Lean.RArray xA} : ∀ {n : Nat}, xfall ty f i n = true → ∀ t, t < n → xfa ty (xget f (i + t)) = true := by
  intro n
  induction n with
  | zero => intro _ t ht; omega
  | succ n ih =>
    intro h t ht
    obtain ⟨h1, h2⟩ := and_true' (show (xfa ty (xget f (Nat.add i n)) && xfall ty f i n) = true from h)
    by_cases e : t = n
    · rw [e]; exact h1
    · exact ih h2 t (by omega)
theorem xcopy_ok {f : Lean.RArray xA} {k i j : Nat} : ∀ (n : Nat) (g : Lean.RArray xA), xwf k 0 g → j + n ≤ 2 ^ k → xwf k 0 (xcopy f k i j n g) ∧ ∀ x, x < 2 ^ k → xget (xcopy f k i j n g) x = if j ≤ x ∧ x < j + n then xget f (i + (x - j)) else xget g x := by
  intro n
  induction n with
  | zero => intro g h _; exact ⟨h, fun x _ => by rw [if_neg (by omega)]; rfl⟩
  | succ n ih =>
    intro g h hn
    obtain ⟨h1, h2⟩ := ih (xset (xget f (Nat.add i n)) (Nat.add j n) k 0 g) (xset_wf _ _ _ _ _ h) (by omega)
    refine ⟨h1, fun x hx => ?_⟩
    show xget (xcopy f k i j n (xset (xget f (Nat.add i n)) (Nat.add j n) k 0 g)) x = _
    rw [h2 x hx, xget_xset _ _ _ k 0 g h (Nat.zero_le _) (by show j + n < _; omega) (Nat.zero_le _) (by omega)]
    by_cases e : x = j + n
    · rw [if_neg (by omega), if_pos (show x = Nat.add j n from e), if_pos (by omega), show x - j = n by omega]
      rfl
    · rw [if_neg (show ¬ x = Nat.add j n from e)]
      by_cases e2 : j ≤ x ∧ x < j + n
      · rw [if_pos e2, if_pos (by omega)]
      · rw [if_neg e2, if_neg (by omega)]
theorem xfits5 : ∀ n, n < 128 → fits .byte (.int (Int32.ofNat n)) = true := by decide +kernel
theorem xfits4 : fits .boolean (.int (Int32.ofNat 0)) = true ∧ fits .boolean (.int (Int32.ofNat 1)) = true := by decide +kernel
theorem xfa_ok {ad : Nat → Nat} {ty : Nat} {a : xA} {v : Value} (ht : ty ≤ 3) (h : xfa ty a = true) (hr : xR ad a v) : fits (xty ty) v = true ∧ v.isRef = false := by
  match ty, ht, h with
  | 0, _, h =>
    obtain ⟨q, hq⟩ := isSome_of (show (xbd a).isSome = true from h)
    obtain ⟨x, rfl, -, -⟩ := xR_bd hr hq
    exact ⟨rfl, rfl⟩
  | 1, _, h =>
    obtain ⟨q, hq⟩ := isSome_of (show (xbdl a).isSome = true from h)
    obtain ⟨x, rfl, -, -⟩ := xR_bdl hr hq
    exact ⟨rfl, rfl⟩
  | 2, _, h =>
    match a, h, hr with
    | .inl n, h, hr =>
      cases hr
      refine ⟨?_, rfl⟩
      show fits .boolean _ = true
      rcases Bool.or_eq_true _ _ ▸ (show (Nat.beq n 0 || Nat.beq n 1) = true from h) with h | h <;> rw [Nat.eq_of_beq_eq_true h]
      · exact xfits4.1
      · exact xfits4.2
    | .inr _, h, _ => cases h
  | 3, _, h =>
    match a, h, hr with
    | .inl n, h, hr =>
      cases hr
      exact ⟨xfits5 n (Nat.le_of_ble_eq_true (show Nat.blt n 128 = true from h)), rfl⟩
    | .inr _, h, _ => cases h
  | _ + 4, ht, _ => omega
theorem xhty {ty : Nat} (ht : ty ≤ 3) : ((refKind (xty ty) != refKind (xty ty)) || (!refKind (xty ty) && xty ty != xty ty)) = false := by
  rcases (by omega : ty = 0 ∨ ty = 1 ∨ ty = 2 ∨ ty = 3) with rfl | rfl | rfl | rfl <;> decide +kernel
/-- System.arraycopy's words -/
def xP12 (own : String) (ix : Nat) : Prop := Cond.methodLink own ix arraycopyName ∈ xW ∧ Cond.native arraycopyName ∈ xW ∧ Cond.static arraycopyName ∈ xW ∧ Cond.initialized "java/lang/System" ∈ xW
theorem xi_arraycopy (F : xFx p s m args meth c cc nL own S) (B : xBs S o old D ft) (hR : d + 11 ≤ R.frames ∧ 264 + 64 * d ≤ R.locals)
    (hK : xHyp p l e R s m args below meth c nL S o old D c0 s0 Q K out) {ix : Nat} (HP : xP12 own ix) (hd : decode cc pc = .ok (.invokestatic ix, 3))
    (h : (match stk with
    | .inl n :: .inl j :: .inr (.inr (.inl kd)) :: .inl i :: .inr (.inr (.inl ks)) :: rest => match xcell hp ks, xcell hp kd with
      | some (.inr (.inl cs)), some (.inr (.inl cd)) =>
        cond (xfall cs.1 cs.2.2.2 i n && (Nat.beq cs.1 cd.1 && (Nat.ble cs.1 3 && (Nat.ble (Nat.add i n) cs.2.1 && (Nat.ble (Nat.add j n) cd.2.1 && (Nat.blt cs.2.1 2147483648 && (Nat.blt cd.2.1 2147483648 && (Nat.ble o kd && (!(Nat.beq ks kd) && (Nat.ble (Nat.add j n) (Nat.pow 2 cd.2.2.1) && Nat.ble (xcats rest) 4))))))))))
          (K (pc + 3) loc rest (xput hp kd (some (.inr (.inl (cd.1, (cd.2.1, (cd.2.2.1, xcopy cs.2.2.2 cd.2.2.1 i j n cd.2.2.2)))))))) none
      | _, _ => none
    | _ => none) = some out) :
    xG p l e R s m args below meth c nL S o old D c0 s0 Q pc loc stk hp := by
  intro H locs cells slots ls lv st hlv hl hs1 hx hlo hc hsl
  split at h
  · next n j kd i ks rest =>
    obtain ⟨v1, st1, rfl, r1, g1⟩ := xs2_cons hs1
    obtain ⟨v2, st1, rfl, r2, g2⟩ := xs2_cons g1
    obtain ⟨v3, st1, rfl, r3, g3⟩ := xs2_cons g2
    obtain ⟨v4, st1, rfl, r4, g4⟩ := xs2_cons g3
    obtain ⟨v5, rv, rfl, r5, g5⟩ := xs2_cons g4
    cases r1; cases r2; cases r3; cases r4; cases r5
    split at h
    · next cs cd hcs hcd =>
      obtain ⟨h0, h⟩ := cond_some h
      obtain ⟨hf, h0⟩ := and_true' h0
      obtain ⟨h1, h0⟩ := and_true' h0
      obtain ⟨h2, h0⟩ := and_true' h0
      obtain ⟨h3, h0⟩ := and_true' h0
      obtain ⟨h4, h0⟩ := and_true' h0
      obtain ⟨h5, h0⟩ := and_true' h0
      obtain ⟨h6, h0⟩ := and_true' h0
      obtain ⟨h7, h0⟩ := and_true' h0
      obtain ⟨h8, h0⟩ := and_true' h0
      obtain ⟨h9, h10⟩ := and_true' h0
      have h1 := Nat.eq_of_beq_eq_true h1
      have h2 := Nat.le_of_ble_eq_true h2
      have h3 : i + n ≤ cs.2.1 := Nat.le_of_ble_eq_true h3
      have h4 : j + n ≤ cd.2.1 := Nat.le_of_ble_eq_true h4
      have h5 : cs.2.1 < 2147483648 := Nat.le_of_ble_eq_true h5
      have h6 : cd.2.1 < 2147483648 := Nat.le_of_ble_eq_true h6
      have h7 : o ≤ kd := Nat.le_of_ble_eq_true h7
      have h8 : ks ≠ kd := fun e9 => by rw [e9, Nat.beq_refl] at h8; cases h8
      have h9 : j + n ≤ 2 ^ cd.2.2.1 := Nat.le_of_ble_eq_true h9
      have h10 : xcats rest ≤ 4 := Nat.le_of_ble_eq_true h10
      rw [← xs2_cats g5] at h10
      have hS := hx.1 ks
      have hD := hx.1 kd
      rw [hcs] at hS
      rw [hcd] at hD
      obtain ⟨a, a1, a2, a3, a4, a5, a6, a7, a8, a9⟩ := hS
      obtain ⟨b, b1, b2, b3, b4, b5, b6, b7, b8, b9⟩ := hD
      have a2s := State.isArrayOf_alike F.2.2.2.2.2.1.alike a2
      have b2s := State.isArrayOf_alike F.2.2.2.2.2.1.alike b2
      obtain ⟨a2v, ka, ha1, ca, ha2⟩ := a2s
      obtain ⟨b2v, kb, hb1, cb, hb2⟩ := b2s
      have ei : (Int32.ofNat i).toNatClampNeg = i := clamp_of rfl (by omega)
      have ej : (Int32.ofNat j).toNatClampNeg = j := clamp_of rfl (by omega)
      have en : (Int32.ofNat n).toNatClampNeg = n := clamp_of rfl (by omega)
      have ti : (Int32.ofNat i).toInt = i := Int32.toInt_ofNat_small (by omega)
      have tj : (Int32.ofNat j).toInt = j := Int32.toInt_ofNat_small (by omega)
      have tn : (Int32.ofNat n).toInt = n := Int32.toInt_ofNat_small (by omega)
      obtain ⟨w1, w2, w3, w4⟩ := HP
      intro T hT Xs
      have hval : ∀ t, t < n → fits (xty cd.1) (a.slots.getD (i + t) .null) = true ∧ (a.slots.getD (i + t) .null).isRef = false ∧ xR (xad o S.heap.size old) (xget cs.2.2.2 (i + t)) (a.slots.getD (i + t) .null) := fun t ht => by
        obtain ⟨v, g1, g2⟩ := a9 (i + t) (by omega)
        have e1 : a.slots.getD (i + t) .null = v := by rw [Array.getD_eq_getD_getElem?, g1]; rfl
        rw [e1, ← h1]
        obtain ⟨q1, q2⟩ := xfa_ok h2 (xfall_ok hf t ht) g2
        exact ⟨q1, q2, g2⟩
      obtain ⟨vm', X', step⟩ := Xs.arraycopy F.1 F.2.2.2.1 (F.2.2.2.2.1 _ w1) (F.2.2.2.2.1 _ w2) (F.2.2.2.2.1 _ w3) (F.2.2.2.2.1 _ w4) (src := xad o S.heap.size old ks) (dst := xad o S.heap.size old kd) (cs := a) (cd := b) (srcPos := Int32.ofNat i) (destPos := Int32.ofNat j) (n := Int32.ofNat n)
        (by rw [hT]; exact a1) (by rw [hT]; exact b1) a2v b2v a3 b3 ha1 hb1 ha2 hb2 (by rw [h1]; exact xhty (by omega)) (by rw [Int32.lt_iff_toInt_lt, ti]; show ¬ (i : Int) < 0; omega) (by rw [Int32.lt_iff_toInt_lt, tj]; show ¬ (j : Int) < 0; omega) (by rw [Int32.lt_iff_toInt_lt, tn]; show ¬ (n : Int) < 0; omega)
        (by rw [ti, tn]; omega) (by rw [tj, tn]; omega)
        (fun vm₁ _ t ht => by
          rw [en] at ht
          rw [ei]
          obtain ⟨q1, q2, -⟩ := hval t ht
          refine ⟨q1, ?_⟩
          cases hv : a.slots.getD (i + t) .null with
          | ref x => rw [hv] at q2; cases q2
          | null => trivial
          | int x => trivial
          | long x => trivial
          | float x => trivial
          | double x => trivial
          | retAddr x => trivial)
        (g := F0 m pc ls (.int (Int32.ofNat n) :: .int (Int32.ofNat j) :: .ref (xad o S.heap.size old kd) :: .int (Int32.ofNat i) :: .ref (xad o S.heap.size old ks) :: rv)) rfl (by rw [F.2.2.1]; exact hlv.1) (rest := rv) rfl (by rw [F.2.1]; exact hd) (by omega) (by
          have : nativeFrameWords "java/lang/System" "arraycopy" 5 = 7 := by decide +kernel
          rw [this]
          show 2 * 0 + _ + _ ≤ _
          omega)
      have hbd : xad o S.heap.size old kd < H.size := (Array.getElem?_eq_some_iff.mp b1).1
      generalize hN : copied a b (Int32.ofNat i) (Int32.ofNat j) (Int32.ofNat n) = nc at X' step
      obtain ⟨f1, f2, f3, -⟩ := b.storeRun_facts (Int32.ofNat j).toNatClampNeg (a.stretch (Int32.ofNat i).toNatClampNeg (Int32.ofNat n).toNatClampNeg)
      rw [show b.storeRun (Int32.ofNat j).toNatClampNeg (a.stretch (Int32.ofNat i).toNatClampNeg (Int32.ofNat n).toNatClampNeg) = nc from hN] at f1 f2 f3
      have hheap : ((T.setVm vm').setCell (xad o S.heap.size old kd) nc).heap = H.setIfInBounds (xad o S.heap.size old kd) nc := by rw [← hT]; rfl
      obtain ⟨q1, q2⟩ := xcopy_ok (f := cs.2.2.2) (i := i) (j := j) n cd.2.2.2 b7 h9
      have hget : ∀ x, nc.slots[x]? = if j ≤ x ∧ x < j + n then (a.stretch i n)[x - j]? else b.slots[x]? := fun x => by
        rw [← hN]
        show (b.storeRun (Int32.ofNat j).toNatClampNeg (a.stretch (Int32.ofNat i).toNatClampNeg (Int32.ofNat n).toNatClampNeg)).slots[x]? = _
        rw [ei, ej, en, Cell.storeRun_get _ _ _ _ (by rw [Cell.stretch_length]; omega), Cell.stretch_length]
      have hx' : xhr o old D S (xput hp kd (some (.inr (.inl (cd.1, (cd.2.1, (cd.2.2.1, xcopy cs.2.2.2 cd.2.2.1 i j n cd.2.2.2))))))) (H.setIfInBounds (xad o S.heap.size old kd) nc) := by
        refine hx.put B.1 h7 (xcell_n hx hcd) (by simp) (fun q hq => by simp [Array.getElem?_setIfInBounds, Ne.symm hq]) ?_
        refine ⟨nc, by simp [Array.getElem?_setIfInBounds, hbd], ?_, by rw [f2]; exact b3, ?_, by show cd.2.1 ≤ nc.slots.size; rw [f3]; exact b5, by rw [f3]; exact b6, q1, b8, fun x hx9 => ?_⟩
        · exact ⟨fun k => by rw [f2]; exact b2.1 k, by rw [f1]; exact b2.2⟩
        · intro ho
          obtain ⟨y1, y2, y3⟩ := b4 ho
          exact ⟨by rw [f2]; exact y1, by rw [f1]; exact y2, fun h9 => by rw [f1]; exact y3 h9⟩
        · have hx9 : x < cd.2.1 := hx9
          have hx8 : x < 2 ^ cd.2.2.1 := Nat.lt_of_lt_of_le hx9 b8
          show ∃ v, nc.slots[x]? = some v ∧ xR _ (xget (xcopy cs.2.2.2 cd.2.2.1 i j n cd.2.2.2) x) v
          rw [hget x, q2 x hx8]
          by_cases e2 : j ≤ x ∧ x < j + n
          · rw [if_pos e2, if_pos e2]
            refine ⟨_, ?_, (hval (x - j) (by omega)).2.2⟩
            unfold Cell.stretch
            rw [List.getElem?_map, List.getElem?_range (by omega)]
            rfl
          · rw [if_neg e2, if_neg e2]
            exact b9 x hx9
      obtain ⟨t, t1, t2⟩ := hK _ _ _ _ h _ _ cells slots ls lv rv hlv hl g5 hx' (fun z hz => by
        rcases List.mem_append.mp hz with hz | hz
        · exact hlo z hz
        · obtain ⟨y, -, rfl⟩ := List.mem_map.mp hz
          show S.heap.size ≤ xad o S.heap.size old kd
          unfold xad
          rw [if_neg (by omega)]
          omega) hc hsl _ hheap X'
      exact ⟨t, step t t1, t2⟩
    · cases h
  · cases h
end Steps14
end
section
section Main
variable {p : Program} {l : Launch} {e : Env} {R : Room} {s : State} {m : MethodId} {args : Array Value} {below : List Frame} {meth : Method} {c : Code} {cc : ByteArray} {nL : Nat} {own : String} {S : State} {o : Nat} {old : Nat → Nat} {D : va_G} {c0 s0 : Nat} {Q : State → Prop}
variable {pc nx : Nat} {K : xK} {out : xE} {loc : List (Nat × xA)} {stk : List xA} {hp : xH} {ft : Nat → List Nat} {call : xF} {pool : Nat → xP} {hs : List (Nat × (Nat × (Nat × Nat)))}
variable {hh : List (Nat × (Nat × (Nat × Nat)))} {rk : Nat} {r0 : xO} {mt : Nat → xY} {d : Nat}
set_option maxHeartbeats 1000000 in
theorem xstep_mono {i : Instr} (hK : xMK K out) (hc : ∀ mi as hp r, call mi as hp = some r → xLe hp r.2.2.1) (h : xstep o ft call pool hs K i pc nx loc stk hp = some out) : xLe hp out.2.2.2.1 := by
  cases i
  case aconst_null => exact xm_aconst_null hK h
  case iconst => exact xm_iconst hK h
  case bipush => exact xm_bipush hK h
  case sipush => exact xm_sipush hK h
  case lconst => exact xm_lconst hK h
  case ldc => exact xm_ldc hK h
  case ldc_w => exact xm_ldc_w hK h
  case ldc2_w => exact xm_ldc2_w hK h
  case iload_n => exact xm_iload_n hK h
  case iload => exact xm_iload hK h
  case lload_n => exact xm_lload_n hK h
  case lload => exact xm_lload hK h
  case aload_n => exact xm_aload_n hK h
  case aload => exact xm_aload hK h
  case istore_n => exact xm_istore_n hK h
  case istore => exact xm_istore hK h
  case lstore_n => exact xm_lstore_n hK h
  case lstore => exact xm_lstore hK h
  case astore_n => exact xm_astore_n hK h
  case astore => exact xm_astore hK h
  case iinc => exact xm_iinc hK h
  case iadd => exact xm_iadd hK h
  case isub => exact xm_isub hK h
  case imul => exact xm_imul hK h
  case iand => exact xm_iand hK h
  case ior => exact xm_ior hK h
  case ixor => exact xm_ixor hK h
  case idiv => exact xm_idiv hK h
  case irem => exact xm_irem hK h
  case ishl => exact xm_ishl hK h
  case ishr => exact xm_ishr hK h
  case iushr => exact xm_iushr hK h
  case ladd => exact xm_ladd hK h
  case lsub => exact xm_lsub hK h
  case lmul => exact xm_lmul hK h
  case land => exact xm_land hK h
  case lor => exact xm_lor hK h
  case lxor => exact xm_lxor hK h
  case ldiv => exact xm_ldiv hK h
  case lrem => exact xm_lrem hK h
  case lshl => exact xm_lshl hK h
  case lshr => exact xm_lshr hK h
  case lushr => exact xm_lushr hK h
  case lcmp => exact xm_lcmp hK h
  case ineg => exact xm_ineg hK h
  case lneg => exact xm_lneg hK h
  case i2l => exact xm_i2l hK h
  case l2i => exact xm_l2i hK h
  case i2b => exact xm_i2b hK h
  case i2c => exact xm_i2c hK h
  case dup => exact xm_dup hK h
  case pop => exact xm_pop hK h
  case pop2 => exact xm_pop2 hK h
  case dup_x1 => exact xm_dup_x1 hK h
  case dup2 => exact xm_dup2 hK h
  case goto => exact xm_goto hK h
  case ifCond => exact xm_ifCond hK h
  case if_icmp => exact xm_if_icmp hK h
  case tableswitch => exact xm_tableswitch hK h
  case arraylength => exact xm_arraylength hK h
  case iaload => exact xm_iaload hK h
  case laload => exact xm_laload hK h
  case baload => exact xm_baload hK h
  case aaload => exact xm_aaload hK h
  case iastore => exact xm_iastore hK h
  case lastore => exact xm_lastore hK h
  case bastore => exact xm_bastore hK h
  case getfield => exact xm_getfield hK h
  case putfield => exact xm_putfield hK h
  case getstatic => exact xm_getstatic hK h
  case new => exact xm_new hK h
  case newarray => exact xm_newarray hK h
  case anewarray => exact xm_anewarray hK h
  case aastore => exact xm_aastore hK h
  case multianewarray => exact xm_multianewarray hK h
  case ireturn => exact xm_ireturn hK h
  case lreturn => exact xm_lreturn hK h
  case areturn => exact xm_areturn hK h
  case return_ => exact xm_return_ hK h
  case invokevirtual => exact xmono_V hK hc h
  case invokestatic => exact xmono_S hK hc h
  case invokespecial => exact xmono_I hK hc h
  all_goals cases h
/-- what an instruction's operand asks of the pool -/
def xIc (S : State) (ad : Nat → Nat) (mt : Nat → xY) (own : String) (cc : ByteArray) (hh : List (Nat × (Nat × (Nat × Nat)))) (pool : Nat → xP) (pc : Nat) (i : Instr) : Prop := match i with
  | .getfield k => ((pool k).1 = 0 → xPg own k (pool k)) ∧ ((pool k).1 = 24 → Cond.fieldLink own k "java/lang/String" "value" "[B" ∈ xW) ∧ ((pool k).1 = 25 → Cond.fieldLink own k "java/lang/String" "coder" "B" ∈ xW)
  | .putfield k => (pool k).1 = 0 → xPf own k (pool k)
  | .new k => ((pool k).1 = 5 → xPc own k (pool k)) ∧ ((pool k).1 = 11 → xTh S own cc hh pc k (pool k).2.1)
  | .anewarray k => xPa S own k (pool k)
  | .multianewarray k d => d = 2 ∧ ((pool k).1 = 22 → xPm S own k (pool k))
  | .ldc k => xPk S ad own k (pool k)
  | .ldc_w k => xPk S ad own k (pool k) ∧ ¬ (pool k).1 = 7
  | .ldc2_w k => xPk S ad own k (pool k)
  | .getstatic k => xPs S ad own k (pool k)
  | .invokevirtual k => (pool k).1 = 1 ∨ (pool k).1 = 28 → xP1 mt own k (pool k)
  | .invokestatic k => ((pool k).1 = 2 → xP2 mt own k (pool k)) ∧ ((pool k).1 = 12 → xP12 own k) ∧ ¬ (pool k).1 = 13 ∧ ¬ (pool k).1 = 14 ∧ ¬ (pool k).1 = 15
  | .invokespecial k => ((pool k).1 = 3 → xP3 S mt own k (pool k)) ∧ ((pool k).1 = 4 → xP4 own k)
  | _ => True
/-- a row of a method's table -/
def xOk (S : State) (ad : Nat → Nat) (mt : Nat → xY) (own : String) (cc : ByteArray) (hh : List (Nat × (Nat × (Nat × Nat)))) (pool : Nat → xP) (nL : Nat) (ini : Bool) (rk : Nat) (x : xI) : Prop :=
  decode cc x.1 = .ok (x.2.1, x.2.2.1) ∧ x.2.2.1 = xlen x.2.1 x.2.2.1 ∧ x.2.2.2 = x.1 + x.2.2.1 ∧ xsto nL x.2.1 = true ∧ xpfo ini pool x.2.1 = true ∧ xro rk x.2.1 = true ∧ xIc S ad mt own cc hh pool x.1 x.2.1
/-- what holds at the law's entry -/
def xGl (S : State) (o : Nat) (old : Nat → Nat) (D : va_G) (ft : Nat → List Nat) : Prop := xBs S o old D ft ∧ xEx S ∧ xZs S ∧ (∀ t, t < 4 → Cond.arrayClass (xty1 t) ∈ xW) ∧ ∀ (c k t : Nat), (ft c)[k]? = some t → t ≤ 3
theorem nbeq {a b : Nat} (h : ¬ a = b) : Nat.beq a b = false := Bool.eq_false_iff.mpr fun q => h (Nat.eq_of_beq_eq_true q)
set_option maxHeartbeats 4000000 in
theorem xstep_ok (F : xFx p s m args meth c cc nL own S) (G : xGl S o old D ft) (hl9 : l.stackTraces = false) (hT : c.exceptionTable.toList = tableOf hh) (HH : xHs own hs hh) (hrk : xRk rk meth.sig.returnType) {ini : Bool} (hini : ini = true → meth.name = "<init>")
    (hS0 : S.heap.size ≤ s.heap.size ∧ ∀ q, q < S.heap.size → s.heap[q]? = S.heap[q]?) (hQ : xQh R below S o old D args s c0 s0 rk Q out) (hR : d + 11 ≤ R.frames ∧ 264 + 64 * d ≤ R.locals)
    (HC : xHC l S o old D mt call d) (Rm : xRm K out R c0 s0) (hK : xHyp p l e R s m args below meth c nL S o old D c0 s0 Q K out) {i : Instr} {len : Nat} (hi : xOk S (xad o S.heap.size old) mt own cc hh pool nL ini rk (pc, (i, (len, nx))))
    (h : xstep o ft call pool hs K i pc nx loc stk hp = some out) : xG p l e R s m args below meth c nL S o old D c0 s0 Q pc loc stk hp := by
  obtain ⟨d0, l0, x0, hst, hpf, hro, hic⟩ := hi
  obtain ⟨B, X, Z, HA, hf⟩ := G
  have hd : decode cc pc = .ok (i, len) := d0
  have hl0 : len = xlen i len := l0
  have hx0 : nx = pc + len := x0
  clear d0 l0 x0
  cases i
  case iconst => exact xi_iconst F  hd hl0 hx0 hst hK h
  case bipush => exact xi_bipush F  hd hl0 hx0 hst hK h
  case sipush => exact xi_sipush F  hd hl0 hx0 hst hK h
  case lconst => exact xi_lconst F  hd hl0 hx0 hst hK h
  case aconst_null => exact xi_aconst_null F  hd hl0 hx0 hst hK h
  case iload_n => exact xi_iload_n F  hd hl0 hx0 hst hK h
  case iload => exact xi_iload F  hd hl0 hx0 hst hK h
  case lload_n => exact xi_lload_n F  hd hl0 hx0 hst hK h
  case lload => exact xi_lload F  hd hl0 hx0 hst hK h
  case aload_n => exact xi_aload_n F  hd hl0 hx0 hst hK h
  case aload => exact xi_aload F  hd hl0 hx0 hst hK h
  case istore_n => exact xi_istore_n F  hd hl0 hx0 hst hK h
  case istore => exact xi_istore F  hd hl0 hx0 hst hK h
  case lstore_n => exact xi_lstore_n F  hd hl0 hx0 hst hK h
  case lstore => exact xi_lstore F  hd hl0 hx0 hst hK h
  case astore_n => exact xi_astore_n F  hd hl0 hx0 hst hK h
  case astore => exact xi_astore F  hd hl0 hx0 hst hK h
  case iinc => exact xi_iinc F  hd hl0 hx0 hst hK h
  case iadd => exact xi_iadd F  hd hl0 hx0 hst hK h
  case isub => exact xi_isub F  hd hl0 hx0 hst hK h
  case imul => exact xi_imul F  hd hl0 hx0 hst hK h
  case ior => exact xi_ior F  hd hl0 hx0 hst hK h
  case ixor => exact xi_ixor F  hd hl0 hx0 hst hK h
  case ishl => exact xi_ishl F  hd hl0 hx0 hst hK h
  case ishr => exact xi_ishr F  hd hl0 hx0 hst hK h
  case iushr => exact xi_iushr F  hd hl0 hx0 hst hK h
  case ladd => exact xi_ladd F  hd hl0 hx0 hst hK h
  case lsub => exact xi_lsub F  hd hl0 hx0 hst hK h
  case lmul => exact xi_lmul F  hd hl0 hx0 hst hK h
  case land => exact xi_land F  hd hl0 hx0 hst hK h
  case lor => exact xi_lor F  hd hl0 hx0 hst hK h
  case lxor => exact xi_lxor F  hd hl0 hx0 hst hK h
  case iand => exact xi_iand F  hd hl0 hx0 hst hK h
  case idiv => exact xi_idiv F  hd hl0 hx0 hst hK h
  case irem => exact xi_irem F  hd hl0 hx0 hst hK h
  case ldiv => exact xi_ldiv F  hd hl0 hx0 hst hK h
  case lrem => exact xi_lrem F  hd hl0 hx0 hst hK h
  case lshl => exact xi_lshl F  hd hl0 hx0 hst hK h
  case lshr => exact xi_lshr F  hd hl0 hx0 hst hK h
  case lushr => exact xi_lushr F  hd hl0 hx0 hst hK h
  case lcmp => exact xi_lcmp F  hd hl0 hx0 hst hK h
  case ineg => exact xi_ineg F  hd hl0 hx0 hst hK h
  case lneg => exact xi_lneg F  hd hl0 hx0 hst hK h
  case l2i => exact xi_l2i F  hd hl0 hx0 hst hK h
  case i2b => exact xi_i2b F  hd hl0 hx0 hst hK h
  case i2c => exact xi_i2c F  hd hl0 hx0 hst hK h
  case i2l => exact xi_i2l F  hd hl0 hx0 hst hK h
  case dup => exact xi_dup F  hd hl0 hx0 hst hK h
  case dup_x1 => exact xi_dup_x1 F  hd hl0 hx0 hst hK h
  case dup2 => exact xi_dup2 F  hd hl0 hx0 hst hK h
  case pop => exact xi_pop F  hd hl0 hx0 hst hK h
  case pop2 => exact xi_pop2 F  hd hl0 hx0 hst hK h
  case goto => exact xi_goto F  hd hl0 hx0 hst hK h
  case ifCond => exact xi_ifCond F  hd hl0 hx0 hst hK h
  case if_icmp => exact xi_if_icmp F  hd hl0 hx0 hst hK h
  case tableswitch => exact xi_tableswitch F  hd hl0 hx0 hst hK h
  case iaload => exact xi_iaload F  hd hl0 hx0 hst hK h
  case laload => exact xi_laload F  hd hl0 hx0 hst hK h
  case baload => exact xi_baload F  hd hl0 hx0 hst hK h
  case aaload => exact xi_aaload F  hd hl0 hx0 hst hK h
  case iastore => exact xi_iastore F B hd hl0 hx0 hst hK h
  case lastore => exact xi_lastore F B hd hl0 hx0 hst hK h
  case bastore => exact xi_bastore F B hd hl0 hx0 hst hK h
  case arraylength => exact xi_arraylength F  hd hl0 hx0 hst hK h
  case getfield => exact xi_getfield F B hic hd hl0 hx0 hst hK h
  case putfield => exact xi_putfield F B hic hpf hini hd hl0 hx0 hst hK h
  case newarray => exact xi_newarray F B HA Rm hd hl0 hx0 hst hK h
  case anewarray => exact xi_anewarray F B hic Rm hd hl0 hx0 hst hK h
  case aastore => exact xi_aastore F B hd hl0 hx0 hst hK h
  case multianewarray => exact xi_multianewarray F B hic.1 hic.2 HA Rm hd hl0 hx0 hst hK h
  case ldc => exact xi_ldc F hic hd hl0 hx0 hst hK h
  case ldc_w => exact xi_ldc_w F hic.1 hic.2 hd hl0 hx0 hst hK h
  case ldc2_w => exact xi_ldc2_w F hic hd hl0 hx0 hst hK h
  case getstatic => exact xi_getstatic F hic hd hl0 hx0 hst hK h
  case new k =>
    cases h11 : Nat.beq (pool k).1 11 with
    | false => exact xi_new F B hic.1 Rm h11 hf hd hl0 hx0 hst hK h
    | true =>
      have h : cond (Nat.beq (pool k).1 11) (some (1, (pc, (stk, (hp, (pool k).2.1))))) (cond (Nat.beq (pool k).1 5) (xj (xnew hp (some (.inl ((pool k).2.1, xborn (ft (pool k).2.1) 0 (.leaf (.inl 0))))) (ft (pool k).2.1).length) fun q => K nx loc (.inr (.inr (.inl q.1)) :: stk) q.2) none) = some out := h
      rw [h11, cond_true] at h
      cases h
      rcases hQ with h9 | ⟨r0, hend, rfl, hR2⟩
      · cases h9
      exact xi_throw F hl9 hT Z hS0 hend hR hR2 (hic.2 (Nat.eq_of_beq_eq_true h11))
  case invokevirtual k =>
    have hl1 : len = 3 := hl0
    subst hl1
    subst hx0
    exact xi_invokevirtual F B X hT HH hQ Rm HC hR hK hic hd h
  case invokespecial k =>
    have hl1 : len = 3 := hl0
    subst hl1
    subst hx0
    exact xi_invokespecial F X hT HH hQ Rm HC hR hK hic.1 hic.2 hd h
  case invokestatic k =>
    have hl1 : len = 3 := hl0
    subst hl1
    subst hx0
    obtain ⟨i1, i2, i3, i4, i5⟩ := hic
    have h : xinvS o call hs (pool k) K pc (pc + 3) loc stk hp = some out := h
    unfold xinvS at h
    cases h2 : Nat.beq (pool k).1 2 with
    | true =>
      rw [h2, cond_true] at h
      exact xi_invokestatic2 F X hT HH hQ Rm HC hR hK (i1 (Nat.eq_of_beq_eq_true h2)) hd h
    | false =>
      rw [h2, cond_false, nbeq i3, cond_false, nbeq i4, cond_false, nbeq i5, cond_false] at h
      obtain ⟨h12, h⟩ := cond_some h
      exact xi_arraycopy F B hR hK (i2 (Nat.eq_of_beq_eq_true h12)) hd h
  case ireturn =>
    have hl1 : len = 1 := hl0
    subst hl1
    cases (show some ((0, (pc, (stk, (hp, 0)))) : xE) = some out from h)
    rcases hQ with h9 | ⟨r0, hend, rfl, -, -⟩
    · cases h9
    exact xi_return F hrk hend (Or.inl rfl) hro hd
  case lreturn =>
    have hl1 : len = 1 := hl0
    subst hl1
    cases (show some ((0, (pc, (stk, (hp, 0)))) : xE) = some out from h)
    rcases hQ with h9 | ⟨r0, hend, rfl, -, -⟩
    · cases h9
    exact xi_return F hrk hend (Or.inr (Or.inl rfl)) hro hd
  case areturn =>
    have hl1 : len = 1 := hl0
    subst hl1
    cases (show some ((0, (pc, (stk, (hp, 0)))) : xE) = some out from h)
    rcases hQ with h9 | ⟨r0, hend, rfl, -, -⟩
    · cases h9
    exact xi_return F hrk hend (Or.inr (Or.inr (Or.inl rfl))) hro hd
  case return_ =>
    have hl1 : len = 1 := hl0
    subst hl1
    cases (show some ((0, (pc, (stk, (hp, 0)))) : xE) = some out from h)
    rcases hQ with h9 | ⟨r0, hend, rfl, -, -⟩
    · cases h9
    exact xi_return F hrk hend (Or.inr (Or.inr (Or.inr rfl))) hro hd
  all_goals cases h
end Main
end
section
section Method
variable {p : Program} {l : Launch} {e : Env} {R : Room} {s : State} {m : MethodId} {args : Array Value} {below : List Frame} {meth : Method} {c : Code} {cc : ByteArray} {nL : Nat} {own : String} {S : State} {o : Nat} {old : Nat → Nat} {D : va_G} {c0 s0 : Nat} {Q : State → Prop}
variable {pc nx : Nat} {K : xK} {out : xE} {loc : List (Nat × xA)} {stk : List xA} {hp : xH} {ft : Nat → List Nat} {call : xF} {pool : Nat → xP} {hs : List (Nat × (Nat × (Nat × Nat)))}
variable {hh : List (Nat × (Nat × (Nat × Nat)))} {rk : Nat} {r0 : xO} {mt : Nat → xY} {d : Nat} {tab : Lean.RArray xI}
/-- the same, from a given end on -/
noncomputable def xrunK (o : Nat) (ft : Nat → List Nat) (call : xF) (pool : Nat → xP) (hs : List (Nat × (Nat × (Nat × Nat)))) (tab : Lean.RArray xI) (K0 : xK) (fuel : Nat) : xK :=
  Nat.rec K0 (fun _ ih pc loc stk hp => cond (Nat.beq (xget tab pc).1 pc) (xstep o ft call pool hs ih (xget tab pc).2.1 (xget tab pc).1 (xget tab pc).2.2.2 loc stk hp) none) fuel
theorem xrunK_mono {K0 : xK} (hc : ∀ mi as hp r, call mi as hp = some r → xLe hp r.2.2.1) (h0 : xMK K0 out) : ∀ fuel, xMK (xrunK o ft call pool hs tab K0 fuel) out := by
  intro fuel
  induction fuel with
  | zero => exact h0
  | succ n ih =>
    intro pc loc stk hp h
    obtain ⟨-, h⟩ := cond_some (show cond (Nat.beq (xget tab pc).1 pc) (xstep o ft call pool hs (xrunK o ft call pool hs tab K0 n) (xget tab pc).2.1 (xget tab pc).1 (xget tab pc).2.2.2 loc stk hp) none = some out from h)
    exact xstep_mono ih hc h
theorem xrun_mono (hc : ∀ mi as hp r, call mi as hp = some r → xLe hp r.2.2.1) : ∀ fuel, xMK (xrun o ft call pool hs tab fuel) out := by
  intro fuel
  induction fuel with
  | zero => intro pc loc stk hp h; cases h
  | succ n ih =>
    intro pc loc stk hp h
    obtain ⟨-, h⟩ := cond_some (show cond (Nat.beq (xget tab pc).1 pc) (xstep o ft call pool hs (xrun o ft call pool hs tab n) (xget tab pc).2.1 (xget tab pc).1 (xget tab pc).2.2.2 loc stk hp) none = some out from h)
    exact xstep_mono ih hc h
theorem xrunK_ok {K0 : xK} (F : xFx p s m args meth c cc nL own S) (G : xGl S o old D ft) (hl9 : l.stackTraces = false) (hT : c.exceptionTable.toList = tableOf hh) (HH : xHs own hs hh) (hrk : xRk rk meth.sig.returnType) {ini : Bool} (hini : ini = true → meth.name = "<init>")
    (hS0 : S.heap.size ≤ s.heap.size ∧ ∀ q, q < S.heap.size → s.heap[q]? = S.heap[q]?) (hQ : xQh R below S o old D args s c0 s0 rk Q out) (hR : d + 11 ≤ R.frames ∧ 264 + 64 * d ≤ R.locals) (hR1 : out.2.2.2.1.2.2.2.1 ≤ R.cells + c0 ∧ out.2.2.2.1.2.2.2.2 ≤ R.slots + s0)
    (HC : xHC l S o old D mt call d) (hi : ∀ pc, (xget tab pc).1 = pc → xOk S (xad o S.heap.size old) mt own cc hh pool nL ini rk (xget tab pc))
    (h0 : xHyp p l e R s m args below meth c nL S o old D c0 s0 Q K0 out) (h0m : xMK K0 out) : ∀ fuel, xHyp p l e R s m args below meth c nL S o old D c0 s0 Q (xrunK o ft call pool hs tab K0 fuel) out := by
  have hc : ∀ mi as hp r, call mi as hp = some r → xLe hp r.2.2.1 := fun mi as hp r h => (HC mi as hp r h).1
  intro fuel
  induction fuel with
  | zero => exact h0
  | succ n ih =>
    intro pc loc stk hp h
    obtain ⟨h1, h2⟩ := cond_some (show cond (Nat.beq (xget tab pc).1 pc) (xstep o ft call pool hs (xrunK o ft call pool hs tab K0 n) (xget tab pc).2.1 (xget tab pc).1 (xget tab pc).2.2.2 loc stk hp) none = some out from h)
    clear h
    have e1 := Nat.eq_of_beq_eq_true h1
    have hx := hi pc e1
    obtain ⟨pc', i, len, nx, ht⟩ : ∃ pc' i len nx, xget tab pc = (pc', (i, (len, nx))) := ⟨_, _, _, _, rfl⟩
    rw [ht] at h2 hx e1
    have e1 : pc' = pc := e1
    subst e1
    exact xstep_ok F G hl9 hT HH hrk hini hS0 hQ hR HC ⟨xrunK_mono hc h0m n, hR1⟩ ih hx h2
theorem xrun_eq : xrun o ft call pool hs tab = xrunK o ft call pool hs tab (fun _ _ _ _ => none) := rfl
theorem xcat12 (a : xA) : xcat a = 1 ∨ xcat a = 2 := by
  unfold xcat
  split
  · exact Or.inr rfl
  · exact Or.inr rfl
  · exact Or.inl rfl
theorem xargs_ok {ad : Nat → Nat} : ∀ {as : List xA} {vs : List Value} (i : Nat), xs2 ad as vs → xl2 ad (xargs as i) (lv_args i vs) := by
  intro as
  induction as with
  | nil => intro vs i h; rw [xs2_nil h]; trivial
  | cons a as ih =>
    intro vs i h
    obtain ⟨b, bs, rfl, h1, h2⟩ := xs2_cons h
    have hcat := xR_cat h1
    refine ⟨rfl, h1, ?_⟩
    show xl2 ad (xargs as (Nat.add i (xcat a))) (lv_args (if b.category = 2 then i + 2 else i + 1) bs)
    rw [hcat]
    rcases xcat12 a with e | e <;> rw [e]
    · exact ih (i + 1) h2
    · exact ih (i + 2) h2
theorem xsl_len {ad : Nat → Nat} : ∀ {as : List xA} {vs : List Value}, xs2 ad as vs → (lg_sl vs).length = xcats as := by
  intro as
  induction as with
  | nil => intro vs h; rw [xs2_nil h]; rfl
  | cons a as ih =>
    intro vs h
    obtain ⟨b, bs, rfl, h1, h2⟩ := xs2_cons h
    have hcat := xR_cat h1
    have hi := ih h2
    show (lg_sl (b :: bs)).length = Nat.add (xcat a) (xcats as)
    rw [← hcat, ← hi]
    cases b <;> simp [lg_sl, Value.category] <;> omega
theorem xend_mono (h : xend rk (some out) = some r0) : xLe out.2.2.2.1 r0.2.2.1 := by
  unfold xend at h
  split at h
  · next he =>
    cases he
    split at h
    · cases h; exact xLe.rf _
    · obtain ⟨-, h⟩ := cond_some h
      cases h; exact xLe.rf _
    · obtain ⟨-, h⟩ := cond_some h
      cases h; exact xLe.rf _
    · cases h; exact xLe.rf _
    · obtain ⟨-, h⟩ := cond_some h
      cases h; exact xLe.rf _
    · obtain ⟨-, h⟩ := cond_some h
      cases h; exact xLe.rf _
    · cases h
  · next he =>
    cases he
    obtain ⟨-, h⟩ := cond_some h
    cases h
    exact ⟨Nat.le_succ _, Nat.le_add_right _ _⟩
  · next he =>
    cases he
    cases h
    exact xLe.rf _
  · cases h
/-- every leaf -/
def xall {α : Type} (P : α → Prop) : Lean.RArray α → Prop := Lean.RArray.rec (fun x => P x) (fun _ _ _ l r => l ∧ r)
theorem xall_get {α : Type} {P : α → Prop} : ∀ {t : Lean.RArray α}, xall P t → ∀ n, P (xget t n) := by
  intro t
  induction t with
  | leaf x => intro h n; exact h
  | branch p l r ihl ihr =>
    intro h n
    obtain ⟨h1, h2⟩ := (show xall P l ∧ xall P r from h)
    rw [xget_branch]
    cases Nat.ble p n
    · exact ihl h1 n
    · exact ihr h2 n
/-- a method and its table -/
def xMc (S : State) (ad : Nat → Nat) (mt : Nat → xY) (pools : Lean.RArray (Lean.RArray (Nat × xP))) (q : xY) (M : xM) : Prop :=
  plainName q.1.cls = true ∧ xcw q ∈ xW ∧ M.2.1 = q.2.2.1 ∧ xRk M.2.2.1 q.2.2.2.1 ∧ xHs q.1.cls M.2.2.2.2 (xhh q) ∧ ∃ ini : Bool, (ini = true → q.1.name = "<init>") ∧ xall (xOk S ad mt q.1.cls q.2.1 (xhh q) (xpool (xget pools M.2.2.2.1)) q.2.2.1 ini M.2.2.1) M.1
set_option maxHeartbeats 1000000 in
theorem xcall_ok (G : xGl S o old D ft) (hl9 : l.stackTraces = false) {pools : Lean.RArray (Lean.RArray (Nat × xP))} {ms : Lean.RArray xM} (HM : ∀ mi, xMc S (xad o S.heap.size old) mt pools (mt mi) (xget ms mi)) : ∀ d, xHC l S o old D mt (xcall o ft pools ms d) d := by
  intro d
  induction d with
  | zero => intro mi as hp r h; cases h
  | succ d ih =>
    intro mi as hp r h
    obtain ⟨ha, h⟩ := cond_some (show cond (Nat.ble (xcats as) (xget ms mi).2.1) (xend (xget ms mi).2.2.1 (xrun o ft (xcall o ft pools ms d) (xpool (xget pools (xget ms mi).2.2.2.1)) (xget ms mi).2.2.2.2 (xget ms mi).1 100000 0 (xargs as 0) [] hp)) none = some r from h)
    have ha := Nat.le_of_ble_eq_true ha
    obtain ⟨m1, m2, m3, m4, m5, ini, m6, m7⟩ := HM mi
    generalize xget ms mi = M at ha h m3 m4 m5 m7
    generalize mt mi = q at m1 m2 m3 m4 m5 m6 m7 ⊢
    cases hr : xrun o ft (xcall o ft pools ms d) (xpool (xget pools M.2.2.2.1)) M.2.2.2.2 M.1 100000 0 (xargs as 0) [] hp with
    | none => rw [hr] at h; cases h
    | some out =>
      rw [hr] at h
      have hmono := xend_mono h
      have hmono2 : xLe hp out.2.2.2.1 := xrun_mono (fun mi as hp r h => (ih mi as hp r h).1) _ _ _ _ _ hr
      have hm3 := hmono2.tr hmono
      refine ⟨hm3, ?_⟩
      have hi : ∀ pc, (xget M.1 pc).1 = pc → xOk S (xad o S.heap.size old) mt q.1.cls q.2.1 (xhh q) (xpool (xget pools M.2.2.2.1)) q.2.2.1 ini M.2.2.1 (xget M.1 pc) := fun pc _ => xall_get m7 pc
      have body : ∀ (p : Program) (e : Env) (s : State) (m : MethodId) (args : Array Value) (below : List Frame) (meth : Method) (c : Code) (s₁ : State) (hB : BodyLoose p l q.1 (headSpec (xcw q :: xW) (xrm (d + 1) (r.2.2.1.2.2.2.1 - hp.2.2.2.1) (r.2.2.1.2.2.2.2 - hp.2.2.2.2))) q.2.1 q.2.2.1 q.2.2.2.1 e s m args below meth c s₁),
          c.maxLocals = q.2.2.1 → c.exceptionTable.toList = tableOf (xhh q) → xPre S o old D as hp args s →
          W p l e (xrm (d + 1) (r.2.2.1.2.2.2.1 - hp.2.2.2.1) (r.2.2.1.2.2.2.2 - hp.2.2.2.2)) s m args below meth c s.heap [] 0 0 (vx_MQ below (xPost S o old D r) (xPex S o old D r) args s (r.2.2.1.2.2.2.1 - hp.2.2.2.1) (r.2.2.1.2.2.2.2 - hp.2.2.2.2) (fun a => S.heap.size ≤ a)) (entryFrame m args q.2.2.1) := by
        intro p e s m args below meth c s₁ hB hml hT hP
        obtain ⟨p1, p2, p3⟩ := hP
        have F : xFx p s m args meth c q.2.1 q.2.2.1 q.1.cls S := ⟨hB.exec, hB.bytes, hml, findClass_of_methodNamed hB.named, fun w hw => atoms_spec (ws := xcw q :: xW) hB.pre _ (List.mem_cons_of_mem _ hw), p1, hB.notSynchronized⟩
        have hin : ini = true → meth.name = "<init>" := fun h9 => (name_of_methodNamed hB.named hB.method).1.trans (m6 h9)
        have hx8 := p3.2.2.2.2.2.2.2
        have hx6 := p3.2.2.2.2.2.1
        obtain ⟨vs, rfl⟩ : ∃ vs : List Value, args = vs.toArray := ⟨args.toList, rfl⟩
        have p2 : xs2 (xad o S.heap.size old) as vs := p2
        have hlen : (lg_sl vs).length ≤ q.2.2.1 := by
          rw [← m3]
          refine Nat.le_trans (Nat.le_of_eq ?_) ha
          exact xsl_len p2
        have hlv := lv_entry vs (n := q.2.2.1) hlen
        rw [lg_entry_eq]
        refine xrunK_ok (K0 := fun _ _ _ _ => none) (d := d) (c0 := hp.2.2.2.1) (s0 := hp.2.2.2.2) F G hl9 hT m5 (by rw [hB.returns]; exact m4) hin ⟨by omega, hx8⟩ (Or.inr ⟨r, h, rfl, ?_, ?_⟩) ⟨by show d + 11 ≤ 10 + (d + 1); omega, by show 264 + 64 * d ≤ 200 + 64 * (d + 1); omega⟩ ⟨?_, ?_⟩ ih hi (fun _ _ _ _ h9 => (by cases h9)) (fun _ _ _ _ h9 => (by cases h9)) 100000 0 _ [] hp hr s.heap [] 0 0 _ (lv_args 0 vs) [] hlv (xargs_ok 0 p2) trivial p3 (fun z hz => by cases hz) (Nat.zero_add _) (Nat.zero_add _)
        · have := hm3.1
          show _ ≤ (r.2.2.1.2.2.2.1 - hp.2.2.2.1) + hp.2.2.2.1
          omega
        · have := hm3.2
          show _ ≤ (r.2.2.1.2.2.2.2 - hp.2.2.2.2) + hp.2.2.2.2
          omega
        · have := hmono.1
          have := hm3.1
          show _ ≤ (r.2.2.1.2.2.2.1 - hp.2.2.2.1) + hp.2.2.2.1
          omega
        · have := hmono.2
          have := hm3.2
          show _ ≤ (r.2.2.1.2.2.2.2 - hp.2.2.2.2) + hp.2.2.2.2
          omega
      obtain ⟨y, bytes, maxL, ret, ho⟩ := q
      cases ho with
      | none =>
        refine vx_ofW (cc := bytes) (maxL := maxL) (ret := ret) m1 rfl ?_
        intro p e s m args below meth c s₁ hB hml ht hP
        refine body p e s m args below meth c s₁ hB hml ?_ hP
        show _ = []
        match hc : c.exceptionTable.toList, ht with
        | [], _ => rfl
        | x :: _, ht => exact (ht x (by simp)).elim
      | some hh9 =>
        refine vx_ofWH (cc := bytes) (maxL := maxL) (ret := ret) (hh := hh9) m1 rfl ?_
        intro p e s m args below meth c s₁ hB hml hP
        exact body p e s m args below meth c s₁ hB hml (vx_table (x := y) (bytes := bytes) (maxL' := maxL) (ret' := ret) hB (atoms_spec (ws := xcw (y, (bytes, (maxL, (ret, some hh9)))) :: xW) hB.pre _ List.mem_cons_self)) hP
end Method
end
section
/-! ===== the checks of the image: by evaluation, and by facts of the law's entry ===== -/
def xmem (i : Nat) (w : Cond) : Bool := decide (lw_tbl[i]? = some w) && goodWord w
theorem xmem_ok {i : Nat} {w : Cond} (h : xmem i w = true) : w ∈ xW := by
  obtain ⟨h1, h2⟩ := and_true' h
  exact List.mem_filter.mpr ⟨List.mem_of_getElem? (of_decide_eq_true h1), h2⟩
/-- facts of the law's entry that no word of the tables alone gives -/
abbrev xSL : Type := List (Nat × Nat) × (List Nat × (List Nat × (List (String × (Nat × Nat)) × (List (String × (String × (String × Nat))) × List (String × (Nat × (Nat × String)))))))
def xSf (S : State) (ad : Nat → Nat) (mt : Nat → xY) (L : xSL) : Prop :=
  (∀ t ∈ L.1, xQw (mt t.1) t.2) ∧ (∀ t ∈ L.2.1, va_AO (xcn t) S) ∧ (∀ t ∈ L.2.2.1, va_AOA (xty1 t) S) ∧ (∀ t ∈ L.2.2.2.1, ∃ tx, vk_R t.1 t.2.1 tx (ad t.2.2) S) ∧ (∀ t ∈ L.2.2.2.2.1, va_Z t.1 t.2.1 t.2.2.1 (.ref (ad t.2.2.2)) (fun q => S.heap.size ≤ q) S S.heap) ∧
  (∀ t ∈ L.2.2.2.2.2, va_Nw (.methodLinkNest t.1 t.2.1 (mt t.2.2.1).1 t.2.2.2) S) ∧ va_Z "java/lang/String" "COMPACT_STRINGS" "Z" (.int 1) (fun q => S.heap.size ≤ q) S S.heap ∧ va_Zq "jdk/internal/util/Preconditions" "SIOOBE_FORMATTER" "Ljava/util/function/BiFunction;" (fun q => S.heap.size ≤ q) S S.heap
/-- an operand's use -/
def xIu (S : State) (ad : Nat → Nat) (mt : Nat → xY) (own : String) (pool : Nat → xP) (u k : Nat) : Prop := match u with
  | 0 => ((pool k).1 = 0 → xPg own k (pool k)) ∧ ((pool k).1 = 24 → Cond.fieldLink own k "java/lang/String" "value" "[B" ∈ xW) ∧ ((pool k).1 = 25 → Cond.fieldLink own k "java/lang/String" "coder" "B" ∈ xW)
  | 1 => (pool k).1 = 0 → xPf own k (pool k)
  | 2 => (pool k).1 = 5 → xPc own k (pool k)
  | 3 => xPa S own k (pool k)
  | 4 => (pool k).1 = 22 → xPm S own k (pool k)
  | 5 => xPk S ad own k (pool k)
  | 6 => xPk S ad own k (pool k) ∧ ¬ (pool k).1 = 7
  | 7 => xPk S ad own k (pool k)
  | 8 => xPs S ad own k (pool k)
  | 9 => (pool k).1 = 1 ∨ (pool k).1 = 28 → xP1 mt own k (pool k)
  | 10 => ((pool k).1 = 2 → xP2 mt own k (pool k)) ∧ ((pool k).1 = 12 → xP12 own k) ∧ ¬ (pool k).1 = 13 ∧ ¬ (pool k).1 = 14 ∧ ¬ (pool k).1 = 15
  | 11 => ((pool k).1 = 3 → xP3 S mt own k (pool k)) ∧ ((pool k).1 = 4 → xP4 own k)
  | _ => False
def xqB (q : xY) (n : Nat) (h0 h1 : Nat) : Bool := xmem h0 (xcw q) && (xmem h1 (.initialized q.1.cls) && (decide (q.1.cls ≠ "java/lang/invoke/MethodHandle" ∧ q.1.cls ≠ "java/lang/invoke/VarHandle") && (decide ((parseMethodDescriptor q.1.desc).map (fun d => d.parameters.length) = some n) && Nat.ble q.2.2.1 45)))
theorem xqB_ok {q : xY} {n h0 h1 : Nat} (h : xqB q n h0 h1 = true) : xQw q n := by
  obtain ⟨a, h⟩ := and_true' h
  obtain ⟨b, h⟩ := and_true' h
  obtain ⟨c, h⟩ := and_true' h
  obtain ⟨d, e⟩ := and_true' h
  exact ⟨xmem_ok a, xmem_ok b, of_decide_eq_true c, of_decide_eq_true d, Nat.le_of_ble_eq_true e⟩
def xfB (own : String) (k : Nat) (P : xP) (h0 : Nat) : Bool := match vwCl[P.2.1]? with
  | some q => Nat.blt P.2.2.1 q.2.2 && (xmem h0 (.fieldLink own k (q.2.1 P.2.2.1).1 (q.2.1 P.2.2.1).2.1 (q.2.1 P.2.2.1).2.2.1) && ((match parseFieldDescriptor (q.2.1 P.2.2.1).2.2.1 with
    | some ty => Nat.beq (xfk ty) (P.2.2.2 % 8)
    | none => false) && (!(q.2.1 P.2.2.1).2.2.2 || (Nat.ble 8 P.2.2.2 && decide ((q.2.1 P.2.2.1).1 = own)))))
  | none => false
theorem xfB_ok {own : String} {k : Nat} {P : xP} {h0 : Nat} (h : xfB own k P h0 = true) : xPf own k P := by
  unfold xfB at h
  split at h
  · next q hq =>
    obtain ⟨C, T, N⟩ := q
    obtain ⟨a, h⟩ := and_true' h
    obtain ⟨b, h⟩ := and_true' h
    obtain ⟨c, d⟩ := and_true' h
    split at c
    · next ty hty =>
      refine ⟨C, T, N, ty, hq, Nat.le_of_ble_eq_true a, xmem_ok b, hty, Nat.eq_of_beq_eq_true c, ?_⟩
      cases hf : (T P.2.2.1).2.2.2 with
      | false => exact Or.inl rfl
      | true =>
        have d : (!(T P.2.2.1).2.2.2 || (Nat.ble 8 P.2.2.2 && decide ((T P.2.2.1).1 = own))) = true := d
        rw [hf] at d
        obtain ⟨d1, d2⟩ := and_true' (show (Nat.ble 8 P.2.2.2 && decide ((T P.2.2.1).1 = own)) = true from d)
        exact Or.inr ⟨rfl, Nat.le_of_ble_eq_true d1, of_decide_eq_true d2⟩
    · cases c
  · cases h
def xgB (own : String) (k : Nat) (P : xP) (h0 : Nat) : Bool := match vwCl[P.2.1]? with
  | some q => Nat.blt P.2.2.1 q.2.2 && xmem h0 (.fieldLink own k (q.2.1 P.2.2.1).1 (q.2.1 P.2.2.1).2.1 (q.2.1 P.2.2.1).2.2.1)
  | none => false
theorem xgB_ok {own : String} {k : Nat} {P : xP} {h0 : Nat} (h : xgB own k P h0 = true) : xPg own k P := by
  unfold xgB at h
  split at h
  · next q hq =>
    obtain ⟨a, b⟩ := and_true' h
    exact ⟨q.1, q.2.1, q.2.2, hq, Nat.le_of_ble_eq_true a, xmem_ok b⟩
  · cases h
def xcB (own : String) (k : Nat) (P : xP) (h0 h1 h2 : Nat) : Bool := match vwCl[P.2.1]? with
  | some q => xmem h0 (.classLink own k q.1) && (xmem h1 (.instantiable q.1 q.2.2) && xmem h2 (.initialized q.1))
  | none => false
theorem xcB_ok {own : String} {k : Nat} {P : xP} {h0 h1 h2 : Nat} (h : xcB own k P h0 h1 h2 = true) : xPc own k P := by
  unfold xcB at h
  split at h
  · next q hq =>
    obtain ⟨a, h⟩ := and_true' h
    obtain ⟨b, c⟩ := and_true' h
    exact ⟨q.1, q.2.1, q.2.2, hq, xmem_ok a, xmem_ok b, xmem_ok c⟩
  · cases h
/-- the check of one use, with the places of its words -/
def xuB (mt : Nat → xY) (L : xSL) (own : String) (pool : Nat → xP) (u k : Nat) (h0 h1 h2 h3 h4 : Nat) : Bool := match u with
  | 0 => match (pool k).1 with
    | 0 => xgB own k (pool k) h0
    | 24 => xmem h0 (.fieldLink own k "java/lang/String" "value" "[B")
    | 25 => xmem h0 (.fieldLink own k "java/lang/String" "coder" "B")
    | _ => true
  | 1 => match (pool k).1 with
    | 0 => xfB own k (pool k) h0
    | _ => true
  | 2 => match (pool k).1 with
    | 5 => xcB own k (pool k) h0 h1 h2
    | _ => true
  | 3 => match (pool k).1 with
    | 5 => Nat.blt (4 + (pool k).2.1) 64 && (xmem h0 (.classLink own k (xcn (pool k).2.1)) && L.2.1.elem (pool k).2.1)
    | 6 => Nat.ble 64 (pool k).2.1 && (xmem h0 (.classLink own k (FieldType.array (xty1 ((pool k).2.1 - 64))).toString) && L.2.2.1.elem ((pool k).2.1 - 64))
    | _ => true
  | 4 => match (pool k).1 with
    | 22 => xmem h0 (.classLink own k ("[" ++ (FieldType.array (xty1 (pool k).2.1)).toString)) && L.2.2.1.elem (pool k).2.1
    | _ => true
  | 5 => match (pool k).1 with
    | 8 => xmem h0 (.constant own k (Int32.ofNat (pool k).2.1))
    | 9 => xmem h0 (.constantLong own k (Int64.ofNat (pool k).2.1))
    | 7 => L.2.2.2.1.elem (own, (k, (pool k).2.1))
    | _ => true
  | 6 => match (pool k).1 with
    | 8 => xmem h0 (.constant own k (Int32.ofNat (pool k).2.1))
    | 9 => xmem h0 (.constantLong own k (Int64.ofNat (pool k).2.1))
    | 7 => false
    | _ => true
  | 7 => match (pool k).1 with
    | 8 => xmem h0 (.constant own k (Int32.ofNat (pool k).2.1))
    | 9 => xmem h0 (.constantLong own k (Int64.ofNat (pool k).2.1))
    | 7 => L.2.2.2.1.elem (own, (k, (pool k).2.1))
    | _ => true
  | 8 => match (pool k).1 with
    | 10 => match L.2.2.2.2.1.find? (fun t => Nat.beq t.2.2.2 (pool k).2.1) with
      | some t => xmem h0 (.fieldLink own k t.1 t.2.1 t.2.2.1)
      | none => false
    | 26 => xmem h0 (.fieldLink own k "java/lang/String" "COMPACT_STRINGS" "Z")
    | 27 => xmem h0 (.fieldLink own k "jdk/internal/util/Preconditions" "SIOOBE_FORMATTER" "Ljava/util/function/BiFunction;")
    | _ => true
  | 9 => match (pool k).1 with
    | 1 => L.1.elem ((pool k).2.1, (pool k).2.2.1) && (decide ((mt (pool k).2.1).2.2.2.2 = none) && (xmem h2 (.methodLink own k (mt (pool k).2.1).1) && (xmem h3 (.instanceMethod (mt (pool k).2.1).1) && (match vwCl[(pool k).2.2.2]? with
      | some q => xmem h4 (.selects q.1 (mt (pool k).2.1).1 (mt (pool k).2.1).1)
      | none => false))))
    | 28 => L.1.elem ((pool k).2.1, (pool k).2.2.1) && (decide ((mt (pool k).2.1).2.2.2.2 = none) && (xmem h2 (.methodLink own k (mt (pool k).2.1).1) && (xmem h3 (.instanceMethod (mt (pool k).2.1).1) && xmem h4 (.selects "java/lang/String" (mt (pool k).2.1).1 (mt (pool k).2.1).1))))
    | _ => true
  | 10 => match (pool k).1 with
    | 2 => L.1.elem ((pool k).2.1, (pool k).2.2.1) && (xmem h2 (.methodLink own k (mt (pool k).2.1).1) && xmem h3 (.static (mt (pool k).2.1).1))
    | 12 => xmem h0 (.methodLink own k arraycopyName) && (xmem h1 (.native arraycopyName) && (xmem h2 (.static arraycopyName) && xmem h3 (.initialized "java/lang/System")))
    | 13 => false
    | 14 => false
    | 15 => false
    | _ => true
  | 11 => match (pool k).1 with
    | 3 => L.1.elem ((pool k).2.1, (pool k).2.2.1) && (decide ((mt (pool k).2.1).2.2.2.2 = none ∧ (mt (pool k).2.1).2.2.2.1 = none ∧ (mt (pool k).2.1).1.name = "<init>") && ((xmem h2 (.methodLink own k (mt (pool k).2.1).1) || L.2.2.2.2.2.any (fun t => decide (t.1 = own) && (Nat.beq t.2.1 k && Nat.beq t.2.2.1 (pool k).2.1))) && xmem h3 (.instanceMethod (mt (pool k).2.1).1)))
    | 4 => xmem h0 (.methodLink own k Lib.objectInit) && (xmem h1 (.instanceMethod Lib.objectInit) && xmem h2 (.code Lib.objectInit { data := #[177] } 1 none))
    | _ => true
  | _ => false
set_option maxHeartbeats 1000000 in
theorem xuB_ok {S : State} {ad : Nat → Nat} {mt : Nat → xY} {L : xSL} {own : String} {pool : Nat → xP} {u k h0 h1 h2 h3 h4 : Nat} (Z : xSf S ad mt L) (h : xuB mt L own pool u k h0 h1 h2 h3 h4 = true) : xIu S ad mt own pool u k := by
  obtain ⟨z0, z1, z2, z3, z4, z5, z6, z7⟩ := Z
  have pk : ∀ {t : Nat}, (pool k).1 = t → (match t with
    | 8 => xmem h0 (.constant own k (Int32.ofNat (pool k).2.1))
    | 9 => xmem h0 (.constantLong own k (Int64.ofNat (pool k).2.1))
    | 7 => L.2.2.2.1.elem (own, (k, (pool k).2.1))
    | _ => true) = true → xPk S ad own k (pool k) := by
    intro t ht h
    refine ⟨fun e => ?_, fun e => ?_, fun e => ?_⟩ <;> rw [← ht, e] at h
    · exact xmem_ok h
    · exact xmem_ok h
    · exact z3 _ (List.elem_iff.mp h)
  match u, h with
  | 0, h =>
    refine ⟨fun e => ?_, fun e => ?_, fun e => ?_⟩ <;> (unfold xuB at h; rw [e] at h)
    · exact xgB_ok h
    · exact xmem_ok h
    · exact xmem_ok h
  | 1, h =>
    intro e
    unfold xuB at h
    rw [e] at h
    exact xfB_ok h
  | 2, h =>
    intro e
    unfold xuB at h
    rw [e] at h
    exact xcB_ok h
  | 3, h =>
    refine ⟨fun e => ?_, fun e => ?_⟩ <;> (unfold xuB at h; rw [e] at h)
    · obtain ⟨a, h⟩ := and_true' h
      obtain ⟨b, c⟩ := and_true' h
      exact ⟨Nat.le_of_ble_eq_true a, xmem_ok b, z1 _ (List.elem_iff.mp c)⟩
    · obtain ⟨a, h⟩ := and_true' h
      obtain ⟨b, c⟩ := and_true' h
      exact ⟨Nat.le_of_ble_eq_true a, xmem_ok b, z2 _ (List.elem_iff.mp c)⟩
  | 4, h =>
    intro e
    unfold xuB at h
    rw [e] at h
    obtain ⟨b, c⟩ := and_true' h
    exact ⟨xmem_ok b, z2 _ (List.elem_iff.mp c)⟩
  | 5, h => exact pk rfl h
  | 6, h =>
    have hn : ¬ (pool k).1 = 7 := fun e => by unfold xuB at h; rw [e] at h; cases h
    refine ⟨⟨fun e => ?_, fun e => ?_, fun e => absurd e hn⟩, hn⟩ <;> (unfold xuB at h; rw [e] at h)
    · exact xmem_ok h
    · exact xmem_ok h
  | 7, h => exact pk rfl h
  | 8, h =>
    refine ⟨fun e => ?_, fun e => ?_, fun e => ?_⟩ <;> (unfold xuB at h; rw [e] at h)
    · have h : (match L.2.2.2.2.1.find? (fun t => Nat.beq t.2.2.2 (pool k).2.1) with
        | some t => xmem h0 (.fieldLink own k t.1 t.2.1 t.2.2.1)
        | none => false) = true := h
      split at h
      · next t ht =>
        have h1 := List.mem_of_find?_eq_some ht
        have h2' : Nat.beq t.2.2.2 (pool k).2.1 = true := List.find?_some (p := fun (t : String × (String × (String × Nat))) => Nat.beq t.2.2.2 (pool k).2.1) ht
        have h2 := Nat.eq_of_beq_eq_true h2'
        exact ⟨t.1, t.2.1, t.2.2.1, xmem_ok h, by rw [← h2]; exact z4 t h1⟩
      · cases h
    · exact ⟨_, _, _, xmem_ok h, z6⟩
    · exact ⟨_, _, _, xmem_ok h, z7⟩
  | 9, h =>
    intro hor
    rcases hor with e | e <;> (unfold xuB at h; rw [e] at h)
    · obtain ⟨a, h⟩ := and_true' h
      obtain ⟨b, h⟩ := and_true' h
      obtain ⟨c, h⟩ := and_true' h
      obtain ⟨d, h⟩ := and_true' h
      refine ⟨z0 _ (List.elem_iff.mp a), of_decide_eq_true b, xmem_ok c, xmem_ok d, fun _ => ?_, fun e2 => by rw [e] at e2; cases e2⟩
      split at h
      · next q hq => exact ⟨q.1, q.2.1, q.2.2, hq, xmem_ok h⟩
      · cases h
    · obtain ⟨a, h⟩ := and_true' h
      obtain ⟨b, h⟩ := and_true' h
      obtain ⟨c, h⟩ := and_true' h
      obtain ⟨d, h⟩ := and_true' h
      exact ⟨z0 _ (List.elem_iff.mp a), of_decide_eq_true b, xmem_ok c, xmem_ok d, fun e2 => (by rw [e] at e2; cases e2), fun _ => xmem_ok h⟩
  | 10, h =>
    refine ⟨fun e => ?_, fun e => ?_, fun e => ?_, fun e => ?_, fun e => ?_⟩ <;> (unfold xuB at h; rw [e] at h)
    · obtain ⟨a, h⟩ := and_true' h
      obtain ⟨b, c⟩ := and_true' h
      exact ⟨z0 _ (List.elem_iff.mp a), xmem_ok b, xmem_ok c⟩
    · obtain ⟨a, h⟩ := and_true' h
      obtain ⟨b, h⟩ := and_true' h
      obtain ⟨c, d⟩ := and_true' h
      exact ⟨xmem_ok a, xmem_ok b, xmem_ok c, xmem_ok d⟩
    · cases h
    · cases h
    · cases h
  | 11, h =>
    refine ⟨fun e => ?_, fun e => ?_⟩ <;> (unfold xuB at h; rw [e] at h)
    · obtain ⟨a, h⟩ := and_true' h
      obtain ⟨b, h⟩ := and_true' h
      obtain ⟨c, d⟩ := and_true' h
      obtain ⟨b1, b2, b3⟩ := of_decide_eq_true b
      refine ⟨z0 _ (List.elem_iff.mp a), b1, b2, b3, ?_, xmem_ok d⟩
      cases hm : xmem h2 (.methodLink own k (mt (pool k).2.1).1) with
      | true => exact Or.inl (xmem_ok hm)
      | false =>
        rw [hm, Bool.false_or] at c
        obtain ⟨t, t1, t2⟩ := List.any_eq_true.mp c
        obtain ⟨t3, t4⟩ := and_true' t2
        obtain ⟨t4, t5⟩ := and_true' t4
        refine Or.inr ⟨t.2.2.2, ?_⟩
        have := z5 t t1
        rw [of_decide_eq_true t3, Nat.eq_of_beq_eq_true t4, Nat.eq_of_beq_eq_true t5] at this
        exact this
    · obtain ⟨a, h⟩ := and_true' h
      obtain ⟨b, c⟩ := and_true' h
      exact ⟨xmem_ok a, xmem_ok b, xmem_ok c⟩
  | _ + 12, h => cases h
end
section
/-! ===== the rows of the tables ===== -/
noncomputable def xallB {α : Type} (f : α → Bool) : Lean.RArray α → Bool := Lean.RArray.rec (fun x => f x) (fun _ _ _ l r => l && r)
theorem xallB_ok {α : Type} {f : α → Bool} {P : α → Prop} (hf : ∀ x, f x = true → P x) : ∀ {t : Lean.RArray α}, xallB f t = true → xall P t := by
  intro t
  induction t with
  | leaf x => intro h; exact hf x h
  | branch p l r ihl ihr =>
    intro h
    obtain ⟨h1, h2⟩ := and_true' (show (xallB f l && xallB f r) = true from h)
    exact ⟨ihl h1, ihr h2⟩
/-- an instruction's use of the pool: its sort and its place -/
def xus (pool : Nat → xP) (i : Instr) : Option (Nat × Nat) := match i with
  | .getfield k => some (0, k)
  | .putfield k => some (1, k)
  | .new k => cond (Nat.beq (pool k).1 11) none (some (2, k))
  | .anewarray k => some (3, k)
  | .multianewarray k _ => some (4, k)
  | .ldc k => some (5, k)
  | .ldc_w k => some (6, k)
  | .ldc2_w k => some (7, k)
  | .getstatic k => some (8, k)
  | .invokevirtual k => some (9, k)
  | .invokestatic k => some (10, k)
  | .invokespecial k => some (11, k)
  | _ => none
def xusB (lst : Nat → Nat → Bool) (o : Option (Nat × Nat)) : Bool := match o with
  | some q => lst q.1 q.2
  | none => true
def xthB (pool : Nat → xP) (thr : List (Nat × (Nat × Nat))) (pc : Nat) (i : Instr) : Bool := match i with
  | .new k => !(Nat.beq (pool k).1 11) || thr.elem (pc, (k, (pool k).2.1))
  | .multianewarray _ d => Nat.beq d 2
  | _ => true
def xrowB (cc : ByteArray) (pool : Nat → xP) (nL : Nat) (ini : Bool) (rk : Nat) (lst : Nat → Nat → Bool) (thr : List (Nat × (Nat × Nat))) (x : xI) : Bool :=
  decide (decode cc x.1 = .ok (x.2.1, x.2.2.1)) && (Nat.beq x.2.2.1 (xlen x.2.1 x.2.2.1) && (Nat.beq x.2.2.2 (Nat.add x.1 x.2.2.1) && (xsto nL x.2.1 && (xpfo ini pool x.2.1 && (xro rk x.2.1 && (xusB lst (xus pool x.2.1) && xthB pool thr x.1 x.2.1))))))
theorem xIc_of {S : State} {ad : Nat → Nat} {mt : Nat → xY} {own : String} {cc : ByteArray} {hh : List (Nat × (Nat × (Nat × Nat)))} {pool : Nat → xP} {lst : Nat → Nat → Bool} {thr : List (Nat × (Nat × Nat))}
    (hu : ∀ u k, lst u k = true → xIu S ad mt own pool u k) (ht : ∀ t ∈ thr, xTh S own cc hh t.1 t.2.1 t.2.2) {pc : Nat} {i : Instr} (a7 : xusB lst (xus pool i) = true) (a8 : xthB pool thr pc i = true) : xIc S ad mt own cc hh pool pc i := by
  cases i
  case getfield k => exact hu 0 k a7
  case putfield k => exact hu 1 k a7
  case anewarray k => exact hu 3 k a7
  case ldc k => exact hu 5 k a7
  case ldc_w k => exact hu 6 k a7
  case ldc2_w k => exact hu 7 k a7
  case getstatic k => exact hu 8 k a7
  case invokevirtual k => exact hu 9 k a7
  case invokestatic k => exact hu 10 k a7
  case invokespecial k => exact hu 11 k a7
  case multianewarray k d => exact ⟨Nat.eq_of_beq_eq_true a8, hu 4 k a7⟩
  case new k =>
    have c7 : xusB lst (cond (Nat.beq (pool k).1 11) none (some (2, k))) = true := a7
    have c8 : (!(Nat.beq (pool k).1 11) || thr.elem (pc, (k, (pool k).2.1))) = true := a8
    refine ⟨fun e => ?_, fun e => ?_⟩
    · rw [e] at c7
      exact hu 2 k c7 e
    · rw [e] at c8
      exact ht _ (List.elem_iff.mp c8)
  all_goals trivial
theorem xrowB_ok {S : State} {ad : Nat → Nat} {mt : Nat → xY} {own : String} {cc : ByteArray} {hh : List (Nat × (Nat × (Nat × Nat)))} {pool : Nat → xP} {nL : Nat} {ini : Bool} {rk : Nat} {lst : Nat → Nat → Bool} {thr : List (Nat × (Nat × Nat))} {x : xI}
    (hu : ∀ u k, lst u k = true → xIu S ad mt own pool u k) (ht : ∀ t ∈ thr, xTh S own cc hh t.1 t.2.1 t.2.2) (h : xrowB cc pool nL ini rk lst thr x = true) : xOk S ad mt own cc hh pool nL ini rk x := by
  obtain ⟨a1, h⟩ := and_true' h
  obtain ⟨a2, h⟩ := and_true' h
  obtain ⟨a3, h⟩ := and_true' h
  obtain ⟨a4, h⟩ := and_true' h
  obtain ⟨a5, h⟩ := and_true' h
  obtain ⟨a6, h⟩ := and_true' h
  obtain ⟨b7, b8⟩ := and_true' h
  refine ⟨of_decide_eq_true a1, Nat.eq_of_beq_eq_true a2, Nat.eq_of_beq_eq_true a3, a4, a5, a6, ?_⟩
  exact xIc_of hu ht b7 b8
/-- a method's table by one evaluation -/
theorem xMc_of {S : State} {ad : Nat → Nat} {mt : Nat → xY} {pools : Lean.RArray (Lean.RArray (Nat × xP))} {q : xY} {M : xM} {lst : Nat → Nat → Bool} {thr : List (Nat × (Nat × Nat))} (ini : Bool) (i0 : Nat) (h1 : (decide (plainName q.1.cls = true) && (xmem i0 (xcw q) && (Nat.beq M.2.1 q.2.2.1 && (!ini || decide (q.1.name = "<init>"))))) = true) (h2 : xRk M.2.2.1 q.2.2.2.1) (h3 : xHs q.1.cls M.2.2.2.2 (xhh q))
    (hu : ∀ u k, lst u k = true → xIu S ad mt q.1.cls (xpool (xget pools M.2.2.2.1)) u k) (ht : ∀ t ∈ thr, xTh S q.1.cls q.2.1 (xhh q) t.1 t.2.1 t.2.2)
    (h : xallB (xrowB q.2.1 (xpool (xget pools M.2.2.2.1)) q.2.2.1 ini M.2.2.1 lst thr) M.1 = true) : xMc S ad mt pools q M := by
  obtain ⟨a, h1⟩ := and_true' h1
  obtain ⟨b, h1⟩ := and_true' h1
  obtain ⟨c, d⟩ := and_true' h1
  refine ⟨of_decide_eq_true a, xmem_ok b, Nat.eq_of_beq_eq_true c, h2, h3, ini, fun e => ?_, xallB_ok (fun x hx => xrowB_ok hu ht hx) h⟩
  rw [e] at d
  exact of_decide_eq_true d
/-- pairs of tables of one shape -/
def xall2 {α β : Type} (P : α → β → Prop) : Lean.RArray α → Lean.RArray β → Prop :=
  Lean.RArray.rec (fun x u => Lean.RArray.casesOn u (fun y => P x y) (fun _ _ _ => False)) (fun p _ _ l r u => Lean.RArray.casesOn u (fun _ => False) (fun p' l' r' => p = p' ∧ l l' ∧ r r'))
theorem xall2_get {α β : Type} {P : α → β → Prop} : ∀ {t : Lean.RArray α} {u : Lean.RArray β}, xall2 P t u → ∀ n, P (xget t n) (xget u n) := by
  intro t
  induction t with
  | leaf x =>
    intro u h n
    cases u with
    | leaf y => exact h
    | branch p l r => exact h.elim
  | branch p l r ihl ihr =>
    intro u h n
    cases u with
    | leaf y => exact h.elim
    | branch p' l' r' =>
      obtain ⟨e, h1, h2⟩ := (show p = p' ∧ xall2 P l l' ∧ xall2 P r r' from h)
      rw [xget_branch, xget_branch, ← e]
      cases Nat.ble p n
      · exact ihl h1 n
      · exact ihr h2 n
end
section
set_option maxRecDepth 1000000 in
set_option maxHeartbeats 0 in
theorem ztry2 : ((vx_atS RX12 114 (xen 1) ["java/lang/RuntimeException", "java/lang/Exception"]).all (fun w => decide (w ∈ lw_tbl))) = true := by decide +kernel
end
