/-! ===== the reference: its cells by roles ===== -/
def t_M : List zT := [(0, (0, 3)), (2, (((2 ^ 117 : Nat) : Int), 0)), (2, (((2 ^ 118 : Nat) : Int), 0)), (2, (((2 ^ 119 : Nat) : Int), 0)), (2, (((2 ^ 120 : Nat) : Int), 0)), (2, (((2 ^ 121 : Nat) : Int), 0)), (2, (((2 ^ 122 : Nat) : Int), 0)), (2, (((2 ^ 123 : Nat) : Int), 0)), (2, (((2 ^ 124 : Nat) : Int), 0)), (2, (((2 ^ 125 : Nat) : Int), 0)), (0, (0, 40)), (1, (0, 2147483647)), (2, (((2 ^ 126 : Nat) : Int), 0)), (2, (((2 ^ 127 : Nat) : Int), 0)), (2, (((2 ^ 128 : Nat) : Int), 0)), (0, (0, 4000)), (2, (((2 ^ 129 : Nat) : Int), 0)), (2, (((2 ^ 130 : Nat) : Int), 0)), (0, (0, 4000)), (0, (0, 4000)), (0, (0, 4000)), (0, ((-1), 4000)), (2, (((2 ^ 131 : Nat) : Int), 0)), (2, (((2 ^ 132 : Nat) : Int), 0)), (2, (((2 ^ 133 : Nat) : Int), 0)), (2, (((2 ^ 134 : Nat) : Int), 0)), (2, (((2 ^ 135 : Nat) : Int), 0)), (2, (((2 ^ 136 : Nat) : Int), 0)), (2, (((2 ^ 137 : Nat) : Int), 0)), (2, (((2 ^ 138 : Nat) : Int), 0)), (2, (((2 ^ 139 : Nat) : Int), 0)), (2, (((2 ^ 140 : Nat) : Int), 0)), (2, (((2 ^ 141 : Nat) : Int), 0)), (2, (((2 ^ 142 : Nat) : Int), 0)), (2, (((2 ^ 143 : Nat) : Int), 0)), (2, (((2 ^ 144 : Nat) : Int), 0)), (2, (((2 ^ 145 : Nat) : Int), 0)), (2, (((2 ^ 146 : Nat) : Int), 0)), (0, (0, 16)), (2, (((2 ^ 147 : Nat) : Int), 0)), (0, (0, 1)), (2, (((2 ^ 148 : Nat) : Int), 0)), (2, (((2 ^ 149 : Nat) : Int), 0)), (2, (((2 ^ 150 : Nat) : Int), 0)), (2, (((2 ^ 151 : Nat) : Int), 0)), (0, ((-2147483648), 2147483647)), (0, ((-2147483648), 2147483647)), (0, ((-2147483648), 2147483647)), (2, (((2 ^ 152 : Nat) : Int), 0)), (0, (0, 1)), (0, (0, 20)), (2, (((2 ^ 153 : Nat) : Int), 0)), (2, (((2 ^ 154 : Nat) : Int), 0)), (2, (((2 ^ 155 : Nat) : Int), 0)), (2, (((2 ^ 156 : Nat) : Int), 0)), (2, (((2 ^ 157 : Nat) : Int), 0)), (0, (0, 32)), (2, (((2 ^ 158 : Nat) : Int), 0)), (2, (((2 ^ 159 : Nat) : Int), 0)), (2, (((2 ^ 160 : Nat) : Int), 0)), (2, (((2 ^ 161 : Nat) : Int), 0)), (2, (((2 ^ 162 : Nat) : Int), 0)), (0, (0, 1)), (2, (((2 ^ 163 : Nat) : Int), 0)), (2, (((2 ^ 164 : Nat) : Int), 0)), (2, (((2 ^ 165 : Nat) : Int), 0)), (2, (((2 ^ 166 : Nat) : Int), 0)), (2, (((2 ^ 167 : Nat) : Int), 0)), (0, (0, 1)), (0, (0, 3)), (0, (0, 1)), (0, (0, 19)), (0, (0, 15)), (0, (0, 99)), (0, (0, 1)), (0, (0, 15)), (0, (0, 1)), (0, (0, 1)), (0, (0, 16)), (2, (((2 ^ 168 : Nat) : Int), 0)), (2, (((2 ^ 169 : Nat) : Int), 0)), (2, (((2 ^ 170 : Nat) : Int), 0)), (2, (((2 ^ 171 : Nat) : Int), 0)), (2, (((2 ^ 172 : Nat) : Int), 0)), (2, (((2 ^ 173 : Nat) : Int), 0)), (2, (((2 ^ 174 : Nat) : Int), 0)), (2, (((2 ^ 175 : Nat) : Int), 0)), (0, (0, 9999999)), (0, (0, 1)), (0, ((-1), 1)), (0, (0, 1)), (0, (0, 2147483647)), (2, (((2 ^ 176 : Nat) : Int), 0)), (2, (((2 ^ 177 : Nat) : Int), 0)), (2, (((2 ^ 178 : Nat) : Int), 0)), (2, (((2 ^ 179 : Nat) : Int), 0)), (2, (((2 ^ 180 : Nat) : Int), 0)), (2, (((2 ^ 181 : Nat) : Int), 0)), (2, (((2 ^ 182 : Nat) : Int), 0)), (2, (((2 ^ 183 : Nat) : Int), 0)), (0, (0, 24)), (0, (0, 2)), (0, (0, 6)), (2, (((2 ^ 184 : Nat) : Int), 0)), (2, (((2 ^ 185 : Nat) : Int), 0)), (2, (((2 ^ 186 : Nat) : Int), 0)), (2, (((2 ^ 187 : Nat) : Int), 0)), (2, (((2 ^ 188 : Nat) : Int), 0)), (2, (((2 ^ 189 : Nat) : Int), 0)), (2, (((2 ^ 190 : Nat) : Int), 0)), (0, (0, 42)), (1, ((-1000000), 1000000)), (0, (0, 15)), (0, (0, 1)), (0, (0, 12)), (2, (((2 ^ 191 : Nat) : Int), 0)), (2, (((2 ^ 192 : Nat) : Int), 0)), (2, (((2 ^ 193 : Nat) : Int), 0)), (0, (0, 12)), (0, (0, 2500)), (2, (((2 ^ 194 : Nat) : Int), 0)), (2, (((2 ^ 195 : Nat) : Int), 0)), (2, (((2 ^ 196 : Nat) : Int), 0)), (0, (0, 24)), (2, (((2 ^ 197 : Nat) : Int), 0)), (2, (((2 ^ 198 : Nat) : Int), 0)), (2, (((2 ^ 199 : Nat) : Int), 0)), (2, (((2 ^ 200 : Nat) : Int), 0)), (2, (((2 ^ 201 : Nat) : Int), 0)), (2, (((2 ^ 202 : Nat) : Int), 0)), (2, (((2 ^ 203 : Nat) : Int), 0)), (2, (((2 ^ 204 : Nat) : Int), 0)), (2, (((2 ^ 205 : Nat) : Int), 0)), (2, (((2 ^ 206 : Nat) : Int), 0)), (2, (((2 ^ 207 : Nat) : Int), 0)), (0, ((-1), 11)), (2, (((2 ^ 208 : Nat) : Int), 0)), (0, (0, 3)), (2, (((2 ^ 209 : Nat) : Int), 0)), (2, (((2 ^ 210 : Nat) : Int), 0)), (0, (0, 8)), (2, (((2 ^ 211 : Nat) : Int), 0)), (0, ((-2147483648), 2147483647)), (2, (((2 ^ 212 : Nat) : Int), 0)), (2, (((2 ^ 213 : Nat) : Int), 0))]
def t_M_big : List zT := [(0, (0, 999999999))]
def t_M_length : List zT := [(0, (0, 256))]
def t_M_sign : List zT := [(0, ((-1), 1))]
def t_M_product : List zT := [(0, (0, 999999999))]
def t_M_upper : List zT := [(0, (0, 999999999))]
def t_M_lower : List zT := [(0, (0, 999999999))]
def t_M_inverseOf : List zT := [(1, (0, 2147483647))]
def t_M_residue : List zT := [(1, (0, 2147483647))]
def t_M_used : List zT := [(0, (0, 39))]
def t_M_matrix : List zT := [(1, (0, 2147483647))]
def t_M_mixed : List zT := [(1, (0, 2147483647))]
def t_M_tape : List zT := [(0, (0, 255))]
def t_M_wordAt : List zT := [(0, (0, 4000))]
def t_M_wordSize : List zT := [(0, (0, 4000))]
def t_M_count : List zT := [(0, (0, 16)), (0, (0, 24)), (0, (0, 20)), (0, (0, 6)), (0, (0, 12))]
def t_M_field : List zT := (List.range 1320).map yfT
def t_M_name : List zT := [(0, (0, 255))]
def t_M_nameSize : List zT := [(0, (0, 8))]
def t_M_newCount : List zT := [(0, (0, 16)), (0, (0, 24)), (0, (0, 20)), (0, (0, 6)), (0, (0, 12))]
def t_M_newField : List zT := (List.range 1320).map ynT
def t_M_newName : List zT := [(0, (0, 255))]
def t_M_newSize : List zT := [(0, (0, 8))]
def t_M_kept : List zT := (List.range 1320).map yfT
def t_M_isKept : List zT := [(0, (0, 1))]
def t_M_stateNow : List zT := [(0, (0, 2))]
def t_M_inNow : List zT := [(0, (0, 1))]
def t_M_node : List zT := [(0, (0, 0)), (0, (0, 1)), (0, (0, 2)), (0, (0, 3)), (0, (0, 4)), (0, (0, 5)), (0, (0, 6)), (0, (0, 7)), (0, (0, 8)), (0, (0, 9)), (0, (0, 10)), (0, (0, 11)), (0, (0, 12)), (0, (0, 13)), (0, (0, 14)), (0, (0, 15))]
def t_M_island : List zT := [(0, (0, 0)), (0, (0, 1)), (0, (0, 2)), (0, (0, 3)), (0, (0, 4)), (0, (0, 5)), (0, (0, 6)), (0, (0, 7)), (0, (0, 8)), (0, (0, 9)), (0, (0, 10)), (0, (0, 11)), (0, (0, 12)), (0, (0, 13)), (0, (0, 14)), (0, (0, 15))]
def t_M_isLive : List zT := [(0, (0, 1))]
def t_M_nodeAt : List zT := [(0, (0, 15))]
def t_M_placeOf : List zT := [(0, ((-1), 14))]
def t_M_isStuck : List zT := [(0, (0, 1))]
def t_M_lack : List zT := [(1, ((-59994), 119988))]
def t_M_share : List zT := [(1, (0, 54))]
def t_M_isOver : List zT := [(0, (0, 1))]
def t_M_putIn : List zT := [(1, ((-9223372036854775808), 9223372036854775807))]
def t_M_isScreened : List zT := [(0, (0, 1))]
def t_M_troubleLine : List zT := [(0, (0, 19))]
def t_M_troubleSort : List zT := [(0, (0, 3))]
def t_M_troubleLost : List zT := [(0, ((-2147483648), 2147483647))]
def t_M_troubleOver : List zT := [(0, ((-2147483648), 2147483647))]
def t_M_meterKind : List zT := [(0, (0, 2))]
def t_M_meterAt : List zT := [(0, (0, 19))]
def t_M_meterValue : List zT := [(0, ((-99999), 99999))]
def t_M_meterWeight : List zT := [(0, (0, 99))]
def t_M_isStruck : List zT := [(0, (0, 1))]
def t_M_isWhole : List zT := [(0, (0, 1))]
def t_M_isSeen : List zT := [(0, (0, 1))]
def t_M_shows : List zT := [(1, (0, 2147483647))]
def t_M_conductance : List zT := [(1, (0, 2147483647))]
def t_M_rankWith : List zT := [(0, (0, 16))]
def t_M_relayLine : List zT := [(0, (0, 19))]
def t_M_relayEnd : List zT := [(0, (0, 1))]
def t_M_relaySwitch : List zT := [(0, (0, 23))]
def t_M_relayKind : List zT := [(0, (0, 1))]
def t_M_rowCount : List zT := [(0, (0, 4))]
def t_M_setting : List zT := [(0, (0, 99999))]
def t_M_delay : List zT := [(0, (0, 9999999))]
def t_M_doesFail : List zT := [(0, (0, 1))]
def t_M_runState : List zT := [(0, (0, 2))]
def t_M_hasOrder : List zT := [(0, (0, 1))]
def t_M_opensAt : List zT := [(1, ((-1), 4294967295))]
def t_M_backupAt : List zT := [(1, ((-1), 4294967295))]
def t_M_since : List zT := [(1, ((-1), 2147483647))]
def t_M_hasTripped : List zT := [(0, (0, 1))]
def t_M_openedSwitch : List zT := [(0, (0, 23))]
def t_M_openedAt : List zT := [(0, ((-2147483648), 2147483647))]
def t_M_machineAt : List zT := [(0, (0, 5))]
def t_M_low : List zT := [(0, (0, 9999))]
def t_M_high : List zT := [(0, (0, 9999))]
def t_M_slope : List zT := [(0, (0, 999))]
def t_M_dimensions : List zT := [(0, (0, 5))]
def t_M_rowsAt : List zT := [(0, (0, 64))]
def t_M_machineOf : List zT := [(0, (0, 5))]
def t_M_ruleAct : List zT := [(0, (0, 5))]
def t_M_ruleFrom : List zT := [(0, (0, 2500))]
def t_M_code : List zT := [(0, (0, 11)), (0, (0, 1)), (0, ((-3), 23)), (0, ((-3), 999999))]
def t_M_newAct : List zT := [(0, (0, 5))]
def t_M_newFrom : List zT := [(0, (0, 2500))]
def t_M_newCode : List zT := [(0, (0, 11)), (0, (0, 1)), (0, ((-3), 23)), (0, ((-3), 999999))]
def t_M_stepAct : List zT := [(0, (0, 5))]
def t_M_stepOf : List zT := [(0, (0, 23))]
def t_M_newStepAct : List zT := [(0, (0, 5))]
def t_M_newStepOf : List zT := [(0, (0, 23))]
def t_M_seenField : List zT := (List.range 1320).map yfT
def t_M_seenNode : List zT := [(0, (0, 15))]
def t_M_seenLive : List zT := [(0, (0, 1))]
def t_M_seenLost : List zT := [(0, ((-2147483648), 2147483647))]
def t_M_seenOver : List zT := [(0, ((-2147483648), 2147483647))]
def t_M_seenLoops : List zT := [(0, ((-2147483648), 2147483647))]
def t_M_pile : List zT := [(0, (0, 1))]
def t_M_fieldsBefore : List zT := (List.range 1320).map yfT
def t_M_restoredSwitch : List zT := [(0, (0, 23))]
def t_M_openSwitch : List zT := [(0, (0, 23))]
def t_M_row : List zT := [(0, (0, 23))]
def t_M_isWell : List zT := [(0, (0, 2))]
def t_M_lostBy : List zT := [(0, ((-2147483648), 2147483647))]
def t_M_PRIME : List zT := [(0, (2147482801, 2147483647))]
def mRL : List (Nat × zD) := [(116, .inl (13, t_M)),
  (117, .inr (.inl (0, (1, t_M_big)))),
  (118, .inr (.inl (0, (1, t_M_length)))),
  (119, .inr (.inl (0, (1, t_M_sign)))),
  (120, .inr (.inl (0, (1, t_M_product)))),
  (121, .inr (.inl (0, (1, t_M_upper)))),
  (122, .inr (.inl (0, (1, t_M_lower)))),
  (123, .inr (.inl (1, (1, t_M_inverseOf)))),
  (124, .inr (.inl (1, (1, t_M_residue)))),
  (125, .inr (.inl (0, (1, t_M_used)))),
  (126, .inr (.inl (1, (1, t_M_matrix)))),
  (127, .inr (.inl (1, (1, t_M_mixed)))),
  (128, .inr (.inl (0, (1, t_M_tape)))),
  (129, .inr (.inl (0, (1, t_M_wordAt)))),
  (130, .inr (.inl (0, (1, t_M_wordSize)))),
  (131, .inr (.inl (0, (5, t_M_count)))),
  (132, .inr (.inl (0, (1320, t_M_field)))),
  (133, .inr (.inl (0, (1, t_M_name)))),
  (134, .inr (.inl (0, (1, t_M_nameSize)))),
  (135, .inr (.inl (0, (5, t_M_newCount)))),
  (136, .inr (.inl (0, (1320, t_M_newField)))),
  (137, .inr (.inl (0, (1, t_M_newName)))),
  (138, .inr (.inl (0, (1, t_M_newSize)))),
  (139, .inr (.inl (0, (1320, t_M_kept)))),
  (140, .inr (.inl (2, (1, t_M_isKept)))),
  (141, .inr (.inl (0, (1, t_M_stateNow)))),
  (142, .inr (.inl (0, (1, t_M_inNow)))),
  (143, .inr (.inl (0, (16, t_M_node)))),
  (144, .inr (.inl (0, (16, t_M_island)))),
  (145, .inr (.inl (2, (1, t_M_isLive)))),
  (146, .inr (.inl (0, (1, t_M_nodeAt)))),
  (147, .inr (.inl (0, (1, t_M_placeOf)))),
  (148, .inr (.inl (2, (1, t_M_isStuck)))),
  (149, .inr (.inl (1, (1, t_M_lack)))),
  (150, .inr (.inl (1, (1, t_M_share)))),
  (151, .inr (.inl (2, (1, t_M_isOver)))),
  (152, .inr (.inl (1, (1, t_M_putIn)))),
  (153, .inr (.inl (2, (1, t_M_isScreened)))),
  (154, .inr (.inl (0, (1, t_M_troubleLine)))),
  (155, .inr (.inl (0, (1, t_M_troubleSort)))),
  (156, .inr (.inl (0, (1, t_M_troubleLost)))),
  (157, .inr (.inl (0, (1, t_M_troubleOver)))),
  (158, .inr (.inl (0, (1, t_M_meterKind)))),
  (159, .inr (.inl (0, (1, t_M_meterAt)))),
  (160, .inr (.inl (0, (1, t_M_meterValue)))),
  (161, .inr (.inl (0, (1, t_M_meterWeight)))),
  (162, .inr (.inl (2, (1, t_M_isStruck)))),
  (163, .inr (.inl (2, (1, t_M_isWhole)))),
  (164, .inr (.inl (2, (1, t_M_isSeen)))),
  (165, .inr (.inl (1, (1, t_M_shows)))),
  (166, .inr (.inl (1, (1, t_M_conductance)))),
  (167, .inr (.inl (0, (1, t_M_rankWith)))),
  (168, .inr (.inl (0, (1, t_M_relayLine)))),
  (169, .inr (.inl (0, (1, t_M_relayEnd)))),
  (170, .inr (.inl (0, (1, t_M_relaySwitch)))),
  (171, .inr (.inl (0, (1, t_M_relayKind)))),
  (172, .inr (.inl (0, (1, t_M_rowCount)))),
  (173, .inr (.inl (0, (1, t_M_setting)))),
  (174, .inr (.inl (0, (1, t_M_delay)))),
  (175, .inr (.inl (2, (1, t_M_doesFail)))),
  (176, .inr (.inl (0, (1, t_M_runState)))),
  (177, .inr (.inl (2, (1, t_M_hasOrder)))),
  (178, .inr (.inl (1, (1, t_M_opensAt)))),
  (179, .inr (.inl (1, (1, t_M_backupAt)))),
  (180, .inr (.inl (1, (1, t_M_since)))),
  (181, .inr (.inl (2, (1, t_M_hasTripped)))),
  (182, .inr (.inl (0, (1, t_M_openedSwitch)))),
  (183, .inr (.inl (0, (1, t_M_openedAt)))),
  (184, .inr (.inl (0, (1, t_M_machineAt)))),
  (185, .inr (.inl (0, (1, t_M_low)))),
  (186, .inr (.inl (0, (1, t_M_high)))),
  (187, .inr (.inl (0, (1, t_M_slope)))),
  (188, .inr (.inl (0, (1, t_M_dimensions)))),
  (189, .inr (.inl (0, (1, t_M_rowsAt)))),
  (190, .inr (.inl (0, (1, t_M_machineOf)))),
  (191, .inr (.inl (0, (1, t_M_ruleAct)))),
  (192, .inr (.inl (0, (1, t_M_ruleFrom)))),
  (193, .inr (.inl (0, (4, t_M_code)))),
  (194, .inr (.inl (0, (1, t_M_newAct)))),
  (195, .inr (.inl (0, (1, t_M_newFrom)))),
  (196, .inr (.inl (0, (4, t_M_newCode)))),
  (197, .inr (.inl (0, (1, t_M_stepAct)))),
  (198, .inr (.inl (0, (1, t_M_stepOf)))),
  (199, .inr (.inl (0, (1, t_M_newStepAct)))),
  (200, .inr (.inl (0, (1, t_M_newStepOf)))),
  (201, .inr (.inl (0, (1320, t_M_seenField)))),
  (202, .inr (.inl (0, (1, t_M_seenNode)))),
  (203, .inr (.inl (2, (1, t_M_seenLive)))),
  (204, .inr (.inl (0, (1, t_M_seenLost)))),
  (205, .inr (.inl (0, (1, t_M_seenOver)))),
  (206, .inr (.inl (0, (1, t_M_seenLoops)))),
  (207, .inr (.inl (2, (1, t_M_pile)))),
  (208, .inr (.inl (0, (1320, t_M_fieldsBefore)))),
  (209, .inr (.inl (0, (1, t_M_restoredSwitch)))),
  (210, .inr (.inl (0, (1, t_M_openSwitch)))),
  (211, .inr (.inl (0, (1, t_M_row)))),
  (212, .inr (.inl (0, (1, t_M_isWell)))),
  (213, .inr (.inl (0, (1, t_M_lostBy)))),
  (13, .inr (.inl (0, (1, t_M_PRIME))))]
def mLL : List (Nat × (Nat × Nat)) := [(117, (873472, 873472)), (118, (3412, 3412)), (119, (3412, 3412)), (120, (512, 512)), (121, (258, 258)), (122, (258, 258)), (123, (1600, 1600)), (124, (7200, 7200)), (125, (40, 40)), (126, (960, 960)), (127, (40, 40)), (128, (4000, 4000)), (129, (4001, 4001)), (130, (4001, 4001)), (131, (5, 5)), (132, (1320, 1320)), (133, (960, 960)), (134, (120, 120)), (135, (5, 5)), (136, (1320, 1320)), (137, (960, 960)), (138, (120, 120)), (139, (3960, 3960)), (140, (3, 3)), (141, (24, 24)), (142, (20, 20)), (143, (16, 16)), (144, (16, 16)), (145, (16, 16)), (146, (16, 16)), (147, (16, 16)), (148, (16, 16)), (149, (16, 16)), (150, (16, 16)), (151, (20, 20)), (152, (16, 16)), (153, (20, 20)), (154, (20, 20)), (155, (20, 20)), (156, (20, 20)), (157, (20, 20)), (158, (32, 32)), (159, (32, 32)), (160, (32, 32)), (161, (32, 32)), (162, (32, 32)), (163, (16, 16)), (164, (16, 16)), (165, (512, 512)), (166, (20, 20)), (167, (16, 16)), (168, (16, 16)), (169, (16, 16)), (170, (16, 16)), (171, (16, 16)), (172, (16, 16)), (173, (64, 64)), (174, (64, 64)), (175, (24, 24)), (176, (24, 24)), (177, (24, 24)), (178, (24, 24)), (179, (24, 24)), (180, (64, 64)), (181, (64, 64)), (182, (24, 24)), (183, (24, 24)), (184, (6, 6)), (185, (6, 6)), (186, (6, 6)), (187, (6, 6)), (188, (6, 6)), (189, (6, 6)), (190, (36, 36)), (191, (12, 12)), (192, (13, 13)), (193, (10000, 10000)), (194, (12, 12)), (195, (13, 13)), (196, (10000, 10000)), (197, (24, 24)), (198, (24, 24)), (199, (24, 24)), (200, (24, 24)), (201, (2640, 2640)), (202, (32, 32)), (203, (32, 32)), (204, (2, 2)), (205, (2, 2)), (206, (2, 2)), (207, (2500, 2500)), (208, (1320, 1320)), (209, (3, 3)), (210, (8, 8)), (211, (3, 3)), (212, (256, 256)), (213, (256, 256)), (13, (40, 40))]
def mSL : List (Nat × Nat) := [(116, 2073), (117, 2074), (118, 2075), (119, 2076), (120, 2077), (121, 2078), (122, 2079), (123, 2080), (124, 2081), (125, 2082), (126, 2083), (127, 2084), (128, 2085), (129, 2086), (130, 2087), (131, 2088), (132, 2089), (133, 2090), (134, 2091), (135, 2092), (136, 2093), (137, 2094), (138, 2095), (139, 2096), (140, 2097), (141, 2098), (142, 2099), (143, 2100), (144, 2101), (145, 2102), (146, 2103), (147, 2104), (148, 2105), (149, 2106), (150, 2107), (151, 2108), (152, 2109), (153, 2110), (154, 2111), (155, 2112), (156, 2113), (157, 2114), (158, 2115), (159, 2116), (160, 2117), (161, 2118), (162, 2119), (163, 2120), (164, 2121), (165, 2122), (166, 2123), (167, 2124), (168, 2125), (169, 2126), (170, 2127), (171, 2128), (172, 2129), (173, 2130), (174, 2131), (175, 2132), (176, 2133), (177, 2134), (178, 2135), (179, 2136), (180, 2137), (181, 2138), (182, 2139), (183, 2140), (184, 2141), (185, 2142), (186, 2143), (187, 2144), (188, 2145), (189, 2146), (190, 2147), (191, 2148), (192, 2149), (193, 2150), (194, 2151), (195, 2152), (196, 2153), (197, 2154), (198, 2155), (199, 2156), (200, 2157), (201, 2158), (202, 2159), (203, 2160), (204, 2161), (205, 2162), (206, 2163), (207, 2164), (208, 2165), (209, 2166), (210, 2167), (211, 2168), (212, 2169), (213, 2170), (13, 14)]
def mW (G : zW) : Prop := (∀ q ∈ mRL, xget G.1 q.1 = q.2) ∧ (∀ r k, bRo G r k → 116 ≤ r → r < 214 → 89 ≤ k) ∧ (∀ q ∈ mLL, ∀ k, bRo G q.1 k → q.2.1 ≤ zat G k ∧ zat G k ≤ q.2.2) ∧ (∀ q ∈ mSL, bRo G q.1 q.2 ∧ ∀ k, bRo G q.1 k → k = q.2) ∧ (∀ q ∈ yW4, yTX G q.1 q.2.1 q.2.2)
theorem yfT_ix {j s k : Nat} (h1 : 264 * s ≤ j) (h2 : j < 264 * s + 264) (h3 : j % 11 = k) (h4 : k < 11) : yfT j = yfT (264 * s + k) := by
  unfold yfT
  rw [show j / 264 = (264 * s + k) / 264 by omega, show j % 264 % 11 = (264 * s + k) % 264 % 11 by omega]
theorem ynT_ix {j s k : Nat} (h1 : 264 * s ≤ j) (h2 : j < 264 * s + 264) (h3 : j % 11 = k) (h4 : k < 11) : ynT j = ynT (264 * s + k) := by
  unfold ynT
  rw [show j / 264 = (264 * s + k) / 264 by omega, show j % 264 % 11 = (264 * s + k) % 264 % 11 by omega]
theorem bIM {G : zW} {k r kd n : Nat} {f : Nat → zT} (hr : xget G.1 r = .inr (.inl (kd, (1320, (List.range 1320).map f)))) (h : bRo G r k) (hl : zat G k = n) : yIF G k n kd (fun j => f (j % 1320)) := bIF hr h hl fun j _ => by
  rw [List.getElem?_map, List.getElem?_range (Nat.mod_lt j (by decide))]
  rfl
theorem bIM1 {G : zW} {k r kd : Nat} {f : Nat → zT} (hr : xget G.1 r = .inr (.inl (kd, (1320, (List.range 1320).map f)))) (h : bRo G r k) (hl : zat G k = 1320) : yIF G k 1320 kd f := bIF hr h hl fun j hj => by
  rw [Nat.mod_eq_of_lt hj, List.getElem?_map, List.getElem?_range hj]
  rfl
section MWorld
variable {G : zW} {k : Nat}
theorem d_M (W : mW G) : xget G.1 116 = .inl (13, t_M) := W.1 (116, .inl (13, t_M)) (List.mem_of_getElem? (i := 0) rfl)
theorem d_M_big (W : mW G) : xget G.1 117 = .inr (.inl (0, (1, t_M_big))) := W.1 (117, .inr (.inl (0, (1, t_M_big)))) (List.mem_of_getElem? (i := 1) rfl)
theorem d_M_length (W : mW G) : xget G.1 118 = .inr (.inl (0, (1, t_M_length))) := W.1 (118, .inr (.inl (0, (1, t_M_length)))) (List.mem_of_getElem? (i := 2) rfl)
theorem d_M_sign (W : mW G) : xget G.1 119 = .inr (.inl (0, (1, t_M_sign))) := W.1 (119, .inr (.inl (0, (1, t_M_sign)))) (List.mem_of_getElem? (i := 3) rfl)
theorem d_M_product (W : mW G) : xget G.1 120 = .inr (.inl (0, (1, t_M_product))) := W.1 (120, .inr (.inl (0, (1, t_M_product)))) (List.mem_of_getElem? (i := 4) rfl)
theorem d_M_upper (W : mW G) : xget G.1 121 = .inr (.inl (0, (1, t_M_upper))) := W.1 (121, .inr (.inl (0, (1, t_M_upper)))) (List.mem_of_getElem? (i := 5) rfl)
theorem d_M_lower (W : mW G) : xget G.1 122 = .inr (.inl (0, (1, t_M_lower))) := W.1 (122, .inr (.inl (0, (1, t_M_lower)))) (List.mem_of_getElem? (i := 6) rfl)
theorem d_M_inverseOf (W : mW G) : xget G.1 123 = .inr (.inl (1, (1, t_M_inverseOf))) := W.1 (123, .inr (.inl (1, (1, t_M_inverseOf)))) (List.mem_of_getElem? (i := 7) rfl)
theorem d_M_residue (W : mW G) : xget G.1 124 = .inr (.inl (1, (1, t_M_residue))) := W.1 (124, .inr (.inl (1, (1, t_M_residue)))) (List.mem_of_getElem? (i := 8) rfl)
theorem d_M_used (W : mW G) : xget G.1 125 = .inr (.inl (0, (1, t_M_used))) := W.1 (125, .inr (.inl (0, (1, t_M_used)))) (List.mem_of_getElem? (i := 9) rfl)
theorem d_M_matrix (W : mW G) : xget G.1 126 = .inr (.inl (1, (1, t_M_matrix))) := W.1 (126, .inr (.inl (1, (1, t_M_matrix)))) (List.mem_of_getElem? (i := 10) rfl)
theorem d_M_mixed (W : mW G) : xget G.1 127 = .inr (.inl (1, (1, t_M_mixed))) := W.1 (127, .inr (.inl (1, (1, t_M_mixed)))) (List.mem_of_getElem? (i := 11) rfl)
theorem d_M_tape (W : mW G) : xget G.1 128 = .inr (.inl (0, (1, t_M_tape))) := W.1 (128, .inr (.inl (0, (1, t_M_tape)))) (List.mem_of_getElem? (i := 12) rfl)
theorem d_M_wordAt (W : mW G) : xget G.1 129 = .inr (.inl (0, (1, t_M_wordAt))) := W.1 (129, .inr (.inl (0, (1, t_M_wordAt)))) (List.mem_of_getElem? (i := 13) rfl)
theorem d_M_wordSize (W : mW G) : xget G.1 130 = .inr (.inl (0, (1, t_M_wordSize))) := W.1 (130, .inr (.inl (0, (1, t_M_wordSize)))) (List.mem_of_getElem? (i := 14) rfl)
theorem d_M_count (W : mW G) : xget G.1 131 = .inr (.inl (0, (5, t_M_count))) := W.1 (131, .inr (.inl (0, (5, t_M_count)))) (List.mem_of_getElem? (i := 15) rfl)
theorem d_M_field (W : mW G) : xget G.1 132 = .inr (.inl (0, (1320, t_M_field))) := W.1 (132, .inr (.inl (0, (1320, t_M_field)))) (List.mem_of_getElem? (i := 16) rfl)
theorem d_M_name (W : mW G) : xget G.1 133 = .inr (.inl (0, (1, t_M_name))) := W.1 (133, .inr (.inl (0, (1, t_M_name)))) (List.mem_of_getElem? (i := 17) rfl)
theorem d_M_nameSize (W : mW G) : xget G.1 134 = .inr (.inl (0, (1, t_M_nameSize))) := W.1 (134, .inr (.inl (0, (1, t_M_nameSize)))) (List.mem_of_getElem? (i := 18) rfl)
theorem d_M_newCount (W : mW G) : xget G.1 135 = .inr (.inl (0, (5, t_M_newCount))) := W.1 (135, .inr (.inl (0, (5, t_M_newCount)))) (List.mem_of_getElem? (i := 19) rfl)
theorem d_M_newField (W : mW G) : xget G.1 136 = .inr (.inl (0, (1320, t_M_newField))) := W.1 (136, .inr (.inl (0, (1320, t_M_newField)))) (List.mem_of_getElem? (i := 20) rfl)
theorem d_M_newName (W : mW G) : xget G.1 137 = .inr (.inl (0, (1, t_M_newName))) := W.1 (137, .inr (.inl (0, (1, t_M_newName)))) (List.mem_of_getElem? (i := 21) rfl)
theorem d_M_newSize (W : mW G) : xget G.1 138 = .inr (.inl (0, (1, t_M_newSize))) := W.1 (138, .inr (.inl (0, (1, t_M_newSize)))) (List.mem_of_getElem? (i := 22) rfl)
theorem d_M_kept (W : mW G) : xget G.1 139 = .inr (.inl (0, (1320, t_M_kept))) := W.1 (139, .inr (.inl (0, (1320, t_M_kept)))) (List.mem_of_getElem? (i := 23) rfl)
theorem d_M_isKept (W : mW G) : xget G.1 140 = .inr (.inl (2, (1, t_M_isKept))) := W.1 (140, .inr (.inl (2, (1, t_M_isKept)))) (List.mem_of_getElem? (i := 24) rfl)
theorem d_M_stateNow (W : mW G) : xget G.1 141 = .inr (.inl (0, (1, t_M_stateNow))) := W.1 (141, .inr (.inl (0, (1, t_M_stateNow)))) (List.mem_of_getElem? (i := 25) rfl)
theorem d_M_inNow (W : mW G) : xget G.1 142 = .inr (.inl (0, (1, t_M_inNow))) := W.1 (142, .inr (.inl (0, (1, t_M_inNow)))) (List.mem_of_getElem? (i := 26) rfl)
theorem d_M_node (W : mW G) : xget G.1 143 = .inr (.inl (0, (16, t_M_node))) := W.1 (143, .inr (.inl (0, (16, t_M_node)))) (List.mem_of_getElem? (i := 27) rfl)
theorem d_M_island (W : mW G) : xget G.1 144 = .inr (.inl (0, (16, t_M_island))) := W.1 (144, .inr (.inl (0, (16, t_M_island)))) (List.mem_of_getElem? (i := 28) rfl)
theorem d_M_isLive (W : mW G) : xget G.1 145 = .inr (.inl (2, (1, t_M_isLive))) := W.1 (145, .inr (.inl (2, (1, t_M_isLive)))) (List.mem_of_getElem? (i := 29) rfl)
theorem d_M_nodeAt (W : mW G) : xget G.1 146 = .inr (.inl (0, (1, t_M_nodeAt))) := W.1 (146, .inr (.inl (0, (1, t_M_nodeAt)))) (List.mem_of_getElem? (i := 30) rfl)
theorem d_M_placeOf (W : mW G) : xget G.1 147 = .inr (.inl (0, (1, t_M_placeOf))) := W.1 (147, .inr (.inl (0, (1, t_M_placeOf)))) (List.mem_of_getElem? (i := 31) rfl)
theorem d_M_isStuck (W : mW G) : xget G.1 148 = .inr (.inl (2, (1, t_M_isStuck))) := W.1 (148, .inr (.inl (2, (1, t_M_isStuck)))) (List.mem_of_getElem? (i := 32) rfl)
theorem d_M_lack (W : mW G) : xget G.1 149 = .inr (.inl (1, (1, t_M_lack))) := W.1 (149, .inr (.inl (1, (1, t_M_lack)))) (List.mem_of_getElem? (i := 33) rfl)
theorem d_M_share (W : mW G) : xget G.1 150 = .inr (.inl (1, (1, t_M_share))) := W.1 (150, .inr (.inl (1, (1, t_M_share)))) (List.mem_of_getElem? (i := 34) rfl)
theorem d_M_isOver (W : mW G) : xget G.1 151 = .inr (.inl (2, (1, t_M_isOver))) := W.1 (151, .inr (.inl (2, (1, t_M_isOver)))) (List.mem_of_getElem? (i := 35) rfl)
theorem d_M_putIn (W : mW G) : xget G.1 152 = .inr (.inl (1, (1, t_M_putIn))) := W.1 (152, .inr (.inl (1, (1, t_M_putIn)))) (List.mem_of_getElem? (i := 36) rfl)
theorem d_M_isScreened (W : mW G) : xget G.1 153 = .inr (.inl (2, (1, t_M_isScreened))) := W.1 (153, .inr (.inl (2, (1, t_M_isScreened)))) (List.mem_of_getElem? (i := 37) rfl)
theorem d_M_troubleLine (W : mW G) : xget G.1 154 = .inr (.inl (0, (1, t_M_troubleLine))) := W.1 (154, .inr (.inl (0, (1, t_M_troubleLine)))) (List.mem_of_getElem? (i := 38) rfl)
theorem d_M_troubleSort (W : mW G) : xget G.1 155 = .inr (.inl (0, (1, t_M_troubleSort))) := W.1 (155, .inr (.inl (0, (1, t_M_troubleSort)))) (List.mem_of_getElem? (i := 39) rfl)
theorem d_M_troubleLost (W : mW G) : xget G.1 156 = .inr (.inl (0, (1, t_M_troubleLost))) := W.1 (156, .inr (.inl (0, (1, t_M_troubleLost)))) (List.mem_of_getElem? (i := 40) rfl)
theorem d_M_troubleOver (W : mW G) : xget G.1 157 = .inr (.inl (0, (1, t_M_troubleOver))) := W.1 (157, .inr (.inl (0, (1, t_M_troubleOver)))) (List.mem_of_getElem? (i := 41) rfl)
theorem d_M_meterKind (W : mW G) : xget G.1 158 = .inr (.inl (0, (1, t_M_meterKind))) := W.1 (158, .inr (.inl (0, (1, t_M_meterKind)))) (List.mem_of_getElem? (i := 42) rfl)
theorem d_M_meterAt (W : mW G) : xget G.1 159 = .inr (.inl (0, (1, t_M_meterAt))) := W.1 (159, .inr (.inl (0, (1, t_M_meterAt)))) (List.mem_of_getElem? (i := 43) rfl)
theorem d_M_meterValue (W : mW G) : xget G.1 160 = .inr (.inl (0, (1, t_M_meterValue))) := W.1 (160, .inr (.inl (0, (1, t_M_meterValue)))) (List.mem_of_getElem? (i := 44) rfl)
theorem d_M_meterWeight (W : mW G) : xget G.1 161 = .inr (.inl (0, (1, t_M_meterWeight))) := W.1 (161, .inr (.inl (0, (1, t_M_meterWeight)))) (List.mem_of_getElem? (i := 45) rfl)
theorem d_M_isStruck (W : mW G) : xget G.1 162 = .inr (.inl (2, (1, t_M_isStruck))) := W.1 (162, .inr (.inl (2, (1, t_M_isStruck)))) (List.mem_of_getElem? (i := 46) rfl)
theorem d_M_isWhole (W : mW G) : xget G.1 163 = .inr (.inl (2, (1, t_M_isWhole))) := W.1 (163, .inr (.inl (2, (1, t_M_isWhole)))) (List.mem_of_getElem? (i := 47) rfl)
theorem d_M_isSeen (W : mW G) : xget G.1 164 = .inr (.inl (2, (1, t_M_isSeen))) := W.1 (164, .inr (.inl (2, (1, t_M_isSeen)))) (List.mem_of_getElem? (i := 48) rfl)
theorem d_M_shows (W : mW G) : xget G.1 165 = .inr (.inl (1, (1, t_M_shows))) := W.1 (165, .inr (.inl (1, (1, t_M_shows)))) (List.mem_of_getElem? (i := 49) rfl)
theorem d_M_conductance (W : mW G) : xget G.1 166 = .inr (.inl (1, (1, t_M_conductance))) := W.1 (166, .inr (.inl (1, (1, t_M_conductance)))) (List.mem_of_getElem? (i := 50) rfl)
theorem d_M_rankWith (W : mW G) : xget G.1 167 = .inr (.inl (0, (1, t_M_rankWith))) := W.1 (167, .inr (.inl (0, (1, t_M_rankWith)))) (List.mem_of_getElem? (i := 51) rfl)
theorem d_M_relayLine (W : mW G) : xget G.1 168 = .inr (.inl (0, (1, t_M_relayLine))) := W.1 (168, .inr (.inl (0, (1, t_M_relayLine)))) (List.mem_of_getElem? (i := 52) rfl)
theorem d_M_relayEnd (W : mW G) : xget G.1 169 = .inr (.inl (0, (1, t_M_relayEnd))) := W.1 (169, .inr (.inl (0, (1, t_M_relayEnd)))) (List.mem_of_getElem? (i := 53) rfl)
theorem d_M_relaySwitch (W : mW G) : xget G.1 170 = .inr (.inl (0, (1, t_M_relaySwitch))) := W.1 (170, .inr (.inl (0, (1, t_M_relaySwitch)))) (List.mem_of_getElem? (i := 54) rfl)
theorem d_M_relayKind (W : mW G) : xget G.1 171 = .inr (.inl (0, (1, t_M_relayKind))) := W.1 (171, .inr (.inl (0, (1, t_M_relayKind)))) (List.mem_of_getElem? (i := 55) rfl)
theorem d_M_rowCount (W : mW G) : xget G.1 172 = .inr (.inl (0, (1, t_M_rowCount))) := W.1 (172, .inr (.inl (0, (1, t_M_rowCount)))) (List.mem_of_getElem? (i := 56) rfl)
theorem d_M_setting (W : mW G) : xget G.1 173 = .inr (.inl (0, (1, t_M_setting))) := W.1 (173, .inr (.inl (0, (1, t_M_setting)))) (List.mem_of_getElem? (i := 57) rfl)
theorem d_M_delay (W : mW G) : xget G.1 174 = .inr (.inl (0, (1, t_M_delay))) := W.1 (174, .inr (.inl (0, (1, t_M_delay)))) (List.mem_of_getElem? (i := 58) rfl)
theorem d_M_doesFail (W : mW G) : xget G.1 175 = .inr (.inl (2, (1, t_M_doesFail))) := W.1 (175, .inr (.inl (2, (1, t_M_doesFail)))) (List.mem_of_getElem? (i := 59) rfl)
theorem d_M_runState (W : mW G) : xget G.1 176 = .inr (.inl (0, (1, t_M_runState))) := W.1 (176, .inr (.inl (0, (1, t_M_runState)))) (List.mem_of_getElem? (i := 60) rfl)
theorem d_M_hasOrder (W : mW G) : xget G.1 177 = .inr (.inl (2, (1, t_M_hasOrder))) := W.1 (177, .inr (.inl (2, (1, t_M_hasOrder)))) (List.mem_of_getElem? (i := 61) rfl)
theorem d_M_opensAt (W : mW G) : xget G.1 178 = .inr (.inl (1, (1, t_M_opensAt))) := W.1 (178, .inr (.inl (1, (1, t_M_opensAt)))) (List.mem_of_getElem? (i := 62) rfl)
theorem d_M_backupAt (W : mW G) : xget G.1 179 = .inr (.inl (1, (1, t_M_backupAt))) := W.1 (179, .inr (.inl (1, (1, t_M_backupAt)))) (List.mem_of_getElem? (i := 63) rfl)
theorem d_M_since (W : mW G) : xget G.1 180 = .inr (.inl (1, (1, t_M_since))) := W.1 (180, .inr (.inl (1, (1, t_M_since)))) (List.mem_of_getElem? (i := 64) rfl)
theorem d_M_hasTripped (W : mW G) : xget G.1 181 = .inr (.inl (2, (1, t_M_hasTripped))) := W.1 (181, .inr (.inl (2, (1, t_M_hasTripped)))) (List.mem_of_getElem? (i := 65) rfl)
theorem d_M_openedSwitch (W : mW G) : xget G.1 182 = .inr (.inl (0, (1, t_M_openedSwitch))) := W.1 (182, .inr (.inl (0, (1, t_M_openedSwitch)))) (List.mem_of_getElem? (i := 66) rfl)
theorem d_M_openedAt (W : mW G) : xget G.1 183 = .inr (.inl (0, (1, t_M_openedAt))) := W.1 (183, .inr (.inl (0, (1, t_M_openedAt)))) (List.mem_of_getElem? (i := 67) rfl)
theorem d_M_machineAt (W : mW G) : xget G.1 184 = .inr (.inl (0, (1, t_M_machineAt))) := W.1 (184, .inr (.inl (0, (1, t_M_machineAt)))) (List.mem_of_getElem? (i := 68) rfl)
theorem d_M_low (W : mW G) : xget G.1 185 = .inr (.inl (0, (1, t_M_low))) := W.1 (185, .inr (.inl (0, (1, t_M_low)))) (List.mem_of_getElem? (i := 69) rfl)
theorem d_M_high (W : mW G) : xget G.1 186 = .inr (.inl (0, (1, t_M_high))) := W.1 (186, .inr (.inl (0, (1, t_M_high)))) (List.mem_of_getElem? (i := 70) rfl)
theorem d_M_slope (W : mW G) : xget G.1 187 = .inr (.inl (0, (1, t_M_slope))) := W.1 (187, .inr (.inl (0, (1, t_M_slope)))) (List.mem_of_getElem? (i := 71) rfl)
theorem d_M_dimensions (W : mW G) : xget G.1 188 = .inr (.inl (0, (1, t_M_dimensions))) := W.1 (188, .inr (.inl (0, (1, t_M_dimensions)))) (List.mem_of_getElem? (i := 72) rfl)
theorem d_M_rowsAt (W : mW G) : xget G.1 189 = .inr (.inl (0, (1, t_M_rowsAt))) := W.1 (189, .inr (.inl (0, (1, t_M_rowsAt)))) (List.mem_of_getElem? (i := 73) rfl)
theorem d_M_machineOf (W : mW G) : xget G.1 190 = .inr (.inl (0, (1, t_M_machineOf))) := W.1 (190, .inr (.inl (0, (1, t_M_machineOf)))) (List.mem_of_getElem? (i := 74) rfl)
theorem d_M_ruleAct (W : mW G) : xget G.1 191 = .inr (.inl (0, (1, t_M_ruleAct))) := W.1 (191, .inr (.inl (0, (1, t_M_ruleAct)))) (List.mem_of_getElem? (i := 75) rfl)
theorem d_M_ruleFrom (W : mW G) : xget G.1 192 = .inr (.inl (0, (1, t_M_ruleFrom))) := W.1 (192, .inr (.inl (0, (1, t_M_ruleFrom)))) (List.mem_of_getElem? (i := 76) rfl)
theorem d_M_code (W : mW G) : xget G.1 193 = .inr (.inl (0, (4, t_M_code))) := W.1 (193, .inr (.inl (0, (4, t_M_code)))) (List.mem_of_getElem? (i := 77) rfl)
theorem d_M_newAct (W : mW G) : xget G.1 194 = .inr (.inl (0, (1, t_M_newAct))) := W.1 (194, .inr (.inl (0, (1, t_M_newAct)))) (List.mem_of_getElem? (i := 78) rfl)
theorem d_M_newFrom (W : mW G) : xget G.1 195 = .inr (.inl (0, (1, t_M_newFrom))) := W.1 (195, .inr (.inl (0, (1, t_M_newFrom)))) (List.mem_of_getElem? (i := 79) rfl)
theorem d_M_newCode (W : mW G) : xget G.1 196 = .inr (.inl (0, (4, t_M_newCode))) := W.1 (196, .inr (.inl (0, (4, t_M_newCode)))) (List.mem_of_getElem? (i := 80) rfl)
theorem d_M_stepAct (W : mW G) : xget G.1 197 = .inr (.inl (0, (1, t_M_stepAct))) := W.1 (197, .inr (.inl (0, (1, t_M_stepAct)))) (List.mem_of_getElem? (i := 81) rfl)
theorem d_M_stepOf (W : mW G) : xget G.1 198 = .inr (.inl (0, (1, t_M_stepOf))) := W.1 (198, .inr (.inl (0, (1, t_M_stepOf)))) (List.mem_of_getElem? (i := 82) rfl)
theorem d_M_newStepAct (W : mW G) : xget G.1 199 = .inr (.inl (0, (1, t_M_newStepAct))) := W.1 (199, .inr (.inl (0, (1, t_M_newStepAct)))) (List.mem_of_getElem? (i := 83) rfl)
theorem d_M_newStepOf (W : mW G) : xget G.1 200 = .inr (.inl (0, (1, t_M_newStepOf))) := W.1 (200, .inr (.inl (0, (1, t_M_newStepOf)))) (List.mem_of_getElem? (i := 84) rfl)
theorem d_M_seenField (W : mW G) : xget G.1 201 = .inr (.inl (0, (1320, t_M_seenField))) := W.1 (201, .inr (.inl (0, (1320, t_M_seenField)))) (List.mem_of_getElem? (i := 85) rfl)
theorem d_M_seenNode (W : mW G) : xget G.1 202 = .inr (.inl (0, (1, t_M_seenNode))) := W.1 (202, .inr (.inl (0, (1, t_M_seenNode)))) (List.mem_of_getElem? (i := 86) rfl)
theorem d_M_seenLive (W : mW G) : xget G.1 203 = .inr (.inl (2, (1, t_M_seenLive))) := W.1 (203, .inr (.inl (2, (1, t_M_seenLive)))) (List.mem_of_getElem? (i := 87) rfl)
theorem d_M_seenLost (W : mW G) : xget G.1 204 = .inr (.inl (0, (1, t_M_seenLost))) := W.1 (204, .inr (.inl (0, (1, t_M_seenLost)))) (List.mem_of_getElem? (i := 88) rfl)
theorem d_M_seenOver (W : mW G) : xget G.1 205 = .inr (.inl (0, (1, t_M_seenOver))) := W.1 (205, .inr (.inl (0, (1, t_M_seenOver)))) (List.mem_of_getElem? (i := 89) rfl)
theorem d_M_seenLoops (W : mW G) : xget G.1 206 = .inr (.inl (0, (1, t_M_seenLoops))) := W.1 (206, .inr (.inl (0, (1, t_M_seenLoops)))) (List.mem_of_getElem? (i := 90) rfl)
theorem d_M_pile (W : mW G) : xget G.1 207 = .inr (.inl (2, (1, t_M_pile))) := W.1 (207, .inr (.inl (2, (1, t_M_pile)))) (List.mem_of_getElem? (i := 91) rfl)
theorem d_M_fieldsBefore (W : mW G) : xget G.1 208 = .inr (.inl (0, (1320, t_M_fieldsBefore))) := W.1 (208, .inr (.inl (0, (1320, t_M_fieldsBefore)))) (List.mem_of_getElem? (i := 92) rfl)
theorem d_M_restoredSwitch (W : mW G) : xget G.1 209 = .inr (.inl (0, (1, t_M_restoredSwitch))) := W.1 (209, .inr (.inl (0, (1, t_M_restoredSwitch)))) (List.mem_of_getElem? (i := 93) rfl)
theorem d_M_openSwitch (W : mW G) : xget G.1 210 = .inr (.inl (0, (1, t_M_openSwitch))) := W.1 (210, .inr (.inl (0, (1, t_M_openSwitch)))) (List.mem_of_getElem? (i := 94) rfl)
theorem d_M_row (W : mW G) : xget G.1 211 = .inr (.inl (0, (1, t_M_row))) := W.1 (211, .inr (.inl (0, (1, t_M_row)))) (List.mem_of_getElem? (i := 95) rfl)
theorem d_M_isWell (W : mW G) : xget G.1 212 = .inr (.inl (0, (1, t_M_isWell))) := W.1 (212, .inr (.inl (0, (1, t_M_isWell)))) (List.mem_of_getElem? (i := 96) rfl)
theorem d_M_lostBy (W : mW G) : xget G.1 213 = .inr (.inl (0, (1, t_M_lostBy))) := W.1 (213, .inr (.inl (0, (1, t_M_lostBy)))) (List.mem_of_getElem? (i := 97) rfl)
theorem d_M_PRIME (W : mW G) : xget G.1 13 = .inr (.inl (0, (1, t_M_PRIME))) := W.1 (13, .inr (.inl (0, (1, t_M_PRIME)))) (List.mem_of_getElem? (i := 98) rfl)
theorem n_M_big (W : mW G) (h : bRo G 117 k) : zat G k = 873472 := Nat.le_antisymm (W.2.2.1 (117, (873472, 873472)) (List.mem_of_getElem? (i := 0) rfl) k h).2 (W.2.2.1 (117, (873472, 873472)) (List.mem_of_getElem? (i := 0) rfl) k h).1
theorem n_M_length (W : mW G) (h : bRo G 118 k) : zat G k = 3412 := Nat.le_antisymm (W.2.2.1 (118, (3412, 3412)) (List.mem_of_getElem? (i := 1) rfl) k h).2 (W.2.2.1 (118, (3412, 3412)) (List.mem_of_getElem? (i := 1) rfl) k h).1
theorem n_M_sign (W : mW G) (h : bRo G 119 k) : zat G k = 3412 := Nat.le_antisymm (W.2.2.1 (119, (3412, 3412)) (List.mem_of_getElem? (i := 2) rfl) k h).2 (W.2.2.1 (119, (3412, 3412)) (List.mem_of_getElem? (i := 2) rfl) k h).1
theorem n_M_product (W : mW G) (h : bRo G 120 k) : zat G k = 512 := Nat.le_antisymm (W.2.2.1 (120, (512, 512)) (List.mem_of_getElem? (i := 3) rfl) k h).2 (W.2.2.1 (120, (512, 512)) (List.mem_of_getElem? (i := 3) rfl) k h).1
theorem n_M_upper (W : mW G) (h : bRo G 121 k) : zat G k = 258 := Nat.le_antisymm (W.2.2.1 (121, (258, 258)) (List.mem_of_getElem? (i := 4) rfl) k h).2 (W.2.2.1 (121, (258, 258)) (List.mem_of_getElem? (i := 4) rfl) k h).1
theorem n_M_lower (W : mW G) (h : bRo G 122 k) : zat G k = 258 := Nat.le_antisymm (W.2.2.1 (122, (258, 258)) (List.mem_of_getElem? (i := 5) rfl) k h).2 (W.2.2.1 (122, (258, 258)) (List.mem_of_getElem? (i := 5) rfl) k h).1
theorem n_M_inverseOf (W : mW G) (h : bRo G 123 k) : zat G k = 1600 := Nat.le_antisymm (W.2.2.1 (123, (1600, 1600)) (List.mem_of_getElem? (i := 6) rfl) k h).2 (W.2.2.1 (123, (1600, 1600)) (List.mem_of_getElem? (i := 6) rfl) k h).1
theorem n_M_residue (W : mW G) (h : bRo G 124 k) : zat G k = 7200 := Nat.le_antisymm (W.2.2.1 (124, (7200, 7200)) (List.mem_of_getElem? (i := 7) rfl) k h).2 (W.2.2.1 (124, (7200, 7200)) (List.mem_of_getElem? (i := 7) rfl) k h).1
theorem n_M_used (W : mW G) (h : bRo G 125 k) : zat G k = 40 := Nat.le_antisymm (W.2.2.1 (125, (40, 40)) (List.mem_of_getElem? (i := 8) rfl) k h).2 (W.2.2.1 (125, (40, 40)) (List.mem_of_getElem? (i := 8) rfl) k h).1
theorem n_M_matrix (W : mW G) (h : bRo G 126 k) : zat G k = 960 := Nat.le_antisymm (W.2.2.1 (126, (960, 960)) (List.mem_of_getElem? (i := 9) rfl) k h).2 (W.2.2.1 (126, (960, 960)) (List.mem_of_getElem? (i := 9) rfl) k h).1
theorem n_M_mixed (W : mW G) (h : bRo G 127 k) : zat G k = 40 := Nat.le_antisymm (W.2.2.1 (127, (40, 40)) (List.mem_of_getElem? (i := 10) rfl) k h).2 (W.2.2.1 (127, (40, 40)) (List.mem_of_getElem? (i := 10) rfl) k h).1
theorem n_M_tape (W : mW G) (h : bRo G 128 k) : zat G k = 4000 := Nat.le_antisymm (W.2.2.1 (128, (4000, 4000)) (List.mem_of_getElem? (i := 11) rfl) k h).2 (W.2.2.1 (128, (4000, 4000)) (List.mem_of_getElem? (i := 11) rfl) k h).1
theorem n_M_wordAt (W : mW G) (h : bRo G 129 k) : zat G k = 4001 := Nat.le_antisymm (W.2.2.1 (129, (4001, 4001)) (List.mem_of_getElem? (i := 12) rfl) k h).2 (W.2.2.1 (129, (4001, 4001)) (List.mem_of_getElem? (i := 12) rfl) k h).1
theorem n_M_wordSize (W : mW G) (h : bRo G 130 k) : zat G k = 4001 := Nat.le_antisymm (W.2.2.1 (130, (4001, 4001)) (List.mem_of_getElem? (i := 13) rfl) k h).2 (W.2.2.1 (130, (4001, 4001)) (List.mem_of_getElem? (i := 13) rfl) k h).1
theorem n_M_count (W : mW G) (h : bRo G 131 k) : zat G k = 5 := Nat.le_antisymm (W.2.2.1 (131, (5, 5)) (List.mem_of_getElem? (i := 14) rfl) k h).2 (W.2.2.1 (131, (5, 5)) (List.mem_of_getElem? (i := 14) rfl) k h).1
theorem n_M_field (W : mW G) (h : bRo G 132 k) : zat G k = 1320 := Nat.le_antisymm (W.2.2.1 (132, (1320, 1320)) (List.mem_of_getElem? (i := 15) rfl) k h).2 (W.2.2.1 (132, (1320, 1320)) (List.mem_of_getElem? (i := 15) rfl) k h).1
theorem n_M_name (W : mW G) (h : bRo G 133 k) : zat G k = 960 := Nat.le_antisymm (W.2.2.1 (133, (960, 960)) (List.mem_of_getElem? (i := 16) rfl) k h).2 (W.2.2.1 (133, (960, 960)) (List.mem_of_getElem? (i := 16) rfl) k h).1
theorem n_M_nameSize (W : mW G) (h : bRo G 134 k) : zat G k = 120 := Nat.le_antisymm (W.2.2.1 (134, (120, 120)) (List.mem_of_getElem? (i := 17) rfl) k h).2 (W.2.2.1 (134, (120, 120)) (List.mem_of_getElem? (i := 17) rfl) k h).1
theorem n_M_newCount (W : mW G) (h : bRo G 135 k) : zat G k = 5 := Nat.le_antisymm (W.2.2.1 (135, (5, 5)) (List.mem_of_getElem? (i := 18) rfl) k h).2 (W.2.2.1 (135, (5, 5)) (List.mem_of_getElem? (i := 18) rfl) k h).1
theorem n_M_newField (W : mW G) (h : bRo G 136 k) : zat G k = 1320 := Nat.le_antisymm (W.2.2.1 (136, (1320, 1320)) (List.mem_of_getElem? (i := 19) rfl) k h).2 (W.2.2.1 (136, (1320, 1320)) (List.mem_of_getElem? (i := 19) rfl) k h).1
theorem n_M_newName (W : mW G) (h : bRo G 137 k) : zat G k = 960 := Nat.le_antisymm (W.2.2.1 (137, (960, 960)) (List.mem_of_getElem? (i := 20) rfl) k h).2 (W.2.2.1 (137, (960, 960)) (List.mem_of_getElem? (i := 20) rfl) k h).1
theorem n_M_newSize (W : mW G) (h : bRo G 138 k) : zat G k = 120 := Nat.le_antisymm (W.2.2.1 (138, (120, 120)) (List.mem_of_getElem? (i := 21) rfl) k h).2 (W.2.2.1 (138, (120, 120)) (List.mem_of_getElem? (i := 21) rfl) k h).1
theorem n_M_kept (W : mW G) (h : bRo G 139 k) : zat G k = 3960 := Nat.le_antisymm (W.2.2.1 (139, (3960, 3960)) (List.mem_of_getElem? (i := 22) rfl) k h).2 (W.2.2.1 (139, (3960, 3960)) (List.mem_of_getElem? (i := 22) rfl) k h).1
theorem n_M_isKept (W : mW G) (h : bRo G 140 k) : zat G k = 3 := Nat.le_antisymm (W.2.2.1 (140, (3, 3)) (List.mem_of_getElem? (i := 23) rfl) k h).2 (W.2.2.1 (140, (3, 3)) (List.mem_of_getElem? (i := 23) rfl) k h).1
theorem n_M_stateNow (W : mW G) (h : bRo G 141 k) : zat G k = 24 := Nat.le_antisymm (W.2.2.1 (141, (24, 24)) (List.mem_of_getElem? (i := 24) rfl) k h).2 (W.2.2.1 (141, (24, 24)) (List.mem_of_getElem? (i := 24) rfl) k h).1
theorem n_M_inNow (W : mW G) (h : bRo G 142 k) : zat G k = 20 := Nat.le_antisymm (W.2.2.1 (142, (20, 20)) (List.mem_of_getElem? (i := 25) rfl) k h).2 (W.2.2.1 (142, (20, 20)) (List.mem_of_getElem? (i := 25) rfl) k h).1
theorem n_M_node (W : mW G) (h : bRo G 143 k) : zat G k = 16 := Nat.le_antisymm (W.2.2.1 (143, (16, 16)) (List.mem_of_getElem? (i := 26) rfl) k h).2 (W.2.2.1 (143, (16, 16)) (List.mem_of_getElem? (i := 26) rfl) k h).1
theorem n_M_island (W : mW G) (h : bRo G 144 k) : zat G k = 16 := Nat.le_antisymm (W.2.2.1 (144, (16, 16)) (List.mem_of_getElem? (i := 27) rfl) k h).2 (W.2.2.1 (144, (16, 16)) (List.mem_of_getElem? (i := 27) rfl) k h).1
theorem n_M_isLive (W : mW G) (h : bRo G 145 k) : zat G k = 16 := Nat.le_antisymm (W.2.2.1 (145, (16, 16)) (List.mem_of_getElem? (i := 28) rfl) k h).2 (W.2.2.1 (145, (16, 16)) (List.mem_of_getElem? (i := 28) rfl) k h).1
theorem n_M_nodeAt (W : mW G) (h : bRo G 146 k) : zat G k = 16 := Nat.le_antisymm (W.2.2.1 (146, (16, 16)) (List.mem_of_getElem? (i := 29) rfl) k h).2 (W.2.2.1 (146, (16, 16)) (List.mem_of_getElem? (i := 29) rfl) k h).1
theorem n_M_placeOf (W : mW G) (h : bRo G 147 k) : zat G k = 16 := Nat.le_antisymm (W.2.2.1 (147, (16, 16)) (List.mem_of_getElem? (i := 30) rfl) k h).2 (W.2.2.1 (147, (16, 16)) (List.mem_of_getElem? (i := 30) rfl) k h).1
theorem n_M_isStuck (W : mW G) (h : bRo G 148 k) : zat G k = 16 := Nat.le_antisymm (W.2.2.1 (148, (16, 16)) (List.mem_of_getElem? (i := 31) rfl) k h).2 (W.2.2.1 (148, (16, 16)) (List.mem_of_getElem? (i := 31) rfl) k h).1
theorem n_M_lack (W : mW G) (h : bRo G 149 k) : zat G k = 16 := Nat.le_antisymm (W.2.2.1 (149, (16, 16)) (List.mem_of_getElem? (i := 32) rfl) k h).2 (W.2.2.1 (149, (16, 16)) (List.mem_of_getElem? (i := 32) rfl) k h).1
theorem n_M_share (W : mW G) (h : bRo G 150 k) : zat G k = 16 := Nat.le_antisymm (W.2.2.1 (150, (16, 16)) (List.mem_of_getElem? (i := 33) rfl) k h).2 (W.2.2.1 (150, (16, 16)) (List.mem_of_getElem? (i := 33) rfl) k h).1
theorem n_M_isOver (W : mW G) (h : bRo G 151 k) : zat G k = 20 := Nat.le_antisymm (W.2.2.1 (151, (20, 20)) (List.mem_of_getElem? (i := 34) rfl) k h).2 (W.2.2.1 (151, (20, 20)) (List.mem_of_getElem? (i := 34) rfl) k h).1
theorem n_M_putIn (W : mW G) (h : bRo G 152 k) : zat G k = 16 := Nat.le_antisymm (W.2.2.1 (152, (16, 16)) (List.mem_of_getElem? (i := 35) rfl) k h).2 (W.2.2.1 (152, (16, 16)) (List.mem_of_getElem? (i := 35) rfl) k h).1
theorem n_M_isScreened (W : mW G) (h : bRo G 153 k) : zat G k = 20 := Nat.le_antisymm (W.2.2.1 (153, (20, 20)) (List.mem_of_getElem? (i := 36) rfl) k h).2 (W.2.2.1 (153, (20, 20)) (List.mem_of_getElem? (i := 36) rfl) k h).1
theorem n_M_troubleLine (W : mW G) (h : bRo G 154 k) : zat G k = 20 := Nat.le_antisymm (W.2.2.1 (154, (20, 20)) (List.mem_of_getElem? (i := 37) rfl) k h).2 (W.2.2.1 (154, (20, 20)) (List.mem_of_getElem? (i := 37) rfl) k h).1
theorem n_M_troubleSort (W : mW G) (h : bRo G 155 k) : zat G k = 20 := Nat.le_antisymm (W.2.2.1 (155, (20, 20)) (List.mem_of_getElem? (i := 38) rfl) k h).2 (W.2.2.1 (155, (20, 20)) (List.mem_of_getElem? (i := 38) rfl) k h).1
theorem n_M_troubleLost (W : mW G) (h : bRo G 156 k) : zat G k = 20 := Nat.le_antisymm (W.2.2.1 (156, (20, 20)) (List.mem_of_getElem? (i := 39) rfl) k h).2 (W.2.2.1 (156, (20, 20)) (List.mem_of_getElem? (i := 39) rfl) k h).1
theorem n_M_troubleOver (W : mW G) (h : bRo G 157 k) : zat G k = 20 := Nat.le_antisymm (W.2.2.1 (157, (20, 20)) (List.mem_of_getElem? (i := 40) rfl) k h).2 (W.2.2.1 (157, (20, 20)) (List.mem_of_getElem? (i := 40) rfl) k h).1
theorem n_M_meterKind (W : mW G) (h : bRo G 158 k) : zat G k = 32 := Nat.le_antisymm (W.2.2.1 (158, (32, 32)) (List.mem_of_getElem? (i := 41) rfl) k h).2 (W.2.2.1 (158, (32, 32)) (List.mem_of_getElem? (i := 41) rfl) k h).1
theorem n_M_meterAt (W : mW G) (h : bRo G 159 k) : zat G k = 32 := Nat.le_antisymm (W.2.2.1 (159, (32, 32)) (List.mem_of_getElem? (i := 42) rfl) k h).2 (W.2.2.1 (159, (32, 32)) (List.mem_of_getElem? (i := 42) rfl) k h).1
theorem n_M_meterValue (W : mW G) (h : bRo G 160 k) : zat G k = 32 := Nat.le_antisymm (W.2.2.1 (160, (32, 32)) (List.mem_of_getElem? (i := 43) rfl) k h).2 (W.2.2.1 (160, (32, 32)) (List.mem_of_getElem? (i := 43) rfl) k h).1
theorem n_M_meterWeight (W : mW G) (h : bRo G 161 k) : zat G k = 32 := Nat.le_antisymm (W.2.2.1 (161, (32, 32)) (List.mem_of_getElem? (i := 44) rfl) k h).2 (W.2.2.1 (161, (32, 32)) (List.mem_of_getElem? (i := 44) rfl) k h).1
theorem n_M_isStruck (W : mW G) (h : bRo G 162 k) : zat G k = 32 := Nat.le_antisymm (W.2.2.1 (162, (32, 32)) (List.mem_of_getElem? (i := 45) rfl) k h).2 (W.2.2.1 (162, (32, 32)) (List.mem_of_getElem? (i := 45) rfl) k h).1
theorem n_M_isWhole (W : mW G) (h : bRo G 163 k) : zat G k = 16 := Nat.le_antisymm (W.2.2.1 (163, (16, 16)) (List.mem_of_getElem? (i := 46) rfl) k h).2 (W.2.2.1 (163, (16, 16)) (List.mem_of_getElem? (i := 46) rfl) k h).1
theorem n_M_isSeen (W : mW G) (h : bRo G 164 k) : zat G k = 16 := Nat.le_antisymm (W.2.2.1 (164, (16, 16)) (List.mem_of_getElem? (i := 47) rfl) k h).2 (W.2.2.1 (164, (16, 16)) (List.mem_of_getElem? (i := 47) rfl) k h).1
theorem n_M_shows (W : mW G) (h : bRo G 165 k) : zat G k = 512 := Nat.le_antisymm (W.2.2.1 (165, (512, 512)) (List.mem_of_getElem? (i := 48) rfl) k h).2 (W.2.2.1 (165, (512, 512)) (List.mem_of_getElem? (i := 48) rfl) k h).1
theorem n_M_conductance (W : mW G) (h : bRo G 166 k) : zat G k = 20 := Nat.le_antisymm (W.2.2.1 (166, (20, 20)) (List.mem_of_getElem? (i := 49) rfl) k h).2 (W.2.2.1 (166, (20, 20)) (List.mem_of_getElem? (i := 49) rfl) k h).1
theorem n_M_rankWith (W : mW G) (h : bRo G 167 k) : zat G k = 16 := Nat.le_antisymm (W.2.2.1 (167, (16, 16)) (List.mem_of_getElem? (i := 50) rfl) k h).2 (W.2.2.1 (167, (16, 16)) (List.mem_of_getElem? (i := 50) rfl) k h).1
theorem n_M_relayLine (W : mW G) (h : bRo G 168 k) : zat G k = 16 := Nat.le_antisymm (W.2.2.1 (168, (16, 16)) (List.mem_of_getElem? (i := 51) rfl) k h).2 (W.2.2.1 (168, (16, 16)) (List.mem_of_getElem? (i := 51) rfl) k h).1
theorem n_M_relayEnd (W : mW G) (h : bRo G 169 k) : zat G k = 16 := Nat.le_antisymm (W.2.2.1 (169, (16, 16)) (List.mem_of_getElem? (i := 52) rfl) k h).2 (W.2.2.1 (169, (16, 16)) (List.mem_of_getElem? (i := 52) rfl) k h).1
theorem n_M_relaySwitch (W : mW G) (h : bRo G 170 k) : zat G k = 16 := Nat.le_antisymm (W.2.2.1 (170, (16, 16)) (List.mem_of_getElem? (i := 53) rfl) k h).2 (W.2.2.1 (170, (16, 16)) (List.mem_of_getElem? (i := 53) rfl) k h).1
theorem n_M_relayKind (W : mW G) (h : bRo G 171 k) : zat G k = 16 := Nat.le_antisymm (W.2.2.1 (171, (16, 16)) (List.mem_of_getElem? (i := 54) rfl) k h).2 (W.2.2.1 (171, (16, 16)) (List.mem_of_getElem? (i := 54) rfl) k h).1
theorem n_M_rowCount (W : mW G) (h : bRo G 172 k) : zat G k = 16 := Nat.le_antisymm (W.2.2.1 (172, (16, 16)) (List.mem_of_getElem? (i := 55) rfl) k h).2 (W.2.2.1 (172, (16, 16)) (List.mem_of_getElem? (i := 55) rfl) k h).1
theorem n_M_setting (W : mW G) (h : bRo G 173 k) : zat G k = 64 := Nat.le_antisymm (W.2.2.1 (173, (64, 64)) (List.mem_of_getElem? (i := 56) rfl) k h).2 (W.2.2.1 (173, (64, 64)) (List.mem_of_getElem? (i := 56) rfl) k h).1
theorem n_M_delay (W : mW G) (h : bRo G 174 k) : zat G k = 64 := Nat.le_antisymm (W.2.2.1 (174, (64, 64)) (List.mem_of_getElem? (i := 57) rfl) k h).2 (W.2.2.1 (174, (64, 64)) (List.mem_of_getElem? (i := 57) rfl) k h).1
theorem n_M_doesFail (W : mW G) (h : bRo G 175 k) : zat G k = 24 := Nat.le_antisymm (W.2.2.1 (175, (24, 24)) (List.mem_of_getElem? (i := 58) rfl) k h).2 (W.2.2.1 (175, (24, 24)) (List.mem_of_getElem? (i := 58) rfl) k h).1
theorem n_M_runState (W : mW G) (h : bRo G 176 k) : zat G k = 24 := Nat.le_antisymm (W.2.2.1 (176, (24, 24)) (List.mem_of_getElem? (i := 59) rfl) k h).2 (W.2.2.1 (176, (24, 24)) (List.mem_of_getElem? (i := 59) rfl) k h).1
theorem n_M_hasOrder (W : mW G) (h : bRo G 177 k) : zat G k = 24 := Nat.le_antisymm (W.2.2.1 (177, (24, 24)) (List.mem_of_getElem? (i := 60) rfl) k h).2 (W.2.2.1 (177, (24, 24)) (List.mem_of_getElem? (i := 60) rfl) k h).1
theorem n_M_opensAt (W : mW G) (h : bRo G 178 k) : zat G k = 24 := Nat.le_antisymm (W.2.2.1 (178, (24, 24)) (List.mem_of_getElem? (i := 61) rfl) k h).2 (W.2.2.1 (178, (24, 24)) (List.mem_of_getElem? (i := 61) rfl) k h).1
theorem n_M_backupAt (W : mW G) (h : bRo G 179 k) : zat G k = 24 := Nat.le_antisymm (W.2.2.1 (179, (24, 24)) (List.mem_of_getElem? (i := 62) rfl) k h).2 (W.2.2.1 (179, (24, 24)) (List.mem_of_getElem? (i := 62) rfl) k h).1
theorem n_M_since (W : mW G) (h : bRo G 180 k) : zat G k = 64 := Nat.le_antisymm (W.2.2.1 (180, (64, 64)) (List.mem_of_getElem? (i := 63) rfl) k h).2 (W.2.2.1 (180, (64, 64)) (List.mem_of_getElem? (i := 63) rfl) k h).1
theorem n_M_hasTripped (W : mW G) (h : bRo G 181 k) : zat G k = 64 := Nat.le_antisymm (W.2.2.1 (181, (64, 64)) (List.mem_of_getElem? (i := 64) rfl) k h).2 (W.2.2.1 (181, (64, 64)) (List.mem_of_getElem? (i := 64) rfl) k h).1
theorem n_M_openedSwitch (W : mW G) (h : bRo G 182 k) : zat G k = 24 := Nat.le_antisymm (W.2.2.1 (182, (24, 24)) (List.mem_of_getElem? (i := 65) rfl) k h).2 (W.2.2.1 (182, (24, 24)) (List.mem_of_getElem? (i := 65) rfl) k h).1
theorem n_M_openedAt (W : mW G) (h : bRo G 183 k) : zat G k = 24 := Nat.le_antisymm (W.2.2.1 (183, (24, 24)) (List.mem_of_getElem? (i := 66) rfl) k h).2 (W.2.2.1 (183, (24, 24)) (List.mem_of_getElem? (i := 66) rfl) k h).1
theorem n_M_machineAt (W : mW G) (h : bRo G 184 k) : zat G k = 6 := Nat.le_antisymm (W.2.2.1 (184, (6, 6)) (List.mem_of_getElem? (i := 67) rfl) k h).2 (W.2.2.1 (184, (6, 6)) (List.mem_of_getElem? (i := 67) rfl) k h).1
theorem n_M_low (W : mW G) (h : bRo G 185 k) : zat G k = 6 := Nat.le_antisymm (W.2.2.1 (185, (6, 6)) (List.mem_of_getElem? (i := 68) rfl) k h).2 (W.2.2.1 (185, (6, 6)) (List.mem_of_getElem? (i := 68) rfl) k h).1
theorem n_M_high (W : mW G) (h : bRo G 186 k) : zat G k = 6 := Nat.le_antisymm (W.2.2.1 (186, (6, 6)) (List.mem_of_getElem? (i := 69) rfl) k h).2 (W.2.2.1 (186, (6, 6)) (List.mem_of_getElem? (i := 69) rfl) k h).1
theorem n_M_slope (W : mW G) (h : bRo G 187 k) : zat G k = 6 := Nat.le_antisymm (W.2.2.1 (187, (6, 6)) (List.mem_of_getElem? (i := 70) rfl) k h).2 (W.2.2.1 (187, (6, 6)) (List.mem_of_getElem? (i := 70) rfl) k h).1
theorem n_M_dimensions (W : mW G) (h : bRo G 188 k) : zat G k = 6 := Nat.le_antisymm (W.2.2.1 (188, (6, 6)) (List.mem_of_getElem? (i := 71) rfl) k h).2 (W.2.2.1 (188, (6, 6)) (List.mem_of_getElem? (i := 71) rfl) k h).1
theorem n_M_rowsAt (W : mW G) (h : bRo G 189 k) : zat G k = 6 := Nat.le_antisymm (W.2.2.1 (189, (6, 6)) (List.mem_of_getElem? (i := 72) rfl) k h).2 (W.2.2.1 (189, (6, 6)) (List.mem_of_getElem? (i := 72) rfl) k h).1
theorem n_M_machineOf (W : mW G) (h : bRo G 190 k) : zat G k = 36 := Nat.le_antisymm (W.2.2.1 (190, (36, 36)) (List.mem_of_getElem? (i := 73) rfl) k h).2 (W.2.2.1 (190, (36, 36)) (List.mem_of_getElem? (i := 73) rfl) k h).1
theorem n_M_ruleAct (W : mW G) (h : bRo G 191 k) : zat G k = 12 := Nat.le_antisymm (W.2.2.1 (191, (12, 12)) (List.mem_of_getElem? (i := 74) rfl) k h).2 (W.2.2.1 (191, (12, 12)) (List.mem_of_getElem? (i := 74) rfl) k h).1
theorem n_M_ruleFrom (W : mW G) (h : bRo G 192 k) : zat G k = 13 := Nat.le_antisymm (W.2.2.1 (192, (13, 13)) (List.mem_of_getElem? (i := 75) rfl) k h).2 (W.2.2.1 (192, (13, 13)) (List.mem_of_getElem? (i := 75) rfl) k h).1
theorem n_M_code (W : mW G) (h : bRo G 193 k) : zat G k = 10000 := Nat.le_antisymm (W.2.2.1 (193, (10000, 10000)) (List.mem_of_getElem? (i := 76) rfl) k h).2 (W.2.2.1 (193, (10000, 10000)) (List.mem_of_getElem? (i := 76) rfl) k h).1
theorem n_M_newAct (W : mW G) (h : bRo G 194 k) : zat G k = 12 := Nat.le_antisymm (W.2.2.1 (194, (12, 12)) (List.mem_of_getElem? (i := 77) rfl) k h).2 (W.2.2.1 (194, (12, 12)) (List.mem_of_getElem? (i := 77) rfl) k h).1
theorem n_M_newFrom (W : mW G) (h : bRo G 195 k) : zat G k = 13 := Nat.le_antisymm (W.2.2.1 (195, (13, 13)) (List.mem_of_getElem? (i := 78) rfl) k h).2 (W.2.2.1 (195, (13, 13)) (List.mem_of_getElem? (i := 78) rfl) k h).1
theorem n_M_newCode (W : mW G) (h : bRo G 196 k) : zat G k = 10000 := Nat.le_antisymm (W.2.2.1 (196, (10000, 10000)) (List.mem_of_getElem? (i := 79) rfl) k h).2 (W.2.2.1 (196, (10000, 10000)) (List.mem_of_getElem? (i := 79) rfl) k h).1
theorem n_M_stepAct (W : mW G) (h : bRo G 197 k) : zat G k = 24 := Nat.le_antisymm (W.2.2.1 (197, (24, 24)) (List.mem_of_getElem? (i := 80) rfl) k h).2 (W.2.2.1 (197, (24, 24)) (List.mem_of_getElem? (i := 80) rfl) k h).1
theorem n_M_stepOf (W : mW G) (h : bRo G 198 k) : zat G k = 24 := Nat.le_antisymm (W.2.2.1 (198, (24, 24)) (List.mem_of_getElem? (i := 81) rfl) k h).2 (W.2.2.1 (198, (24, 24)) (List.mem_of_getElem? (i := 81) rfl) k h).1
theorem n_M_newStepAct (W : mW G) (h : bRo G 199 k) : zat G k = 24 := Nat.le_antisymm (W.2.2.1 (199, (24, 24)) (List.mem_of_getElem? (i := 82) rfl) k h).2 (W.2.2.1 (199, (24, 24)) (List.mem_of_getElem? (i := 82) rfl) k h).1
theorem n_M_newStepOf (W : mW G) (h : bRo G 200 k) : zat G k = 24 := Nat.le_antisymm (W.2.2.1 (200, (24, 24)) (List.mem_of_getElem? (i := 83) rfl) k h).2 (W.2.2.1 (200, (24, 24)) (List.mem_of_getElem? (i := 83) rfl) k h).1
theorem n_M_seenField (W : mW G) (h : bRo G 201 k) : zat G k = 2640 := Nat.le_antisymm (W.2.2.1 (201, (2640, 2640)) (List.mem_of_getElem? (i := 84) rfl) k h).2 (W.2.2.1 (201, (2640, 2640)) (List.mem_of_getElem? (i := 84) rfl) k h).1
theorem n_M_seenNode (W : mW G) (h : bRo G 202 k) : zat G k = 32 := Nat.le_antisymm (W.2.2.1 (202, (32, 32)) (List.mem_of_getElem? (i := 85) rfl) k h).2 (W.2.2.1 (202, (32, 32)) (List.mem_of_getElem? (i := 85) rfl) k h).1
theorem n_M_seenLive (W : mW G) (h : bRo G 203 k) : zat G k = 32 := Nat.le_antisymm (W.2.2.1 (203, (32, 32)) (List.mem_of_getElem? (i := 86) rfl) k h).2 (W.2.2.1 (203, (32, 32)) (List.mem_of_getElem? (i := 86) rfl) k h).1
theorem n_M_seenLost (W : mW G) (h : bRo G 204 k) : zat G k = 2 := Nat.le_antisymm (W.2.2.1 (204, (2, 2)) (List.mem_of_getElem? (i := 87) rfl) k h).2 (W.2.2.1 (204, (2, 2)) (List.mem_of_getElem? (i := 87) rfl) k h).1
theorem n_M_seenOver (W : mW G) (h : bRo G 205 k) : zat G k = 2 := Nat.le_antisymm (W.2.2.1 (205, (2, 2)) (List.mem_of_getElem? (i := 88) rfl) k h).2 (W.2.2.1 (205, (2, 2)) (List.mem_of_getElem? (i := 88) rfl) k h).1
theorem n_M_seenLoops (W : mW G) (h : bRo G 206 k) : zat G k = 2 := Nat.le_antisymm (W.2.2.1 (206, (2, 2)) (List.mem_of_getElem? (i := 89) rfl) k h).2 (W.2.2.1 (206, (2, 2)) (List.mem_of_getElem? (i := 89) rfl) k h).1
theorem n_M_pile (W : mW G) (h : bRo G 207 k) : zat G k = 2500 := Nat.le_antisymm (W.2.2.1 (207, (2500, 2500)) (List.mem_of_getElem? (i := 90) rfl) k h).2 (W.2.2.1 (207, (2500, 2500)) (List.mem_of_getElem? (i := 90) rfl) k h).1
theorem n_M_fieldsBefore (W : mW G) (h : bRo G 208 k) : zat G k = 1320 := Nat.le_antisymm (W.2.2.1 (208, (1320, 1320)) (List.mem_of_getElem? (i := 91) rfl) k h).2 (W.2.2.1 (208, (1320, 1320)) (List.mem_of_getElem? (i := 91) rfl) k h).1
theorem n_M_restoredSwitch (W : mW G) (h : bRo G 209 k) : zat G k = 3 := Nat.le_antisymm (W.2.2.1 (209, (3, 3)) (List.mem_of_getElem? (i := 92) rfl) k h).2 (W.2.2.1 (209, (3, 3)) (List.mem_of_getElem? (i := 92) rfl) k h).1
theorem n_M_openSwitch (W : mW G) (h : bRo G 210 k) : zat G k = 8 := Nat.le_antisymm (W.2.2.1 (210, (8, 8)) (List.mem_of_getElem? (i := 93) rfl) k h).2 (W.2.2.1 (210, (8, 8)) (List.mem_of_getElem? (i := 93) rfl) k h).1
theorem n_M_row (W : mW G) (h : bRo G 211 k) : zat G k = 3 := Nat.le_antisymm (W.2.2.1 (211, (3, 3)) (List.mem_of_getElem? (i := 94) rfl) k h).2 (W.2.2.1 (211, (3, 3)) (List.mem_of_getElem? (i := 94) rfl) k h).1
theorem n_M_isWell (W : mW G) (h : bRo G 212 k) : zat G k = 256 := Nat.le_antisymm (W.2.2.1 (212, (256, 256)) (List.mem_of_getElem? (i := 95) rfl) k h).2 (W.2.2.1 (212, (256, 256)) (List.mem_of_getElem? (i := 95) rfl) k h).1
theorem n_M_lostBy (W : mW G) (h : bRo G 213 k) : zat G k = 256 := Nat.le_antisymm (W.2.2.1 (213, (256, 256)) (List.mem_of_getElem? (i := 96) rfl) k h).2 (W.2.2.1 (213, (256, 256)) (List.mem_of_getElem? (i := 96) rfl) k h).1
theorem n_M_PRIME (W : mW G) (h : bRo G 13 k) : zat G k = 40 := Nat.le_antisymm (W.2.2.1 (13, (40, 40)) (List.mem_of_getElem? (i := 97) rfl) k h).2 (W.2.2.1 (13, (40, 40)) (List.mem_of_getElem? (i := 97) rfl) k h).1
theorem s_M (W : mW G) : bRo G 116 2073 := (W.2.2.2.1 (116, 2073) (List.mem_of_getElem? (i := 0) rfl)).1
theorem u_M (W : mW G) (h : bRo G 116 k) : k = 2073 := (W.2.2.2.1 (116, 2073) (List.mem_of_getElem? (i := 0) rfl)).2 k h
theorem s_M_big (W : mW G) : bRo G 117 2074 := (W.2.2.2.1 (117, 2074) (List.mem_of_getElem? (i := 1) rfl)).1
theorem u_M_big (W : mW G) (h : bRo G 117 k) : k = 2074 := (W.2.2.2.1 (117, 2074) (List.mem_of_getElem? (i := 1) rfl)).2 k h
theorem s_M_length (W : mW G) : bRo G 118 2075 := (W.2.2.2.1 (118, 2075) (List.mem_of_getElem? (i := 2) rfl)).1
theorem u_M_length (W : mW G) (h : bRo G 118 k) : k = 2075 := (W.2.2.2.1 (118, 2075) (List.mem_of_getElem? (i := 2) rfl)).2 k h
theorem s_M_sign (W : mW G) : bRo G 119 2076 := (W.2.2.2.1 (119, 2076) (List.mem_of_getElem? (i := 3) rfl)).1
theorem u_M_sign (W : mW G) (h : bRo G 119 k) : k = 2076 := (W.2.2.2.1 (119, 2076) (List.mem_of_getElem? (i := 3) rfl)).2 k h
theorem s_M_product (W : mW G) : bRo G 120 2077 := (W.2.2.2.1 (120, 2077) (List.mem_of_getElem? (i := 4) rfl)).1
theorem u_M_product (W : mW G) (h : bRo G 120 k) : k = 2077 := (W.2.2.2.1 (120, 2077) (List.mem_of_getElem? (i := 4) rfl)).2 k h
theorem s_M_upper (W : mW G) : bRo G 121 2078 := (W.2.2.2.1 (121, 2078) (List.mem_of_getElem? (i := 5) rfl)).1
theorem u_M_upper (W : mW G) (h : bRo G 121 k) : k = 2078 := (W.2.2.2.1 (121, 2078) (List.mem_of_getElem? (i := 5) rfl)).2 k h
theorem s_M_lower (W : mW G) : bRo G 122 2079 := (W.2.2.2.1 (122, 2079) (List.mem_of_getElem? (i := 6) rfl)).1
theorem u_M_lower (W : mW G) (h : bRo G 122 k) : k = 2079 := (W.2.2.2.1 (122, 2079) (List.mem_of_getElem? (i := 6) rfl)).2 k h
theorem s_M_inverseOf (W : mW G) : bRo G 123 2080 := (W.2.2.2.1 (123, 2080) (List.mem_of_getElem? (i := 7) rfl)).1
theorem u_M_inverseOf (W : mW G) (h : bRo G 123 k) : k = 2080 := (W.2.2.2.1 (123, 2080) (List.mem_of_getElem? (i := 7) rfl)).2 k h
theorem s_M_residue (W : mW G) : bRo G 124 2081 := (W.2.2.2.1 (124, 2081) (List.mem_of_getElem? (i := 8) rfl)).1
theorem u_M_residue (W : mW G) (h : bRo G 124 k) : k = 2081 := (W.2.2.2.1 (124, 2081) (List.mem_of_getElem? (i := 8) rfl)).2 k h
theorem s_M_used (W : mW G) : bRo G 125 2082 := (W.2.2.2.1 (125, 2082) (List.mem_of_getElem? (i := 9) rfl)).1
theorem u_M_used (W : mW G) (h : bRo G 125 k) : k = 2082 := (W.2.2.2.1 (125, 2082) (List.mem_of_getElem? (i := 9) rfl)).2 k h
theorem s_M_matrix (W : mW G) : bRo G 126 2083 := (W.2.2.2.1 (126, 2083) (List.mem_of_getElem? (i := 10) rfl)).1
theorem u_M_matrix (W : mW G) (h : bRo G 126 k) : k = 2083 := (W.2.2.2.1 (126, 2083) (List.mem_of_getElem? (i := 10) rfl)).2 k h
theorem s_M_mixed (W : mW G) : bRo G 127 2084 := (W.2.2.2.1 (127, 2084) (List.mem_of_getElem? (i := 11) rfl)).1
theorem u_M_mixed (W : mW G) (h : bRo G 127 k) : k = 2084 := (W.2.2.2.1 (127, 2084) (List.mem_of_getElem? (i := 11) rfl)).2 k h
theorem s_M_tape (W : mW G) : bRo G 128 2085 := (W.2.2.2.1 (128, 2085) (List.mem_of_getElem? (i := 12) rfl)).1
theorem u_M_tape (W : mW G) (h : bRo G 128 k) : k = 2085 := (W.2.2.2.1 (128, 2085) (List.mem_of_getElem? (i := 12) rfl)).2 k h
theorem s_M_wordAt (W : mW G) : bRo G 129 2086 := (W.2.2.2.1 (129, 2086) (List.mem_of_getElem? (i := 13) rfl)).1
theorem u_M_wordAt (W : mW G) (h : bRo G 129 k) : k = 2086 := (W.2.2.2.1 (129, 2086) (List.mem_of_getElem? (i := 13) rfl)).2 k h
theorem s_M_wordSize (W : mW G) : bRo G 130 2087 := (W.2.2.2.1 (130, 2087) (List.mem_of_getElem? (i := 14) rfl)).1
theorem u_M_wordSize (W : mW G) (h : bRo G 130 k) : k = 2087 := (W.2.2.2.1 (130, 2087) (List.mem_of_getElem? (i := 14) rfl)).2 k h
theorem s_M_count (W : mW G) : bRo G 131 2088 := (W.2.2.2.1 (131, 2088) (List.mem_of_getElem? (i := 15) rfl)).1
theorem u_M_count (W : mW G) (h : bRo G 131 k) : k = 2088 := (W.2.2.2.1 (131, 2088) (List.mem_of_getElem? (i := 15) rfl)).2 k h
theorem s_M_field (W : mW G) : bRo G 132 2089 := (W.2.2.2.1 (132, 2089) (List.mem_of_getElem? (i := 16) rfl)).1
theorem u_M_field (W : mW G) (h : bRo G 132 k) : k = 2089 := (W.2.2.2.1 (132, 2089) (List.mem_of_getElem? (i := 16) rfl)).2 k h
theorem s_M_name (W : mW G) : bRo G 133 2090 := (W.2.2.2.1 (133, 2090) (List.mem_of_getElem? (i := 17) rfl)).1
theorem u_M_name (W : mW G) (h : bRo G 133 k) : k = 2090 := (W.2.2.2.1 (133, 2090) (List.mem_of_getElem? (i := 17) rfl)).2 k h
theorem s_M_nameSize (W : mW G) : bRo G 134 2091 := (W.2.2.2.1 (134, 2091) (List.mem_of_getElem? (i := 18) rfl)).1
theorem u_M_nameSize (W : mW G) (h : bRo G 134 k) : k = 2091 := (W.2.2.2.1 (134, 2091) (List.mem_of_getElem? (i := 18) rfl)).2 k h
theorem s_M_newCount (W : mW G) : bRo G 135 2092 := (W.2.2.2.1 (135, 2092) (List.mem_of_getElem? (i := 19) rfl)).1
theorem u_M_newCount (W : mW G) (h : bRo G 135 k) : k = 2092 := (W.2.2.2.1 (135, 2092) (List.mem_of_getElem? (i := 19) rfl)).2 k h
theorem s_M_newField (W : mW G) : bRo G 136 2093 := (W.2.2.2.1 (136, 2093) (List.mem_of_getElem? (i := 20) rfl)).1
theorem u_M_newField (W : mW G) (h : bRo G 136 k) : k = 2093 := (W.2.2.2.1 (136, 2093) (List.mem_of_getElem? (i := 20) rfl)).2 k h
theorem s_M_newName (W : mW G) : bRo G 137 2094 := (W.2.2.2.1 (137, 2094) (List.mem_of_getElem? (i := 21) rfl)).1
theorem u_M_newName (W : mW G) (h : bRo G 137 k) : k = 2094 := (W.2.2.2.1 (137, 2094) (List.mem_of_getElem? (i := 21) rfl)).2 k h
theorem s_M_newSize (W : mW G) : bRo G 138 2095 := (W.2.2.2.1 (138, 2095) (List.mem_of_getElem? (i := 22) rfl)).1
theorem u_M_newSize (W : mW G) (h : bRo G 138 k) : k = 2095 := (W.2.2.2.1 (138, 2095) (List.mem_of_getElem? (i := 22) rfl)).2 k h
theorem s_M_kept (W : mW G) : bRo G 139 2096 := (W.2.2.2.1 (139, 2096) (List.mem_of_getElem? (i := 23) rfl)).1
theorem u_M_kept (W : mW G) (h : bRo G 139 k) : k = 2096 := (W.2.2.2.1 (139, 2096) (List.mem_of_getElem? (i := 23) rfl)).2 k h
theorem s_M_isKept (W : mW G) : bRo G 140 2097 := (W.2.2.2.1 (140, 2097) (List.mem_of_getElem? (i := 24) rfl)).1
theorem u_M_isKept (W : mW G) (h : bRo G 140 k) : k = 2097 := (W.2.2.2.1 (140, 2097) (List.mem_of_getElem? (i := 24) rfl)).2 k h
theorem s_M_stateNow (W : mW G) : bRo G 141 2098 := (W.2.2.2.1 (141, 2098) (List.mem_of_getElem? (i := 25) rfl)).1
theorem u_M_stateNow (W : mW G) (h : bRo G 141 k) : k = 2098 := (W.2.2.2.1 (141, 2098) (List.mem_of_getElem? (i := 25) rfl)).2 k h
theorem s_M_inNow (W : mW G) : bRo G 142 2099 := (W.2.2.2.1 (142, 2099) (List.mem_of_getElem? (i := 26) rfl)).1
theorem u_M_inNow (W : mW G) (h : bRo G 142 k) : k = 2099 := (W.2.2.2.1 (142, 2099) (List.mem_of_getElem? (i := 26) rfl)).2 k h
theorem s_M_node (W : mW G) : bRo G 143 2100 := (W.2.2.2.1 (143, 2100) (List.mem_of_getElem? (i := 27) rfl)).1
theorem u_M_node (W : mW G) (h : bRo G 143 k) : k = 2100 := (W.2.2.2.1 (143, 2100) (List.mem_of_getElem? (i := 27) rfl)).2 k h
theorem s_M_island (W : mW G) : bRo G 144 2101 := (W.2.2.2.1 (144, 2101) (List.mem_of_getElem? (i := 28) rfl)).1
theorem u_M_island (W : mW G) (h : bRo G 144 k) : k = 2101 := (W.2.2.2.1 (144, 2101) (List.mem_of_getElem? (i := 28) rfl)).2 k h
theorem s_M_isLive (W : mW G) : bRo G 145 2102 := (W.2.2.2.1 (145, 2102) (List.mem_of_getElem? (i := 29) rfl)).1
theorem u_M_isLive (W : mW G) (h : bRo G 145 k) : k = 2102 := (W.2.2.2.1 (145, 2102) (List.mem_of_getElem? (i := 29) rfl)).2 k h
theorem s_M_nodeAt (W : mW G) : bRo G 146 2103 := (W.2.2.2.1 (146, 2103) (List.mem_of_getElem? (i := 30) rfl)).1
theorem u_M_nodeAt (W : mW G) (h : bRo G 146 k) : k = 2103 := (W.2.2.2.1 (146, 2103) (List.mem_of_getElem? (i := 30) rfl)).2 k h
theorem s_M_placeOf (W : mW G) : bRo G 147 2104 := (W.2.2.2.1 (147, 2104) (List.mem_of_getElem? (i := 31) rfl)).1
theorem u_M_placeOf (W : mW G) (h : bRo G 147 k) : k = 2104 := (W.2.2.2.1 (147, 2104) (List.mem_of_getElem? (i := 31) rfl)).2 k h
theorem s_M_isStuck (W : mW G) : bRo G 148 2105 := (W.2.2.2.1 (148, 2105) (List.mem_of_getElem? (i := 32) rfl)).1
theorem u_M_isStuck (W : mW G) (h : bRo G 148 k) : k = 2105 := (W.2.2.2.1 (148, 2105) (List.mem_of_getElem? (i := 32) rfl)).2 k h
theorem s_M_lack (W : mW G) : bRo G 149 2106 := (W.2.2.2.1 (149, 2106) (List.mem_of_getElem? (i := 33) rfl)).1
theorem u_M_lack (W : mW G) (h : bRo G 149 k) : k = 2106 := (W.2.2.2.1 (149, 2106) (List.mem_of_getElem? (i := 33) rfl)).2 k h
theorem s_M_share (W : mW G) : bRo G 150 2107 := (W.2.2.2.1 (150, 2107) (List.mem_of_getElem? (i := 34) rfl)).1
theorem u_M_share (W : mW G) (h : bRo G 150 k) : k = 2107 := (W.2.2.2.1 (150, 2107) (List.mem_of_getElem? (i := 34) rfl)).2 k h
theorem s_M_isOver (W : mW G) : bRo G 151 2108 := (W.2.2.2.1 (151, 2108) (List.mem_of_getElem? (i := 35) rfl)).1
theorem u_M_isOver (W : mW G) (h : bRo G 151 k) : k = 2108 := (W.2.2.2.1 (151, 2108) (List.mem_of_getElem? (i := 35) rfl)).2 k h
theorem s_M_putIn (W : mW G) : bRo G 152 2109 := (W.2.2.2.1 (152, 2109) (List.mem_of_getElem? (i := 36) rfl)).1
theorem u_M_putIn (W : mW G) (h : bRo G 152 k) : k = 2109 := (W.2.2.2.1 (152, 2109) (List.mem_of_getElem? (i := 36) rfl)).2 k h
theorem s_M_isScreened (W : mW G) : bRo G 153 2110 := (W.2.2.2.1 (153, 2110) (List.mem_of_getElem? (i := 37) rfl)).1
theorem u_M_isScreened (W : mW G) (h : bRo G 153 k) : k = 2110 := (W.2.2.2.1 (153, 2110) (List.mem_of_getElem? (i := 37) rfl)).2 k h
theorem s_M_troubleLine (W : mW G) : bRo G 154 2111 := (W.2.2.2.1 (154, 2111) (List.mem_of_getElem? (i := 38) rfl)).1
theorem u_M_troubleLine (W : mW G) (h : bRo G 154 k) : k = 2111 := (W.2.2.2.1 (154, 2111) (List.mem_of_getElem? (i := 38) rfl)).2 k h
theorem s_M_troubleSort (W : mW G) : bRo G 155 2112 := (W.2.2.2.1 (155, 2112) (List.mem_of_getElem? (i := 39) rfl)).1
theorem u_M_troubleSort (W : mW G) (h : bRo G 155 k) : k = 2112 := (W.2.2.2.1 (155, 2112) (List.mem_of_getElem? (i := 39) rfl)).2 k h
theorem s_M_troubleLost (W : mW G) : bRo G 156 2113 := (W.2.2.2.1 (156, 2113) (List.mem_of_getElem? (i := 40) rfl)).1
theorem u_M_troubleLost (W : mW G) (h : bRo G 156 k) : k = 2113 := (W.2.2.2.1 (156, 2113) (List.mem_of_getElem? (i := 40) rfl)).2 k h
theorem s_M_troubleOver (W : mW G) : bRo G 157 2114 := (W.2.2.2.1 (157, 2114) (List.mem_of_getElem? (i := 41) rfl)).1
theorem u_M_troubleOver (W : mW G) (h : bRo G 157 k) : k = 2114 := (W.2.2.2.1 (157, 2114) (List.mem_of_getElem? (i := 41) rfl)).2 k h
theorem s_M_meterKind (W : mW G) : bRo G 158 2115 := (W.2.2.2.1 (158, 2115) (List.mem_of_getElem? (i := 42) rfl)).1
theorem u_M_meterKind (W : mW G) (h : bRo G 158 k) : k = 2115 := (W.2.2.2.1 (158, 2115) (List.mem_of_getElem? (i := 42) rfl)).2 k h
theorem s_M_meterAt (W : mW G) : bRo G 159 2116 := (W.2.2.2.1 (159, 2116) (List.mem_of_getElem? (i := 43) rfl)).1
theorem u_M_meterAt (W : mW G) (h : bRo G 159 k) : k = 2116 := (W.2.2.2.1 (159, 2116) (List.mem_of_getElem? (i := 43) rfl)).2 k h
theorem s_M_meterValue (W : mW G) : bRo G 160 2117 := (W.2.2.2.1 (160, 2117) (List.mem_of_getElem? (i := 44) rfl)).1
theorem u_M_meterValue (W : mW G) (h : bRo G 160 k) : k = 2117 := (W.2.2.2.1 (160, 2117) (List.mem_of_getElem? (i := 44) rfl)).2 k h
theorem s_M_meterWeight (W : mW G) : bRo G 161 2118 := (W.2.2.2.1 (161, 2118) (List.mem_of_getElem? (i := 45) rfl)).1
theorem u_M_meterWeight (W : mW G) (h : bRo G 161 k) : k = 2118 := (W.2.2.2.1 (161, 2118) (List.mem_of_getElem? (i := 45) rfl)).2 k h
theorem s_M_isStruck (W : mW G) : bRo G 162 2119 := (W.2.2.2.1 (162, 2119) (List.mem_of_getElem? (i := 46) rfl)).1
theorem u_M_isStruck (W : mW G) (h : bRo G 162 k) : k = 2119 := (W.2.2.2.1 (162, 2119) (List.mem_of_getElem? (i := 46) rfl)).2 k h
theorem s_M_isWhole (W : mW G) : bRo G 163 2120 := (W.2.2.2.1 (163, 2120) (List.mem_of_getElem? (i := 47) rfl)).1
theorem u_M_isWhole (W : mW G) (h : bRo G 163 k) : k = 2120 := (W.2.2.2.1 (163, 2120) (List.mem_of_getElem? (i := 47) rfl)).2 k h
theorem s_M_isSeen (W : mW G) : bRo G 164 2121 := (W.2.2.2.1 (164, 2121) (List.mem_of_getElem? (i := 48) rfl)).1
theorem u_M_isSeen (W : mW G) (h : bRo G 164 k) : k = 2121 := (W.2.2.2.1 (164, 2121) (List.mem_of_getElem? (i := 48) rfl)).2 k h
theorem s_M_shows (W : mW G) : bRo G 165 2122 := (W.2.2.2.1 (165, 2122) (List.mem_of_getElem? (i := 49) rfl)).1
theorem u_M_shows (W : mW G) (h : bRo G 165 k) : k = 2122 := (W.2.2.2.1 (165, 2122) (List.mem_of_getElem? (i := 49) rfl)).2 k h
theorem s_M_conductance (W : mW G) : bRo G 166 2123 := (W.2.2.2.1 (166, 2123) (List.mem_of_getElem? (i := 50) rfl)).1
theorem u_M_conductance (W : mW G) (h : bRo G 166 k) : k = 2123 := (W.2.2.2.1 (166, 2123) (List.mem_of_getElem? (i := 50) rfl)).2 k h
theorem s_M_rankWith (W : mW G) : bRo G 167 2124 := (W.2.2.2.1 (167, 2124) (List.mem_of_getElem? (i := 51) rfl)).1
theorem u_M_rankWith (W : mW G) (h : bRo G 167 k) : k = 2124 := (W.2.2.2.1 (167, 2124) (List.mem_of_getElem? (i := 51) rfl)).2 k h
theorem s_M_relayLine (W : mW G) : bRo G 168 2125 := (W.2.2.2.1 (168, 2125) (List.mem_of_getElem? (i := 52) rfl)).1
theorem u_M_relayLine (W : mW G) (h : bRo G 168 k) : k = 2125 := (W.2.2.2.1 (168, 2125) (List.mem_of_getElem? (i := 52) rfl)).2 k h
theorem s_M_relayEnd (W : mW G) : bRo G 169 2126 := (W.2.2.2.1 (169, 2126) (List.mem_of_getElem? (i := 53) rfl)).1
theorem u_M_relayEnd (W : mW G) (h : bRo G 169 k) : k = 2126 := (W.2.2.2.1 (169, 2126) (List.mem_of_getElem? (i := 53) rfl)).2 k h
theorem s_M_relaySwitch (W : mW G) : bRo G 170 2127 := (W.2.2.2.1 (170, 2127) (List.mem_of_getElem? (i := 54) rfl)).1
theorem u_M_relaySwitch (W : mW G) (h : bRo G 170 k) : k = 2127 := (W.2.2.2.1 (170, 2127) (List.mem_of_getElem? (i := 54) rfl)).2 k h
theorem s_M_relayKind (W : mW G) : bRo G 171 2128 := (W.2.2.2.1 (171, 2128) (List.mem_of_getElem? (i := 55) rfl)).1
theorem u_M_relayKind (W : mW G) (h : bRo G 171 k) : k = 2128 := (W.2.2.2.1 (171, 2128) (List.mem_of_getElem? (i := 55) rfl)).2 k h
theorem s_M_rowCount (W : mW G) : bRo G 172 2129 := (W.2.2.2.1 (172, 2129) (List.mem_of_getElem? (i := 56) rfl)).1
theorem u_M_rowCount (W : mW G) (h : bRo G 172 k) : k = 2129 := (W.2.2.2.1 (172, 2129) (List.mem_of_getElem? (i := 56) rfl)).2 k h
theorem s_M_setting (W : mW G) : bRo G 173 2130 := (W.2.2.2.1 (173, 2130) (List.mem_of_getElem? (i := 57) rfl)).1
theorem u_M_setting (W : mW G) (h : bRo G 173 k) : k = 2130 := (W.2.2.2.1 (173, 2130) (List.mem_of_getElem? (i := 57) rfl)).2 k h
theorem s_M_delay (W : mW G) : bRo G 174 2131 := (W.2.2.2.1 (174, 2131) (List.mem_of_getElem? (i := 58) rfl)).1
theorem u_M_delay (W : mW G) (h : bRo G 174 k) : k = 2131 := (W.2.2.2.1 (174, 2131) (List.mem_of_getElem? (i := 58) rfl)).2 k h
theorem s_M_doesFail (W : mW G) : bRo G 175 2132 := (W.2.2.2.1 (175, 2132) (List.mem_of_getElem? (i := 59) rfl)).1
theorem u_M_doesFail (W : mW G) (h : bRo G 175 k) : k = 2132 := (W.2.2.2.1 (175, 2132) (List.mem_of_getElem? (i := 59) rfl)).2 k h
theorem s_M_runState (W : mW G) : bRo G 176 2133 := (W.2.2.2.1 (176, 2133) (List.mem_of_getElem? (i := 60) rfl)).1
theorem u_M_runState (W : mW G) (h : bRo G 176 k) : k = 2133 := (W.2.2.2.1 (176, 2133) (List.mem_of_getElem? (i := 60) rfl)).2 k h
theorem s_M_hasOrder (W : mW G) : bRo G 177 2134 := (W.2.2.2.1 (177, 2134) (List.mem_of_getElem? (i := 61) rfl)).1
theorem u_M_hasOrder (W : mW G) (h : bRo G 177 k) : k = 2134 := (W.2.2.2.1 (177, 2134) (List.mem_of_getElem? (i := 61) rfl)).2 k h
theorem s_M_opensAt (W : mW G) : bRo G 178 2135 := (W.2.2.2.1 (178, 2135) (List.mem_of_getElem? (i := 62) rfl)).1
theorem u_M_opensAt (W : mW G) (h : bRo G 178 k) : k = 2135 := (W.2.2.2.1 (178, 2135) (List.mem_of_getElem? (i := 62) rfl)).2 k h
theorem s_M_backupAt (W : mW G) : bRo G 179 2136 := (W.2.2.2.1 (179, 2136) (List.mem_of_getElem? (i := 63) rfl)).1
theorem u_M_backupAt (W : mW G) (h : bRo G 179 k) : k = 2136 := (W.2.2.2.1 (179, 2136) (List.mem_of_getElem? (i := 63) rfl)).2 k h
theorem s_M_since (W : mW G) : bRo G 180 2137 := (W.2.2.2.1 (180, 2137) (List.mem_of_getElem? (i := 64) rfl)).1
theorem u_M_since (W : mW G) (h : bRo G 180 k) : k = 2137 := (W.2.2.2.1 (180, 2137) (List.mem_of_getElem? (i := 64) rfl)).2 k h
theorem s_M_hasTripped (W : mW G) : bRo G 181 2138 := (W.2.2.2.1 (181, 2138) (List.mem_of_getElem? (i := 65) rfl)).1
theorem u_M_hasTripped (W : mW G) (h : bRo G 181 k) : k = 2138 := (W.2.2.2.1 (181, 2138) (List.mem_of_getElem? (i := 65) rfl)).2 k h
theorem s_M_openedSwitch (W : mW G) : bRo G 182 2139 := (W.2.2.2.1 (182, 2139) (List.mem_of_getElem? (i := 66) rfl)).1
theorem u_M_openedSwitch (W : mW G) (h : bRo G 182 k) : k = 2139 := (W.2.2.2.1 (182, 2139) (List.mem_of_getElem? (i := 66) rfl)).2 k h
theorem s_M_openedAt (W : mW G) : bRo G 183 2140 := (W.2.2.2.1 (183, 2140) (List.mem_of_getElem? (i := 67) rfl)).1
theorem u_M_openedAt (W : mW G) (h : bRo G 183 k) : k = 2140 := (W.2.2.2.1 (183, 2140) (List.mem_of_getElem? (i := 67) rfl)).2 k h
theorem s_M_machineAt (W : mW G) : bRo G 184 2141 := (W.2.2.2.1 (184, 2141) (List.mem_of_getElem? (i := 68) rfl)).1
theorem u_M_machineAt (W : mW G) (h : bRo G 184 k) : k = 2141 := (W.2.2.2.1 (184, 2141) (List.mem_of_getElem? (i := 68) rfl)).2 k h
theorem s_M_low (W : mW G) : bRo G 185 2142 := (W.2.2.2.1 (185, 2142) (List.mem_of_getElem? (i := 69) rfl)).1
theorem u_M_low (W : mW G) (h : bRo G 185 k) : k = 2142 := (W.2.2.2.1 (185, 2142) (List.mem_of_getElem? (i := 69) rfl)).2 k h
theorem s_M_high (W : mW G) : bRo G 186 2143 := (W.2.2.2.1 (186, 2143) (List.mem_of_getElem? (i := 70) rfl)).1
theorem u_M_high (W : mW G) (h : bRo G 186 k) : k = 2143 := (W.2.2.2.1 (186, 2143) (List.mem_of_getElem? (i := 70) rfl)).2 k h
theorem s_M_slope (W : mW G) : bRo G 187 2144 := (W.2.2.2.1 (187, 2144) (List.mem_of_getElem? (i := 71) rfl)).1
theorem u_M_slope (W : mW G) (h : bRo G 187 k) : k = 2144 := (W.2.2.2.1 (187, 2144) (List.mem_of_getElem? (i := 71) rfl)).2 k h
theorem s_M_dimensions (W : mW G) : bRo G 188 2145 := (W.2.2.2.1 (188, 2145) (List.mem_of_getElem? (i := 72) rfl)).1
theorem u_M_dimensions (W : mW G) (h : bRo G 188 k) : k = 2145 := (W.2.2.2.1 (188, 2145) (List.mem_of_getElem? (i := 72) rfl)).2 k h
theorem s_M_rowsAt (W : mW G) : bRo G 189 2146 := (W.2.2.2.1 (189, 2146) (List.mem_of_getElem? (i := 73) rfl)).1
theorem u_M_rowsAt (W : mW G) (h : bRo G 189 k) : k = 2146 := (W.2.2.2.1 (189, 2146) (List.mem_of_getElem? (i := 73) rfl)).2 k h
theorem s_M_machineOf (W : mW G) : bRo G 190 2147 := (W.2.2.2.1 (190, 2147) (List.mem_of_getElem? (i := 74) rfl)).1
theorem u_M_machineOf (W : mW G) (h : bRo G 190 k) : k = 2147 := (W.2.2.2.1 (190, 2147) (List.mem_of_getElem? (i := 74) rfl)).2 k h
theorem s_M_ruleAct (W : mW G) : bRo G 191 2148 := (W.2.2.2.1 (191, 2148) (List.mem_of_getElem? (i := 75) rfl)).1
theorem u_M_ruleAct (W : mW G) (h : bRo G 191 k) : k = 2148 := (W.2.2.2.1 (191, 2148) (List.mem_of_getElem? (i := 75) rfl)).2 k h
theorem s_M_ruleFrom (W : mW G) : bRo G 192 2149 := (W.2.2.2.1 (192, 2149) (List.mem_of_getElem? (i := 76) rfl)).1
theorem u_M_ruleFrom (W : mW G) (h : bRo G 192 k) : k = 2149 := (W.2.2.2.1 (192, 2149) (List.mem_of_getElem? (i := 76) rfl)).2 k h
theorem s_M_code (W : mW G) : bRo G 193 2150 := (W.2.2.2.1 (193, 2150) (List.mem_of_getElem? (i := 77) rfl)).1
theorem u_M_code (W : mW G) (h : bRo G 193 k) : k = 2150 := (W.2.2.2.1 (193, 2150) (List.mem_of_getElem? (i := 77) rfl)).2 k h
theorem s_M_newAct (W : mW G) : bRo G 194 2151 := (W.2.2.2.1 (194, 2151) (List.mem_of_getElem? (i := 78) rfl)).1
theorem u_M_newAct (W : mW G) (h : bRo G 194 k) : k = 2151 := (W.2.2.2.1 (194, 2151) (List.mem_of_getElem? (i := 78) rfl)).2 k h
theorem s_M_newFrom (W : mW G) : bRo G 195 2152 := (W.2.2.2.1 (195, 2152) (List.mem_of_getElem? (i := 79) rfl)).1
theorem u_M_newFrom (W : mW G) (h : bRo G 195 k) : k = 2152 := (W.2.2.2.1 (195, 2152) (List.mem_of_getElem? (i := 79) rfl)).2 k h
theorem s_M_newCode (W : mW G) : bRo G 196 2153 := (W.2.2.2.1 (196, 2153) (List.mem_of_getElem? (i := 80) rfl)).1
theorem u_M_newCode (W : mW G) (h : bRo G 196 k) : k = 2153 := (W.2.2.2.1 (196, 2153) (List.mem_of_getElem? (i := 80) rfl)).2 k h
theorem s_M_stepAct (W : mW G) : bRo G 197 2154 := (W.2.2.2.1 (197, 2154) (List.mem_of_getElem? (i := 81) rfl)).1
theorem u_M_stepAct (W : mW G) (h : bRo G 197 k) : k = 2154 := (W.2.2.2.1 (197, 2154) (List.mem_of_getElem? (i := 81) rfl)).2 k h
theorem s_M_stepOf (W : mW G) : bRo G 198 2155 := (W.2.2.2.1 (198, 2155) (List.mem_of_getElem? (i := 82) rfl)).1
theorem u_M_stepOf (W : mW G) (h : bRo G 198 k) : k = 2155 := (W.2.2.2.1 (198, 2155) (List.mem_of_getElem? (i := 82) rfl)).2 k h
theorem s_M_newStepAct (W : mW G) : bRo G 199 2156 := (W.2.2.2.1 (199, 2156) (List.mem_of_getElem? (i := 83) rfl)).1
theorem u_M_newStepAct (W : mW G) (h : bRo G 199 k) : k = 2156 := (W.2.2.2.1 (199, 2156) (List.mem_of_getElem? (i := 83) rfl)).2 k h
theorem s_M_newStepOf (W : mW G) : bRo G 200 2157 := (W.2.2.2.1 (200, 2157) (List.mem_of_getElem? (i := 84) rfl)).1
theorem u_M_newStepOf (W : mW G) (h : bRo G 200 k) : k = 2157 := (W.2.2.2.1 (200, 2157) (List.mem_of_getElem? (i := 84) rfl)).2 k h
theorem s_M_seenField (W : mW G) : bRo G 201 2158 := (W.2.2.2.1 (201, 2158) (List.mem_of_getElem? (i := 85) rfl)).1
theorem u_M_seenField (W : mW G) (h : bRo G 201 k) : k = 2158 := (W.2.2.2.1 (201, 2158) (List.mem_of_getElem? (i := 85) rfl)).2 k h
theorem s_M_seenNode (W : mW G) : bRo G 202 2159 := (W.2.2.2.1 (202, 2159) (List.mem_of_getElem? (i := 86) rfl)).1
theorem u_M_seenNode (W : mW G) (h : bRo G 202 k) : k = 2159 := (W.2.2.2.1 (202, 2159) (List.mem_of_getElem? (i := 86) rfl)).2 k h
theorem s_M_seenLive (W : mW G) : bRo G 203 2160 := (W.2.2.2.1 (203, 2160) (List.mem_of_getElem? (i := 87) rfl)).1
theorem u_M_seenLive (W : mW G) (h : bRo G 203 k) : k = 2160 := (W.2.2.2.1 (203, 2160) (List.mem_of_getElem? (i := 87) rfl)).2 k h
theorem s_M_seenLost (W : mW G) : bRo G 204 2161 := (W.2.2.2.1 (204, 2161) (List.mem_of_getElem? (i := 88) rfl)).1
theorem u_M_seenLost (W : mW G) (h : bRo G 204 k) : k = 2161 := (W.2.2.2.1 (204, 2161) (List.mem_of_getElem? (i := 88) rfl)).2 k h
theorem s_M_seenOver (W : mW G) : bRo G 205 2162 := (W.2.2.2.1 (205, 2162) (List.mem_of_getElem? (i := 89) rfl)).1
theorem u_M_seenOver (W : mW G) (h : bRo G 205 k) : k = 2162 := (W.2.2.2.1 (205, 2162) (List.mem_of_getElem? (i := 89) rfl)).2 k h
theorem s_M_seenLoops (W : mW G) : bRo G 206 2163 := (W.2.2.2.1 (206, 2163) (List.mem_of_getElem? (i := 90) rfl)).1
theorem u_M_seenLoops (W : mW G) (h : bRo G 206 k) : k = 2163 := (W.2.2.2.1 (206, 2163) (List.mem_of_getElem? (i := 90) rfl)).2 k h
theorem s_M_pile (W : mW G) : bRo G 207 2164 := (W.2.2.2.1 (207, 2164) (List.mem_of_getElem? (i := 91) rfl)).1
theorem u_M_pile (W : mW G) (h : bRo G 207 k) : k = 2164 := (W.2.2.2.1 (207, 2164) (List.mem_of_getElem? (i := 91) rfl)).2 k h
theorem s_M_fieldsBefore (W : mW G) : bRo G 208 2165 := (W.2.2.2.1 (208, 2165) (List.mem_of_getElem? (i := 92) rfl)).1
theorem u_M_fieldsBefore (W : mW G) (h : bRo G 208 k) : k = 2165 := (W.2.2.2.1 (208, 2165) (List.mem_of_getElem? (i := 92) rfl)).2 k h
theorem s_M_restoredSwitch (W : mW G) : bRo G 209 2166 := (W.2.2.2.1 (209, 2166) (List.mem_of_getElem? (i := 93) rfl)).1
theorem u_M_restoredSwitch (W : mW G) (h : bRo G 209 k) : k = 2166 := (W.2.2.2.1 (209, 2166) (List.mem_of_getElem? (i := 93) rfl)).2 k h
theorem s_M_openSwitch (W : mW G) : bRo G 210 2167 := (W.2.2.2.1 (210, 2167) (List.mem_of_getElem? (i := 94) rfl)).1
theorem u_M_openSwitch (W : mW G) (h : bRo G 210 k) : k = 2167 := (W.2.2.2.1 (210, 2167) (List.mem_of_getElem? (i := 94) rfl)).2 k h
theorem s_M_row (W : mW G) : bRo G 211 2168 := (W.2.2.2.1 (211, 2168) (List.mem_of_getElem? (i := 95) rfl)).1
theorem u_M_row (W : mW G) (h : bRo G 211 k) : k = 2168 := (W.2.2.2.1 (211, 2168) (List.mem_of_getElem? (i := 95) rfl)).2 k h
theorem s_M_isWell (W : mW G) : bRo G 212 2169 := (W.2.2.2.1 (212, 2169) (List.mem_of_getElem? (i := 96) rfl)).1
theorem u_M_isWell (W : mW G) (h : bRo G 212 k) : k = 2169 := (W.2.2.2.1 (212, 2169) (List.mem_of_getElem? (i := 96) rfl)).2 k h
theorem s_M_lostBy (W : mW G) : bRo G 213 2170 := (W.2.2.2.1 (213, 2170) (List.mem_of_getElem? (i := 97) rfl)).1
theorem u_M_lostBy (W : mW G) (h : bRo G 213 k) : k = 2170 := (W.2.2.2.1 (213, 2170) (List.mem_of_getElem? (i := 97) rfl)).2 k h
theorem s_M_PRIME (W : mW G) : bRo G 13 14 := (W.2.2.2.1 (13, 14) (List.mem_of_getElem? (i := 98) rfl)).1
theorem u_M_PRIME (W : mW G) (h : bRo G 13 k) : k = 14 := (W.2.2.2.1 (13, 14) (List.mem_of_getElem? (i := 98) rfl)).2 k h
theorem w_M_thrown (W : mW G) (h : bRo G 116 k) : yFd G k 13 0 (0, (0, 3)) := bFd (d_M W) h rfl
theorem w_M_big (W : mW G) (h : bRo G 116 k) : yFd G k 13 1 (2, (((2 ^ 117 : Nat) : Int), 0)) := bFd (d_M W) h rfl
theorem w_M_length (W : mW G) (h : bRo G 116 k) : yFd G k 13 2 (2, (((2 ^ 118 : Nat) : Int), 0)) := bFd (d_M W) h rfl
theorem w_M_sign (W : mW G) (h : bRo G 116 k) : yFd G k 13 3 (2, (((2 ^ 119 : Nat) : Int), 0)) := bFd (d_M W) h rfl
theorem w_M_product (W : mW G) (h : bRo G 116 k) : yFd G k 13 4 (2, (((2 ^ 120 : Nat) : Int), 0)) := bFd (d_M W) h rfl
theorem w_M_upper (W : mW G) (h : bRo G 116 k) : yFd G k 13 5 (2, (((2 ^ 121 : Nat) : Int), 0)) := bFd (d_M W) h rfl
theorem w_M_lower (W : mW G) (h : bRo G 116 k) : yFd G k 13 6 (2, (((2 ^ 122 : Nat) : Int), 0)) := bFd (d_M W) h rfl
theorem w_M_inverseOf (W : mW G) (h : bRo G 116 k) : yFd G k 13 7 (2, (((2 ^ 123 : Nat) : Int), 0)) := bFd (d_M W) h rfl
theorem w_M_residue (W : mW G) (h : bRo G 116 k) : yFd G k 13 8 (2, (((2 ^ 124 : Nat) : Int), 0)) := bFd (d_M W) h rfl
theorem w_M_used (W : mW G) (h : bRo G 116 k) : yFd G k 13 9 (2, (((2 ^ 125 : Nat) : Int), 0)) := bFd (d_M W) h rfl
theorem w_M_usedCount (W : mW G) (h : bRo G 116 k) : yFd G k 13 10 (0, (0, 40)) := bFd (d_M W) h rfl
theorem w_M_p (W : mW G) (h : bRo G 116 k) : yFd G k 13 11 (1, (0, 2147483647)) := bFd (d_M W) h rfl
theorem w_M_matrix (W : mW G) (h : bRo G 116 k) : yFd G k 13 12 (2, (((2 ^ 126 : Nat) : Int), 0)) := bFd (d_M W) h rfl
theorem w_M_mixed (W : mW G) (h : bRo G 116 k) : yFd G k 13 13 (2, (((2 ^ 127 : Nat) : Int), 0)) := bFd (d_M W) h rfl
theorem w_M_tape (W : mW G) (h : bRo G 116 k) : yFd G k 13 14 (2, (((2 ^ 128 : Nat) : Int), 0)) := bFd (d_M W) h rfl
theorem w_M_taped (W : mW G) (h : bRo G 116 k) : yFd G k 13 15 (0, (0, 4000)) := bFd (d_M W) h rfl
theorem w_M_wordAt (W : mW G) (h : bRo G 116 k) : yFd G k 13 16 (2, (((2 ^ 129 : Nat) : Int), 0)) := bFd (d_M W) h rfl
theorem w_M_wordSize (W : mW G) (h : bRo G 116 k) : yFd G k 13 17 (2, (((2 ^ 130 : Nat) : Int), 0)) := bFd (d_M W) h rfl
theorem w_M_words (W : mW G) (h : bRo G 116 k) : yFd G k 13 18 (0, (0, 4000)) := bFd (d_M W) h rfl
theorem w_M_at (W : mW G) (h : bRo G 116 k) : yFd G k 13 19 (0, (0, 4000)) := bFd (d_M W) h rfl
theorem w_M_textSize (W : mW G) (h : bRo G 116 k) : yFd G k 13 20 (0, (0, 4000)) := bFd (d_M W) h rfl
theorem w_M_fault (W : mW G) (h : bRo G 116 k) : yFd G k 13 21 (0, ((-1), 4000)) := bFd (d_M W) h rfl
theorem w_M_count (W : mW G) (h : bRo G 116 k) : yFd G k 13 22 (2, (((2 ^ 131 : Nat) : Int), 0)) := bFd (d_M W) h rfl
theorem w_M_field (W : mW G) (h : bRo G 116 k) : yFd G k 13 23 (2, (((2 ^ 132 : Nat) : Int), 0)) := bFd (d_M W) h rfl
theorem w_M_name (W : mW G) (h : bRo G 116 k) : yFd G k 13 24 (2, (((2 ^ 133 : Nat) : Int), 0)) := bFd (d_M W) h rfl
theorem w_M_nameSize (W : mW G) (h : bRo G 116 k) : yFd G k 13 25 (2, (((2 ^ 134 : Nat) : Int), 0)) := bFd (d_M W) h rfl
theorem w_M_newCount (W : mW G) (h : bRo G 116 k) : yFd G k 13 26 (2, (((2 ^ 135 : Nat) : Int), 0)) := bFd (d_M W) h rfl
theorem w_M_newField (W : mW G) (h : bRo G 116 k) : yFd G k 13 27 (2, (((2 ^ 136 : Nat) : Int), 0)) := bFd (d_M W) h rfl
theorem w_M_newName (W : mW G) (h : bRo G 116 k) : yFd G k 13 28 (2, (((2 ^ 137 : Nat) : Int), 0)) := bFd (d_M W) h rfl
theorem w_M_newSize (W : mW G) (h : bRo G 116 k) : yFd G k 13 29 (2, (((2 ^ 138 : Nat) : Int), 0)) := bFd (d_M W) h rfl
theorem w_M_kept (W : mW G) (h : bRo G 116 k) : yFd G k 13 30 (2, (((2 ^ 139 : Nat) : Int), 0)) := bFd (d_M W) h rfl
theorem w_M_isKept (W : mW G) (h : bRo G 116 k) : yFd G k 13 31 (2, (((2 ^ 140 : Nat) : Int), 0)) := bFd (d_M W) h rfl
theorem w_M_stateNow (W : mW G) (h : bRo G 116 k) : yFd G k 13 32 (2, (((2 ^ 141 : Nat) : Int), 0)) := bFd (d_M W) h rfl
theorem w_M_inNow (W : mW G) (h : bRo G 116 k) : yFd G k 13 33 (2, (((2 ^ 142 : Nat) : Int), 0)) := bFd (d_M W) h rfl
theorem w_M_node (W : mW G) (h : bRo G 116 k) : yFd G k 13 34 (2, (((2 ^ 143 : Nat) : Int), 0)) := bFd (d_M W) h rfl
theorem w_M_island (W : mW G) (h : bRo G 116 k) : yFd G k 13 35 (2, (((2 ^ 144 : Nat) : Int), 0)) := bFd (d_M W) h rfl
theorem w_M_isLive (W : mW G) (h : bRo G 116 k) : yFd G k 13 36 (2, (((2 ^ 145 : Nat) : Int), 0)) := bFd (d_M W) h rfl
theorem w_M_nodeAt (W : mW G) (h : bRo G 116 k) : yFd G k 13 37 (2, (((2 ^ 146 : Nat) : Int), 0)) := bFd (d_M W) h rfl
theorem w_M_nodes (W : mW G) (h : bRo G 116 k) : yFd G k 13 38 (0, (0, 16)) := bFd (d_M W) h rfl
theorem w_M_placeOf (W : mW G) (h : bRo G 116 k) : yFd G k 13 39 (2, (((2 ^ 147 : Nat) : Int), 0)) := bFd (d_M W) h rfl
theorem w_M_hasFlows (W : mW G) (h : bRo G 116 k) : yFd G k 13 40 (0, (0, 1)) := bFd (d_M W) h rfl
theorem w_M_isStuck (W : mW G) (h : bRo G 116 k) : yFd G k 13 41 (2, (((2 ^ 148 : Nat) : Int), 0)) := bFd (d_M W) h rfl
theorem w_M_lack (W : mW G) (h : bRo G 116 k) : yFd G k 13 42 (2, (((2 ^ 149 : Nat) : Int), 0)) := bFd (d_M W) h rfl
theorem w_M_share (W : mW G) (h : bRo G 116 k) : yFd G k 13 43 (2, (((2 ^ 150 : Nat) : Int), 0)) := bFd (d_M W) h rfl
theorem w_M_isOver (W : mW G) (h : bRo G 116 k) : yFd G k 13 44 (2, (((2 ^ 151 : Nat) : Int), 0)) := bFd (d_M W) h rfl
theorem w_M_overCount (W : mW G) (h : bRo G 116 k) : yFd G k 13 45 (0, ((-2147483648), 2147483647)) := bFd (d_M W) h rfl
theorem w_M_stuckCount (W : mW G) (h : bRo G 116 k) : yFd G k 13 46 (0, ((-2147483648), 2147483647)) := bFd (d_M W) h rfl
theorem w_M_lost (W : mW G) (h : bRo G 116 k) : yFd G k 13 47 (0, ((-2147483648), 2147483647)) := bFd (d_M W) h rfl
theorem w_M_putIn (W : mW G) (h : bRo G 116 k) : yFd G k 13 48 (2, (((2 ^ 152 : Nat) : Int), 0)) := bFd (d_M W) h rfl
theorem w_M_hasTroubles (W : mW G) (h : bRo G 116 k) : yFd G k 13 49 (0, (0, 1)) := bFd (d_M W) h rfl
theorem w_M_troubles (W : mW G) (h : bRo G 116 k) : yFd G k 13 50 (0, (0, 20)) := bFd (d_M W) h rfl
theorem w_M_isScreened (W : mW G) (h : bRo G 116 k) : yFd G k 13 51 (2, (((2 ^ 153 : Nat) : Int), 0)) := bFd (d_M W) h rfl
theorem w_M_troubleLine (W : mW G) (h : bRo G 116 k) : yFd G k 13 52 (2, (((2 ^ 154 : Nat) : Int), 0)) := bFd (d_M W) h rfl
theorem w_M_troubleSort (W : mW G) (h : bRo G 116 k) : yFd G k 13 53 (2, (((2 ^ 155 : Nat) : Int), 0)) := bFd (d_M W) h rfl
theorem w_M_troubleLost (W : mW G) (h : bRo G 116 k) : yFd G k 13 54 (2, (((2 ^ 156 : Nat) : Int), 0)) := bFd (d_M W) h rfl
theorem w_M_troubleOver (W : mW G) (h : bRo G 116 k) : yFd G k 13 55 (2, (((2 ^ 157 : Nat) : Int), 0)) := bFd (d_M W) h rfl
theorem w_M_meters (W : mW G) (h : bRo G 116 k) : yFd G k 13 56 (0, (0, 32)) := bFd (d_M W) h rfl
theorem w_M_meterKind (W : mW G) (h : bRo G 116 k) : yFd G k 13 57 (2, (((2 ^ 158 : Nat) : Int), 0)) := bFd (d_M W) h rfl
theorem w_M_meterAt (W : mW G) (h : bRo G 116 k) : yFd G k 13 58 (2, (((2 ^ 159 : Nat) : Int), 0)) := bFd (d_M W) h rfl
theorem w_M_meterValue (W : mW G) (h : bRo G 116 k) : yFd G k 13 59 (2, (((2 ^ 160 : Nat) : Int), 0)) := bFd (d_M W) h rfl
theorem w_M_meterWeight (W : mW G) (h : bRo G 116 k) : yFd G k 13 60 (2, (((2 ^ 161 : Nat) : Int), 0)) := bFd (d_M W) h rfl
theorem w_M_isStruck (W : mW G) (h : bRo G 116 k) : yFd G k 13 61 (2, (((2 ^ 162 : Nat) : Int), 0)) := bFd (d_M W) h rfl
theorem w_M_hasEstimates (W : mW G) (h : bRo G 116 k) : yFd G k 13 62 (0, (0, 1)) := bFd (d_M W) h rfl
theorem w_M_isWhole (W : mW G) (h : bRo G 116 k) : yFd G k 13 63 (2, (((2 ^ 163 : Nat) : Int), 0)) := bFd (d_M W) h rfl
theorem w_M_isSeen (W : mW G) (h : bRo G 116 k) : yFd G k 13 64 (2, (((2 ^ 164 : Nat) : Int), 0)) := bFd (d_M W) h rfl
theorem w_M_shows (W : mW G) (h : bRo G 116 k) : yFd G k 13 65 (2, (((2 ^ 165 : Nat) : Int), 0)) := bFd (d_M W) h rfl
theorem w_M_conductance (W : mW G) (h : bRo G 116 k) : yFd G k 13 66 (2, (((2 ^ 166 : Nat) : Int), 0)) := bFd (d_M W) h rfl
theorem w_M_rankWith (W : mW G) (h : bRo G 116 k) : yFd G k 13 67 (2, (((2 ^ 167 : Nat) : Int), 0)) := bFd (d_M W) h rfl
theorem w_M_hasShort (W : mW G) (h : bRo G 116 k) : yFd G k 13 68 (0, (0, 1)) := bFd (d_M W) h rfl
theorem w_M_shortKind (W : mW G) (h : bRo G 116 k) : yFd G k 13 69 (0, (0, 3)) := bFd (d_M W) h rfl
theorem w_M_isOnLine (W : mW G) (h : bRo G 116 k) : yFd G k 13 70 (0, (0, 1)) := bFd (d_M W) h rfl
theorem w_M_shortPlace (W : mW G) (h : bRo G 116 k) : yFd G k 13 71 (0, (0, 19)) := bFd (d_M W) h rfl
theorem w_M_shortK (W : mW G) (h : bRo G 116 k) : yFd G k 13 72 (0, (0, 15)) := bFd (d_M W) h rfl
theorem w_M_shortZ (W : mW G) (h : bRo G 116 k) : yFd G k 13 73 (0, (0, 99)) := bFd (d_M W) h rfl
theorem w_M_isVoid (W : mW G) (h : bRo G 116 k) : yFd G k 13 74 (0, (0, 1)) := bFd (d_M W) h rfl
theorem w_M_shortIsland (W : mW G) (h : bRo G 116 k) : yFd G k 13 75 (0, (0, 15)) := bFd (d_M W) h rfl
theorem w_M_hasZero (W : mW G) (h : bRo G 116 k) : yFd G k 13 76 (0, (0, 1)) := bFd (d_M W) h rfl
theorem w_M_hasNetShort (W : mW G) (h : bRo G 116 k) : yFd G k 13 77 (0, (0, 1)) := bFd (d_M W) h rfl
theorem w_M_relays (W : mW G) (h : bRo G 116 k) : yFd G k 13 78 (0, (0, 16)) := bFd (d_M W) h rfl
theorem w_M_relayLine (W : mW G) (h : bRo G 116 k) : yFd G k 13 79 (2, (((2 ^ 168 : Nat) : Int), 0)) := bFd (d_M W) h rfl
theorem w_M_relayEnd (W : mW G) (h : bRo G 116 k) : yFd G k 13 80 (2, (((2 ^ 169 : Nat) : Int), 0)) := bFd (d_M W) h rfl
theorem w_M_relaySwitch (W : mW G) (h : bRo G 116 k) : yFd G k 13 81 (2, (((2 ^ 170 : Nat) : Int), 0)) := bFd (d_M W) h rfl
theorem w_M_relayKind (W : mW G) (h : bRo G 116 k) : yFd G k 13 82 (2, (((2 ^ 171 : Nat) : Int), 0)) := bFd (d_M W) h rfl
theorem w_M_rowCount (W : mW G) (h : bRo G 116 k) : yFd G k 13 83 (2, (((2 ^ 172 : Nat) : Int), 0)) := bFd (d_M W) h rfl
theorem w_M_setting (W : mW G) (h : bRo G 116 k) : yFd G k 13 84 (2, (((2 ^ 173 : Nat) : Int), 0)) := bFd (d_M W) h rfl
theorem w_M_delay (W : mW G) (h : bRo G 116 k) : yFd G k 13 85 (2, (((2 ^ 174 : Nat) : Int), 0)) := bFd (d_M W) h rfl
theorem w_M_doesFail (W : mW G) (h : bRo G 116 k) : yFd G k 13 86 (2, (((2 ^ 175 : Nat) : Int), 0)) := bFd (d_M W) h rfl
theorem w_M_back (W : mW G) (h : bRo G 116 k) : yFd G k 13 87 (0, (0, 9999999)) := bFd (d_M W) h rfl
theorem w_M_isB (W : mW G) (h : bRo G 116 k) : yFd G k 13 88 (0, (0, 1)) := bFd (d_M W) h rfl
theorem w_M_signOfOne (W : mW G) (h : bRo G 116 k) : yFd G k 13 89 (0, ((-1), 1)) := bFd (d_M W) h rfl
theorem w_M_hasRun (W : mW G) (h : bRo G 116 k) : yFd G k 13 90 (0, (0, 1)) := bFd (d_M W) h rfl
theorem w_M_runTime (W : mW G) (h : bRo G 116 k) : yFd G k 13 91 (0, (0, 2147483647)) := bFd (d_M W) h rfl
theorem w_M_runState (W : mW G) (h : bRo G 116 k) : yFd G k 13 92 (2, (((2 ^ 176 : Nat) : Int), 0)) := bFd (d_M W) h rfl
theorem w_M_hasOrder (W : mW G) (h : bRo G 116 k) : yFd G k 13 93 (2, (((2 ^ 177 : Nat) : Int), 0)) := bFd (d_M W) h rfl
theorem w_M_opensAt (W : mW G) (h : bRo G 116 k) : yFd G k 13 94 (2, (((2 ^ 178 : Nat) : Int), 0)) := bFd (d_M W) h rfl
theorem w_M_backupAt (W : mW G) (h : bRo G 116 k) : yFd G k 13 95 (2, (((2 ^ 179 : Nat) : Int), 0)) := bFd (d_M W) h rfl
theorem w_M_since (W : mW G) (h : bRo G 116 k) : yFd G k 13 96 (2, (((2 ^ 180 : Nat) : Int), 0)) := bFd (d_M W) h rfl
theorem w_M_hasTripped (W : mW G) (h : bRo G 116 k) : yFd G k 13 97 (2, (((2 ^ 181 : Nat) : Int), 0)) := bFd (d_M W) h rfl
theorem w_M_openedSwitch (W : mW G) (h : bRo G 116 k) : yFd G k 13 98 (2, (((2 ^ 182 : Nat) : Int), 0)) := bFd (d_M W) h rfl
theorem w_M_openedAt (W : mW G) (h : bRo G 116 k) : yFd G k 13 99 (2, (((2 ^ 183 : Nat) : Int), 0)) := bFd (d_M W) h rfl
theorem w_M_openedCount (W : mW G) (h : bRo G 116 k) : yFd G k 13 100 (0, (0, 24)) := bFd (d_M W) h rfl
theorem w_M_hasDispatch (W : mW G) (h : bRo G 116 k) : yFd G k 13 101 (0, (0, 2)) := bFd (d_M W) h rfl
theorem w_M_machines (W : mW G) (h : bRo G 116 k) : yFd G k 13 102 (0, (0, 6)) := bFd (d_M W) h rfl
theorem w_M_machineAt (W : mW G) (h : bRo G 116 k) : yFd G k 13 103 (2, (((2 ^ 184 : Nat) : Int), 0)) := bFd (d_M W) h rfl
theorem w_M_low (W : mW G) (h : bRo G 116 k) : yFd G k 13 104 (2, (((2 ^ 185 : Nat) : Int), 0)) := bFd (d_M W) h rfl
theorem w_M_high (W : mW G) (h : bRo G 116 k) : yFd G k 13 105 (2, (((2 ^ 186 : Nat) : Int), 0)) := bFd (d_M W) h rfl
theorem w_M_slope (W : mW G) (h : bRo G 116 k) : yFd G k 13 106 (2, (((2 ^ 187 : Nat) : Int), 0)) := bFd (d_M W) h rfl
theorem w_M_dimensions (W : mW G) (h : bRo G 116 k) : yFd G k 13 107 (2, (((2 ^ 188 : Nat) : Int), 0)) := bFd (d_M W) h rfl
theorem w_M_rowsAt (W : mW G) (h : bRo G 116 k) : yFd G k 13 108 (2, (((2 ^ 189 : Nat) : Int), 0)) := bFd (d_M W) h rfl
theorem w_M_machineOf (W : mW G) (h : bRo G 116 k) : yFd G k 13 109 (2, (((2 ^ 190 : Nat) : Int), 0)) := bFd (d_M W) h rfl
theorem w_M_lineRows (W : mW G) (h : bRo G 116 k) : yFd G k 13 110 (0, (0, 42)) := bFd (d_M W) h rfl
theorem w_M_demand (W : mW G) (h : bRo G 116 k) : yFd G k 13 111 (1, ((-1000000), 1000000)) := bFd (d_M W) h rfl
theorem w_M_moreAt (W : mW G) (h : bRo G 116 k) : yFd G k 13 112 (0, (0, 15)) := bFd (d_M W) h rfl
theorem w_M_moreBy (W : mW G) (h : bRo G 116 k) : yFd G k 13 113 (0, (0, 1)) := bFd (d_M W) h rfl
theorem w_M_ruleCount (W : mW G) (h : bRo G 116 k) : yFd G k 13 114 (0, (0, 12)) := bFd (d_M W) h rfl
theorem w_M_ruleAct (W : mW G) (h : bRo G 116 k) : yFd G k 13 115 (2, (((2 ^ 191 : Nat) : Int), 0)) := bFd (d_M W) h rfl
theorem w_M_ruleFrom (W : mW G) (h : bRo G 116 k) : yFd G k 13 116 (2, (((2 ^ 192 : Nat) : Int), 0)) := bFd (d_M W) h rfl
theorem w_M_code (W : mW G) (h : bRo G 116 k) : yFd G k 13 117 (2, (((2 ^ 193 : Nat) : Int), 0)) := bFd (d_M W) h rfl
theorem w_M_newRules (W : mW G) (h : bRo G 116 k) : yFd G k 13 118 (0, (0, 12)) := bFd (d_M W) h rfl
theorem w_M_codes (W : mW G) (h : bRo G 116 k) : yFd G k 13 119 (0, (0, 2500)) := bFd (d_M W) h rfl
theorem w_M_newAct (W : mW G) (h : bRo G 116 k) : yFd G k 13 120 (2, (((2 ^ 194 : Nat) : Int), 0)) := bFd (d_M W) h rfl
theorem w_M_newFrom (W : mW G) (h : bRo G 116 k) : yFd G k 13 121 (2, (((2 ^ 195 : Nat) : Int), 0)) := bFd (d_M W) h rfl
theorem w_M_newCode (W : mW G) (h : bRo G 116 k) : yFd G k 13 122 (2, (((2 ^ 196 : Nat) : Int), 0)) := bFd (d_M W) h rfl
theorem w_M_steps (W : mW G) (h : bRo G 116 k) : yFd G k 13 123 (0, (0, 24)) := bFd (d_M W) h rfl
theorem w_M_stepAct (W : mW G) (h : bRo G 116 k) : yFd G k 13 124 (2, (((2 ^ 197 : Nat) : Int), 0)) := bFd (d_M W) h rfl
theorem w_M_stepOf (W : mW G) (h : bRo G 116 k) : yFd G k 13 125 (2, (((2 ^ 198 : Nat) : Int), 0)) := bFd (d_M W) h rfl
theorem w_M_newStepAct (W : mW G) (h : bRo G 116 k) : yFd G k 13 126 (2, (((2 ^ 199 : Nat) : Int), 0)) := bFd (d_M W) h rfl
theorem w_M_newStepOf (W : mW G) (h : bRo G 116 k) : yFd G k 13 127 (2, (((2 ^ 200 : Nat) : Int), 0)) := bFd (d_M W) h rfl
theorem w_M_seenField (W : mW G) (h : bRo G 116 k) : yFd G k 13 128 (2, (((2 ^ 201 : Nat) : Int), 0)) := bFd (d_M W) h rfl
theorem w_M_seenNode (W : mW G) (h : bRo G 116 k) : yFd G k 13 129 (2, (((2 ^ 202 : Nat) : Int), 0)) := bFd (d_M W) h rfl
theorem w_M_seenLive (W : mW G) (h : bRo G 116 k) : yFd G k 13 130 (2, (((2 ^ 203 : Nat) : Int), 0)) := bFd (d_M W) h rfl
theorem w_M_seenLost (W : mW G) (h : bRo G 116 k) : yFd G k 13 131 (2, (((2 ^ 204 : Nat) : Int), 0)) := bFd (d_M W) h rfl
theorem w_M_seenOver (W : mW G) (h : bRo G 116 k) : yFd G k 13 132 (2, (((2 ^ 205 : Nat) : Int), 0)) := bFd (d_M W) h rfl
theorem w_M_seenLoops (W : mW G) (h : bRo G 116 k) : yFd G k 13 133 (2, (((2 ^ 206 : Nat) : Int), 0)) := bFd (d_M W) h rfl
theorem w_M_pile (W : mW G) (h : bRo G 116 k) : yFd G k 13 134 (2, (((2 ^ 207 : Nat) : Int), 0)) := bFd (d_M W) h rfl
theorem w_M_barredBy (W : mW G) (h : bRo G 116 k) : yFd G k 13 135 (0, ((-1), 11)) := bFd (d_M W) h rfl
theorem w_M_fieldsBefore (W : mW G) (h : bRo G 116 k) : yFd G k 13 136 (2, (((2 ^ 208 : Nat) : Int), 0)) := bFd (d_M W) h rfl
theorem w_M_restored (W : mW G) (h : bRo G 116 k) : yFd G k 13 137 (0, (0, 3)) := bFd (d_M W) h rfl
theorem w_M_restoredSwitch (W : mW G) (h : bRo G 116 k) : yFd G k 13 138 (2, (((2 ^ 209 : Nat) : Int), 0)) := bFd (d_M W) h rfl
theorem w_M_openSwitch (W : mW G) (h : bRo G 116 k) : yFd G k 13 139 (2, (((2 ^ 210 : Nat) : Int), 0)) := bFd (d_M W) h rfl
theorem w_M_openCount (W : mW G) (h : bRo G 116 k) : yFd G k 13 140 (0, (0, 8)) := bFd (d_M W) h rfl
theorem w_M_row (W : mW G) (h : bRo G 116 k) : yFd G k 13 141 (2, (((2 ^ 211 : Nat) : Int), 0)) := bFd (d_M W) h rfl
theorem w_M_bestLost (W : mW G) (h : bRo G 116 k) : yFd G k 13 142 (0, ((-2147483648), 2147483647)) := bFd (d_M W) h rfl
theorem w_M_isWell (W : mW G) (h : bRo G 116 k) : yFd G k 13 143 (2, (((2 ^ 212 : Nat) : Int), 0)) := bFd (d_M W) h rfl
theorem w_M_lostBy (W : mW G) (h : bRo G 116 k) : yFd G k 13 144 (2, (((2 ^ 213 : Nat) : Int), 0)) := bFd (d_M W) h rfl
theorem v_M_big (W : mW G) (h : bRo G 117 k) : yIA G k 873472 0 (0, (0, 999999999)) := bIA (d_M_big W) h (n_M_big W h)
theorem v_M_length (W : mW G) (h : bRo G 118 k) : yIA G k 3412 0 (0, (0, 256)) := bIA (d_M_length W) h (n_M_length W h)
theorem v_M_sign (W : mW G) (h : bRo G 119 k) : yIA G k 3412 0 (0, ((-1), 1)) := bIA (d_M_sign W) h (n_M_sign W h)
theorem v_M_product (W : mW G) (h : bRo G 120 k) : yIA G k 512 0 (0, (0, 999999999)) := bIA (d_M_product W) h (n_M_product W h)
theorem v_M_upper (W : mW G) (h : bRo G 121 k) : yIA G k 258 0 (0, (0, 999999999)) := bIA (d_M_upper W) h (n_M_upper W h)
theorem v_M_lower (W : mW G) (h : bRo G 122 k) : yIA G k 258 0 (0, (0, 999999999)) := bIA (d_M_lower W) h (n_M_lower W h)
theorem v_M_inverseOf (W : mW G) (h : bRo G 123 k) : yIA G k 1600 1 (1, (0, 2147483647)) := bIA (d_M_inverseOf W) h (n_M_inverseOf W h)
theorem v_M_residue (W : mW G) (h : bRo G 124 k) : yIA G k 7200 1 (1, (0, 2147483647)) := bIA (d_M_residue W) h (n_M_residue W h)
theorem v_M_used (W : mW G) (h : bRo G 125 k) : yIA G k 40 0 (0, (0, 39)) := bIA (d_M_used W) h (n_M_used W h)
theorem v_M_matrix (W : mW G) (h : bRo G 126 k) : yIA G k 960 1 (1, (0, 2147483647)) := bIA (d_M_matrix W) h (n_M_matrix W h)
theorem v_M_mixed (W : mW G) (h : bRo G 127 k) : yIA G k 40 1 (1, (0, 2147483647)) := bIA (d_M_mixed W) h (n_M_mixed W h)
theorem v_M_tape (W : mW G) (h : bRo G 128 k) : yIA G k 4000 0 (0, (0, 255)) := bIA (d_M_tape W) h (n_M_tape W h)
theorem v_M_wordAt (W : mW G) (h : bRo G 129 k) : yIA G k 4001 0 (0, (0, 4000)) := bIA (d_M_wordAt W) h (n_M_wordAt W h)
theorem v_M_wordSize (W : mW G) (h : bRo G 130 k) : yIA G k 4001 0 (0, (0, 4000)) := bIA (d_M_wordSize W) h (n_M_wordSize W h)
theorem v_M_count (W : mW G) (h : bRo G 131 k) : yIF G k 5 0 (bTf 5 t_M_count) := bIP (d_M_count W) h (n_M_count W h) rfl (by decide)
theorem v_M_field (W : mW G) (h : bRo G 132 k) : yIF G k 1320 0 yfT := bIM1 (d_M_field W) h (n_M_field W h)
theorem v_M_name (W : mW G) (h : bRo G 133 k) : yIA G k 960 0 (0, (0, 255)) := bIA (d_M_name W) h (n_M_name W h)
theorem v_M_nameSize (W : mW G) (h : bRo G 134 k) : yIA G k 120 0 (0, (0, 8)) := bIA (d_M_nameSize W) h (n_M_nameSize W h)
theorem v_M_newCount (W : mW G) (h : bRo G 135 k) : yIF G k 5 0 (bTf 5 t_M_newCount) := bIP (d_M_newCount W) h (n_M_newCount W h) rfl (by decide)
theorem v_M_newField (W : mW G) (h : bRo G 136 k) : yIF G k 1320 0 ynT := bIM1 (d_M_newField W) h (n_M_newField W h)
theorem v_M_newName (W : mW G) (h : bRo G 137 k) : yIA G k 960 0 (0, (0, 255)) := bIA (d_M_newName W) h (n_M_newName W h)
theorem v_M_newSize (W : mW G) (h : bRo G 138 k) : yIA G k 120 0 (0, (0, 8)) := bIA (d_M_newSize W) h (n_M_newSize W h)
theorem v_M_kept (W : mW G) (h : bRo G 139 k) : yIF G k 3960 0 (fun j => yfT (j % 1320)) := bIM (d_M_kept W) h (n_M_kept W h)
theorem v_M_isKept (W : mW G) (h : bRo G 140 k) : yIA G k 3 2 (0, (0, 1)) := bIA (d_M_isKept W) h (n_M_isKept W h)
theorem v_M_stateNow (W : mW G) (h : bRo G 141 k) : yIA G k 24 0 (0, (0, 2)) := bIA (d_M_stateNow W) h (n_M_stateNow W h)
theorem v_M_inNow (W : mW G) (h : bRo G 142 k) : yIA G k 20 0 (0, (0, 1)) := bIA (d_M_inNow W) h (n_M_inNow W h)
theorem v_M_node (W : mW G) (h : bRo G 143 k) : yIF G k 16 0 (fun j => (0, (0, (j : Int)))) := bIF (d_M_node W) h (n_M_node W h) (by decide)
theorem v_M_island (W : mW G) (h : bRo G 144 k) : yIF G k 16 0 (fun j => (0, (0, (j : Int)))) := bIF (d_M_island W) h (n_M_island W h) (by decide)
theorem v_M_isLive (W : mW G) (h : bRo G 145 k) : yIA G k 16 2 (0, (0, 1)) := bIA (d_M_isLive W) h (n_M_isLive W h)
theorem v_M_nodeAt (W : mW G) (h : bRo G 146 k) : yIA G k 16 0 (0, (0, 15)) := bIA (d_M_nodeAt W) h (n_M_nodeAt W h)
theorem v_M_placeOf (W : mW G) (h : bRo G 147 k) : yIA G k 16 0 (0, ((-1), 14)) := bIA (d_M_placeOf W) h (n_M_placeOf W h)
theorem v_M_isStuck (W : mW G) (h : bRo G 148 k) : yIA G k 16 2 (0, (0, 1)) := bIA (d_M_isStuck W) h (n_M_isStuck W h)
theorem v_M_lack (W : mW G) (h : bRo G 149 k) : yIA G k 16 1 (1, ((-59994), 119988)) := bIA (d_M_lack W) h (n_M_lack W h)
theorem v_M_share (W : mW G) (h : bRo G 150 k) : yIA G k 16 1 (1, (0, 54)) := bIA (d_M_share W) h (n_M_share W h)
theorem v_M_isOver (W : mW G) (h : bRo G 151 k) : yIA G k 20 2 (0, (0, 1)) := bIA (d_M_isOver W) h (n_M_isOver W h)
theorem v_M_putIn (W : mW G) (h : bRo G 152 k) : yIA G k 16 1 (1, ((-9223372036854775808), 9223372036854775807)) := bIA (d_M_putIn W) h (n_M_putIn W h)
theorem v_M_isScreened (W : mW G) (h : bRo G 153 k) : yIA G k 20 2 (0, (0, 1)) := bIA (d_M_isScreened W) h (n_M_isScreened W h)
theorem v_M_troubleLine (W : mW G) (h : bRo G 154 k) : yIA G k 20 0 (0, (0, 19)) := bIA (d_M_troubleLine W) h (n_M_troubleLine W h)
theorem v_M_troubleSort (W : mW G) (h : bRo G 155 k) : yIA G k 20 0 (0, (0, 3)) := bIA (d_M_troubleSort W) h (n_M_troubleSort W h)
theorem v_M_troubleLost (W : mW G) (h : bRo G 156 k) : yIA G k 20 0 (0, ((-2147483648), 2147483647)) := bIA (d_M_troubleLost W) h (n_M_troubleLost W h)
theorem v_M_troubleOver (W : mW G) (h : bRo G 157 k) : yIA G k 20 0 (0, ((-2147483648), 2147483647)) := bIA (d_M_troubleOver W) h (n_M_troubleOver W h)
theorem v_M_meterKind (W : mW G) (h : bRo G 158 k) : yIA G k 32 0 (0, (0, 2)) := bIA (d_M_meterKind W) h (n_M_meterKind W h)
theorem v_M_meterAt (W : mW G) (h : bRo G 159 k) : yIA G k 32 0 (0, (0, 19)) := bIA (d_M_meterAt W) h (n_M_meterAt W h)
theorem v_M_meterValue (W : mW G) (h : bRo G 160 k) : yIA G k 32 0 (0, ((-99999), 99999)) := bIA (d_M_meterValue W) h (n_M_meterValue W h)
theorem v_M_meterWeight (W : mW G) (h : bRo G 161 k) : yIA G k 32 0 (0, (0, 99)) := bIA (d_M_meterWeight W) h (n_M_meterWeight W h)
theorem v_M_isStruck (W : mW G) (h : bRo G 162 k) : yIA G k 32 2 (0, (0, 1)) := bIA (d_M_isStruck W) h (n_M_isStruck W h)
theorem v_M_isWhole (W : mW G) (h : bRo G 163 k) : yIA G k 16 2 (0, (0, 1)) := bIA (d_M_isWhole W) h (n_M_isWhole W h)
theorem v_M_isSeen (W : mW G) (h : bRo G 164 k) : yIA G k 16 2 (0, (0, 1)) := bIA (d_M_isSeen W) h (n_M_isSeen W h)
theorem v_M_shows (W : mW G) (h : bRo G 165 k) : yIA G k 512 1 (1, (0, 2147483647)) := bIA (d_M_shows W) h (n_M_shows W h)
theorem v_M_conductance (W : mW G) (h : bRo G 166 k) : yIA G k 20 1 (1, (0, 2147483647)) := bIA (d_M_conductance W) h (n_M_conductance W h)
theorem v_M_rankWith (W : mW G) (h : bRo G 167 k) : yIA G k 16 0 (0, (0, 16)) := bIA (d_M_rankWith W) h (n_M_rankWith W h)
theorem v_M_relayLine (W : mW G) (h : bRo G 168 k) : yIA G k 16 0 (0, (0, 19)) := bIA (d_M_relayLine W) h (n_M_relayLine W h)
theorem v_M_relayEnd (W : mW G) (h : bRo G 169 k) : yIA G k 16 0 (0, (0, 1)) := bIA (d_M_relayEnd W) h (n_M_relayEnd W h)
theorem v_M_relaySwitch (W : mW G) (h : bRo G 170 k) : yIA G k 16 0 (0, (0, 23)) := bIA (d_M_relaySwitch W) h (n_M_relaySwitch W h)
theorem v_M_relayKind (W : mW G) (h : bRo G 171 k) : yIA G k 16 0 (0, (0, 1)) := bIA (d_M_relayKind W) h (n_M_relayKind W h)
theorem v_M_rowCount (W : mW G) (h : bRo G 172 k) : yIA G k 16 0 (0, (0, 4)) := bIA (d_M_rowCount W) h (n_M_rowCount W h)
theorem v_M_setting (W : mW G) (h : bRo G 173 k) : yIA G k 64 0 (0, (0, 99999)) := bIA (d_M_setting W) h (n_M_setting W h)
theorem v_M_delay (W : mW G) (h : bRo G 174 k) : yIA G k 64 0 (0, (0, 9999999)) := bIA (d_M_delay W) h (n_M_delay W h)
theorem v_M_doesFail (W : mW G) (h : bRo G 175 k) : yIA G k 24 2 (0, (0, 1)) := bIA (d_M_doesFail W) h (n_M_doesFail W h)
theorem v_M_runState (W : mW G) (h : bRo G 176 k) : yIA G k 24 0 (0, (0, 2)) := bIA (d_M_runState W) h (n_M_runState W h)
theorem v_M_hasOrder (W : mW G) (h : bRo G 177 k) : yIA G k 24 2 (0, (0, 1)) := bIA (d_M_hasOrder W) h (n_M_hasOrder W h)
theorem v_M_opensAt (W : mW G) (h : bRo G 178 k) : yIA G k 24 1 (1, ((-1), 4294967295)) := bIA (d_M_opensAt W) h (n_M_opensAt W h)
theorem v_M_backupAt (W : mW G) (h : bRo G 179 k) : yIA G k 24 1 (1, ((-1), 4294967295)) := bIA (d_M_backupAt W) h (n_M_backupAt W h)
theorem v_M_since (W : mW G) (h : bRo G 180 k) : yIA G k 64 1 (1, ((-1), 2147483647)) := bIA (d_M_since W) h (n_M_since W h)
theorem v_M_hasTripped (W : mW G) (h : bRo G 181 k) : yIA G k 64 2 (0, (0, 1)) := bIA (d_M_hasTripped W) h (n_M_hasTripped W h)
theorem v_M_openedSwitch (W : mW G) (h : bRo G 182 k) : yIA G k 24 0 (0, (0, 23)) := bIA (d_M_openedSwitch W) h (n_M_openedSwitch W h)
theorem v_M_openedAt (W : mW G) (h : bRo G 183 k) : yIA G k 24 0 (0, ((-2147483648), 2147483647)) := bIA (d_M_openedAt W) h (n_M_openedAt W h)
theorem v_M_machineAt (W : mW G) (h : bRo G 184 k) : yIA G k 6 0 (0, (0, 5)) := bIA (d_M_machineAt W) h (n_M_machineAt W h)
theorem v_M_low (W : mW G) (h : bRo G 185 k) : yIA G k 6 0 (0, (0, 9999)) := bIA (d_M_low W) h (n_M_low W h)
theorem v_M_high (W : mW G) (h : bRo G 186 k) : yIA G k 6 0 (0, (0, 9999)) := bIA (d_M_high W) h (n_M_high W h)
theorem v_M_slope (W : mW G) (h : bRo G 187 k) : yIA G k 6 0 (0, (0, 999)) := bIA (d_M_slope W) h (n_M_slope W h)
theorem v_M_dimensions (W : mW G) (h : bRo G 188 k) : yIA G k 6 0 (0, (0, 5)) := bIA (d_M_dimensions W) h (n_M_dimensions W h)
theorem v_M_rowsAt (W : mW G) (h : bRo G 189 k) : yIA G k 6 0 (0, (0, 64)) := bIA (d_M_rowsAt W) h (n_M_rowsAt W h)
theorem v_M_machineOf (W : mW G) (h : bRo G 190 k) : yIA G k 36 0 (0, (0, 5)) := bIA (d_M_machineOf W) h (n_M_machineOf W h)
theorem v_M_ruleAct (W : mW G) (h : bRo G 191 k) : yIA G k 12 0 (0, (0, 5)) := bIA (d_M_ruleAct W) h (n_M_ruleAct W h)
theorem v_M_ruleFrom (W : mW G) (h : bRo G 192 k) : yIA G k 13 0 (0, (0, 2500)) := bIA (d_M_ruleFrom W) h (n_M_ruleFrom W h)
theorem v_M_code (W : mW G) (h : bRo G 193 k) : yIF G k 10000 0 (bTf 4 t_M_code) := bIP (d_M_code W) h (n_M_code W h) rfl (by decide)
theorem v_M_newAct (W : mW G) (h : bRo G 194 k) : yIA G k 12 0 (0, (0, 5)) := bIA (d_M_newAct W) h (n_M_newAct W h)
theorem v_M_newFrom (W : mW G) (h : bRo G 195 k) : yIA G k 13 0 (0, (0, 2500)) := bIA (d_M_newFrom W) h (n_M_newFrom W h)
theorem v_M_newCode (W : mW G) (h : bRo G 196 k) : yIF G k 10000 0 (bTf 4 t_M_newCode) := bIP (d_M_newCode W) h (n_M_newCode W h) rfl (by decide)
theorem v_M_stepAct (W : mW G) (h : bRo G 197 k) : yIA G k 24 0 (0, (0, 5)) := bIA (d_M_stepAct W) h (n_M_stepAct W h)
theorem v_M_stepOf (W : mW G) (h : bRo G 198 k) : yIA G k 24 0 (0, (0, 23)) := bIA (d_M_stepOf W) h (n_M_stepOf W h)
theorem v_M_newStepAct (W : mW G) (h : bRo G 199 k) : yIA G k 24 0 (0, (0, 5)) := bIA (d_M_newStepAct W) h (n_M_newStepAct W h)
theorem v_M_newStepOf (W : mW G) (h : bRo G 200 k) : yIA G k 24 0 (0, (0, 23)) := bIA (d_M_newStepOf W) h (n_M_newStepOf W h)
theorem v_M_seenField (W : mW G) (h : bRo G 201 k) : yIF G k 2640 0 (fun j => yfT (j % 1320)) := bIM (d_M_seenField W) h (n_M_seenField W h)
theorem v_M_seenNode (W : mW G) (h : bRo G 202 k) : yIA G k 32 0 (0, (0, 15)) := bIA (d_M_seenNode W) h (n_M_seenNode W h)
theorem v_M_seenLive (W : mW G) (h : bRo G 203 k) : yIA G k 32 2 (0, (0, 1)) := bIA (d_M_seenLive W) h (n_M_seenLive W h)
theorem v_M_seenLost (W : mW G) (h : bRo G 204 k) : yIA G k 2 0 (0, ((-2147483648), 2147483647)) := bIA (d_M_seenLost W) h (n_M_seenLost W h)
theorem v_M_seenOver (W : mW G) (h : bRo G 205 k) : yIA G k 2 0 (0, ((-2147483648), 2147483647)) := bIA (d_M_seenOver W) h (n_M_seenOver W h)
theorem v_M_seenLoops (W : mW G) (h : bRo G 206 k) : yIA G k 2 0 (0, ((-2147483648), 2147483647)) := bIA (d_M_seenLoops W) h (n_M_seenLoops W h)
theorem v_M_pile (W : mW G) (h : bRo G 207 k) : yIA G k 2500 2 (0, (0, 1)) := bIA (d_M_pile W) h (n_M_pile W h)
theorem v_M_fieldsBefore (W : mW G) (h : bRo G 208 k) : yIF G k 1320 0 yfT := bIM1 (d_M_fieldsBefore W) h (n_M_fieldsBefore W h)
theorem v_M_restoredSwitch (W : mW G) (h : bRo G 209 k) : yIA G k 3 0 (0, (0, 23)) := bIA (d_M_restoredSwitch W) h (n_M_restoredSwitch W h)
theorem v_M_openSwitch (W : mW G) (h : bRo G 210 k) : yIA G k 8 0 (0, (0, 23)) := bIA (d_M_openSwitch W) h (n_M_openSwitch W h)
theorem v_M_row (W : mW G) (h : bRo G 211 k) : yIA G k 3 0 (0, (0, 23)) := bIA (d_M_row W) h (n_M_row W h)
theorem v_M_isWell (W : mW G) (h : bRo G 212 k) : yIA G k 256 0 (0, (0, 2)) := bIA (d_M_isWell W) h (n_M_isWell W h)
theorem v_M_lostBy (W : mW G) (h : bRo G 213 k) : yIA G k 256 0 (0, ((-2147483648), 2147483647)) := bIA (d_M_lostBy W) h (n_M_lostBy W h)
theorem v_M_PRIME (W : mW G) (h : bRo G 13 k) : yIA G k 40 0 (0, (2147482801, 2147483647)) := bIA (d_M_PRIME W) h (n_M_PRIME W h)
end MWorld
