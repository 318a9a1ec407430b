/-! ===== the class: its cells by roles, what is told of each ===== -/
def t_S_Net_MOST : List zT := [(0, (16, 16)), (0, (24, 24)), (0, (20, 20)), (0, (6, 6)), (0, (12, 12))]
def t_S_Net_WIDTH : List zT := [(0, (1, 1)), (0, (5, 5)), (0, (6, 6)), (0, (11, 11)), (0, (2, 2))]
def t_S_Solver_PRIMES : List zT := [(1, (2147482621, 2147483647))]
def t_S_Net_GREATEST : List zT := [(0, (2, 2)), (0, (999999, 999999)), (0, (1, 1)), (0, (99, 99)), (0, (299, 299)), (0, (9999, 9999)), (0, (1, 1)), (0, (9999, 9999)), (0, (99, 99)), (0, (299, 299)), (0, (9999, 9999)), (0, (9999, 9999)), (0, (999, 999)), (0, (9999, 9999)), (0, (999, 999)), (0, (9, 9)), (0, (9999, 9999))]
def t_S_Net_BOUNDS : List zT := [(0, (0, 0)), (0, (0, 0)), (0, (2, 2)), (0, (6, 6)), (0, (16, 16))]
def t_S_Net_ENDS : List zT := [(0, (0, 0)), (0, (2, 2)), (0, (2, 2)), (0, (1, 1)), (0, (1, 1))]
def t_S_Net_FIRST_END : List zT := [(0, (1, 1)), (0, (3, 3)), (0, (4, 4)), (0, (10, 10)), (0, (1, 1))]
def t_S_Net_FIRST_NUMBER : List zT := [(0, (0, 0)), (0, (1, 1)), (0, (1, 1)), (0, (2, 2)), (0, (0, 0))]
def t_S_Net_SETTABLE : List zT := [(0, (0, 0)), (0, (2, 2)), (0, (4, 4)), (0, (10, 10)), (0, (1, 1))]
def t_S_Net_LEAST : List zT := [(0, (0, 0)), (0, (1, 1)), (0, (0, 0)), (0, (1, 1)), (0, (1, 1)), (0, (0, 0)), (0, (0, 0)), (0, (0, 0)), (0, (1, 1)), (0, (0, 0)), (0, (0, 0)), (0, (0, 0)), (0, (0, 0)), (0, (0, 0)), (0, (0, 0)), (0, (0, 0)), (0, (0, 0))]
def t_S_Rules_ACT_SORT : List zT := [(0, (1, 1)), (0, (1, 1)), (0, (0, 0)), (0, (0, 0)), (0, (1, 1)), (0, (1, 1))]
def t_S_Rules_ACT_FIELD : List zT := [(0, (0, 0)), (0, (0, 0)), (0, (0, 0)), (0, (0, 0)), (0, (2, 2)), (0, (2, 2))]
def t_S_Rules_ACT_VALUE : List zT := [(0, (0, 0)), (0, (1, 1)), (0, (1, 1)), (0, (0, 0)), (0, (1, 1)), (0, (0, 0))]
def t_S_GModel_PRIME : List zT := [(0, (2147482801, 2147483647))]
def t_G : List zT := [(2, (((2 ^ 15 : Nat) : Int), 0)), (2, (((2 ^ 18 : Nat) : Int), 0)), (2, (((2 ^ 18 : Nat) : Int), 0)), (2, (((2 ^ 32 : Nat) : Int), 0)), (2, (((2 ^ 33 : Nat) : Int), 0)), (2, (((2 ^ 34 : Nat) : Int), 0)), (2, (((2 ^ 40 : Nat) : Int), 0)), (2, (((2 ^ 44 : Nat) : Int), 0)), (2, (((2 ^ 61 : Nat) : Int), 0)), (2, (((2 ^ 62 : Nat) : Int), 0)), (2, (((2 ^ 75 : Nat) : Int), 0)), (2, (((2 ^ 81 : Nat) : Int), 0)), (2, (((2 ^ 96 : Nat) : Int), 0)), (2, (((2 ^ 107 : Nat) : Int), 0)), (0, (0, 1))]
def t_Tape : List zT := [(2, (((2 ^ 16 : Nat) : Int), 0)), (2, (((2 ^ 17 : Nat) : Int), 0)), (0, (0, 4000)), (0, (0, 1)), (0, (0, 4000)), (0, (0, 4000)), (1, ((-9223372036854775808), 9223372036854775807)), (0, ((-2147483648), 2147483647))]
def t_Tape_bytes : List zT := [(0, ((-128), 127))]
def t_Tape_keys : List zT := [(1, ((-9223372036854775808), 9223372036854775807))]
def t_Net : List zT := [(2, (((2 ^ 19 : Nat) : Int), 0)), (2, (((2 ^ 20 : Nat) : Int), 0)), (2, (((2 ^ 21 : Nat) : Int), 0)), (0, ((-1), 3)), (0, ((-1), 15)), (0, ((-1), 19)), (0, (0, 15)), (0, (0, 99))]
def t_Net_count : List zT := [(0, (0, 16)), (0, (0, 24)), (0, (0, 20)), (0, (0, 6)), (0, (0, 12))]
def t_Net_value : List zT := [(2, (((2 ^ 22 : Nat) : Int), 0)), (2, (((2 ^ 24 : Nat) : Int), 0)), (2, (((2 ^ 26 : Nat) : Int), 0)), (2, (((2 ^ 28 : Nat) : Int), 0)), (2, (((2 ^ 30 : Nat) : Int), 0))]
def t_Net_names : List zT := [(2, (((2 ^ 23 : Nat) : Int), 0)), (2, (((2 ^ 25 : Nat) : Int), 0)), (2, (((2 ^ 27 : Nat) : Int), 0)), (2, (((2 ^ 29 : Nat) : Int), 0)), (2, (((2 ^ 31 : Nat) : Int), 0))]
def t_Net_value0 : List zT := [(0, (0, 1))]
def t_Net_names0 : List zT := [(1, ((-9223372036854775808), 9223372036854775807))]
def t_Net_value1 : List zT := [(0, (0, 2)), (0, (0, 999999)), (0, (0, 1)), (0, (0, 15)), (0, (0, 15))]
def t_Net_names1 : List zT := [(1, ((-9223372036854775808), 9223372036854775807))]
def t_Net_value2 : List zT := [(0, (0, 1)), (0, (0, 99)), (0, (0, 299)), (0, (0, 9999)), (0, (0, 15)), (0, (0, 15))]
def t_Net_names2 : List zT := [(1, ((-9223372036854775808), 9223372036854775807))]
def t_Net_value3 : List zT := [(0, (0, 1)), (0, (0, 9999)), (0, (0, 99)), (0, (0, 299)), (0, (0, 9999)), (0, (0, 9999)), (0, (0, 999)), (0, (0, 9999)), (0, (0, 999)), (0, (0, 9)), (0, (0, 15))]
def t_Net_names3 : List zT := [(1, ((-9223372036854775808), 9223372036854775807))]
def t_Net_value4 : List zT := [(0, (0, 9999)), (0, (0, 15))]
def t_Net_names4 : List zT := [(1, ((-9223372036854775808), 9223372036854775807))]
def t_G_kept : List zT := [(2, (((2 ^ 18 : Nat) : Int), 0))]
def t_G_isKept : List zT := [(0, (0, 1))]
def t_Hand : List zT := [(2, (((2 ^ 35 : Nat) : Int), 0)), (2, (((2 ^ 35 : Nat) : Int), 0)), (2, (((2 ^ 35 : Nat) : Int), 0)), (2, (((2 ^ 35 : Nat) : Int), 0)), (2, (((2 ^ 35 : Nat) : Int), 0)), (2, (((2 ^ 37 : Nat) : Int), 0)), (2, (((2 ^ 39 : Nat) : Int), 0)), (0, (0, 1))]
def t_Big : List zT := [(2, (((2 ^ 36 : Nat) : Int), 1)), (3, (0, 0)), (0, (0, 1))]
def t_Big_limb : List zT := [(1, (0, 1073741823))]
def t_Hand_figures : List zT := [(2, (((2 ^ 38 : Nat) : Int), 0))]
def t_Hand_figuress : List zT := [(0, ((-2147483648), 2147483647))]
def t_Hand_lengths : List zT := [(0, (0, 900))]
def t_Solver : List zT := [(2, (((2 ^ 41 : Nat) : Int), 0)), (2, (((2 ^ 43 : Nat) : Int), 0)), (1, (2147482621, 2147483647)), (1, ((-9223372036854775808), 9223372036854775807)), (2, (((2 ^ 35 : Nat) : Int), 0)), (2, (((2 ^ 35 : Nat) : Int), 0)), (1, ((-9223372036854775808), 9223372036854775807)), (0, (0, 48)), (0, ((-2147483648), 2147483647))]
def t_Solver_cell : List zT := [(2, (((2 ^ 42 : Nat) : Int), 0))]
def t_Solver_cells : List zT := [(1, ((-9223372036854775808), 9223372036854775807))]
def t_Solver_leader : List zT := [(0, ((-1), 31))]
def t_Flow : List zT := [(2, (((2 ^ 51 : Nat) : Int), 0)), (2, (((2 ^ 18 : Nat) : Int), 0)), (2, (((2 ^ 40 : Nat) : Int), 0)), (2, (((2 ^ 45 : Nat) : Int), 0)), (2, (((2 ^ 46 : Nat) : Int), 0)), (2, (((2 ^ 47 : Nat) : Int), 0)), (2, (((2 ^ 48 : Nat) : Int), 0)), (2, (((2 ^ 49 : Nat) : Int), 0)), (2, (((2 ^ 35 : Nat) : Int), 0)), (2, (((2 ^ 35 : Nat) : Int), 0)), (2, (((2 ^ 35 : Nat) : Int), 0)), (0, (0, 1)), (0, ((-2147483648), 2147483647)), (0, ((-2147483648), 2147483647)), (0, ((-2147483648), 2147483647)), (0, ((-1), 20)), (2, (((2 ^ 50 : Nat) : Int), 0))]
def t_Flow_gap : List zT := [(0, ((-2147483648), 2147483647))]
def t_Flow_total : List zT := [(0, ((-2147483648), 2147483647))]
def t_Flow_solvable : List zT := [(0, (0, 1))]
def t_Flow_stuck : List zT := [(0, (0, 1))]
def t_Big16 : List zT := [(2, (((2 ^ 35 : Nat) : Int), 0))]
def t_Flow_troubleOf : List zT := [(0, ((-2147483648), 2147483647))]
def t_Shape : List zT := [(2, (((2 ^ 18 : Nat) : Int), 0)), (2, (((2 ^ 52 : Nat) : Int), 0)), (2, (((2 ^ 53 : Nat) : Int), 0)), (2, (((2 ^ 54 : Nat) : Int), 0)), (2, (((2 ^ 55 : Nat) : Int), 0)), (2, (((2 ^ 56 : Nat) : Int), 0)), (2, (((2 ^ 58 : Nat) : Int), 0)), (2, (((2 ^ 59 : Nat) : Int), 0)), (2, (((2 ^ 60 : Nat) : Int), 0)), (0, ((-2147483648), 2147483647)), (0, ((-2147483648), 2147483647)), (0, ((-2147483648), 2147483647))]
def t_Shape_node : List zT := [(0, (0, 0)), (0, (0, 1)), (0, (0, 2)), (0, (0, 3)), (0, (0, 4)), (0, (0, 5)), (0, (0, 6)), (0, (0, 7)), (0, (0, 8)), (0, (0, 9)), (0, (0, 10)), (0, (0, 11)), (0, (0, 12)), (0, (0, 13)), (0, (0, 14)), (0, (0, 15))]
def t_Shape_island : List zT := [(0, (0, 0)), (0, (0, 1)), (0, (0, 2)), (0, (0, 3)), (0, (0, 4)), (0, (0, 5)), (0, (0, 6)), (0, (0, 7)), (0, (0, 8)), (0, (0, 9)), (0, (0, 10)), (0, (0, 11)), (0, (0, 12)), (0, (0, 13)), (0, (0, 14)), (0, (0, 15))]
def t_Shape_row : List zT := [(0, ((-1), 15))]
def t_Shape_live : List zT := [(0, (0, 1))]
def t_Shape_ends : List zT := [(2, (((2 ^ 57 : Nat) : Int), 0))]
def t_Shape_endss : List zT := [(0, (0, 15))]
def t_Shape_joins : List zT := [(0, (0, 1))]
def t_Shape_spot : List zT := [(0, (0, 15))]
def t_Shape_on : List zT := [(0, (0, 1))]
def t_Rules_stages : List zT := [(2, (((2 ^ 115 : Nat) : Int), 0))]
def t_Meters : List zT := [(2, (((2 ^ 51 : Nat) : Int), 0)), (2, (((2 ^ 18 : Nat) : Int), 0)), (2, (((2 ^ 40 : Nat) : Int), 0)), (2, (((2 ^ 63 : Nat) : Int), 0)), (2, (((2 ^ 64 : Nat) : Int), 0)), (2, (((2 ^ 65 : Nat) : Int), 0)), (2, (((2 ^ 66 : Nat) : Int), 0)), (2, (((2 ^ 67 : Nat) : Int), 0)), (0, (0, 32)), (0, (0, 1)), (2, (((2 ^ 68 : Nat) : Int), 0)), (2, (((2 ^ 69 : Nat) : Int), 0)), (2, (((2 ^ 49 : Nat) : Int), 0)), (2, (((2 ^ 70 : Nat) : Int), 0)), (2, (((2 ^ 70 : Nat) : Int), 0)), (2, (((2 ^ 35 : Nat) : Int), 0)), (2, (((2 ^ 71 : Nat) : Int), 0)), (2, (((2 ^ 72 : Nat) : Int), 0)), (2, (((2 ^ 74 : Nat) : Int), 0))]
def t_Meters_kind : List zT := [(0, (0, 2))]
def t_Meters_place : List zT := [(0, (0, 19))]
def t_Meters_value : List zT := [(0, ((-2147483648), 2147483647))]
def t_Meters_weight : List zT := [(0, ((-2147483648), 2147483647))]
def t_Meters_struck : List zT := [(0, (0, 1))]
def t_Meters_seen : List zT := [(0, (0, 1))]
def t_Meters_whole : List zT := [(0, (0, 1))]
def t_Big32 : List zT := [(2, (((2 ^ 35 : Nat) : Int), 0))]
def t_Big4 : List zT := [(2, (((2 ^ 35 : Nat) : Int), 0))]
def t_Meters_shows : List zT := [(2, (((2 ^ 73 : Nat) : Int), 0))]
def t_Meters_showss : List zT := [(1, ((-9223372036854775808), 9223372036854775807))]
def t_Meters_ranks : List zT := [(0, ((-2147483648), 2147483647))]
def t_Shorts : List zT := [(2, (((2 ^ 51 : Nat) : Int), 0)), (2, (((2 ^ 18 : Nat) : Int), 0)), (2, (((2 ^ 40 : Nat) : Int), 0)), (2, (((2 ^ 76 : Nat) : Int), 0)), (0, (0, 1)), (0, (0, 1)), (0, (0, 1)), (0, (0, 15)), (0, (0, 16)), (2, (((2 ^ 77 : Nat) : Int), 0)), (2, (((2 ^ 77 : Nat) : Int), 0)), (2, (((2 ^ 78 : Nat) : Int), 0)), (2, (((2 ^ 79 : Nat) : Int), 0)), (2, (((2 ^ 35 : Nat) : Int), 0)), (2, (((2 ^ 79 : Nat) : Int), 0)), (2, (((2 ^ 80 : Nat) : Int), 0)), (2, (((2 ^ 78 : Nat) : Int), 0)), (2, (((2 ^ 71 : Nat) : Int), 0)), (2, (((2 ^ 35 : Nat) : Int), 0)), (2, (((2 ^ 35 : Nat) : Int), 0))]
def t_Shorts_taken : List zT := [(0, (0, 1))]
def t_Big17 : List zT := [(2, (((2 ^ 35 : Nat) : Int), 0))]
def t_Big2 : List zT := [(2, (((2 ^ 35 : Nat) : Int), 0))]
def t_Big3 : List zT := [(2, (((2 ^ 35 : Nat) : Int), 0))]
def t_Shorts_reach : List zT := [(0, ((-2147483648), 2147483647))]
def t_Relays : List zT := [(2, (((2 ^ 82 : Nat) : Int), 0)), (2, (((2 ^ 83 : Nat) : Int), 0)), (2, (((2 ^ 84 : Nat) : Int), 0)), (2, (((2 ^ 85 : Nat) : Int), 0)), (2, (((2 ^ 86 : Nat) : Int), 0)), (2, (((2 ^ 87 : Nat) : Int), 0)), (2, (((2 ^ 88 : Nat) : Int), 0)), (0, (0, 16)), (2, (((2 ^ 89 : Nat) : Int), 0)), (0, ((-2147483648), 2147483647)), (0, (0, 1)), (0, ((-2147483648), 2147483647)), (2, (((2 ^ 18 : Nat) : Int), 0)), (2, (((2 ^ 75 : Nat) : Int), 0)), (2, (((2 ^ 90 : Nat) : Int), 0)), (2, (((2 ^ 91 : Nat) : Int), 0)), (2, (((2 ^ 92 : Nat) : Int), 0)), (2, (((2 ^ 93 : Nat) : Int), 0)), (2, (((2 ^ 94 : Nat) : Int), 0)), (0, (0, 24))]
def t_Relays_line : List zT := [(0, (0, 19))]
def t_Relays_end : List zT := [(0, (0, 1))]
def t_Relays_opens : List zT := [(0, (0, 23))]
def t_Relays_impedance : List zT := [(0, (0, 1))]
def t_Relays_rowCount : List zT := [(0, (0, 4))]
def t_Relays_setting : List zT := [(0, ((-2147483648), 2147483647))]
def t_Relays_delay : List zT := [(0, ((-2147483648), 2147483647))]
def t_Relays_failing : List zT := [(0, (0, 1))]
def t_Relays_tripAt : List zT := [(1, ((-9223372036854775808), 9223372036854775807))]
def t_Relays_openAt : List zT := [(1, ((-9223372036854775808), 9223372036854775807))]
def t_Relays_backupAt : List zT := [(1, ((-9223372036854775808), 9223372036854775807))]
def t_Relays_hasOrder : List zT := [(0, (0, 1))]
def t_Relays_opened : List zT := [(2, (((2 ^ 95 : Nat) : Int), 0))]
def t_Relays_openeds : List zT := [(1, ((-9223372036854775808), 9223372036854775807))]
def t_Dispatch : List zT := [(2, (((2 ^ 51 : Nat) : Int), 0)), (2, (((2 ^ 18 : Nat) : Int), 0)), (2, (((2 ^ 40 : Nat) : Int), 0)), (0, (0, 12)), (2, (((2 ^ 97 : Nat) : Int), 0)), (2, (((2 ^ 98 : Nat) : Int), 0)), (2, (((2 ^ 99 : Nat) : Int), 0)), (2, (((2 ^ 100 : Nat) : Int), 0)), (2, (((2 ^ 101 : Nat) : Int), 0)), (2, (((2 ^ 102 : Nat) : Int), 0)), (0, (0, 26)), (0, (0, 13)), (2, (((2 ^ 103 : Nat) : Int), 0)), (2, (((2 ^ 104 : Nat) : Int), 0)), (2, (((2 ^ 105 : Nat) : Int), 0)), (2, (((2 ^ 35 : Nat) : Int), 0)), (2, (((2 ^ 71 : Nat) : Int), 0)), (2, (((2 ^ 106 : Nat) : Int), 0)), (0, (0, 1)), (0, (0, 1))]
def t_Dispatch_machineOf : List zT := [(0, (0, 5))]
def t_Dispatch_costOf : List zT := [(0, ((-2147483648), 2147483647))]
def t_Dispatch_startOf : List zT := [(0, ((-2147483648), 2147483647))]
def t_Dispatch_turned : List zT := [(0, (0, 1))]
def t_Dispatch_most : List zT := [(0, ((-2147483648), 2147483647))]
def t_Dispatch_keeper : List zT := [(0, ((-1), 11))]
def t_Dispatch_rowVariable : List zT := [(0, (0, 31))]
def t_Dispatch_columnVariable : List zT := [(0, (0, 31))]
def t_Big429 : List zT := [(2, (((2 ^ 35 : Nat) : Int), 0))]
def t_Big8 : List zT := [(2, (((2 ^ 35 : Nat) : Int), 0))]
def t_Rules : List zT := [(2, (((2 ^ 61 : Nat) : Int), 0)), (2, (((2 ^ 108 : Nat) : Int), 0)), (2, (((2 ^ 108 : Nat) : Int), 0)), (0, (0, 2048)), (2, (((2 ^ 109 : Nat) : Int), 0)), (0, (0, 64)), (0, ((-2147483648), 2147483647)), (2, (((2 ^ 110 : Nat) : Int), 0)), (2, (((2 ^ 110 : Nat) : Int), 0)), (0, (0, 24)), (0, (0, 24)), (0, ((-2147483648), 2147483647)), (0, ((-2147483648), 2147483647)), (2, (((2 ^ 111 : Nat) : Int), 0)), (0, (0, 8)), (2, (((2 ^ 112 : Nat) : Int), 0)), (2, (((2 ^ 113 : Nat) : Int), 0)), (0, ((-2147483648), 2147483647)), (2, (((2 ^ 114 : Nat) : Int), 0)), (0, (0, 4))]
def t_Rules_code : List zT := [(0, ((-2147483648), 2147483647))]
def t_Rules_waiting : List zT := [(0, ((-2147483648), 2147483647))]
def t_Rules_steps : List zT := [(0, ((-2147483648), 2147483647))]
def t_Rules_tried : List zT := [(0, (0, 23))]
def t_Rules_choice : List zT := [(0, ((-1), 8))]
def t_Rules_oversBySet : List zT := [(0, ((-2147483648), 2147483647))]
def t_Rules_found : List zT := [(0, ((-2147483648), 2147483647))]
def t_FlowS : List zT := [(2, (((2 ^ 51 : Nat) : Int), 0)), (2, (((2 ^ 18 : Nat) : Int), 0)), (2, (((2 ^ 40 : Nat) : Int), 0)), (2, (((2 ^ 45 : Nat) : Int), 0)), (2, (((2 ^ 46 : Nat) : Int), 0)), (2, (((2 ^ 47 : Nat) : Int), 0)), (2, (((2 ^ 48 : Nat) : Int), 0)), (2, (((2 ^ 49 : Nat) : Int), 0)), (2, (((2 ^ 35 : Nat) : Int), 0)), (2, (((2 ^ 35 : Nat) : Int), 0)), (2, (((2 ^ 35 : Nat) : Int), 0)), (0, (0, 1)), (0, ((-2147483648), 2147483647)), (0, ((-2147483648), 2147483647)), (0, ((-2147483648), 2147483647)), (0, ((-1), 20)), (2, (((2 ^ 50 : Nat) : Int), 0))]
def bRL : List (Nat × zD) := [(0, .inr (.inl (0, (5, t_S_Net_MOST)))),
  (1, .inr (.inl (0, (5, t_S_Net_WIDTH)))),
  (2, .inr (.inl (1, (1, t_S_Solver_PRIMES)))),
  (3, .inr (.inl (0, (17, t_S_Net_GREATEST)))),
  (4, .inr (.inl (0, (5, t_S_Net_BOUNDS)))),
  (5, .inr (.inl (0, (5, t_S_Net_ENDS)))),
  (6, .inr (.inl (0, (5, t_S_Net_FIRST_END)))),
  (7, .inr (.inl (0, (5, t_S_Net_FIRST_NUMBER)))),
  (8, .inr (.inl (0, (5, t_S_Net_SETTABLE)))),
  (9, .inr (.inl (0, (17, t_S_Net_LEAST)))),
  (10, .inr (.inl (0, (6, t_S_Rules_ACT_SORT)))),
  (11, .inr (.inl (0, (6, t_S_Rules_ACT_FIELD)))),
  (12, .inr (.inl (0, (6, t_S_Rules_ACT_VALUE)))),
  (13, .inr (.inl (0, (1, t_S_GModel_PRIME)))),
  (14, .inl (12, t_G)),
  (15, .inl (11, t_Tape)),
  (16, .inr (.inl (3, (1, t_Tape_bytes)))),
  (17, .inr (.inl (1, (1, t_Tape_keys)))),
  (18, .inl (5, t_Net)),
  (19, .inr (.inl (0, (5, t_Net_count)))),
  (20, .inr (.inl (64, (5, t_Net_value)))),
  (21, .inr (.inl (65, (5, t_Net_names)))),
  (22, .inr (.inl (0, (1, t_Net_value0)))),
  (23, .inr (.inl (1, (1, t_Net_names0)))),
  (24, .inr (.inl (0, (5, t_Net_value1)))),
  (25, .inr (.inl (1, (1, t_Net_names1)))),
  (26, .inr (.inl (0, (6, t_Net_value2)))),
  (27, .inr (.inl (1, (1, t_Net_names2)))),
  (28, .inr (.inl (0, (11, t_Net_value3)))),
  (29, .inr (.inl (1, (1, t_Net_names3)))),
  (30, .inr (.inl (0, (2, t_Net_value4)))),
  (31, .inr (.inl (1, (1, t_Net_names4)))),
  (32, .inr (.inl (9, (1, t_G_kept)))),
  (33, .inr (.inl (2, (1, t_G_isKept)))),
  (34, .inl (3, t_Hand)),
  (35, .inl (0, t_Big)),
  (36, .inr (.inl (1, (1, t_Big_limb)))),
  (37, .inr (.inl (64, (1, t_Hand_figures)))),
  (38, .inr (.inl (0, (1, t_Hand_figuress)))),
  (39, .inr (.inl (0, (1, t_Hand_lengths)))),
  (40, .inl (10, t_Solver)),
  (41, .inr (.inl (65, (1, t_Solver_cell)))),
  (42, .inr (.inl (1, (1, t_Solver_cells)))),
  (43, .inr (.inl (0, (1, t_Solver_leader)))),
  (44, .inl (2, t_Flow)),
  (45, .inr (.inl (0, (1, t_Flow_gap)))),
  (46, .inr (.inl (0, (1, t_Flow_total)))),
  (47, .inr (.inl (2, (1, t_Flow_solvable)))),
  (48, .inr (.inl (2, (1, t_Flow_stuck)))),
  (49, .inr (.inl (4, (1, t_Big16)))),
  (50, .inr (.inl (0, (1, t_Flow_troubleOf)))),
  (51, .inl (8, t_Shape)),
  (52, .inr (.inl (0, (16, t_Shape_node)))),
  (53, .inr (.inl (0, (16, t_Shape_island)))),
  (54, .inr (.inl (0, (1, t_Shape_row)))),
  (55, .inr (.inl (2, (1, t_Shape_live)))),
  (56, .inr (.inl (64, (1, t_Shape_ends)))),
  (57, .inr (.inl (0, (1, t_Shape_endss)))),
  (58, .inr (.inl (2, (1, t_Shape_joins)))),
  (59, .inr (.inl (0, (1, t_Shape_spot)))),
  (60, .inr (.inl (2, (1, t_Shape_on)))),
  (61, .inr (.inl (6, (1, t_Rules_stages)))),
  (62, .inl (4, t_Meters)),
  (63, .inr (.inl (0, (1, t_Meters_kind)))),
  (64, .inr (.inl (0, (1, t_Meters_place)))),
  (65, .inr (.inl (0, (1, t_Meters_value)))),
  (66, .inr (.inl (0, (1, t_Meters_weight)))),
  (67, .inr (.inl (2, (1, t_Meters_struck)))),
  (68, .inr (.inl (2, (1, t_Meters_seen)))),
  (69, .inr (.inl (2, (1, t_Meters_whole)))),
  (70, .inr (.inl (4, (1, t_Big32)))),
  (71, .inr (.inl (4, (1, t_Big4)))),
  (72, .inr (.inl (65, (1, t_Meters_shows)))),
  (73, .inr (.inl (1, (1, t_Meters_showss)))),
  (74, .inr (.inl (0, (1, t_Meters_ranks)))),
  (75, .inl (9, t_Shorts)),
  (76, .inr (.inl (2, (1, t_Shorts_taken)))),
  (77, .inr (.inl (4, (1, t_Big17)))),
  (78, .inr (.inl (4, (1, t_Big2)))),
  (79, .inr (.inl (4, (1, t_Big3)))),
  (80, .inr (.inl (0, (1, t_Shorts_reach)))),
  (81, .inl (6, t_Relays)),
  (82, .inr (.inl (0, (1, t_Relays_line)))),
  (83, .inr (.inl (0, (1, t_Relays_end)))),
  (84, .inr (.inl (0, (1, t_Relays_opens)))),
  (85, .inr (.inl (2, (1, t_Relays_impedance)))),
  (86, .inr (.inl (0, (1, t_Relays_rowCount)))),
  (87, .inr (.inl (0, (1, t_Relays_setting)))),
  (88, .inr (.inl (0, (1, t_Relays_delay)))),
  (89, .inr (.inl (2, (1, t_Relays_failing)))),
  (90, .inr (.inl (1, (1, t_Relays_tripAt)))),
  (91, .inr (.inl (1, (1, t_Relays_openAt)))),
  (92, .inr (.inl (1, (1, t_Relays_backupAt)))),
  (93, .inr (.inl (2, (1, t_Relays_hasOrder)))),
  (94, .inr (.inl (65, (1, t_Relays_opened)))),
  (95, .inr (.inl (1, (1, t_Relays_openeds)))),
  (96, .inl (1, t_Dispatch)),
  (97, .inr (.inl (0, (1, t_Dispatch_machineOf)))),
  (98, .inr (.inl (0, (1, t_Dispatch_costOf)))),
  (99, .inr (.inl (0, (1, t_Dispatch_startOf)))),
  (100, .inr (.inl (2, (1, t_Dispatch_turned)))),
  (101, .inr (.inl (0, (1, t_Dispatch_most)))),
  (102, .inr (.inl (0, (1, t_Dispatch_keeper)))),
  (103, .inr (.inl (0, (1, t_Dispatch_rowVariable)))),
  (104, .inr (.inl (0, (1, t_Dispatch_columnVariable)))),
  (105, .inr (.inl (4, (1, t_Big429)))),
  (106, .inr (.inl (4, (1, t_Big8)))),
  (107, .inl (7, t_Rules)),
  (108, .inr (.inl (0, (1, t_Rules_code)))),
  (109, .inr (.inl (0, (1, t_Rules_waiting)))),
  (110, .inr (.inl (0, (1, t_Rules_steps)))),
  (111, .inr (.inl (0, (1, t_Rules_tried)))),
  (112, .inr (.inl (0, (1, t_Rules_choice)))),
  (113, .inr (.inl (0, (1, t_Rules_oversBySet)))),
  (114, .inr (.inl (0, (1, t_Rules_found)))),
  (115, .inl (2, t_FlowS))]
def bLL : List (Nat × (Nat × Nat)) := [(0, (5, 5)), (1, (5, 5)), (2, (48, 48)), (3, (17, 17)), (4, (5, 5)), (5, (5, 5)), (6, (5, 5)), (7, (5, 5)), (8, (5, 5)), (9, (17, 17)), (10, (6, 6)), (11, (6, 6)), (12, (6, 6)), (13, (40, 40)), (16, (4000, 4000)), (17, (31, 31)), (19, (5, 5)), (20, (5, 5)), (21, (5, 5)), (22, (16, 16)), (23, (16, 16)), (24, (120, 120)), (25, (24, 24)), (26, (120, 120)), (27, (20, 20)), (28, (66, 66)), (29, (6, 6)), (30, (24, 24)), (31, (12, 12)), (32, (3, 3)), (33, (3, 3)), (35, (12, 96)), (36, (12, 96)), (37, (2, 2)), (38, (900, 900)), (39, (2, 2)), (41, (32, 32)), (42, (48, 48)), (43, (48, 48)), (45, (16, 16)), (46, (16, 16)), (47, (16, 16)), (48, (16, 16)), (49, (16, 16)), (50, (80, 80)), (52, (16, 16)), (53, (16, 16)), (54, (16, 16)), (55, (16, 16)), (56, (20, 20)), (57, (2, 2)), (58, (20, 20)), (59, (6, 6)), (60, (6, 6)), (61, (4, 4)), (63, (32, 32)), (64, (32, 32)), (65, (32, 32)), (66, (32, 32)), (67, (32, 32)), (68, (16, 16)), (69, (16, 16)), (70, (32, 32)), (71, (4, 4)), (72, (32, 32)), (73, (16, 16)), (74, (16, 16)), (76, (16, 16)), (77, (17, 17)), (78, (2, 2)), (79, (3, 3)), (80, (3, 3)), (82, (16, 16)), (83, (16, 16)), (84, (16, 16)), (85, (16, 16)), (86, (16, 16)), (87, (64, 64)), (88, (64, 64)), (89, (24, 24)), (90, (64, 64)), (91, (24, 24)), (92, (24, 24)), (93, (24, 24)), (94, (24, 24)), (95, (2, 2)), (97, (12, 12)), (98, (12, 12)), (99, (12, 12)), (100, (12, 12)), (101, (32, 32)), (102, (16, 16)), (103, (26, 26)), (104, (13, 13)), (105, (429, 429)), (106, (8, 8)), (108, (2048, 2048)), (109, (64, 64)), (110, (24, 24)), (111, (8, 8)), (112, (4, 4)), (113, (256, 256)), (114, (4, 4))]
def bSL : List (Nat × Nat) := [(0, 1), (1, 2), (2, 3), (3, 4), (4, 5), (5, 6), (6, 7), (7, 8), (8, 9), (9, 10), (10, 11), (11, 12), (12, 13), (13, 14), (14, 89), (15, 90), (16, 91), (17, 92), (32, 121), (33, 122), (34, 123), (37, 134), (39, 137), (40, 138), (41, 139), (43, 172), (44, 177), (61, 251), (62, 252), (63, 253), (64, 254), (65, 255), (66, 256), (67, 257), (68, 258), (69, 259), (72, 434), (74, 467), (81, 580), (82, 581), (83, 582), (84, 583), (85, 584), (86, 585), (87, 586), (88, 587), (89, 588), (90, 589), (91, 590), (92, 591), (93, 592), (94, 593), (96, 773), (97, 774), (98, 775), (99, 776), (100, 777), (101, 778), (102, 779), (103, 780), (104, 781), (105, 782), (106, 1652), (107, 1669), (109, 1672), (111, 1675), (112, 1676), (113, 1677), (114, 1678)]
def bRo (G : zW) (r k : Nat) : Prop := k < G.2.2.1 ∧ zro G k = r
def bW (G : zW) : Prop := (∀ q ∈ bRL, xget G.1 q.1 = q.2) ∧ (∀ r k, bRo G r k → 14 ≤ r → r < 116 → 89 ≤ k) ∧ (∀ q ∈ bLL, ∀ k, bRo G q.1 k → q.2.1 ≤ zat G k ∧ zat G k ≤ q.2.2) ∧ ∀ q ∈ bSL, bRo G q.1 q.2 ∧ ∀ k, bRo G q.1 k → k = q.2
section BBase
variable {G : zW} {hp a b c : xH} {k k' j r r' n kd cls : Nat} {Wl Ul : zWr}
theorem bRo.ne (h : bRo G r k) (h' : bRo G r' k') (e : r ≠ r') : k ≠ k' := fun z => e (by rw [← h.2, ← h'.2, z])
theorem bFd {ts : List zT} {t : zT} (hr : xget G.1 r = .inl (cls, ts)) (h : bRo G r k) (ht : ts[j]? = some t) : yFd G k cls j t := ⟨h.1, ts, by rw [h.2]; exact hr, ht⟩
theorem bIA {t : zT} (hr : xget G.1 r = .inr (.inl (kd, (1, [t])))) (h : bRo G r k) (hl : zat G k = n) : yIA G k n kd t := ⟨h.1, by rw [h.2]; exact hr, hl⟩
theorem bIF {w : Nat} {ts : List zT} {tf : Nat → zT} (hr : xget G.1 r = .inr (.inl (kd, (w, ts)))) (h : bRo G r k) (hl : zat G k = n) (ht : ∀ j, j < n → ts[j % w]? = some (tf j)) : yIF G k n kd tf := ⟨h.1, ⟨w, ts, by rw [h.2]; exact hr, ht⟩, hl⟩
/-- types by place, over and over -/
def bTf (w : Nat) (ts : List zT) (j : Nat) : zT := (ts[j % w]?).getD (0, (0, 0))
theorem bIP {w : Nat} {ts : List zT} (hr : xget G.1 r = .inr (.inl (kd, (w, ts)))) (h : bRo G r k) (hl : zat G k = n) (hw : ts.length = w) (h0 : 0 < w) : yIF G k n kd (bTf w ts) := bIF hr h hl fun j _ => by
  have : j % w < ts.length := by rw [hw]; exact Nat.mod_lt _ h0
  unfold bTf
  rw [List.getElem?_eq_getElem this]
  rfl
theorem bTf_m {w m : Nat} {ts : List zT} (h : j % w = m) (hm : m < w) : bTf w ts j = bTf w ts m := by
  unfold bTf
  rw [h, Nat.mod_eq_of_lt hm]
theorem bTf_h {w : Nat} {ts : List zT} {A B : Int} (h : ts.all (fun t => Nat.beq t.1 0 && (decide (A ≤ t.2.1) && decide (t.2.2 ≤ B))) = true) (h0 : A ≤ 0) (h1 : 0 ≤ B) (j : Nat) : ∃ lo hi : Int, bTf w ts j = (0, (lo, hi)) ∧ A ≤ lo ∧ hi ≤ B := by
  unfold bTf
  cases e : ts[j % w]? with
  | none => exact ⟨0, 0, rfl, h0, h1⟩
  | some t =>
    have h2 := List.all_eq_true.mp h t (List.mem_of_getElem? e)
    obtain ⟨e1, e2⟩ := and_true' h2
    obtain ⟨e2, e3⟩ := and_true' e2
    obtain ⟨t0, t1, t2⟩ := t
    have e1 := Nat.eq_of_beq_eq_true e1
    have e1 : t0 = 0 := e1
    subst e1
    exact ⟨t1, t2, rfl, of_decide_eq_true e2, of_decide_eq_true e3⟩
theorem bTf_k {w kt : Nat} {ts : List zT} (h : ts.all (fun t => Nat.beq t.1 kt) = true) (h0 : kt = 0) (j : Nat) : (bTf w ts j).1 = kt := by
  unfold bTf
  cases e : ts[j % w]? with
  | none => exact h0.symm
  | some t => exact Nat.eq_of_beq_eq_true (List.all_eq_true.mp h t (List.mem_of_getElem? e))
def bAx (G : zW) (Wl : zWr) (hp hp' : xH) : Prop := zTy G hp' ∧ hp'.2 = hp.2 ∧ zFr G Wl hp hp'
/-- all places of a role are told; none is -/
def bAll (Wl : zWr) (r : Nat) : Bool := Wl.any fun q => Nat.testBit q.1 r && Nat.beq q.2 256
def bNo (Wl : zWr) (r : Nat) : Bool := Wl.all fun q => !(Nat.testBit q.1 r)
theorem bAll_ok (h : bAll Wl r = true) (j : Nat) : zwr Wl r j = true := by
  obtain ⟨q, hq, e⟩ := List.any_eq_true.mp h
  obtain ⟨e1, e2⟩ := and_true' e
  exact List.any_eq_true.mpr ⟨q, hq, by rw [e1, e2, Bool.or_true]; rfl⟩
theorem bNo_ok (h : bNo Wl r = true) (j : Nat) : zwr Wl r j = false := by
  apply Bool.eq_false_iff.mpr
  intro hu
  obtain ⟨q, hq, e⟩ := List.any_eq_true.mp hu
  have e1 := (and_true' e).1
  have := List.all_eq_true.mp h q hq
  rw [e1] at this
  cases this
theorem bAx.rf (h : zTy G a) : bAx G Wl a a := ⟨h, rfl, zFr.rf a⟩
theorem bAx.tr (h : bAx G Wl a b) (h2 : bAx G Ul b c) (hw : zwin Ul Wl = true) : bAx G Wl a c := ⟨h2.1, h2.2.1.trans h.2.1, h.2.2.tr (h2.2.2.sub hw)⟩
theorem bAx.put {v : xA} (h : bAx G Wl a b) (hT : zTy G c) (h2 : c.2 = b.2) (h3 : ∀ k' j', zsl c k' j' = if k' = k ∧ j' = n then v else zsl b k' j') (hk : bRo G r k) (hw : zwr Wl r n = true) : bAx G Wl a c := ⟨hT, h2.trans h.2.1, fun k' j' x y => by
  rw [h3, if_neg]
  · exact h.2.2 k' j' x y
  · rintro ⟨rfl, rfl⟩
    rw [hk.2, hw] at y
    cases y⟩
theorem bAx.ys (h : bAx G Wl a b) (hk : bRo G r k) (hw : zwr Wl r j = false) : ys b k j = ys a k j := by
  show ydec (zsl b k j) = ydec (zsl a k j)
  rw [h.2.2 k j hk.1 (by rw [hk.2]; exact hw)]
theorem bAx.sl (h : bAx G Wl a b) (hk : bRo G r k) (hw : zwr Wl r j = false) : zsl b k j = zsl a k j := h.2.2 k j hk.1 (by rw [hk.2]; exact hw)
def bQv (G : zW) (Wl : zWr) (hp : xH) : Option xA → xH → Prop := fun rv hp' => rv = none ∧ bAx G Wl hp hp'
def bQi (G : zW) (Wl : zWr) (hp : xH) (lo hi : Int) (R : Int → Prop) : Option xA → xH → Prop := fun rv hp' => (∃ z, rv = some (yI z) ∧ lo ≤ z ∧ z ≤ hi ∧ R z) ∧ bAx G Wl hp hp'
def bQj (G : zW) (Wl : zWr) (hp : xH) (lo hi : Int) (R : Int → Prop) : Option xA → xH → Prop := fun rv hp' => (∃ z, rv = some (yJ z) ∧ lo ≤ z ∧ z ≤ hi ∧ R z) ∧ bAx G Wl hp hp'
def bQr (G : zW) (Wl : zWr) (hp : xH) (r : Nat) : Option xA → xH → Prop := fun rv hp' => (∃ k, rv = some (yR k) ∧ bRo G r k) ∧ bAx G Wl hp hp'
def bQpi (hp : xH) (lo hi : Int) (R : Int → Prop) : Option xA → xH → Prop := fun rv hp' => (∃ z, rv = some (yI z) ∧ lo ≤ z ∧ z ≤ hi ∧ R z) ∧ hp' = hp
def bQpj (hp : xH) (lo hi : Int) (R : Int → Prop) : Option xA → xH → Prop := fun rv hp' => (∃ z, rv = some (yJ z) ∧ lo ≤ z ∧ z ≤ hi ∧ R z) ∧ hp' = hp
def bQpr (G : zW) (hp : xH) (r : Nat) : Option xA → xH → Prop := fun rv hp' => (∃ k, rv = some (yR k) ∧ bRo G r k) ∧ hp' = hp
end BBase
section BSteps
variable {o : Nat} {ft : Nat → List Nat} {call : xF} {pool : Nat → xP} {hs : List (Nat × (Nat × (Nat × Nat)))} {tab : Lean.RArray xI} {P : xE → Prop}
variable {N pc nx len : Nat} {i : Instr} {L : List (Nat × xA)} {stk rest : List xA} {hp : xH} {v : xA} {G : zW}
theorem btok2 {r own a : Nat} {v : xA} (h : ztok G (2, (((2 ^ r : Nat) : Int), (own : Int))) a v) : ∃ k, v = yR k ∧ bRo G r k ∧ (own = 1 → zat G k = a) := by
  obtain ⟨k, h1, h2, h3, h4⟩ := h
  refine ⟨k, h1, ⟨h2, ?_⟩, fun e => h4 (by show (own : Int) = 1; omega)⟩
  have h3 : Nat.testBit (2 ^ r) (zro G k) = true := h3
  rw [Nat.testBit_two_pow] at h3
  exact (of_decide_eq_true h3).symm
theorem yG.getO {kk k cls j r own : Nat} {w : Nat} (hT : zTy G hp) (hF : yFd G k cls j (2, (((2 ^ r : Nat) : Int), (own : Int)))) (ht : xget tab pc = (pc, (.getfield kk, (len, nx)))) (hq : pool kk = (0, (cls, (j, w)))) (h : ∀ k', bRo G r k' → (own = 1 → zat G k' = zat G k) → zsl hp k j = yR k' → yG o ft call pool hs tab P N nx L (yR k' :: rest) hp) : yG o ft call pool hs tab P (N + 1) pc L (yR k :: rest) hp := by
  obtain ⟨ts, f, f1, -, -, hj, e, e2⟩ := hF.at hT
  obtain ⟨k', h1, h2, h3⟩ := btok2 e2
  refine yG.getF hT hF ht hq ?_
  rw [e, h1]
  exact h k' h2 h3 (e.trans h1)
theorem bFdO {k cls j r own : Nat} (hF : yFd G k cls j (2, (((2 ^ r : Nat) : Int), (own : Int)))) (hT : zTy G hp) : ∃ k', bRo G r k' ∧ zsl hp k j = yR k' := by
  obtain ⟨ts, f, f1, -, -, hj, e, e2⟩ := hF.at hT
  obtain ⟨k', h1, h2, h3⟩ := btok2 e2
  exact ⟨k', h2, e.trans h1⟩
theorem yG.getS9 {kk k k' cls j : Nat} {t : zT} {w : Nat} (hT : zTy G hp) (hF : yFd G k cls j t) (he : zsl hp k j = yR k') (ht : xget tab pc = (pc, (.getfield kk, (len, nx)))) (hq : pool kk = (0, (cls, (j, w)))) (h : yG o ft call pool hs tab P N nx L (yR k' :: rest) hp) : yG o ft call pool hs tab P (N + 1) pc L (yR k :: rest) hp := by
  refine yG.getF hT hF ht hq ?_
  rw [he]
  exact h
theorem yG.getN {kk k cls j : Nat} {x y : Int} {w : Nat} (hT : zTy G hp) (hF : yFd G k cls j (3, (x, y))) (ht : xget tab pc = (pc, (.getfield kk, (len, nx)))) (hq : pool kk = (0, (cls, (j, w)))) (h : ∀ z, z = ys hp k j → zi32 z → 0 ≤ z → z ≤ (zat G k : Int) → yG o ft call pool hs tab P N nx L (yI z :: rest) hp) : yG o ft call pool hs tab P (N + 1) pc L (yR k :: rest) hp := by
  obtain ⟨ts, f, f1, -, -, hj, e, z, z1, z2, z3, z4⟩ := hF.at hT
  have e9 : ys hp k j = z := by
    unfold ys
    rw [e, z4]
    exact ydec_I z1
  refine yG.getF hT hF ht hq ?_
  rw [e, z4]
  exact h z e9.symm z1 z2 z3
theorem yG.putN {kk k cls j : Nat} {x y z : Int} {w : Nat} (hT : zTy G hp) (hF : yFd G k cls j (3, (x, y))) (hO : o ≤ k) (ht : xget tab pc = (pc, (.putfield kk, (len, nx)))) (hq : pool kk = (0, (cls, (j, w)))) (hw : Nat.mod w 8 = 0) (hz : zi32 z) (hz1 : 0 ≤ z) (hz2 : z ≤ (zat G k : Int)) (h : ∀ hp', zTy G hp' → hp'.2 = hp.2 → (∀ k' j', zsl hp' k' j' = if k' = k ∧ j' = j then yI z else zsl hp k' j') → (∀ k' j', ys hp' k' j' = if k' = k ∧ j' = j then z else ys hp k' j') → yG o ft call pool hs tab P N nx L rest hp') : yG o ft call pool hs tab P (N + 1) pc L (yI z :: yR k :: rest) hp := by
  refine yG.putF hT hF hO ht hq ?_ ⟨z, hz, hz1, hz2, rfl⟩ fun hp' a b c => h hp' a b c fun k' j' => ?_
  · rw [hw]
    show (xbd (.inl (zc32 z))).isSome = true
    rw [zbd hz]
    rfl
  · unfold ys
    rw [c]
    by_cases e9 : k' = k ∧ j' = j
    · rw [if_pos e9, if_pos e9, ydec_I hz]
    · rw [if_neg e9, if_neg e9]
/-- a reference is put in a field -/
theorem yG.putO {kk k cls j r k' : Nat} {w : Nat} (hT : zTy G hp) (hF : yFd G k cls j (2, (((2 ^ r : Nat) : Int), 0))) (hO : o ≤ k) (hk' : bRo G r k') (ht : xget tab pc = (pc, (.putfield kk, (len, nx)))) (hq : pool kk = (0, (cls, (j, w)))) (hw : Nat.mod w 8 = 3) (h : ∀ hp', zTy G hp' → hp'.2 = hp.2 → (∀ x y, zsl hp' x y = if x = k ∧ y = j then yR k' else zsl hp x y) → yG o ft call pool hs tab P N nx L rest hp') : yG o ft call pool hs tab P (N + 1) pc L (yR k' :: yR k :: rest) hp := by
  refine yG.putF hT hF hO ht hq (by rw [hw]; rfl) ⟨k', rfl, hk'.1, ?_, fun e => by cases e⟩ h
  show Nat.testBit (2 ^ r) (zro G k') = true
  rw [hk'.2, Nat.testBit_two_pow]
  exact decide_eq_true rfl
theorem yG.aaldO {k n kd r : Nat} {tf : Nat → zT} {e : Int} (hT : zTy G hp) (hA : yIF G k n kd tf) (htf : tf e.toNat = (2, (((2 ^ r : Nat) : Int), 0))) (hkd : Nat.ble 4 kd = true) (ht : xget tab pc = (pc, (.aaload, (len, nx)))) (h0 : 0 ≤ e) (h1 : e < n) (h : ∀ k', bRo G r k' → zsl hp k e.toNat = yR k' → yG o ft call pool hs tab P N nx L (yR k' :: rest) hp) : yG o ft call pool hs tab P (N + 1) pc L (yI e :: yR k :: rest) hp := by
  obtain ⟨bb, f, -, -, e1, e2⟩ := hA.at hT (j := e.toNat) (by omega)
  rw [htf] at e2
  obtain ⟨k', h3, h4, -⟩ := btok2 (own := 0) e2
  refine yG.aldF (ok := fun t => Nat.ble 4 t) hT hA hkd ht (fun _ _ _ => rfl) h0 h1 ?_
  rw [e1, h3]
  exact h k' h4 (e1.trans h3)
theorem yG.alenF {k n kd : Nat} {tf : Nat → zT} (hT : zTy G hp) (hA : yIF G k n kd tf) (ht : xget tab pc = (pc, (.arraylength, (len, nx)))) (h : yG o ft call pool hs tab P N nx L (yI (n : Int) :: rest) hp) : yG o ft call pool hs tab P (N + 1) pc L (yR k :: rest) hp := by
  obtain ⟨h1, ⟨w, ts, h2, -⟩, h3⟩ := hA
  obtain ⟨bb, f, f1, -, -, f4, -⟩ := hT.arr h1 h2
  rw [h3] at f1 f4
  have e : (.inl (zc32 (n : Int)) : xA) = .inl n := by rw [zc32_nat f4]
  refine yG.step (pc' := nx) (stk' := yI (n : Int) :: rest) ht (fun K l => ?_) h
  show (match xcell hp k with
    | some (.inr (.inl c)) => K nx l (.inl c.2.1 :: rest) hp
    | _ => none) = K nx l (.inl (zc32 (n : Int)) :: rest) hp
  rw [f1, e]
/-- a row of numbers into a row of rows -/
theorem yG.aast {k n kd r v : Nat} {e : Int} {tt : zT} {m : Nat} (hT : zTy G hp) (hA : yIA G k n (64 + kd) (2, (((2 ^ r : Nat) : Int), 0))) (hO : o ≤ k) (hv : bRo G r v) (hvA : yIA G v m kd tt) (hvO : o ≤ v) (hkd : kd < 4) (ht : xget tab pc = (pc, (.aastore, (len, nx)))) (h0 : 0 ≤ e) (h1 : e < n) (h : ∀ hp', zTy G hp' → hp'.2 = hp.2 → (∀ k' j', zsl hp' k' j' = if k' = k ∧ j' = e.toNat then yR v else zsl hp k' j') → yG o ft call pool hs tab P N nx L rest hp') : yG o ft call pool hs tab P (N + 1) pc L (yR v :: yI e :: yR k :: rest) hp := by
  obtain ⟨m9, rfl⟩ : ∃ m : Nat, e = (m : Int) := ⟨e.toNat, by omega⟩
  have hm : m9 < n := by omega
  obtain ⟨g1, g2, g3⟩ := hA
  obtain ⟨bb, f, f1, f2, f3, f4, f5⟩ := hT.arr g1 g2
  obtain ⟨bb', f', f1', -, -, -, -⟩ := hT.arr hvA.1 hvA.2.1
  have hm2 : m9 < zat G k := by rw [g3]; exact hm
  have hv2 : ztok G (2, (((2 ^ r : Nat) : Int), 0)) (zat G k) (yR v) := ⟨v, rfl, hv.1, by
    show Nat.testBit (2 ^ r) (zro G v) = true
    rw [hv.2, Nat.testBit_two_pow]
    exact decide_eq_true rfl, fun e => by cases e⟩
  obtain ⟨q1, q2⟩ := hT.puta g1 g2 f1 hm2 (t := (2, (((2 ^ r : Nat) : Int), 0))) (by rw [show m9 % 1 = 0 by omega]; rfl) hv2
  refine fun l hl => zG.step (pc' := nx) (stk' := rest) ht (fun K => ?_) (h _ q1 rfl (fun k' j' => q2 k' j') l hl)
  show xaast o K nx l (.inr (.inr (.inl v)) :: .inl (zc32 (m9 : Int)) :: .inr (.inr (.inl k)) :: rest) hp = _
  rw [zc32_nat (by omega)]
  show (match xcell hp k, xcell hp v with
    | some (.inr (.inl c)), some e => cond ((match e with
        | .inl q => Nat.beq c.1 (Nat.add 4 q.1)
        | .inr (.inl q) => Nat.beq c.1 (Nat.add 64 q.1) && (Nat.blt q.1 4 && Nat.ble o v)
        | _ => false) && (Nat.blt m9 c.2.1 && (Nat.blt m9 2147483648 && (Nat.ble o k && Nat.blt m9 (Nat.pow 2 c.2.2.1))))) (K nx l rest (xput hp k (some (.inr (.inl (c.1, (c.2.1, (c.2.2.1, xset (.inr (.inr (.inl v))) m9 c.2.2.1 0 c.2.2.2)))))))) none
    | _, _ => none) = _
  rw [f1, f1']
  show cond ((Nat.beq (64 + kd) (Nat.add 64 kd) && (Nat.blt kd 4 && Nat.ble o v)) && (Nat.blt m9 (zat G k) && (Nat.blt m9 2147483648 && (Nat.ble o k && Nat.blt m9 (Nat.pow 2 bb))))) _ none = _
  rw [show Nat.beq (64 + kd) (Nat.add 64 kd) = true from Nat.beq_refl _, blt_true hkd, Nat.ble_eq_true_of_le hvO, blt_true hm2, blt_true (show m9 < 2147483648 by omega), Nat.ble_eq_true_of_le hO, blt_true (show m9 < Nat.pow 2 bb from Nat.lt_of_lt_of_le hm2 f3)]
  rfl
theorem bOb {ts : List zT} {k r cls : Nat} (hr : xget G.1 r = .inl (cls, ts)) (h : bRo G r k) : yOB G k cls := ⟨h.1, ts, by rw [h.2]; exact hr⟩
theorem yFd.own {k cls j : Nat} {x y : Int} (h : yFd G k cls j (3, (x, y))) (hT : zTy G hp) : zsl hp k j = yI (ys hp k j) ∧ zi32 (ys hp k j) ∧ 0 ≤ ys hp k j ∧ ys hp k j ≤ (zat G k : Int) := by
  obtain ⟨ts, f, -, -, -, -, e1, z, z1, z2, z3, z4⟩ := h.at hT
  have e : ys hp k j = z := by
    unfold ys
    rw [e1, z4]
    exact ydec_I z1
  rw [e, e1, z4]
  exact ⟨rfl, z1, z2, z3⟩
/-- a byte is put -/
theorem yG.bast3 {k n : Nat} {e z : Int} (hT : zTy G hp) (hA : yIA G k n 3 (0, (-128, 127))) (hO : o ≤ k) (ht : xget tab pc = (pc, (.bastore, (len, nx)))) (h0 : 0 ≤ e) (h1 : e < n) (hz : zi32 z) (h : ∀ hp' w, zTy G hp' → hp'.2 = hp.2 → (∀ k' j', zsl hp' k' j' = if k' = k ∧ j' = e.toNat then yI w else zsl hp k' j') → (∀ k' j', ys hp' k' j' = if k' = k ∧ j' = e.toNat then w else ys hp k' j') → yG o ft call pool hs tab P N nx L rest hp') : yG o ft call pool hs tab P (N + 1) pc L (yI z :: yI e :: yR k :: rest) hp := by
  obtain ⟨m, rfl⟩ : ∃ m : Nat, e = (m : Int) := ⟨e.toNat, by omega⟩
  have hm : m < n := by omega
  obtain ⟨g1, g2, g3⟩ := hA
  obtain ⟨bb, f, f1, f2, f3, f4, f5⟩ := hT.arr g1 g2
  have hm2 : m < zat G k := by rw [g3]; exact hm
  have w1 := Int8.le_toInt (Int32.ofNat (zc32 z)).toInt8
  have w2 := Int8.toInt_lt (Int32.ofNat (zc32 z)).toInt8
  have w3 : x32 ((Int32.ofNat (zc32 z)).toInt8.toInt32) = zc32 ((Int32.ofNat (zc32 z)).toInt8.toInt) := by
    rw [zx32_toInt, Int8.toInt_toInt32]
  have w4 : zi32 ((Int32.ofNat (zc32 z)).toInt8.toInt) := ⟨by omega, by omega⟩
  have hv2 : ztok G (0, (-128, 127)) (zat G k) (.inl (x32 ((Int32.ofNat (zc32 z)).toInt8.toInt32))) := ⟨_, w4, by show (-128 : Int) ≤ _; omega, by show _ ≤ (127 : Int); omega, by rw [w3]⟩
  obtain ⟨q1, q2⟩ := hT.puta g1 g2 f1 hm2 (t := (0, (-128, 127))) (by rw [show m % 1 = 0 by omega]; rfl) hv2
  rw [w3] at q1 q2
  refine fun l hl => zG.step (pc' := nx) (stk' := rest) ht (fun K => ?_) (h _ ((Int32.ofNat (zc32 z)).toInt8.toInt) q1 rfl (fun k' j' => q2 k' j') (fun k' j' => ?_) l hl)
  · show xj (xast o (fun t => Nat.beq t 2 || Nat.beq t 3) hp (.inr (.inr (.inl k))) (.inl (zc32 (m : Int))) (yI z)) (fun h => K nx l rest h) = _
    rw [zc32_nat (by omega)]
    show xj (match xcell hp k with
      | some (.inr (.inl c)) => match xkeep c.1 (yI z) with
        | some w => cond ((Nat.beq c.1 2 || Nat.beq c.1 3) && (Nat.blt m c.2.1 && (Nat.blt m 2147483648 && (Nat.ble o k && Nat.blt m (Nat.pow 2 c.2.2.1))))) (some (xput hp k (some (.inr (.inl (c.1, (c.2.1, (c.2.2.1, xset w m c.2.2.1 0 c.2.2.2)))))))) none
        | none => none
      | _ => none) (fun h => K nx l rest h) = _
    rw [f1]
    show xj (cond (true && (Nat.blt m (zat G k) && (Nat.blt m 2147483648 && (Nat.ble o k && Nat.blt m (Nat.pow 2 bb))))) (some (xput hp k (some (.inr (.inl (3, (zat G k, (bb, xset (.inl (x32 ((Int32.ofNat (zc32 z)).toInt8.toInt32))) m bb 0 f)))))))) none) (fun h => K nx l rest h) = _
    rw [blt_true hm2, blt_true (show m < 2147483648 by omega), Nat.ble_eq_true_of_le hO, blt_true (show m < Nat.pow 2 bb from Nat.lt_of_lt_of_le hm2 f3), w3]
    rfl
  · unfold ys
    rw [q2]
    show ydec _ = if k' = k ∧ j' = m then _ else ydec (zsl hp k' j')
    by_cases e9 : k' = k ∧ j' = m
    · rw [if_pos e9, if_pos e9, ydec_I w4]
    · rw [if_neg e9, if_neg e9]
theorem yP.ref {Q : Option xA → xH → Prop} {k : Nat} (h : Q (some (yR k)) hp) : yP 3 Q (0, (pc, ([yR k], (hp, 0)))) := ⟨_, hp, rfl, h⟩
theorem yG.imm {kk : Nat} {mx : Bool} {a b : Int} (ht : xget tab pc = (pc, (.invokestatic kk, (len, nx)))) (hq : pool kk = (cond mx 13 14, (0, (0, 0)))) (ha : zi32 a) (hb : zi32 b) (hr : Nat.ble (xcats rest) 4 = true) (h : ∀ z, (z = a ∨ z = b) → (mx = true → a ≤ z ∧ b ≤ z) → (mx = false → z ≤ a ∧ z ≤ b) → yG o ft call pool hs tab P N nx L (yI z :: rest) hp) : yG o ft call pool hs tab P (N + 1) pc L (yI b :: yI a :: rest) hp := by
  have e1 : ∀ z : Int, zi32 z → xm32 (Nat.add (zc32 z) 2147483648) = (z + 2147483648).toNat := fun z hz => by
    obtain ⟨h1, h2⟩ := hz
    show (zc32 z + 2147483648) % 4294967296 = _
    unfold zc32
    omega
  obtain ⟨a1, a2⟩ := ha
  obtain ⟨b1, b2⟩ := hb
  have hb9 : Nat.blt (xm32 (Nat.add (zc32 a) 2147483648)) (xm32 (Nat.add (zc32 b) 2147483648)) = decide (a < b) := by
    rw [e1 a ⟨a1, a2⟩, e1 b ⟨b1, b2⟩]
    by_cases g : a < b
    · rw [decide_eq_true g]; exact blt_true (by omega)
    · rw [decide_eq_false g]; exact blt_false (by omega)
  cases mx with
  | true =>
    refine yG.step (pc' := nx) (stk' := yI (if a < b then b else a) :: rest) ht (fun K l => ?_) (h _ (by split <;> simp) (fun _ => by split <;> omega) (fun e => by cases e))
    show xinvS o call hs (pool kk) K pc nx l (yI b :: yI a :: rest) hp = _
    unfold xinvS
    rw [hq]
    show cond (Nat.ble (xcats rest) 4) (K nx l (.inl (cond (Nat.blt (xm32 (Nat.add (zc32 a) 2147483648)) (xm32 (Nat.add (zc32 b) 2147483648))) (zc32 b) (zc32 a)) :: rest) hp) none = _
    rw [hr, hb9]
    by_cases g : a < b
    · rw [decide_eq_true g, if_pos g]; rfl
    · rw [decide_eq_false g, if_neg g]; rfl
  | false =>
    refine yG.step (pc' := nx) (stk' := yI (if a < b then a else b) :: rest) ht (fun K l => ?_) (h _ (by split <;> simp) (fun e => by cases e) (fun _ => by split <;> omega))
    show xinvS o call hs (pool kk) K pc nx l (yI b :: yI a :: rest) hp = _
    unfold xinvS
    rw [hq]
    show cond (Nat.ble (xcats rest) 4) (K nx l (.inl (cond (Nat.blt (xm32 (Nat.add (zc32 a) 2147483648)) (xm32 (Nat.add (zc32 b) 2147483648))) (zc32 a) (zc32 b)) :: rest) hp) none = _
    rw [hr, hb9]
    by_cases g : a < b
    · rw [decide_eq_true g, if_pos g]; rfl
    · rw [decide_eq_false g, if_neg g]; rfl
/-- the size of a long (that of the least one is itself) -/
theorem yG.labs {kk : Nat} {a : Int} (ht : xget tab pc = (pc, (.invokestatic kk, (len, nx)))) (hq : pool kk = (15, (0, (0, 0)))) (hr : Nat.ble (xcats rest) 4 = true) (h : ∀ z, zi64 z → yG o ft call pool hs tab P N nx L (yJ z :: rest) hp) : yG o ft call pool hs tab P (N + 1) pc L (yJ a :: rest) hp := by
  obtain ⟨z, hz, e⟩ : ∃ z : Int, zi64 z ∧ zc64 z = cond (Nat.blt (zc64 a) 9223372036854775808) (zc64 a) (x64 (-Int64.ofNat (zc64 a))) := by
    cases Nat.blt (zc64 a) 9223372036854775808 with
    | true =>
      obtain ⟨z, e1, e2, e3⟩ := ywJ a
      refine ⟨z, ⟨e2, by omega⟩, ?_⟩
      injection e1 with e4
      injection e4 with e4
      exact e4.symm
    | false =>
      refine ⟨(-Int64.ofNat (zc64 a)).toInt, ⟨by have := Int64.le_toInt (-Int64.ofNat (zc64 a)); omega, by have := Int64.toInt_lt (-Int64.ofNat (zc64 a)); omega⟩, ?_⟩
      rw [← zx64_toInt]
      rfl
  refine yG.step (pc' := nx) (stk' := yJ z :: rest) ht (fun K l => ?_) (h z hz)
  show xinvS o call hs (pool kk) K pc nx l (yJ a :: rest) hp = _
  unfold xinvS
  rw [hq]
  show cond (Nat.ble (xcats rest) 4) (K nx l (.inr (.inl (cond (Nat.blt (zc64 a) 9223372036854775808) (zc64 a) (x64 (-Int64.ofNat (zc64 a))))) :: rest) hp) none = K nx l (.inr (.inl (zc64 z)) :: rest) hp
  rw [hr, e]
  rfl
end BSteps
section BThrow
variable {o : Nat} {ft : Nat → List Nat} {call : xF} {pool : Nat → xP} {hs : List (Nat × (Nat × (Nat × Nat)))} {tab : Lean.RArray xI} {P : xE → Prop}
variable {N pc nx len : Nat} {i : Instr} {L : List (Nat × xA)} {stk rest : List xA} {hp : xH} {v : xA} {G : zW}
def bP (rk : Nat) (Q : Option xA → xH → Prop) (T : xH → Nat → Prop) : xE → Prop := fun out => yP rk Q out ∨ ∃ hp' e, xend rk (some out) = some (1, (none, (hp', e))) ∧ T hp' e
def bC (call : xF) (mi : Nat) (as : List xA) (hp : xH) (Q : Option xA → xH → Prop) (T : xH → Nat → Prop) : Prop := yC call mi as hp Q ∨ ∃ hp' e, call mi as hp = some (1, (none, (hp', e))) ∧ T hp' e
/-- what is left behind a throw -/
def bbk (h : xH) : xH := (h.1, (h.2.1, (false, (Nat.add h.2.2.2.1 1, Nat.add h.2.2.2.2 6))))
def bTh (G : zW) (Wl : zWr) (es : List Nat) (hp : xH) : xH → Nat → Prop := fun hp' e => es.contains e = true ∧ ∃ hm, bAx G Wl hp hm ∧ hp' = bbk hm
theorem bTh.sub {Wl Ul : zWr} {es fs : List Nat} {a b c : xH} {e : Nat} (h0 : bAx G Wl a b) (h : bTh G Ul es b c e) (hw : zwin Ul Wl = true) (he : es.all (fun x => fs.contains x) = true) : bTh G Wl fs a c e := by
  obtain ⟨h1, hm, h2, h3⟩ := h
  exact ⟨List.all_eq_true.mp he e (List.contains_iff_mem.mp h1), hm, h0.tr h2 hw, h3⟩
theorem yG.newT {kk E : Nat} (ht : xget tab pc = (pc, (.new kk, (len, nx)))) (hq : pool kk = (11, (E, (0, 0)))) (h : P (1, (pc, (stk, (hp, E))))) : yG o ft call pool hs tab P (N + 1) pc L stk hp :=
  fun l _ => zG.done ht (fun K => by
    show cond (Nat.beq (pool kk).1 11) (some (1, (pc, (stk, (hp, (pool kk).2.1))))) _ = _
    rw [hq]
    rfl) h
theorem bP.thr {rk E : Nat} {Q : Option xA → xH → Prop} {T : xH → Nat → Prop} (hc : Nat.ble (xcats stk) 8 = true) (h : T (bbk hp) E) : bP rk Q T (1, (pc, (stk, (hp, E)))) := .inr ⟨bbk hp, E, by
  show cond (Nat.ble (xcats stk) 8) _ none = _
  rw [hc]
  rfl, h⟩
theorem bP.thr2 {rk E : Nat} {Q : Option xA → xH → Prop} {T : xH → Nat → Prop} (h : T hp E) : bP rk Q T (2, (pc, (rest, (hp, E)))) := .inr ⟨hp, E, rfl, h⟩
theorem yG.invVT {kk k cls mi na : Nat} {as : List xA} {Q : Option xA → xH → Prop} {T : xH → Nat → Prop} (hT : zTy G hp) (hk : yOB G k cls) (ht : xget tab pc = (pc, (.invokevirtual kk, (len, nx)))) (hq : pool kk = (1, (mi, (na, cls)))) (hs9 : xtake na [] stk = some (as, yR k :: rest)) (hr : Nat.ble (xcats rest) 8 = true) (hc : bC call mi (yR k :: as) hp Q T) (hP : ∀ hp' e, T hp' e → P (2, (pc, (rest, (hp', e))))) (h : ∀ rv hp', Q rv hp' → yG o ft call pool [] tab P N nx L (yret rv rest) hp') : yG o ft call pool [] tab P (N + 1) pc L stk hp := by
  rcases hc with hc | ⟨hp', e, c1, c2⟩
  · exact yG.invV hT hk ht hq hs9 hr hc h
  · obtain ⟨h1, ts, h2⟩ := hk
    obtain ⟨f, f1, -⟩ := hT.obj h1 h2
    refine fun l _ => zG.done ht (fun K => ?_) (hP hp' e c2)
    show xinvV call [] (pool kk) K pc nx l stk hp = _
    unfold xinvV
    rw [hq, hs9]
    show (match xcell hp k with
      | some (.inl c) => cond (Nat.beq c.1 cls && Nat.ble (xcats rest) 8) (xback [] K pc nx l rest (call mi (yR k :: as) hp)) none
      | _ => none) = _
    rw [f1]
    show cond (Nat.beq cls cls && Nat.ble (xcats rest) 8) (xback [] K pc nx l rest (call mi (yR k :: as) hp)) none = _
    rw [Nat.beq_refl, hr, c1]
    rfl
theorem yG.invST {kk mi na : Nat} {as : List xA} {Q : Option xA → xH → Prop} {T : xH → Nat → Prop} (ht : xget tab pc = (pc, (.invokestatic kk, (len, nx)))) (hq : pool kk = (2, (mi, (na, 0)))) (hs9 : xtake na [] stk = some (as, rest)) (hr : Nat.ble (xcats rest) 8 = true) (hc : bC call mi as hp Q T) (hP : ∀ hp' e, T hp' e → P (2, (pc, (rest, (hp', e))))) (h : ∀ rv hp', Q rv hp' → yG o ft call pool [] tab P N nx L (yret rv rest) hp') : yG o ft call pool [] tab P (N + 1) pc L stk hp := by
  rcases hc with hc | ⟨hp', e, c1, c2⟩
  · exact yG.invS ht hq hs9 hr hc h
  · refine fun l _ => zG.done ht (fun K => ?_) (hP hp' e c2)
    show xinvS o call [] (pool kk) K pc nx l stk hp = _
    unfold xinvS
    rw [hq, hs9]
    show cond (Nat.ble (xcats rest) 8) (xback [] K pc nx l rest (call mi as hp)) none = _
    rw [hr, c1]
    rfl
theorem bC.of {pools : Lean.RArray (Lean.RArray (Nat × xP))} {ms : Lean.RArray xM} {d mi : Nat} {as : List xA} {Q : Option xA → xH → Prop} {T : xH → Nat → Prop} {M : xM} {N : Nat} (hM : xget ms mi = M) (ha : Nat.ble (xcats as) M.2.1 = true) (hN : N ≤ xfuel)
    (h : yG o ft (xcall o ft pools ms d) (xpool (xget pools M.2.2.2.1)) M.2.2.2.2 M.1 (bP M.2.2.1 Q T) N 0 (xargs as 0) [] hp) : bC (xcall o ft pools ms (d + 1)) mi as hp Q T := by
  obtain ⟨out, h1, h2⟩ := h (xargs as 0) (xargs_self as 0).2 xfuel hN
  have e : xcall o ft pools ms (d + 1) mi as hp = xend M.2.2.1 (some out) := by
    show cond (Nat.ble (xcats as) (xget ms mi).2.1) (xend (xget ms mi).2.2.1 (xrun o ft (xcall o ft pools ms d) (xpool (xget pools (xget ms mi).2.2.2.1)) (xget ms mi).2.2.2.2 (xget ms mi).1 xfuel 0 (xargs as 0) [] hp)) none = _
    rw [hM, ha, cond_true, h1]
  rcases h2 with ⟨rv, hp', h3, h4⟩ | ⟨hp', e9, h3, h4⟩
  · exact .inl ⟨rv, hp', e.trans h3, h4⟩
  · exact .inr ⟨hp', e9, e.trans h3, h4⟩
theorem bmulx {x y A : Int} (hX : x ≤ A) (hy : 0 ≤ y) : x * y ≤ A * y := Int.mul_le_mul_of_nonneg_right hX hy
theorem bmuly {x y B : Int} (hY : y ≤ B) (hx : 0 ≤ x) : x * y ≤ B * x := by
  rw [Int.mul_comm]
  exact Int.mul_le_mul_of_nonneg_right hY hx
theorem blushr {a : Int} {s : Int64} {n : Nat} (hs9 : ((s.toUInt64 % 64).toNat) = n) (hn : 1 ≤ n) (hn2 : n < 64) : ((Int64.ofNat (zc64 a)).toUInt64 >>> s.toUInt64).toInt64.toInt = ((zc64 a : Nat) : Int) / ((2 ^ n : Nat) : Int) := by
  have e1 : (Int64.ofNat (zc64 a)).toUInt64.toNat = zc64 a := by
    have : zc64 a < 18446744073709551616 := by unfold zc64; omega
    show (UInt64.ofNat (zc64 a)).toNat = zc64 a
    rw [UInt64.toNat_ofNat']
    exact Nat.mod_eq_of_lt this
  have e2 : ((Int64.ofNat (zc64 a)).toUInt64 >>> s.toUInt64).toNat = zc64 a / 2 ^ n := by
    rw [UInt64.toNat_shiftRight, e1, Nat.shiftRight_eq_div_pow]
    have : s.toUInt64.toNat % 64 = n := by rw [← hs9, UInt64.toNat_mod]; rfl
    rw [this]
  have h3 : zc64 a < 18446744073709551616 := by unfold zc64; omega
  have h4 : zc64 a / 2 ^ n < 9223372036854775808 := by
    have h5 : (2 : Nat) ^ 1 ≤ 2 ^ n := Nat.pow_le_pow_right (by decide) hn
    have h6 : zc64 a / 2 ^ n ≤ zc64 a / 2 := Nat.div_le_div_left h5 (by decide)
    omega
  show (UInt64.toBitVec _).toInt = _
  rw [BitVec.toInt_eq_toNat_cond]
  have e3 : ((((Int64.ofNat (zc64 a)).toUInt64 >>> s.toUInt64).toInt64.toUInt64).toBitVec).toNat = zc64 a / 2 ^ n := e2
  rw [e3, if_pos (by omega)]
  exact Int.natCast_ediv _ _
end BThrow
section BCopy
variable {o : Nat} {ft : Nat → List Nat} {call : xF} {pool : Nat → xP} {hs : List (Nat × (Nat × (Nat × Nat)))} {tab : Lean.RArray xI} {P : xE → Prop}
variable {N pc nx len : Nat} {i : Instr} {L : List (Nat × xA)} {stk rest : List xA} {hp a b c : xH} {v : xA} {G : zW} {Wl : zWr} {k r : Nat}
theorem bAx.putW (h : bAx G Wl a b) (hT : zTy G c) (h2 : c.2 = b.2) (h3 : ∀ k' j', k' ≠ k → zsl c k' j' = zsl b k' j') (hk : bRo G r k) (hw : bAll Wl r = true) : bAx G Wl a c := ⟨hT, h2.trans h.2.1, fun k' j' x y => by
  rw [h3]
  · exact h.2.2 k' j' x y
  · rintro rfl
    rw [hk.2, bAll_ok hw] at y
    cases y⟩
theorem zTy.putA (h : zTy G hp) (hk : k < G.2.2.1) {q : Nat × (Nat × List zT)} (hq : xget G.1 (zro G k) = .inr (.inl q)) {bb : Nat} {f f' : Lean.RArray xA} (hf : xcell hp k = some (.inr (.inl (q.1, (zat G k, (bb, f)))))) (hw : xwf bb 0 f') (hv : ∀ i, i < zat G k → ∃ t, q.2.2[i % q.2.1]? = some t ∧ ztok G t (zat G k) (xget f' i)) :
    zTy G (xput hp k (some (.inr (.inl (q.1, (zat G k, (bb, f'))))))) ∧ ∀ k' j', k' ≠ k → zsl (xput hp k (some (.inr (.inl (q.1, (zat G k, (bb, f'))))))) k' j' = zsl hp k' j' := by
  obtain ⟨b', f9, g1, g2, g3, g5, g4⟩ := h.arr hk hq
  rw [hf] at g1
  cases g1
  refine ⟨⟨xset_wf _ _ _ _ _ h.1, h.2.1, fun k' hk' => ?_⟩, fun k' j' e => ?_⟩
  · rw [zput_cell h hk]
    by_cases e : k' = k
    · rw [if_pos e, e, hq]
      exact ⟨_, _, rfl, hw, g3, g5, hv⟩
    · rw [if_neg e]
      exact h.2.2 k' hk'
  · exact zsl_same (by rw [zput_cell h hk, if_neg e]) _
theorem xfall_of {ty : Nat} {f : Lean.RArray xA} : ∀ {n : Nat}, (∀ t, t < n → xfa ty (xget f t) = true) → xfall ty f 0 n = true := by
  intro n
  induction n with
  | zero => intro _; rfl
  | succ n ih =>
    intro h
    show (xfa ty (xget f (Nat.add 0 n)) && xfall ty f 0 n) = true
    rw [show Nat.add 0 n = n from Nat.zero_add n, h n (Nat.lt_succ_self n), ih fun t ht => h t (Nat.lt_succ_of_lt ht)]
    rfl
/-- the first n of a row into another one (or itself) -/
theorem yG.acopy {kk ks kd m m' kt : Nat} {n : Int} {tf : Nat → zT} (hT : zTy G hp) (hS : yIF G ks m kt tf) (hD : yIF G kd m' kt tf) (hk : kt ≤ 1) (htf : ∀ j, (tf j).1 = kt) (hO : o ≤ kd) (ht : xget tab pc = (pc, (.invokestatic kk, (len, nx)))) (hq : pool kk = (12, (0, (0, 0)))) (h0 : 0 ≤ n) (h1 : n ≤ m) (h2 : n ≤ m') (hr : Nat.ble (xcats rest) 4 = true) (h : ∀ hp', zTy G hp' → hp'.2 = hp.2 → (∀ k' j', k' ≠ kd → zsl hp' k' j' = zsl hp k' j') → yG o ft call pool hs tab P N nx L rest hp') : yG o ft call pool hs tab P (N + 1) pc L (yI n :: yI 0 :: yR kd :: yI 0 :: yR ks :: rest) hp := by
  obtain ⟨n, rfl⟩ : ∃ x : Nat, n = (x : Int) := ⟨n.toNat, by omega⟩
  have hm : n ≤ m := by omega
  have hm' : n ≤ m' := by omega
  have hSa := fun j (hj : j < m) => hS.at hT hj
  have hDa := fun j (hj : j < m') => hD.at hT hj
  obtain ⟨s1, ⟨ws, tss, s2, s4⟩, s3⟩ := hS
  obtain ⟨d1, ⟨wd, tsd, d2, d4⟩, d3⟩ := hD
  obtain ⟨sb, sf, sc, sw, sl, sn, se⟩ := hT.arr s1 s2
  obtain ⟨db, df, dc, dw, dl, dn, de⟩ := hT.arr d1 d2
  rw [s3] at sc sl sn se
  rw [d3] at dl dn
  have dc' := dc
  rw [d3] at dc'
  have hel : ∀ j, j < m → ∃ z, xget sf j = z ∧ ztok G (tf j) m z := fun j hj => by
    obtain ⟨bb, f, f1, -, -, f4⟩ := hSa j hj
    rw [sc] at f1
    cases f1
    exact ⟨_, rfl, f4⟩
  have hfa : ∀ j, j < m → xfa kt (xget sf j) = true := fun j hj => by
    obtain ⟨z, z1, z2⟩ := hel j hj
    rw [z1]
    have e := htf j
    have : kt = 0 ∨ kt = 1 := by omega
    obtain ⟨x1, x2⟩ : ∃ x, x = tf j := ⟨_, rfl⟩
    rw [← x2] at z2 e
    obtain ⟨t1, t2, t3⟩ := x1
    have e : t1 = kt := e
    subst e
    rcases this with rfl | rfl
    · obtain ⟨w, w1, -, -, rfl⟩ := z2
      show (xbd (.inl (zc32 w))).isSome = true
      rw [zbd w1]
      rfl
    · obtain ⟨w, w1, -, -, rfl⟩ := z2
      show (xbdl (.inr (.inl (zc64 w)))).isSome = true
      rw [zbdl w1]
      rfl
  obtain ⟨q1, q2⟩ := xcopy_ok (f := sf) (k := db) (i := 0) (j := 0) n df dw (by omega)
  obtain ⟨r1, r2⟩ := hT.putA d1 d2 dc (f' := xcopy sf db 0 0 n df) q1 fun i hi => by
    have hi2 : i < m' := by rw [d3] at hi; exact hi
    rw [q2 i (by omega)]
    by_cases e : 0 ≤ i ∧ i < 0 + n
    · rw [if_pos e]
      obtain ⟨z, z1, z2⟩ := hel i (by omega)
      refine ⟨tf i, d4 i hi2, ?_⟩
      rw [show 0 + (i - 0) = i by omega, z1]
      have e := htf i
      have : kt = 0 ∨ kt = 1 := by omega
      obtain ⟨x1, x2⟩ : ∃ x, x = tf i := ⟨_, rfl⟩
      rw [← x2] at z2 e ⊢
      obtain ⟨t1, t2, t3⟩ := x1
      have e : t1 = kt := e
      subst e
      rcases this with rfl | rfl
      · exact z2
      · exact z2
    · rw [if_neg e]
      obtain ⟨t, t1, t2⟩ := de i (by rw [d3]; exact hi2)
      exact ⟨t, t1, t2⟩
  refine fun l hl => zG.step (pc' := nx) (stk' := rest) ht (fun K => ?_) (h _ r1 rfl r2 l hl)
  show xinvS o call hs (pool kk) K pc nx l (.inl (zc32 (n : Int)) :: .inl (zc32 0) :: yR kd :: .inl (zc32 0) :: yR ks :: rest) hp = _
  rw [zc32_nat (by omega)]
  unfold xinvS
  rw [hq]
  show (match xcell hp ks, xcell hp kd with
    | some (.inr (.inl cs)), some (.inr (.inl cd)) =>
      cond (xfall cs.1 cs.2.2.2 0 n && (Nat.beq cs.1 cd.1 && (Nat.ble cs.1 3 && (Nat.ble (Nat.add 0 n) cs.2.1 && (Nat.ble (Nat.add 0 n) cd.2.1 && (Nat.blt cs.2.1 2147483648 && (Nat.blt cd.2.1 2147483648 && (Nat.ble o kd && (Nat.ble (Nat.add 0 n) (Nat.pow 2 cd.2.2.1) && Nat.ble (xcats rest) 4)))))))))
        (K nx l rest (xput hp kd (some (.inr (.inl (cd.1, (cd.2.1, (cd.2.2.1, xcopy cs.2.2.2 cd.2.2.1 0 0 n cd.2.2.2)))))))) none
    | _, _ => none) = _
  rw [sc, dc]
  show cond (xfall kt sf 0 n && (Nat.beq kt kt && (Nat.ble kt 3 && (Nat.ble (Nat.add 0 n) m && (Nat.ble (Nat.add 0 n) (zat G kd) && (Nat.blt m 2147483648 && (Nat.blt (zat G kd) 2147483648 && (Nat.ble o kd && (Nat.ble (Nat.add 0 n) (Nat.pow 2 db) && Nat.ble (xcats rest) 4))))))))) _ none = _
  rw [xfall_of fun t ht => hfa t (by omega), Nat.beq_refl, Nat.ble_eq_true_of_le (show kt ≤ 3 by omega), show Nat.add 0 n = n from Nat.zero_add n, Nat.ble_eq_true_of_le hm, Nat.ble_eq_true_of_le (show n ≤ zat G kd by omega), blt_true sn, blt_true (show zat G kd < 2147483648 by omega), Nat.ble_eq_true_of_le hO, Nat.ble_eq_true_of_le (show n ≤ Nat.pow 2 db from Nat.le_trans hm' dl), hr]
  rfl
end BCopy
section BBits2
theorem bshl {a : Int} {s : Int64} {n : Nat} (ha : 0 ≤ a) (hb : a * 2 ^ n < 9223372036854775808) (hn : n < 64) (hs9 : (s.toBitVec.smod 64#64).toNat = n) : (Int64.ofNat (zc64 a) <<< s).toInt = a * 2 ^ n := by
  rw [zc64_of]
  show ((Int64.ofInt a <<< s).toBitVec).toInt = _
  rw [Int64.toBitVec_shiftLeft]
  have e1 : (Int64.ofInt a).toBitVec = BitVec.ofInt 64 a := rfl
  show ((Int64.ofInt a).toBitVec <<< (s.toBitVec.smod 64#64)).toInt = _
  rw [BitVec.shiftLeft_eq', hs9, e1]
  obtain ⟨m, rfl⟩ : ∃ m : Nat, a = (m : Int) := ⟨a.toNat, by omega⟩
  have hp : 0 < 2 ^ n := Nat.two_pow_pos n
  have hb2 : m * 2 ^ n < 9223372036854775808 := by
    have : ((m * 2 ^ n : Nat) : Int) = (m : Int) * 2 ^ n := by rw [Int.natCast_mul, Int.natCast_pow]; rfl
    omega
  have hm : m < 18446744073709551616 := by
    have := Nat.le_mul_of_pos_right m hp
    omega
  rw [BitVec.toInt_eq_toNat_cond]
  have e3 : (BitVec.ofInt 64 (m : Int) <<< n).toNat = m * 2 ^ n := by
    rw [BitVec.toNat_shiftLeft, BitVec.toNat_ofInt, Nat.shiftLeft_eq]
    have : ((m : Int) % ((2 ^ 64 : Nat) : Int)).toNat = m := by omega
    rw [this]
    exact Nat.mod_eq_of_lt (by omega)
  rw [e3, if_pos (by omega), Int.natCast_mul, Int.natCast_pow]
  rfl
/-- or of a number of high bits and one of low bits -/
theorem blor {x b : Int} {n : Nat} (hx : 0 ≤ x) (hb0 : 0 ≤ b) (hb : b < 2 ^ n) (ht : x * 2 ^ n + b < 9223372036854775808) : (Int64.ofNat (zc64 (x * 2 ^ n)) ||| Int64.ofNat (zc64 b)).toInt = x * 2 ^ n + b := by
  obtain ⟨m, rfl⟩ : ∃ m : Nat, x = (m : Int) := ⟨x.toNat, by omega⟩
  obtain ⟨c, rfl⟩ : ∃ m : Nat, b = (m : Int) := ⟨b.toNat, by omega⟩
  have hc : c < 2 ^ n := by
    have : ((2 ^ n : Nat) : Int) = 2 ^ n := by rw [Int.natCast_pow]; rfl
    omega
  have ht2 : m * 2 ^ n + c < 9223372036854775808 := by
    have : ((m * 2 ^ n : Nat) : Int) = (m : Int) * 2 ^ n := by rw [Int.natCast_mul, Int.natCast_pow]; rfl
    omega
  have e1 : (m : Int) * 2 ^ n = ((m * 2 ^ n : Nat) : Int) := by rw [Int.natCast_mul, Int.natCast_pow]; rfl
  have z1 : ∀ y : Nat, y < 9223372036854775808 → (Int64.ofNat (zc64 (y : Int))).toBitVec.toNat = y := fun y hy => by
    have : zc64 (y : Int) = y := by unfold zc64; omega
    rw [this]
    show (BitVec.ofNat 64 y).toNat = y
    rw [BitVec.toNat_ofNat]
    exact Nat.mod_eq_of_lt (by omega)
  rw [e1]
  show ((Int64.ofNat (zc64 ((m * 2 ^ n : Nat) : Int)) ||| Int64.ofNat (zc64 (c : Int))).toBitVec).toInt = _
  rw [Int64.toBitVec_or, BitVec.toInt_eq_toNat_cond, BitVec.toNat_or, z1 _ (by omega), z1 _ (by omega)]
  have e2 : m * 2 ^ n ||| c = m * 2 ^ n + c := by
    rw [Nat.mul_comm, Nat.two_pow_add_eq_or_of_lt hc]
  rw [e2, if_pos (by omega)]
  rfl
theorem bdivlt {a b c : Int} (hb : 1 ≤ b) (h : a + 1 ≤ c * b) : a / b ≤ c - 1 := by
  have := Int.ediv_lt_of_lt_mul (a := a) (b := c) (c := b) (by omega) (by omega)
  omega
theorem bdivge {a b : Int} (hb : 1 ≤ b) (h : b ≤ a) : 1 ≤ a / b := by
  have := Int.ediv_le_ediv (a := b) (b := a) (c := b) (by omega) h
  rw [Int.ediv_self (by omega)] at this
  exact this
/-- or, exclusive or of ints below a power of two -/
theorem bior {a b : Int} {n : Nat} (ha0 : 0 ≤ a) (ha : a < ((2 ^ n : Nat) : Int)) (hb0 : 0 ≤ b) (hb : b < ((2 ^ n : Nat) : Int)) (hn : n ≤ 31) : 0 ≤ (Int32.ofNat (zc32 a) ||| Int32.ofNat (zc32 b)).toInt ∧ (Int32.ofNat (zc32 a) ||| Int32.ofNat (zc32 b)).toInt < ((2 ^ n : Nat) : Int) := by
  obtain ⟨x, rfl⟩ : ∃ m : Nat, a = (m : Int) := ⟨a.toNat, by omega⟩
  obtain ⟨y, rfl⟩ : ∃ m : Nat, b = (m : Int) := ⟨b.toNat, by omega⟩
  have h31 : (2 : Nat) ^ n ≤ 2 ^ 31 := Nat.pow_le_pow_right (by decide) hn
  have z1 : ∀ y : Nat, y < 2147483648 → (Int32.ofNat (zc32 (y : Int))).toBitVec.toNat = y := fun y hy => by
    have : zc32 (y : Int) = y := by unfold zc32; omega
    rw [this]
    show (BitVec.ofNat 32 y).toNat = y
    rw [BitVec.toNat_ofNat]
    exact Nat.mod_eq_of_lt (by omega)
  have h9 : x ||| y < 2 ^ n := Nat.or_lt_two_pow (by omega) (by omega)
  have e : (Int32.ofNat (zc32 (x : Int)) ||| Int32.ofNat (zc32 (y : Int))).toInt = ((x ||| y : Nat) : Int) := by
    show ((Int32.ofNat (zc32 (x : Int)) ||| Int32.ofNat (zc32 (y : Int))).toBitVec).toInt = _
    rw [Int32.toBitVec_or, BitVec.toInt_eq_toNat_cond, BitVec.toNat_or, z1 _ (by omega), z1 _ (by omega), if_pos (by omega)]
  rw [e]
  omega
/-- and with a number that is not below 0 -/
theorem biandl {a b : Int} (ha : zi32 a) (h0 : 0 ≤ a) : 0 ≤ (Int32.ofNat (zc32 a) &&& Int32.ofNat (zc32 b)).toInt ∧ (Int32.ofNat (zc32 a) &&& Int32.ofNat (zc32 b)).toInt ≤ a := by
  have h1 := yiand (a := b) ha h0
  have e : (Int32.ofNat (zc32 a) &&& Int32.ofNat (zc32 b)) = (Int32.ofNat (zc32 b) &&& Int32.ofNat (zc32 a)) := Int32.and_comm _ _
  rw [e]
  exact h1
theorem bshl1 {i : Int} (h0 : 0 ≤ i) (h1 : i ≤ 7) : 1 ≤ (Int32.ofNat (zc32 1) <<< (Int32.ofNat (zc32 i) &&& 31)).toInt ∧ (Int32.ofNat (zc32 1) <<< (Int32.ofNat (zc32 i) &&& 31)).toInt ≤ 128 := by
  have : i = 0 ∨ i = 1 ∨ i = 2 ∨ i = 3 ∨ i = 4 ∨ i = 5 ∨ i = 6 ∨ i = 7 := by omega
  rcases this with rfl | rfl | rfl | rfl | rfl | rfl | rfl | rfl <;> decide
end BBits2
section BWorld
variable {G : zW} {k : Nat}
theorem d_S_Net_MOST (W : bW G) : xget G.1 0 = .inr (.inl (0, (5, t_S_Net_MOST))) := W.1 (0, .inr (.inl (0, (5, t_S_Net_MOST)))) (List.mem_of_getElem? (i := 0) rfl)
theorem d_S_Net_WIDTH (W : bW G) : xget G.1 1 = .inr (.inl (0, (5, t_S_Net_WIDTH))) := W.1 (1, .inr (.inl (0, (5, t_S_Net_WIDTH)))) (List.mem_of_getElem? (i := 1) rfl)
theorem d_S_Solver_PRIMES (W : bW G) : xget G.1 2 = .inr (.inl (1, (1, t_S_Solver_PRIMES))) := W.1 (2, .inr (.inl (1, (1, t_S_Solver_PRIMES)))) (List.mem_of_getElem? (i := 2) rfl)
theorem d_S_Net_GREATEST (W : bW G) : xget G.1 3 = .inr (.inl (0, (17, t_S_Net_GREATEST))) := W.1 (3, .inr (.inl (0, (17, t_S_Net_GREATEST)))) (List.mem_of_getElem? (i := 3) rfl)
theorem d_S_Net_BOUNDS (W : bW G) : xget G.1 4 = .inr (.inl (0, (5, t_S_Net_BOUNDS))) := W.1 (4, .inr (.inl (0, (5, t_S_Net_BOUNDS)))) (List.mem_of_getElem? (i := 4) rfl)
theorem d_S_Net_ENDS (W : bW G) : xget G.1 5 = .inr (.inl (0, (5, t_S_Net_ENDS))) := W.1 (5, .inr (.inl (0, (5, t_S_Net_ENDS)))) (List.mem_of_getElem? (i := 5) rfl)
theorem d_S_Net_FIRST_END (W : bW G) : xget G.1 6 = .inr (.inl (0, (5, t_S_Net_FIRST_END))) := W.1 (6, .inr (.inl (0, (5, t_S_Net_FIRST_END)))) (List.mem_of_getElem? (i := 6) rfl)
theorem d_S_Net_FIRST_NUMBER (W : bW G) : xget G.1 7 = .inr (.inl (0, (5, t_S_Net_FIRST_NUMBER))) := W.1 (7, .inr (.inl (0, (5, t_S_Net_FIRST_NUMBER)))) (List.mem_of_getElem? (i := 7) rfl)
theorem d_S_Net_SETTABLE (W : bW G) : xget G.1 8 = .inr (.inl (0, (5, t_S_Net_SETTABLE))) := W.1 (8, .inr (.inl (0, (5, t_S_Net_SETTABLE)))) (List.mem_of_getElem? (i := 8) rfl)
theorem d_S_Net_LEAST (W : bW G) : xget G.1 9 = .inr (.inl (0, (17, t_S_Net_LEAST))) := W.1 (9, .inr (.inl (0, (17, t_S_Net_LEAST)))) (List.mem_of_getElem? (i := 9) rfl)
theorem d_S_Rules_ACT_SORT (W : bW G) : xget G.1 10 = .inr (.inl (0, (6, t_S_Rules_ACT_SORT))) := W.1 (10, .inr (.inl (0, (6, t_S_Rules_ACT_SORT)))) (List.mem_of_getElem? (i := 10) rfl)
theorem d_S_Rules_ACT_FIELD (W : bW G) : xget G.1 11 = .inr (.inl (0, (6, t_S_Rules_ACT_FIELD))) := W.1 (11, .inr (.inl (0, (6, t_S_Rules_ACT_FIELD)))) (List.mem_of_getElem? (i := 11) rfl)
theorem d_S_Rules_ACT_VALUE (W : bW G) : xget G.1 12 = .inr (.inl (0, (6, t_S_Rules_ACT_VALUE))) := W.1 (12, .inr (.inl (0, (6, t_S_Rules_ACT_VALUE)))) (List.mem_of_getElem? (i := 12) rfl)
theorem d_S_GModel_PRIME (W : bW G) : xget G.1 13 = .inr (.inl (0, (1, t_S_GModel_PRIME))) := W.1 (13, .inr (.inl (0, (1, t_S_GModel_PRIME)))) (List.mem_of_getElem? (i := 13) rfl)
theorem d_G (W : bW G) : xget G.1 14 = .inl (12, t_G) := W.1 (14, .inl (12, t_G)) (List.mem_of_getElem? (i := 14) rfl)
theorem d_Tape (W : bW G) : xget G.1 15 = .inl (11, t_Tape) := W.1 (15, .inl (11, t_Tape)) (List.mem_of_getElem? (i := 15) rfl)
theorem d_Tape_bytes (W : bW G) : xget G.1 16 = .inr (.inl (3, (1, t_Tape_bytes))) := W.1 (16, .inr (.inl (3, (1, t_Tape_bytes)))) (List.mem_of_getElem? (i := 16) rfl)
theorem d_Tape_keys (W : bW G) : xget G.1 17 = .inr (.inl (1, (1, t_Tape_keys))) := W.1 (17, .inr (.inl (1, (1, t_Tape_keys)))) (List.mem_of_getElem? (i := 17) rfl)
theorem d_Net (W : bW G) : xget G.1 18 = .inl (5, t_Net) := W.1 (18, .inl (5, t_Net)) (List.mem_of_getElem? (i := 18) rfl)
theorem d_Net_count (W : bW G) : xget G.1 19 = .inr (.inl (0, (5, t_Net_count))) := W.1 (19, .inr (.inl (0, (5, t_Net_count)))) (List.mem_of_getElem? (i := 19) rfl)
theorem d_Net_value (W : bW G) : xget G.1 20 = .inr (.inl (64, (5, t_Net_value))) := W.1 (20, .inr (.inl (64, (5, t_Net_value)))) (List.mem_of_getElem? (i := 20) rfl)
theorem d_Net_names (W : bW G) : xget G.1 21 = .inr (.inl (65, (5, t_Net_names))) := W.1 (21, .inr (.inl (65, (5, t_Net_names)))) (List.mem_of_getElem? (i := 21) rfl)
theorem d_Net_value0 (W : bW G) : xget G.1 22 = .inr (.inl (0, (1, t_Net_value0))) := W.1 (22, .inr (.inl (0, (1, t_Net_value0)))) (List.mem_of_getElem? (i := 22) rfl)
theorem d_Net_names0 (W : bW G) : xget G.1 23 = .inr (.inl (1, (1, t_Net_names0))) := W.1 (23, .inr (.inl (1, (1, t_Net_names0)))) (List.mem_of_getElem? (i := 23) rfl)
theorem d_Net_value1 (W : bW G) : xget G.1 24 = .inr (.inl (0, (5, t_Net_value1))) := W.1 (24, .inr (.inl (0, (5, t_Net_value1)))) (List.mem_of_getElem? (i := 24) rfl)
theorem d_Net_names1 (W : bW G) : xget G.1 25 = .inr (.inl (1, (1, t_Net_names1))) := W.1 (25, .inr (.inl (1, (1, t_Net_names1)))) (List.mem_of_getElem? (i := 25) rfl)
theorem d_Net_value2 (W : bW G) : xget G.1 26 = .inr (.inl (0, (6, t_Net_value2))) := W.1 (26, .inr (.inl (0, (6, t_Net_value2)))) (List.mem_of_getElem? (i := 26) rfl)
theorem d_Net_names2 (W : bW G) : xget G.1 27 = .inr (.inl (1, (1, t_Net_names2))) := W.1 (27, .inr (.inl (1, (1, t_Net_names2)))) (List.mem_of_getElem? (i := 27) rfl)
theorem d_Net_value3 (W : bW G) : xget G.1 28 = .inr (.inl (0, (11, t_Net_value3))) := W.1 (28, .inr (.inl (0, (11, t_Net_value3)))) (List.mem_of_getElem? (i := 28) rfl)
theorem d_Net_names3 (W : bW G) : xget G.1 29 = .inr (.inl (1, (1, t_Net_names3))) := W.1 (29, .inr (.inl (1, (1, t_Net_names3)))) (List.mem_of_getElem? (i := 29) rfl)
theorem d_Net_value4 (W : bW G) : xget G.1 30 = .inr (.inl (0, (2, t_Net_value4))) := W.1 (30, .inr (.inl (0, (2, t_Net_value4)))) (List.mem_of_getElem? (i := 30) rfl)
theorem d_Net_names4 (W : bW G) : xget G.1 31 = .inr (.inl (1, (1, t_Net_names4))) := W.1 (31, .inr (.inl (1, (1, t_Net_names4)))) (List.mem_of_getElem? (i := 31) rfl)
theorem d_G_kept (W : bW G) : xget G.1 32 = .inr (.inl (9, (1, t_G_kept))) := W.1 (32, .inr (.inl (9, (1, t_G_kept)))) (List.mem_of_getElem? (i := 32) rfl)
theorem d_G_isKept (W : bW G) : xget G.1 33 = .inr (.inl (2, (1, t_G_isKept))) := W.1 (33, .inr (.inl (2, (1, t_G_isKept)))) (List.mem_of_getElem? (i := 33) rfl)
theorem d_Hand (W : bW G) : xget G.1 34 = .inl (3, t_Hand) := W.1 (34, .inl (3, t_Hand)) (List.mem_of_getElem? (i := 34) rfl)
theorem d_Big (W : bW G) : xget G.1 35 = .inl (0, t_Big) := W.1 (35, .inl (0, t_Big)) (List.mem_of_getElem? (i := 35) rfl)
theorem d_Big_limb (W : bW G) : xget G.1 36 = .inr (.inl (1, (1, t_Big_limb))) := W.1 (36, .inr (.inl (1, (1, t_Big_limb)))) (List.mem_of_getElem? (i := 36) rfl)
theorem d_Hand_figures (W : bW G) : xget G.1 37 = .inr (.inl (64, (1, t_Hand_figures))) := W.1 (37, .inr (.inl (64, (1, t_Hand_figures)))) (List.mem_of_getElem? (i := 37) rfl)
theorem d_Hand_figuress (W : bW G) : xget G.1 38 = .inr (.inl (0, (1, t_Hand_figuress))) := W.1 (38, .inr (.inl (0, (1, t_Hand_figuress)))) (List.mem_of_getElem? (i := 38) rfl)
theorem d_Hand_lengths (W : bW G) : xget G.1 39 = .inr (.inl (0, (1, t_Hand_lengths))) := W.1 (39, .inr (.inl (0, (1, t_Hand_lengths)))) (List.mem_of_getElem? (i := 39) rfl)
theorem d_Solver (W : bW G) : xget G.1 40 = .inl (10, t_Solver) := W.1 (40, .inl (10, t_Solver)) (List.mem_of_getElem? (i := 40) rfl)
theorem d_Solver_cell (W : bW G) : xget G.1 41 = .inr (.inl (65, (1, t_Solver_cell))) := W.1 (41, .inr (.inl (65, (1, t_Solver_cell)))) (List.mem_of_getElem? (i := 41) rfl)
theorem d_Solver_cells (W : bW G) : xget G.1 42 = .inr (.inl (1, (1, t_Solver_cells))) := W.1 (42, .inr (.inl (1, (1, t_Solver_cells)))) (List.mem_of_getElem? (i := 42) rfl)
theorem d_Solver_leader (W : bW G) : xget G.1 43 = .inr (.inl (0, (1, t_Solver_leader))) := W.1 (43, .inr (.inl (0, (1, t_Solver_leader)))) (List.mem_of_getElem? (i := 43) rfl)
theorem d_Flow (W : bW G) : xget G.1 44 = .inl (2, t_Flow) := W.1 (44, .inl (2, t_Flow)) (List.mem_of_getElem? (i := 44) rfl)
theorem d_Flow_gap (W : bW G) : xget G.1 45 = .inr (.inl (0, (1, t_Flow_gap))) := W.1 (45, .inr (.inl (0, (1, t_Flow_gap)))) (List.mem_of_getElem? (i := 45) rfl)
theorem d_Flow_total (W : bW G) : xget G.1 46 = .inr (.inl (0, (1, t_Flow_total))) := W.1 (46, .inr (.inl (0, (1, t_Flow_total)))) (List.mem_of_getElem? (i := 46) rfl)
theorem d_Flow_solvable (W : bW G) : xget G.1 47 = .inr (.inl (2, (1, t_Flow_solvable))) := W.1 (47, .inr (.inl (2, (1, t_Flow_solvable)))) (List.mem_of_getElem? (i := 47) rfl)
theorem d_Flow_stuck (W : bW G) : xget G.1 48 = .inr (.inl (2, (1, t_Flow_stuck))) := W.1 (48, .inr (.inl (2, (1, t_Flow_stuck)))) (List.mem_of_getElem? (i := 48) rfl)
theorem d_Big16 (W : bW G) : xget G.1 49 = .inr (.inl (4, (1, t_Big16))) := W.1 (49, .inr (.inl (4, (1, t_Big16)))) (List.mem_of_getElem? (i := 49) rfl)
theorem d_Flow_troubleOf (W : bW G) : xget G.1 50 = .inr (.inl (0, (1, t_Flow_troubleOf))) := W.1 (50, .inr (.inl (0, (1, t_Flow_troubleOf)))) (List.mem_of_getElem? (i := 50) rfl)
theorem d_Shape (W : bW G) : xget G.1 51 = .inl (8, t_Shape) := W.1 (51, .inl (8, t_Shape)) (List.mem_of_getElem? (i := 51) rfl)
theorem d_Shape_node (W : bW G) : xget G.1 52 = .inr (.inl (0, (16, t_Shape_node))) := W.1 (52, .inr (.inl (0, (16, t_Shape_node)))) (List.mem_of_getElem? (i := 52) rfl)
theorem d_Shape_island (W : bW G) : xget G.1 53 = .inr (.inl (0, (16, t_Shape_island))) := W.1 (53, .inr (.inl (0, (16, t_Shape_island)))) (List.mem_of_getElem? (i := 53) rfl)
theorem d_Shape_row (W : bW G) : xget G.1 54 = .inr (.inl (0, (1, t_Shape_row))) := W.1 (54, .inr (.inl (0, (1, t_Shape_row)))) (List.mem_of_getElem? (i := 54) rfl)
theorem d_Shape_live (W : bW G) : xget G.1 55 = .inr (.inl (2, (1, t_Shape_live))) := W.1 (55, .inr (.inl (2, (1, t_Shape_live)))) (List.mem_of_getElem? (i := 55) rfl)
theorem d_Shape_ends (W : bW G) : xget G.1 56 = .inr (.inl (64, (1, t_Shape_ends))) := W.1 (56, .inr (.inl (64, (1, t_Shape_ends)))) (List.mem_of_getElem? (i := 56) rfl)
theorem d_Shape_endss (W : bW G) : xget G.1 57 = .inr (.inl (0, (1, t_Shape_endss))) := W.1 (57, .inr (.inl (0, (1, t_Shape_endss)))) (List.mem_of_getElem? (i := 57) rfl)
theorem d_Shape_joins (W : bW G) : xget G.1 58 = .inr (.inl (2, (1, t_Shape_joins))) := W.1 (58, .inr (.inl (2, (1, t_Shape_joins)))) (List.mem_of_getElem? (i := 58) rfl)
theorem d_Shape_spot (W : bW G) : xget G.1 59 = .inr (.inl (0, (1, t_Shape_spot))) := W.1 (59, .inr (.inl (0, (1, t_Shape_spot)))) (List.mem_of_getElem? (i := 59) rfl)
theorem d_Shape_on (W : bW G) : xget G.1 60 = .inr (.inl (2, (1, t_Shape_on))) := W.1 (60, .inr (.inl (2, (1, t_Shape_on)))) (List.mem_of_getElem? (i := 60) rfl)
theorem d_Rules_stages (W : bW G) : xget G.1 61 = .inr (.inl (6, (1, t_Rules_stages))) := W.1 (61, .inr (.inl (6, (1, t_Rules_stages)))) (List.mem_of_getElem? (i := 61) rfl)
theorem d_Meters (W : bW G) : xget G.1 62 = .inl (4, t_Meters) := W.1 (62, .inl (4, t_Meters)) (List.mem_of_getElem? (i := 62) rfl)
theorem d_Meters_kind (W : bW G) : xget G.1 63 = .inr (.inl (0, (1, t_Meters_kind))) := W.1 (63, .inr (.inl (0, (1, t_Meters_kind)))) (List.mem_of_getElem? (i := 63) rfl)
theorem d_Meters_place (W : bW G) : xget G.1 64 = .inr (.inl (0, (1, t_Meters_place))) := W.1 (64, .inr (.inl (0, (1, t_Meters_place)))) (List.mem_of_getElem? (i := 64) rfl)
theorem d_Meters_value (W : bW G) : xget G.1 65 = .inr (.inl (0, (1, t_Meters_value))) := W.1 (65, .inr (.inl (0, (1, t_Meters_value)))) (List.mem_of_getElem? (i := 65) rfl)
theorem d_Meters_weight (W : bW G) : xget G.1 66 = .inr (.inl (0, (1, t_Meters_weight))) := W.1 (66, .inr (.inl (0, (1, t_Meters_weight)))) (List.mem_of_getElem? (i := 66) rfl)
theorem d_Meters_struck (W : bW G) : xget G.1 67 = .inr (.inl (2, (1, t_Meters_struck))) := W.1 (67, .inr (.inl (2, (1, t_Meters_struck)))) (List.mem_of_getElem? (i := 67) rfl)
theorem d_Meters_seen (W : bW G) : xget G.1 68 = .inr (.inl (2, (1, t_Meters_seen))) := W.1 (68, .inr (.inl (2, (1, t_Meters_seen)))) (List.mem_of_getElem? (i := 68) rfl)
theorem d_Meters_whole (W : bW G) : xget G.1 69 = .inr (.inl (2, (1, t_Meters_whole))) := W.1 (69, .inr (.inl (2, (1, t_Meters_whole)))) (List.mem_of_getElem? (i := 69) rfl)
theorem d_Big32 (W : bW G) : xget G.1 70 = .inr (.inl (4, (1, t_Big32))) := W.1 (70, .inr (.inl (4, (1, t_Big32)))) (List.mem_of_getElem? (i := 70) rfl)
theorem d_Big4 (W : bW G) : xget G.1 71 = .inr (.inl (4, (1, t_Big4))) := W.1 (71, .inr (.inl (4, (1, t_Big4)))) (List.mem_of_getElem? (i := 71) rfl)
theorem d_Meters_shows (W : bW G) : xget G.1 72 = .inr (.inl (65, (1, t_Meters_shows))) := W.1 (72, .inr (.inl (65, (1, t_Meters_shows)))) (List.mem_of_getElem? (i := 72) rfl)
theorem d_Meters_showss (W : bW G) : xget G.1 73 = .inr (.inl (1, (1, t_Meters_showss))) := W.1 (73, .inr (.inl (1, (1, t_Meters_showss)))) (List.mem_of_getElem? (i := 73) rfl)
theorem d_Meters_ranks (W : bW G) : xget G.1 74 = .inr (.inl (0, (1, t_Meters_ranks))) := W.1 (74, .inr (.inl (0, (1, t_Meters_ranks)))) (List.mem_of_getElem? (i := 74) rfl)
theorem d_Shorts (W : bW G) : xget G.1 75 = .inl (9, t_Shorts) := W.1 (75, .inl (9, t_Shorts)) (List.mem_of_getElem? (i := 75) rfl)
theorem d_Shorts_taken (W : bW G) : xget G.1 76 = .inr (.inl (2, (1, t_Shorts_taken))) := W.1 (76, .inr (.inl (2, (1, t_Shorts_taken)))) (List.mem_of_getElem? (i := 76) rfl)
theorem d_Big17 (W : bW G) : xget G.1 77 = .inr (.inl (4, (1, t_Big17))) := W.1 (77, .inr (.inl (4, (1, t_Big17)))) (List.mem_of_getElem? (i := 77) rfl)
theorem d_Big2 (W : bW G) : xget G.1 78 = .inr (.inl (4, (1, t_Big2))) := W.1 (78, .inr (.inl (4, (1, t_Big2)))) (List.mem_of_getElem? (i := 78) rfl)
theorem d_Big3 (W : bW G) : xget G.1 79 = .inr (.inl (4, (1, t_Big3))) := W.1 (79, .inr (.inl (4, (1, t_Big3)))) (List.mem_of_getElem? (i := 79) rfl)
theorem d_Shorts_reach (W : bW G) : xget G.1 80 = .inr (.inl (0, (1, t_Shorts_reach))) := W.1 (80, .inr (.inl (0, (1, t_Shorts_reach)))) (List.mem_of_getElem? (i := 80) rfl)
theorem d_Relays (W : bW G) : xget G.1 81 = .inl (6, t_Relays) := W.1 (81, .inl (6, t_Relays)) (List.mem_of_getElem? (i := 81) rfl)
theorem d_Relays_line (W : bW G) : xget G.1 82 = .inr (.inl (0, (1, t_Relays_line))) := W.1 (82, .inr (.inl (0, (1, t_Relays_line)))) (List.mem_of_getElem? (i := 82) rfl)
theorem d_Relays_end (W : bW G) : xget G.1 83 = .inr (.inl (0, (1, t_Relays_end))) := W.1 (83, .inr (.inl (0, (1, t_Relays_end)))) (List.mem_of_getElem? (i := 83) rfl)
theorem d_Relays_opens (W : bW G) : xget G.1 84 = .inr (.inl (0, (1, t_Relays_opens))) := W.1 (84, .inr (.inl (0, (1, t_Relays_opens)))) (List.mem_of_getElem? (i := 84) rfl)
theorem d_Relays_impedance (W : bW G) : xget G.1 85 = .inr (.inl (2, (1, t_Relays_impedance))) := W.1 (85, .inr (.inl (2, (1, t_Relays_impedance)))) (List.mem_of_getElem? (i := 85) rfl)
theorem d_Relays_rowCount (W : bW G) : xget G.1 86 = .inr (.inl (0, (1, t_Relays_rowCount))) := W.1 (86, .inr (.inl (0, (1, t_Relays_rowCount)))) (List.mem_of_getElem? (i := 86) rfl)
theorem d_Relays_setting (W : bW G) : xget G.1 87 = .inr (.inl (0, (1, t_Relays_setting))) := W.1 (87, .inr (.inl (0, (1, t_Relays_setting)))) (List.mem_of_getElem? (i := 87) rfl)
theorem d_Relays_delay (W : bW G) : xget G.1 88 = .inr (.inl (0, (1, t_Relays_delay))) := W.1 (88, .inr (.inl (0, (1, t_Relays_delay)))) (List.mem_of_getElem? (i := 88) rfl)
theorem d_Relays_failing (W : bW G) : xget G.1 89 = .inr (.inl (2, (1, t_Relays_failing))) := W.1 (89, .inr (.inl (2, (1, t_Relays_failing)))) (List.mem_of_getElem? (i := 89) rfl)
theorem d_Relays_tripAt (W : bW G) : xget G.1 90 = .inr (.inl (1, (1, t_Relays_tripAt))) := W.1 (90, .inr (.inl (1, (1, t_Relays_tripAt)))) (List.mem_of_getElem? (i := 90) rfl)
theorem d_Relays_openAt (W : bW G) : xget G.1 91 = .inr (.inl (1, (1, t_Relays_openAt))) := W.1 (91, .inr (.inl (1, (1, t_Relays_openAt)))) (List.mem_of_getElem? (i := 91) rfl)
theorem d_Relays_backupAt (W : bW G) : xget G.1 92 = .inr (.inl (1, (1, t_Relays_backupAt))) := W.1 (92, .inr (.inl (1, (1, t_Relays_backupAt)))) (List.mem_of_getElem? (i := 92) rfl)
theorem d_Relays_hasOrder (W : bW G) : xget G.1 93 = .inr (.inl (2, (1, t_Relays_hasOrder))) := W.1 (93, .inr (.inl (2, (1, t_Relays_hasOrder)))) (List.mem_of_getElem? (i := 93) rfl)
theorem d_Relays_opened (W : bW G) : xget G.1 94 = .inr (.inl (65, (1, t_Relays_opened))) := W.1 (94, .inr (.inl (65, (1, t_Relays_opened)))) (List.mem_of_getElem? (i := 94) rfl)
theorem d_Relays_openeds (W : bW G) : xget G.1 95 = .inr (.inl (1, (1, t_Relays_openeds))) := W.1 (95, .inr (.inl (1, (1, t_Relays_openeds)))) (List.mem_of_getElem? (i := 95) rfl)
theorem d_Dispatch (W : bW G) : xget G.1 96 = .inl (1, t_Dispatch) := W.1 (96, .inl (1, t_Dispatch)) (List.mem_of_getElem? (i := 96) rfl)
theorem d_Dispatch_machineOf (W : bW G) : xget G.1 97 = .inr (.inl (0, (1, t_Dispatch_machineOf))) := W.1 (97, .inr (.inl (0, (1, t_Dispatch_machineOf)))) (List.mem_of_getElem? (i := 97) rfl)
theorem d_Dispatch_costOf (W : bW G) : xget G.1 98 = .inr (.inl (0, (1, t_Dispatch_costOf))) := W.1 (98, .inr (.inl (0, (1, t_Dispatch_costOf)))) (List.mem_of_getElem? (i := 98) rfl)
theorem d_Dispatch_startOf (W : bW G) : xget G.1 99 = .inr (.inl (0, (1, t_Dispatch_startOf))) := W.1 (99, .inr (.inl (0, (1, t_Dispatch_startOf)))) (List.mem_of_getElem? (i := 99) rfl)
theorem d_Dispatch_turned (W : bW G) : xget G.1 100 = .inr (.inl (2, (1, t_Dispatch_turned))) := W.1 (100, .inr (.inl (2, (1, t_Dispatch_turned)))) (List.mem_of_getElem? (i := 100) rfl)
theorem d_Dispatch_most (W : bW G) : xget G.1 101 = .inr (.inl (0, (1, t_Dispatch_most))) := W.1 (101, .inr (.inl (0, (1, t_Dispatch_most)))) (List.mem_of_getElem? (i := 101) rfl)
theorem d_Dispatch_keeper (W : bW G) : xget G.1 102 = .inr (.inl (0, (1, t_Dispatch_keeper))) := W.1 (102, .inr (.inl (0, (1, t_Dispatch_keeper)))) (List.mem_of_getElem? (i := 102) rfl)
theorem d_Dispatch_rowVariable (W : bW G) : xget G.1 103 = .inr (.inl (0, (1, t_Dispatch_rowVariable))) := W.1 (103, .inr (.inl (0, (1, t_Dispatch_rowVariable)))) (List.mem_of_getElem? (i := 103) rfl)
theorem d_Dispatch_columnVariable (W : bW G) : xget G.1 104 = .inr (.inl (0, (1, t_Dispatch_columnVariable))) := W.1 (104, .inr (.inl (0, (1, t_Dispatch_columnVariable)))) (List.mem_of_getElem? (i := 104) rfl)
theorem d_Big429 (W : bW G) : xget G.1 105 = .inr (.inl (4, (1, t_Big429))) := W.1 (105, .inr (.inl (4, (1, t_Big429)))) (List.mem_of_getElem? (i := 105) rfl)
theorem d_Big8 (W : bW G) : xget G.1 106 = .inr (.inl (4, (1, t_Big8))) := W.1 (106, .inr (.inl (4, (1, t_Big8)))) (List.mem_of_getElem? (i := 106) rfl)
theorem d_Rules (W : bW G) : xget G.1 107 = .inl (7, t_Rules) := W.1 (107, .inl (7, t_Rules)) (List.mem_of_getElem? (i := 107) rfl)
theorem d_Rules_code (W : bW G) : xget G.1 108 = .inr (.inl (0, (1, t_Rules_code))) := W.1 (108, .inr (.inl (0, (1, t_Rules_code)))) (List.mem_of_getElem? (i := 108) rfl)
theorem d_Rules_waiting (W : bW G) : xget G.1 109 = .inr (.inl (0, (1, t_Rules_waiting))) := W.1 (109, .inr (.inl (0, (1, t_Rules_waiting)))) (List.mem_of_getElem? (i := 109) rfl)
theorem d_Rules_steps (W : bW G) : xget G.1 110 = .inr (.inl (0, (1, t_Rules_steps))) := W.1 (110, .inr (.inl (0, (1, t_Rules_steps)))) (List.mem_of_getElem? (i := 110) rfl)
theorem d_Rules_tried (W : bW G) : xget G.1 111 = .inr (.inl (0, (1, t_Rules_tried))) := W.1 (111, .inr (.inl (0, (1, t_Rules_tried)))) (List.mem_of_getElem? (i := 111) rfl)
theorem d_Rules_choice (W : bW G) : xget G.1 112 = .inr (.inl (0, (1, t_Rules_choice))) := W.1 (112, .inr (.inl (0, (1, t_Rules_choice)))) (List.mem_of_getElem? (i := 112) rfl)
theorem d_Rules_oversBySet (W : bW G) : xget G.1 113 = .inr (.inl (0, (1, t_Rules_oversBySet))) := W.1 (113, .inr (.inl (0, (1, t_Rules_oversBySet)))) (List.mem_of_getElem? (i := 113) rfl)
theorem d_Rules_found (W : bW G) : xget G.1 114 = .inr (.inl (0, (1, t_Rules_found))) := W.1 (114, .inr (.inl (0, (1, t_Rules_found)))) (List.mem_of_getElem? (i := 114) rfl)
theorem d_FlowS (W : bW G) : xget G.1 115 = .inl (2, t_FlowS) := W.1 (115, .inl (2, t_FlowS)) (List.mem_of_getElem? (i := 115) rfl)
theorem n_S_Net_MOST (W : bW G) (h : bRo G 0 k) : zat G k = 5 := Nat.le_antisymm (W.2.2.1 (0, (5, 5)) (List.mem_of_getElem? (i := 0) rfl) k h).2 (W.2.2.1 (0, (5, 5)) (List.mem_of_getElem? (i := 0) rfl) k h).1
theorem n_S_Net_WIDTH (W : bW G) (h : bRo G 1 k) : zat G k = 5 := Nat.le_antisymm (W.2.2.1 (1, (5, 5)) (List.mem_of_getElem? (i := 1) rfl) k h).2 (W.2.2.1 (1, (5, 5)) (List.mem_of_getElem? (i := 1) rfl) k h).1
theorem n_S_Solver_PRIMES (W : bW G) (h : bRo G 2 k) : zat G k = 48 := Nat.le_antisymm (W.2.2.1 (2, (48, 48)) (List.mem_of_getElem? (i := 2) rfl) k h).2 (W.2.2.1 (2, (48, 48)) (List.mem_of_getElem? (i := 2) rfl) k h).1
theorem n_S_Net_GREATEST (W : bW G) (h : bRo G 3 k) : zat G k = 17 := Nat.le_antisymm (W.2.2.1 (3, (17, 17)) (List.mem_of_getElem? (i := 3) rfl) k h).2 (W.2.2.1 (3, (17, 17)) (List.mem_of_getElem? (i := 3) rfl) k h).1
theorem n_S_Net_BOUNDS (W : bW G) (h : bRo G 4 k) : zat G k = 5 := Nat.le_antisymm (W.2.2.1 (4, (5, 5)) (List.mem_of_getElem? (i := 4) rfl) k h).2 (W.2.2.1 (4, (5, 5)) (List.mem_of_getElem? (i := 4) rfl) k h).1
theorem n_S_Net_ENDS (W : bW G) (h : bRo G 5 k) : zat G k = 5 := Nat.le_antisymm (W.2.2.1 (5, (5, 5)) (List.mem_of_getElem? (i := 5) rfl) k h).2 (W.2.2.1 (5, (5, 5)) (List.mem_of_getElem? (i := 5) rfl) k h).1
theorem n_S_Net_FIRST_END (W : bW G) (h : bRo G 6 k) : zat G k = 5 := Nat.le_antisymm (W.2.2.1 (6, (5, 5)) (List.mem_of_getElem? (i := 6) rfl) k h).2 (W.2.2.1 (6, (5, 5)) (List.mem_of_getElem? (i := 6) rfl) k h).1
theorem n_S_Net_FIRST_NUMBER (W : bW G) (h : bRo G 7 k) : zat G k = 5 := Nat.le_antisymm (W.2.2.1 (7, (5, 5)) (List.mem_of_getElem? (i := 7) rfl) k h).2 (W.2.2.1 (7, (5, 5)) (List.mem_of_getElem? (i := 7) rfl) k h).1
theorem n_S_Net_SETTABLE (W : bW G) (h : bRo G 8 k) : zat G k = 5 := Nat.le_antisymm (W.2.2.1 (8, (5, 5)) (List.mem_of_getElem? (i := 8) rfl) k h).2 (W.2.2.1 (8, (5, 5)) (List.mem_of_getElem? (i := 8) rfl) k h).1
theorem n_S_Net_LEAST (W : bW G) (h : bRo G 9 k) : zat G k = 17 := Nat.le_antisymm (W.2.2.1 (9, (17, 17)) (List.mem_of_getElem? (i := 9) rfl) k h).2 (W.2.2.1 (9, (17, 17)) (List.mem_of_getElem? (i := 9) rfl) k h).1
theorem n_S_Rules_ACT_SORT (W : bW G) (h : bRo G 10 k) : zat G k = 6 := Nat.le_antisymm (W.2.2.1 (10, (6, 6)) (List.mem_of_getElem? (i := 10) rfl) k h).2 (W.2.2.1 (10, (6, 6)) (List.mem_of_getElem? (i := 10) rfl) k h).1
theorem n_S_Rules_ACT_FIELD (W : bW G) (h : bRo G 11 k) : zat G k = 6 := Nat.le_antisymm (W.2.2.1 (11, (6, 6)) (List.mem_of_getElem? (i := 11) rfl) k h).2 (W.2.2.1 (11, (6, 6)) (List.mem_of_getElem? (i := 11) rfl) k h).1
theorem n_S_Rules_ACT_VALUE (W : bW G) (h : bRo G 12 k) : zat G k = 6 := Nat.le_antisymm (W.2.2.1 (12, (6, 6)) (List.mem_of_getElem? (i := 12) rfl) k h).2 (W.2.2.1 (12, (6, 6)) (List.mem_of_getElem? (i := 12) rfl) k h).1
theorem n_S_GModel_PRIME (W : bW G) (h : bRo G 13 k) : zat G k = 40 := Nat.le_antisymm (W.2.2.1 (13, (40, 40)) (List.mem_of_getElem? (i := 13) rfl) k h).2 (W.2.2.1 (13, (40, 40)) (List.mem_of_getElem? (i := 13) rfl) k h).1
theorem n_Tape_bytes (W : bW G) (h : bRo G 16 k) : zat G k = 4000 := Nat.le_antisymm (W.2.2.1 (16, (4000, 4000)) (List.mem_of_getElem? (i := 14) rfl) k h).2 (W.2.2.1 (16, (4000, 4000)) (List.mem_of_getElem? (i := 14) rfl) k h).1
theorem n_Tape_keys (W : bW G) (h : bRo G 17 k) : zat G k = 31 := Nat.le_antisymm (W.2.2.1 (17, (31, 31)) (List.mem_of_getElem? (i := 15) rfl) k h).2 (W.2.2.1 (17, (31, 31)) (List.mem_of_getElem? (i := 15) rfl) k h).1
theorem n_Net_count (W : bW G) (h : bRo G 19 k) : zat G k = 5 := Nat.le_antisymm (W.2.2.1 (19, (5, 5)) (List.mem_of_getElem? (i := 16) rfl) k h).2 (W.2.2.1 (19, (5, 5)) (List.mem_of_getElem? (i := 16) rfl) k h).1
theorem n_Net_value (W : bW G) (h : bRo G 20 k) : zat G k = 5 := Nat.le_antisymm (W.2.2.1 (20, (5, 5)) (List.mem_of_getElem? (i := 17) rfl) k h).2 (W.2.2.1 (20, (5, 5)) (List.mem_of_getElem? (i := 17) rfl) k h).1
theorem n_Net_names (W : bW G) (h : bRo G 21 k) : zat G k = 5 := Nat.le_antisymm (W.2.2.1 (21, (5, 5)) (List.mem_of_getElem? (i := 18) rfl) k h).2 (W.2.2.1 (21, (5, 5)) (List.mem_of_getElem? (i := 18) rfl) k h).1
theorem n_Net_value0 (W : bW G) (h : bRo G 22 k) : zat G k = 16 := Nat.le_antisymm (W.2.2.1 (22, (16, 16)) (List.mem_of_getElem? (i := 19) rfl) k h).2 (W.2.2.1 (22, (16, 16)) (List.mem_of_getElem? (i := 19) rfl) k h).1
theorem n_Net_names0 (W : bW G) (h : bRo G 23 k) : zat G k = 16 := Nat.le_antisymm (W.2.2.1 (23, (16, 16)) (List.mem_of_getElem? (i := 20) rfl) k h).2 (W.2.2.1 (23, (16, 16)) (List.mem_of_getElem? (i := 20) rfl) k h).1
theorem n_Net_value1 (W : bW G) (h : bRo G 24 k) : zat G k = 120 := Nat.le_antisymm (W.2.2.1 (24, (120, 120)) (List.mem_of_getElem? (i := 21) rfl) k h).2 (W.2.2.1 (24, (120, 120)) (List.mem_of_getElem? (i := 21) rfl) k h).1
theorem n_Net_names1 (W : bW G) (h : bRo G 25 k) : zat G k = 24 := Nat.le_antisymm (W.2.2.1 (25, (24, 24)) (List.mem_of_getElem? (i := 22) rfl) k h).2 (W.2.2.1 (25, (24, 24)) (List.mem_of_getElem? (i := 22) rfl) k h).1
theorem n_Net_value2 (W : bW G) (h : bRo G 26 k) : zat G k = 120 := Nat.le_antisymm (W.2.2.1 (26, (120, 120)) (List.mem_of_getElem? (i := 23) rfl) k h).2 (W.2.2.1 (26, (120, 120)) (List.mem_of_getElem? (i := 23) rfl) k h).1
theorem n_Net_names2 (W : bW G) (h : bRo G 27 k) : zat G k = 20 := Nat.le_antisymm (W.2.2.1 (27, (20, 20)) (List.mem_of_getElem? (i := 24) rfl) k h).2 (W.2.2.1 (27, (20, 20)) (List.mem_of_getElem? (i := 24) rfl) k h).1
theorem n_Net_value3 (W : bW G) (h : bRo G 28 k) : zat G k = 66 := Nat.le_antisymm (W.2.2.1 (28, (66, 66)) (List.mem_of_getElem? (i := 25) rfl) k h).2 (W.2.2.1 (28, (66, 66)) (List.mem_of_getElem? (i := 25) rfl) k h).1
theorem n_Net_names3 (W : bW G) (h : bRo G 29 k) : zat G k = 6 := Nat.le_antisymm (W.2.2.1 (29, (6, 6)) (List.mem_of_getElem? (i := 26) rfl) k h).2 (W.2.2.1 (29, (6, 6)) (List.mem_of_getElem? (i := 26) rfl) k h).1
theorem n_Net_value4 (W : bW G) (h : bRo G 30 k) : zat G k = 24 := Nat.le_antisymm (W.2.2.1 (30, (24, 24)) (List.mem_of_getElem? (i := 27) rfl) k h).2 (W.2.2.1 (30, (24, 24)) (List.mem_of_getElem? (i := 27) rfl) k h).1
theorem n_Net_names4 (W : bW G) (h : bRo G 31 k) : zat G k = 12 := Nat.le_antisymm (W.2.2.1 (31, (12, 12)) (List.mem_of_getElem? (i := 28) rfl) k h).2 (W.2.2.1 (31, (12, 12)) (List.mem_of_getElem? (i := 28) rfl) k h).1
theorem n_G_kept (W : bW G) (h : bRo G 32 k) : zat G k = 3 := Nat.le_antisymm (W.2.2.1 (32, (3, 3)) (List.mem_of_getElem? (i := 29) rfl) k h).2 (W.2.2.1 (32, (3, 3)) (List.mem_of_getElem? (i := 29) rfl) k h).1
theorem n_G_isKept (W : bW G) (h : bRo G 33 k) : zat G k = 3 := Nat.le_antisymm (W.2.2.1 (33, (3, 3)) (List.mem_of_getElem? (i := 30) rfl) k h).2 (W.2.2.1 (33, (3, 3)) (List.mem_of_getElem? (i := 30) rfl) k h).1
theorem n_Big (W : bW G) (h : bRo G 35 k) : 12 ≤ zat G k ∧ zat G k ≤ 96 := W.2.2.1 (35, (12, 96)) (List.mem_of_getElem? (i := 31) rfl) k h
theorem n_Big_limb (W : bW G) (h : bRo G 36 k) : 12 ≤ zat G k ∧ zat G k ≤ 96 := W.2.2.1 (36, (12, 96)) (List.mem_of_getElem? (i := 32) rfl) k h
theorem n_Hand_figures (W : bW G) (h : bRo G 37 k) : zat G k = 2 := Nat.le_antisymm (W.2.2.1 (37, (2, 2)) (List.mem_of_getElem? (i := 33) rfl) k h).2 (W.2.2.1 (37, (2, 2)) (List.mem_of_getElem? (i := 33) rfl) k h).1
theorem n_Hand_figuress (W : bW G) (h : bRo G 38 k) : zat G k = 900 := Nat.le_antisymm (W.2.2.1 (38, (900, 900)) (List.mem_of_getElem? (i := 34) rfl) k h).2 (W.2.2.1 (38, (900, 900)) (List.mem_of_getElem? (i := 34) rfl) k h).1
theorem n_Hand_lengths (W : bW G) (h : bRo G 39 k) : zat G k = 2 := Nat.le_antisymm (W.2.2.1 (39, (2, 2)) (List.mem_of_getElem? (i := 35) rfl) k h).2 (W.2.2.1 (39, (2, 2)) (List.mem_of_getElem? (i := 35) rfl) k h).1
theorem n_Solver_cell (W : bW G) (h : bRo G 41 k) : zat G k = 32 := Nat.le_antisymm (W.2.2.1 (41, (32, 32)) (List.mem_of_getElem? (i := 36) rfl) k h).2 (W.2.2.1 (41, (32, 32)) (List.mem_of_getElem? (i := 36) rfl) k h).1
theorem n_Solver_cells (W : bW G) (h : bRo G 42 k) : zat G k = 48 := Nat.le_antisymm (W.2.2.1 (42, (48, 48)) (List.mem_of_getElem? (i := 37) rfl) k h).2 (W.2.2.1 (42, (48, 48)) (List.mem_of_getElem? (i := 37) rfl) k h).1
theorem n_Solver_leader (W : bW G) (h : bRo G 43 k) : zat G k = 48 := Nat.le_antisymm (W.2.2.1 (43, (48, 48)) (List.mem_of_getElem? (i := 38) rfl) k h).2 (W.2.2.1 (43, (48, 48)) (List.mem_of_getElem? (i := 38) rfl) k h).1
theorem n_Flow_gap (W : bW G) (h : bRo G 45 k) : zat G k = 16 := Nat.le_antisymm (W.2.2.1 (45, (16, 16)) (List.mem_of_getElem? (i := 39) rfl) k h).2 (W.2.2.1 (45, (16, 16)) (List.mem_of_getElem? (i := 39) rfl) k h).1
theorem n_Flow_total (W : bW G) (h : bRo G 46 k) : zat G k = 16 := Nat.le_antisymm (W.2.2.1 (46, (16, 16)) (List.mem_of_getElem? (i := 40) rfl) k h).2 (W.2.2.1 (46, (16, 16)) (List.mem_of_getElem? (i := 40) rfl) k h).1
theorem n_Flow_solvable (W : bW G) (h : bRo G 47 k) : zat G k = 16 := Nat.le_antisymm (W.2.2.1 (47, (16, 16)) (List.mem_of_getElem? (i := 41) rfl) k h).2 (W.2.2.1 (47, (16, 16)) (List.mem_of_getElem? (i := 41) rfl) k h).1
theorem n_Flow_stuck (W : bW G) (h : bRo G 48 k) : zat G k = 16 := Nat.le_antisymm (W.2.2.1 (48, (16, 16)) (List.mem_of_getElem? (i := 42) rfl) k h).2 (W.2.2.1 (48, (16, 16)) (List.mem_of_getElem? (i := 42) rfl) k h).1
theorem n_Big16 (W : bW G) (h : bRo G 49 k) : zat G k = 16 := Nat.le_antisymm (W.2.2.1 (49, (16, 16)) (List.mem_of_getElem? (i := 43) rfl) k h).2 (W.2.2.1 (49, (16, 16)) (List.mem_of_getElem? (i := 43) rfl) k h).1
theorem n_Flow_troubleOf (W : bW G) (h : bRo G 50 k) : zat G k = 80 := Nat.le_antisymm (W.2.2.1 (50, (80, 80)) (List.mem_of_getElem? (i := 44) rfl) k h).2 (W.2.2.1 (50, (80, 80)) (List.mem_of_getElem? (i := 44) rfl) k h).1
theorem n_Shape_node (W : bW G) (h : bRo G 52 k) : zat G k = 16 := Nat.le_antisymm (W.2.2.1 (52, (16, 16)) (List.mem_of_getElem? (i := 45) rfl) k h).2 (W.2.2.1 (52, (16, 16)) (List.mem_of_getElem? (i := 45) rfl) k h).1
theorem n_Shape_island (W : bW G) (h : bRo G 53 k) : zat G k = 16 := Nat.le_antisymm (W.2.2.1 (53, (16, 16)) (List.mem_of_getElem? (i := 46) rfl) k h).2 (W.2.2.1 (53, (16, 16)) (List.mem_of_getElem? (i := 46) rfl) k h).1
theorem n_Shape_row (W : bW G) (h : bRo G 54 k) : zat G k = 16 := Nat.le_antisymm (W.2.2.1 (54, (16, 16)) (List.mem_of_getElem? (i := 47) rfl) k h).2 (W.2.2.1 (54, (16, 16)) (List.mem_of_getElem? (i := 47) rfl) k h).1
theorem n_Shape_live (W : bW G) (h : bRo G 55 k) : zat G k = 16 := Nat.le_antisymm (W.2.2.1 (55, (16, 16)) (List.mem_of_getElem? (i := 48) rfl) k h).2 (W.2.2.1 (55, (16, 16)) (List.mem_of_getElem? (i := 48) rfl) k h).1
theorem n_Shape_ends (W : bW G) (h : bRo G 56 k) : zat G k = 20 := Nat.le_antisymm (W.2.2.1 (56, (20, 20)) (List.mem_of_getElem? (i := 49) rfl) k h).2 (W.2.2.1 (56, (20, 20)) (List.mem_of_getElem? (i := 49) rfl) k h).1
theorem n_Shape_endss (W : bW G) (h : bRo G 57 k) : zat G k = 2 := Nat.le_antisymm (W.2.2.1 (57, (2, 2)) (List.mem_of_getElem? (i := 50) rfl) k h).2 (W.2.2.1 (57, (2, 2)) (List.mem_of_getElem? (i := 50) rfl) k h).1
theorem n_Shape_joins (W : bW G) (h : bRo G 58 k) : zat G k = 20 := Nat.le_antisymm (W.2.2.1 (58, (20, 20)) (List.mem_of_getElem? (i := 51) rfl) k h).2 (W.2.2.1 (58, (20, 20)) (List.mem_of_getElem? (i := 51) rfl) k h).1
theorem n_Shape_spot (W : bW G) (h : bRo G 59 k) : zat G k = 6 := Nat.le_antisymm (W.2.2.1 (59, (6, 6)) (List.mem_of_getElem? (i := 52) rfl) k h).2 (W.2.2.1 (59, (6, 6)) (List.mem_of_getElem? (i := 52) rfl) k h).1
theorem n_Shape_on (W : bW G) (h : bRo G 60 k) : zat G k = 6 := Nat.le_antisymm (W.2.2.1 (60, (6, 6)) (List.mem_of_getElem? (i := 53) rfl) k h).2 (W.2.2.1 (60, (6, 6)) (List.mem_of_getElem? (i := 53) rfl) k h).1
theorem n_Rules_stages (W : bW G) (h : bRo G 61 k) : zat G k = 4 := Nat.le_antisymm (W.2.2.1 (61, (4, 4)) (List.mem_of_getElem? (i := 54) rfl) k h).2 (W.2.2.1 (61, (4, 4)) (List.mem_of_getElem? (i := 54) rfl) k h).1
theorem n_Meters_kind (W : bW G) (h : bRo G 63 k) : zat G k = 32 := Nat.le_antisymm (W.2.2.1 (63, (32, 32)) (List.mem_of_getElem? (i := 55) rfl) k h).2 (W.2.2.1 (63, (32, 32)) (List.mem_of_getElem? (i := 55) rfl) k h).1
theorem n_Meters_place (W : bW G) (h : bRo G 64 k) : zat G k = 32 := Nat.le_antisymm (W.2.2.1 (64, (32, 32)) (List.mem_of_getElem? (i := 56) rfl) k h).2 (W.2.2.1 (64, (32, 32)) (List.mem_of_getElem? (i := 56) rfl) k h).1
theorem n_Meters_value (W : bW G) (h : bRo G 65 k) : zat G k = 32 := Nat.le_antisymm (W.2.2.1 (65, (32, 32)) (List.mem_of_getElem? (i := 57) rfl) k h).2 (W.2.2.1 (65, (32, 32)) (List.mem_of_getElem? (i := 57) rfl) k h).1
theorem n_Meters_weight (W : bW G) (h : bRo G 66 k) : zat G k = 32 := Nat.le_antisymm (W.2.2.1 (66, (32, 32)) (List.mem_of_getElem? (i := 58) rfl) k h).2 (W.2.2.1 (66, (32, 32)) (List.mem_of_getElem? (i := 58) rfl) k h).1
theorem n_Meters_struck (W : bW G) (h : bRo G 67 k) : zat G k = 32 := Nat.le_antisymm (W.2.2.1 (67, (32, 32)) (List.mem_of_getElem? (i := 59) rfl) k h).2 (W.2.2.1 (67, (32, 32)) (List.mem_of_getElem? (i := 59) rfl) k h).1
theorem n_Meters_seen (W : bW G) (h : bRo G 68 k) : zat G k = 16 := Nat.le_antisymm (W.2.2.1 (68, (16, 16)) (List.mem_of_getElem? (i := 60) rfl) k h).2 (W.2.2.1 (68, (16, 16)) (List.mem_of_getElem? (i := 60) rfl) k h).1
theorem n_Meters_whole (W : bW G) (h : bRo G 69 k) : zat G k = 16 := Nat.le_antisymm (W.2.2.1 (69, (16, 16)) (List.mem_of_getElem? (i := 61) rfl) k h).2 (W.2.2.1 (69, (16, 16)) (List.mem_of_getElem? (i := 61) rfl) k h).1
theorem n_Big32 (W : bW G) (h : bRo G 70 k) : zat G k = 32 := Nat.le_antisymm (W.2.2.1 (70, (32, 32)) (List.mem_of_getElem? (i := 62) rfl) k h).2 (W.2.2.1 (70, (32, 32)) (List.mem_of_getElem? (i := 62) rfl) k h).1
theorem n_Big4 (W : bW G) (h : bRo G 71 k) : zat G k = 4 := Nat.le_antisymm (W.2.2.1 (71, (4, 4)) (List.mem_of_getElem? (i := 63) rfl) k h).2 (W.2.2.1 (71, (4, 4)) (List.mem_of_getElem? (i := 63) rfl) k h).1
theorem n_Meters_shows (W : bW G) (h : bRo G 72 k) : zat G k = 32 := Nat.le_antisymm (W.2.2.1 (72, (32, 32)) (List.mem_of_getElem? (i := 64) rfl) k h).2 (W.2.2.1 (72, (32, 32)) (List.mem_of_getElem? (i := 64) rfl) k h).1
theorem n_Meters_showss (W : bW G) (h : bRo G 73 k) : zat G k = 16 := Nat.le_antisymm (W.2.2.1 (73, (16, 16)) (List.mem_of_getElem? (i := 65) rfl) k h).2 (W.2.2.1 (73, (16, 16)) (List.mem_of_getElem? (i := 65) rfl) k h).1
theorem n_Meters_ranks (W : bW G) (h : bRo G 74 k) : zat G k = 16 := Nat.le_antisymm (W.2.2.1 (74, (16, 16)) (List.mem_of_getElem? (i := 66) rfl) k h).2 (W.2.2.1 (74, (16, 16)) (List.mem_of_getElem? (i := 66) rfl) k h).1
theorem n_Shorts_taken (W : bW G) (h : bRo G 76 k) : zat G k = 16 := Nat.le_antisymm (W.2.2.1 (76, (16, 16)) (List.mem_of_getElem? (i := 67) rfl) k h).2 (W.2.2.1 (76, (16, 16)) (List.mem_of_getElem? (i := 67) rfl) k h).1
theorem n_Big17 (W : bW G) (h : bRo G 77 k) : zat G k = 17 := Nat.le_antisymm (W.2.2.1 (77, (17, 17)) (List.mem_of_getElem? (i := 68) rfl) k h).2 (W.2.2.1 (77, (17, 17)) (List.mem_of_getElem? (i := 68) rfl) k h).1
theorem n_Big2 (W : bW G) (h : bRo G 78 k) : zat G k = 2 := Nat.le_antisymm (W.2.2.1 (78, (2, 2)) (List.mem_of_getElem? (i := 69) rfl) k h).2 (W.2.2.1 (78, (2, 2)) (List.mem_of_getElem? (i := 69) rfl) k h).1
theorem n_Big3 (W : bW G) (h : bRo G 79 k) : zat G k = 3 := Nat.le_antisymm (W.2.2.1 (79, (3, 3)) (List.mem_of_getElem? (i := 70) rfl) k h).2 (W.2.2.1 (79, (3, 3)) (List.mem_of_getElem? (i := 70) rfl) k h).1
theorem n_Shorts_reach (W : bW G) (h : bRo G 80 k) : zat G k = 3 := Nat.le_antisymm (W.2.2.1 (80, (3, 3)) (List.mem_of_getElem? (i := 71) rfl) k h).2 (W.2.2.1 (80, (3, 3)) (List.mem_of_getElem? (i := 71) rfl) k h).1
theorem n_Relays_line (W : bW G) (h : bRo G 82 k) : zat G k = 16 := Nat.le_antisymm (W.2.2.1 (82, (16, 16)) (List.mem_of_getElem? (i := 72) rfl) k h).2 (W.2.2.1 (82, (16, 16)) (List.mem_of_getElem? (i := 72) rfl) k h).1
theorem n_Relays_end (W : bW G) (h : bRo G 83 k) : zat G k = 16 := Nat.le_antisymm (W.2.2.1 (83, (16, 16)) (List.mem_of_getElem? (i := 73) rfl) k h).2 (W.2.2.1 (83, (16, 16)) (List.mem_of_getElem? (i := 73) rfl) k h).1
theorem n_Relays_opens (W : bW G) (h : bRo G 84 k) : zat G k = 16 := Nat.le_antisymm (W.2.2.1 (84, (16, 16)) (List.mem_of_getElem? (i := 74) rfl) k h).2 (W.2.2.1 (84, (16, 16)) (List.mem_of_getElem? (i := 74) rfl) k h).1
theorem n_Relays_impedance (W : bW G) (h : bRo G 85 k) : zat G k = 16 := Nat.le_antisymm (W.2.2.1 (85, (16, 16)) (List.mem_of_getElem? (i := 75) rfl) k h).2 (W.2.2.1 (85, (16, 16)) (List.mem_of_getElem? (i := 75) rfl) k h).1
theorem n_Relays_rowCount (W : bW G) (h : bRo G 86 k) : zat G k = 16 := Nat.le_antisymm (W.2.2.1 (86, (16, 16)) (List.mem_of_getElem? (i := 76) rfl) k h).2 (W.2.2.1 (86, (16, 16)) (List.mem_of_getElem? (i := 76) rfl) k h).1
theorem n_Relays_setting (W : bW G) (h : bRo G 87 k) : zat G k = 64 := Nat.le_antisymm (W.2.2.1 (87, (64, 64)) (List.mem_of_getElem? (i := 77) rfl) k h).2 (W.2.2.1 (87, (64, 64)) (List.mem_of_getElem? (i := 77) rfl) k h).1
theorem n_Relays_delay (W : bW G) (h : bRo G 88 k) : zat G k = 64 := Nat.le_antisymm (W.2.2.1 (88, (64, 64)) (List.mem_of_getElem? (i := 78) rfl) k h).2 (W.2.2.1 (88, (64, 64)) (List.mem_of_getElem? (i := 78) rfl) k h).1
theorem n_Relays_failing (W : bW G) (h : bRo G 89 k) : zat G k = 24 := Nat.le_antisymm (W.2.2.1 (89, (24, 24)) (List.mem_of_getElem? (i := 79) rfl) k h).2 (W.2.2.1 (89, (24, 24)) (List.mem_of_getElem? (i := 79) rfl) k h).1
theorem n_Relays_tripAt (W : bW G) (h : bRo G 90 k) : zat G k = 64 := Nat.le_antisymm (W.2.2.1 (90, (64, 64)) (List.mem_of_getElem? (i := 80) rfl) k h).2 (W.2.2.1 (90, (64, 64)) (List.mem_of_getElem? (i := 80) rfl) k h).1
theorem n_Relays_openAt (W : bW G) (h : bRo G 91 k) : zat G k = 24 := Nat.le_antisymm (W.2.2.1 (91, (24, 24)) (List.mem_of_getElem? (i := 81) rfl) k h).2 (W.2.2.1 (91, (24, 24)) (List.mem_of_getElem? (i := 81) rfl) k h).1
theorem n_Relays_backupAt (W : bW G) (h : bRo G 92 k) : zat G k = 24 := Nat.le_antisymm (W.2.2.1 (92, (24, 24)) (List.mem_of_getElem? (i := 82) rfl) k h).2 (W.2.2.1 (92, (24, 24)) (List.mem_of_getElem? (i := 82) rfl) k h).1
theorem n_Relays_hasOrder (W : bW G) (h : bRo G 93 k) : zat G k = 24 := Nat.le_antisymm (W.2.2.1 (93, (24, 24)) (List.mem_of_getElem? (i := 83) rfl) k h).2 (W.2.2.1 (93, (24, 24)) (List.mem_of_getElem? (i := 83) rfl) k h).1
theorem n_Relays_opened (W : bW G) (h : bRo G 94 k) : zat G k = 24 := Nat.le_antisymm (W.2.2.1 (94, (24, 24)) (List.mem_of_getElem? (i := 84) rfl) k h).2 (W.2.2.1 (94, (24, 24)) (List.mem_of_getElem? (i := 84) rfl) k h).1
theorem n_Relays_openeds (W : bW G) (h : bRo G 95 k) : zat G k = 2 := Nat.le_antisymm (W.2.2.1 (95, (2, 2)) (List.mem_of_getElem? (i := 85) rfl) k h).2 (W.2.2.1 (95, (2, 2)) (List.mem_of_getElem? (i := 85) rfl) k h).1
theorem n_Dispatch_machineOf (W : bW G) (h : bRo G 97 k) : zat G k = 12 := Nat.le_antisymm (W.2.2.1 (97, (12, 12)) (List.mem_of_getElem? (i := 86) rfl) k h).2 (W.2.2.1 (97, (12, 12)) (List.mem_of_getElem? (i := 86) rfl) k h).1
theorem n_Dispatch_costOf (W : bW G) (h : bRo G 98 k) : zat G k = 12 := Nat.le_antisymm (W.2.2.1 (98, (12, 12)) (List.mem_of_getElem? (i := 87) rfl) k h).2 (W.2.2.1 (98, (12, 12)) (List.mem_of_getElem? (i := 87) rfl) k h).1
theorem n_Dispatch_startOf (W : bW G) (h : bRo G 99 k) : zat G k = 12 := Nat.le_antisymm (W.2.2.1 (99, (12, 12)) (List.mem_of_getElem? (i := 88) rfl) k h).2 (W.2.2.1 (99, (12, 12)) (List.mem_of_getElem? (i := 88) rfl) k h).1
theorem n_Dispatch_turned (W : bW G) (h : bRo G 100 k) : zat G k = 12 := Nat.le_antisymm (W.2.2.1 (100, (12, 12)) (List.mem_of_getElem? (i := 89) rfl) k h).2 (W.2.2.1 (100, (12, 12)) (List.mem_of_getElem? (i := 89) rfl) k h).1
theorem n_Dispatch_most (W : bW G) (h : bRo G 101 k) : zat G k = 32 := Nat.le_antisymm (W.2.2.1 (101, (32, 32)) (List.mem_of_getElem? (i := 90) rfl) k h).2 (W.2.2.1 (101, (32, 32)) (List.mem_of_getElem? (i := 90) rfl) k h).1
theorem n_Dispatch_keeper (W : bW G) (h : bRo G 102 k) : zat G k = 16 := Nat.le_antisymm (W.2.2.1 (102, (16, 16)) (List.mem_of_getElem? (i := 91) rfl) k h).2 (W.2.2.1 (102, (16, 16)) (List.mem_of_getElem? (i := 91) rfl) k h).1
theorem n_Dispatch_rowVariable (W : bW G) (h : bRo G 103 k) : zat G k = 26 := Nat.le_antisymm (W.2.2.1 (103, (26, 26)) (List.mem_of_getElem? (i := 92) rfl) k h).2 (W.2.2.1 (103, (26, 26)) (List.mem_of_getElem? (i := 92) rfl) k h).1
theorem n_Dispatch_columnVariable (W : bW G) (h : bRo G 104 k) : zat G k = 13 := Nat.le_antisymm (W.2.2.1 (104, (13, 13)) (List.mem_of_getElem? (i := 93) rfl) k h).2 (W.2.2.1 (104, (13, 13)) (List.mem_of_getElem? (i := 93) rfl) k h).1
theorem n_Big429 (W : bW G) (h : bRo G 105 k) : zat G k = 429 := Nat.le_antisymm (W.2.2.1 (105, (429, 429)) (List.mem_of_getElem? (i := 94) rfl) k h).2 (W.2.2.1 (105, (429, 429)) (List.mem_of_getElem? (i := 94) rfl) k h).1
theorem n_Big8 (W : bW G) (h : bRo G 106 k) : zat G k = 8 := Nat.le_antisymm (W.2.2.1 (106, (8, 8)) (List.mem_of_getElem? (i := 95) rfl) k h).2 (W.2.2.1 (106, (8, 8)) (List.mem_of_getElem? (i := 95) rfl) k h).1
theorem n_Rules_code (W : bW G) (h : bRo G 108 k) : zat G k = 2048 := Nat.le_antisymm (W.2.2.1 (108, (2048, 2048)) (List.mem_of_getElem? (i := 96) rfl) k h).2 (W.2.2.1 (108, (2048, 2048)) (List.mem_of_getElem? (i := 96) rfl) k h).1
theorem n_Rules_waiting (W : bW G) (h : bRo G 109 k) : zat G k = 64 := Nat.le_antisymm (W.2.2.1 (109, (64, 64)) (List.mem_of_getElem? (i := 97) rfl) k h).2 (W.2.2.1 (109, (64, 64)) (List.mem_of_getElem? (i := 97) rfl) k h).1
theorem n_Rules_steps (W : bW G) (h : bRo G 110 k) : zat G k = 24 := Nat.le_antisymm (W.2.2.1 (110, (24, 24)) (List.mem_of_getElem? (i := 98) rfl) k h).2 (W.2.2.1 (110, (24, 24)) (List.mem_of_getElem? (i := 98) rfl) k h).1
theorem n_Rules_tried (W : bW G) (h : bRo G 111 k) : zat G k = 8 := Nat.le_antisymm (W.2.2.1 (111, (8, 8)) (List.mem_of_getElem? (i := 99) rfl) k h).2 (W.2.2.1 (111, (8, 8)) (List.mem_of_getElem? (i := 99) rfl) k h).1
theorem n_Rules_choice (W : bW G) (h : bRo G 112 k) : zat G k = 4 := Nat.le_antisymm (W.2.2.1 (112, (4, 4)) (List.mem_of_getElem? (i := 100) rfl) k h).2 (W.2.2.1 (112, (4, 4)) (List.mem_of_getElem? (i := 100) rfl) k h).1
theorem n_Rules_oversBySet (W : bW G) (h : bRo G 113 k) : zat G k = 256 := Nat.le_antisymm (W.2.2.1 (113, (256, 256)) (List.mem_of_getElem? (i := 101) rfl) k h).2 (W.2.2.1 (113, (256, 256)) (List.mem_of_getElem? (i := 101) rfl) k h).1
theorem n_Rules_found (W : bW G) (h : bRo G 114 k) : zat G k = 4 := Nat.le_antisymm (W.2.2.1 (114, (4, 4)) (List.mem_of_getElem? (i := 102) rfl) k h).2 (W.2.2.1 (114, (4, 4)) (List.mem_of_getElem? (i := 102) rfl) k h).1
theorem s_S_Net_MOST (W : bW G) : bRo G 0 1 := (W.2.2.2 (0, 1) (List.mem_of_getElem? (i := 0) rfl)).1
theorem s_S_Net_WIDTH (W : bW G) : bRo G 1 2 := (W.2.2.2 (1, 2) (List.mem_of_getElem? (i := 1) rfl)).1
theorem s_S_Solver_PRIMES (W : bW G) : bRo G 2 3 := (W.2.2.2 (2, 3) (List.mem_of_getElem? (i := 2) rfl)).1
theorem s_S_Net_GREATEST (W : bW G) : bRo G 3 4 := (W.2.2.2 (3, 4) (List.mem_of_getElem? (i := 3) rfl)).1
theorem s_S_Net_BOUNDS (W : bW G) : bRo G 4 5 := (W.2.2.2 (4, 5) (List.mem_of_getElem? (i := 4) rfl)).1
theorem s_S_Net_ENDS (W : bW G) : bRo G 5 6 := (W.2.2.2 (5, 6) (List.mem_of_getElem? (i := 5) rfl)).1
theorem s_S_Net_FIRST_END (W : bW G) : bRo G 6 7 := (W.2.2.2 (6, 7) (List.mem_of_getElem? (i := 6) rfl)).1
theorem s_S_Net_FIRST_NUMBER (W : bW G) : bRo G 7 8 := (W.2.2.2 (7, 8) (List.mem_of_getElem? (i := 7) rfl)).1
theorem s_S_Net_SETTABLE (W : bW G) : bRo G 8 9 := (W.2.2.2 (8, 9) (List.mem_of_getElem? (i := 8) rfl)).1
theorem s_S_Net_LEAST (W : bW G) : bRo G 9 10 := (W.2.2.2 (9, 10) (List.mem_of_getElem? (i := 9) rfl)).1
theorem s_S_Rules_ACT_SORT (W : bW G) : bRo G 10 11 := (W.2.2.2 (10, 11) (List.mem_of_getElem? (i := 10) rfl)).1
theorem s_S_Rules_ACT_FIELD (W : bW G) : bRo G 11 12 := (W.2.2.2 (11, 12) (List.mem_of_getElem? (i := 11) rfl)).1
theorem s_S_Rules_ACT_VALUE (W : bW G) : bRo G 12 13 := (W.2.2.2 (12, 13) (List.mem_of_getElem? (i := 12) rfl)).1
theorem s_S_GModel_PRIME (W : bW G) : bRo G 13 14 := (W.2.2.2 (13, 14) (List.mem_of_getElem? (i := 13) rfl)).1
theorem s_G (W : bW G) : bRo G 14 89 := (W.2.2.2 (14, 89) (List.mem_of_getElem? (i := 14) rfl)).1
theorem s_Tape (W : bW G) : bRo G 15 90 := (W.2.2.2 (15, 90) (List.mem_of_getElem? (i := 15) rfl)).1
theorem s_Tape_bytes (W : bW G) : bRo G 16 91 := (W.2.2.2 (16, 91) (List.mem_of_getElem? (i := 16) rfl)).1
theorem s_Tape_keys (W : bW G) : bRo G 17 92 := (W.2.2.2 (17, 92) (List.mem_of_getElem? (i := 17) rfl)).1
theorem s_G_kept (W : bW G) : bRo G 32 121 := (W.2.2.2 (32, 121) (List.mem_of_getElem? (i := 18) rfl)).1
theorem s_G_isKept (W : bW G) : bRo G 33 122 := (W.2.2.2 (33, 122) (List.mem_of_getElem? (i := 19) rfl)).1
theorem s_Hand (W : bW G) : bRo G 34 123 := (W.2.2.2 (34, 123) (List.mem_of_getElem? (i := 20) rfl)).1
theorem s_Hand_figures (W : bW G) : bRo G 37 134 := (W.2.2.2 (37, 134) (List.mem_of_getElem? (i := 21) rfl)).1
theorem s_Hand_lengths (W : bW G) : bRo G 39 137 := (W.2.2.2 (39, 137) (List.mem_of_getElem? (i := 22) rfl)).1
theorem s_Solver (W : bW G) : bRo G 40 138 := (W.2.2.2 (40, 138) (List.mem_of_getElem? (i := 23) rfl)).1
theorem s_Solver_cell (W : bW G) : bRo G 41 139 := (W.2.2.2 (41, 139) (List.mem_of_getElem? (i := 24) rfl)).1
theorem s_Solver_leader (W : bW G) : bRo G 43 172 := (W.2.2.2 (43, 172) (List.mem_of_getElem? (i := 25) rfl)).1
theorem s_Flow (W : bW G) : bRo G 44 177 := (W.2.2.2 (44, 177) (List.mem_of_getElem? (i := 26) rfl)).1
theorem s_Rules_stages (W : bW G) : bRo G 61 251 := (W.2.2.2 (61, 251) (List.mem_of_getElem? (i := 27) rfl)).1
theorem s_Meters (W : bW G) : bRo G 62 252 := (W.2.2.2 (62, 252) (List.mem_of_getElem? (i := 28) rfl)).1
theorem s_Meters_kind (W : bW G) : bRo G 63 253 := (W.2.2.2 (63, 253) (List.mem_of_getElem? (i := 29) rfl)).1
theorem s_Meters_place (W : bW G) : bRo G 64 254 := (W.2.2.2 (64, 254) (List.mem_of_getElem? (i := 30) rfl)).1
theorem s_Meters_value (W : bW G) : bRo G 65 255 := (W.2.2.2 (65, 255) (List.mem_of_getElem? (i := 31) rfl)).1
theorem s_Meters_weight (W : bW G) : bRo G 66 256 := (W.2.2.2 (66, 256) (List.mem_of_getElem? (i := 32) rfl)).1
theorem s_Meters_struck (W : bW G) : bRo G 67 257 := (W.2.2.2 (67, 257) (List.mem_of_getElem? (i := 33) rfl)).1
theorem s_Meters_seen (W : bW G) : bRo G 68 258 := (W.2.2.2 (68, 258) (List.mem_of_getElem? (i := 34) rfl)).1
theorem s_Meters_whole (W : bW G) : bRo G 69 259 := (W.2.2.2 (69, 259) (List.mem_of_getElem? (i := 35) rfl)).1
theorem s_Meters_shows (W : bW G) : bRo G 72 434 := (W.2.2.2 (72, 434) (List.mem_of_getElem? (i := 36) rfl)).1
theorem s_Meters_ranks (W : bW G) : bRo G 74 467 := (W.2.2.2 (74, 467) (List.mem_of_getElem? (i := 37) rfl)).1
theorem s_Relays (W : bW G) : bRo G 81 580 := (W.2.2.2 (81, 580) (List.mem_of_getElem? (i := 38) rfl)).1
theorem s_Relays_line (W : bW G) : bRo G 82 581 := (W.2.2.2 (82, 581) (List.mem_of_getElem? (i := 39) rfl)).1
theorem s_Relays_end (W : bW G) : bRo G 83 582 := (W.2.2.2 (83, 582) (List.mem_of_getElem? (i := 40) rfl)).1
theorem s_Relays_opens (W : bW G) : bRo G 84 583 := (W.2.2.2 (84, 583) (List.mem_of_getElem? (i := 41) rfl)).1
theorem s_Relays_impedance (W : bW G) : bRo G 85 584 := (W.2.2.2 (85, 584) (List.mem_of_getElem? (i := 42) rfl)).1
theorem s_Relays_rowCount (W : bW G) : bRo G 86 585 := (W.2.2.2 (86, 585) (List.mem_of_getElem? (i := 43) rfl)).1
theorem s_Relays_setting (W : bW G) : bRo G 87 586 := (W.2.2.2 (87, 586) (List.mem_of_getElem? (i := 44) rfl)).1
theorem s_Relays_delay (W : bW G) : bRo G 88 587 := (W.2.2.2 (88, 587) (List.mem_of_getElem? (i := 45) rfl)).1
theorem s_Relays_failing (W : bW G) : bRo G 89 588 := (W.2.2.2 (89, 588) (List.mem_of_getElem? (i := 46) rfl)).1
theorem s_Relays_tripAt (W : bW G) : bRo G 90 589 := (W.2.2.2 (90, 589) (List.mem_of_getElem? (i := 47) rfl)).1
theorem s_Relays_openAt (W : bW G) : bRo G 91 590 := (W.2.2.2 (91, 590) (List.mem_of_getElem? (i := 48) rfl)).1
theorem s_Relays_backupAt (W : bW G) : bRo G 92 591 := (W.2.2.2 (92, 591) (List.mem_of_getElem? (i := 49) rfl)).1
theorem s_Relays_hasOrder (W : bW G) : bRo G 93 592 := (W.2.2.2 (93, 592) (List.mem_of_getElem? (i := 50) rfl)).1
theorem s_Relays_opened (W : bW G) : bRo G 94 593 := (W.2.2.2 (94, 593) (List.mem_of_getElem? (i := 51) rfl)).1
theorem s_Dispatch (W : bW G) : bRo G 96 773 := (W.2.2.2 (96, 773) (List.mem_of_getElem? (i := 52) rfl)).1
theorem s_Dispatch_machineOf (W : bW G) : bRo G 97 774 := (W.2.2.2 (97, 774) (List.mem_of_getElem? (i := 53) rfl)).1
theorem s_Dispatch_costOf (W : bW G) : bRo G 98 775 := (W.2.2.2 (98, 775) (List.mem_of_getElem? (i := 54) rfl)).1
theorem s_Dispatch_startOf (W : bW G) : bRo G 99 776 := (W.2.2.2 (99, 776) (List.mem_of_getElem? (i := 55) rfl)).1
theorem s_Dispatch_turned (W : bW G) : bRo G 100 777 := (W.2.2.2 (100, 777) (List.mem_of_getElem? (i := 56) rfl)).1
theorem s_Dispatch_most (W : bW G) : bRo G 101 778 := (W.2.2.2 (101, 778) (List.mem_of_getElem? (i := 57) rfl)).1
theorem s_Dispatch_keeper (W : bW G) : bRo G 102 779 := (W.2.2.2 (102, 779) (List.mem_of_getElem? (i := 58) rfl)).1
theorem s_Dispatch_rowVariable (W : bW G) : bRo G 103 780 := (W.2.2.2 (103, 780) (List.mem_of_getElem? (i := 59) rfl)).1
theorem s_Dispatch_columnVariable (W : bW G) : bRo G 104 781 := (W.2.2.2 (104, 781) (List.mem_of_getElem? (i := 60) rfl)).1
theorem s_Big429 (W : bW G) : bRo G 105 782 := (W.2.2.2 (105, 782) (List.mem_of_getElem? (i := 61) rfl)).1
theorem s_Big8 (W : bW G) : bRo G 106 1652 := (W.2.2.2 (106, 1652) (List.mem_of_getElem? (i := 62) rfl)).1
theorem s_Rules (W : bW G) : bRo G 107 1669 := (W.2.2.2 (107, 1669) (List.mem_of_getElem? (i := 63) rfl)).1
theorem s_Rules_waiting (W : bW G) : bRo G 109 1672 := (W.2.2.2 (109, 1672) (List.mem_of_getElem? (i := 64) rfl)).1
theorem s_Rules_tried (W : bW G) : bRo G 111 1675 := (W.2.2.2 (111, 1675) (List.mem_of_getElem? (i := 65) rfl)).1
theorem s_Rules_choice (W : bW G) : bRo G 112 1676 := (W.2.2.2 (112, 1676) (List.mem_of_getElem? (i := 66) rfl)).1
theorem s_Rules_oversBySet (W : bW G) : bRo G 113 1677 := (W.2.2.2 (113, 1677) (List.mem_of_getElem? (i := 67) rfl)).1
theorem s_Rules_found (W : bW G) : bRo G 114 1678 := (W.2.2.2 (114, 1678) (List.mem_of_getElem? (i := 68) rfl)).1
theorem u_S_Net_MOST (W : bW G) (h : bRo G 0 k) : k = 1 := (W.2.2.2 (0, 1) (List.mem_of_getElem? (i := 0) rfl)).2 k h
theorem u_S_Net_WIDTH (W : bW G) (h : bRo G 1 k) : k = 2 := (W.2.2.2 (1, 2) (List.mem_of_getElem? (i := 1) rfl)).2 k h
theorem u_S_Solver_PRIMES (W : bW G) (h : bRo G 2 k) : k = 3 := (W.2.2.2 (2, 3) (List.mem_of_getElem? (i := 2) rfl)).2 k h
theorem u_S_Net_GREATEST (W : bW G) (h : bRo G 3 k) : k = 4 := (W.2.2.2 (3, 4) (List.mem_of_getElem? (i := 3) rfl)).2 k h
theorem u_S_Net_BOUNDS (W : bW G) (h : bRo G 4 k) : k = 5 := (W.2.2.2 (4, 5) (List.mem_of_getElem? (i := 4) rfl)).2 k h
theorem u_S_Net_ENDS (W : bW G) (h : bRo G 5 k) : k = 6 := (W.2.2.2 (5, 6) (List.mem_of_getElem? (i := 5) rfl)).2 k h
theorem u_S_Net_FIRST_END (W : bW G) (h : bRo G 6 k) : k = 7 := (W.2.2.2 (6, 7) (List.mem_of_getElem? (i := 6) rfl)).2 k h
theorem u_S_Net_FIRST_NUMBER (W : bW G) (h : bRo G 7 k) : k = 8 := (W.2.2.2 (7, 8) (List.mem_of_getElem? (i := 7) rfl)).2 k h
theorem u_S_Net_SETTABLE (W : bW G) (h : bRo G 8 k) : k = 9 := (W.2.2.2 (8, 9) (List.mem_of_getElem? (i := 8) rfl)).2 k h
theorem u_S_Net_LEAST (W : bW G) (h : bRo G 9 k) : k = 10 := (W.2.2.2 (9, 10) (List.mem_of_getElem? (i := 9) rfl)).2 k h
theorem u_S_Rules_ACT_SORT (W : bW G) (h : bRo G 10 k) : k = 11 := (W.2.2.2 (10, 11) (List.mem_of_getElem? (i := 10) rfl)).2 k h
theorem u_S_Rules_ACT_FIELD (W : bW G) (h : bRo G 11 k) : k = 12 := (W.2.2.2 (11, 12) (List.mem_of_getElem? (i := 11) rfl)).2 k h
theorem u_S_Rules_ACT_VALUE (W : bW G) (h : bRo G 12 k) : k = 13 := (W.2.2.2 (12, 13) (List.mem_of_getElem? (i := 12) rfl)).2 k h
theorem u_S_GModel_PRIME (W : bW G) (h : bRo G 13 k) : k = 14 := (W.2.2.2 (13, 14) (List.mem_of_getElem? (i := 13) rfl)).2 k h
theorem u_G (W : bW G) (h : bRo G 14 k) : k = 89 := (W.2.2.2 (14, 89) (List.mem_of_getElem? (i := 14) rfl)).2 k h
theorem u_Tape (W : bW G) (h : bRo G 15 k) : k = 90 := (W.2.2.2 (15, 90) (List.mem_of_getElem? (i := 15) rfl)).2 k h
theorem u_Tape_bytes (W : bW G) (h : bRo G 16 k) : k = 91 := (W.2.2.2 (16, 91) (List.mem_of_getElem? (i := 16) rfl)).2 k h
theorem u_Tape_keys (W : bW G) (h : bRo G 17 k) : k = 92 := (W.2.2.2 (17, 92) (List.mem_of_getElem? (i := 17) rfl)).2 k h
theorem u_G_kept (W : bW G) (h : bRo G 32 k) : k = 121 := (W.2.2.2 (32, 121) (List.mem_of_getElem? (i := 18) rfl)).2 k h
theorem u_G_isKept (W : bW G) (h : bRo G 33 k) : k = 122 := (W.2.2.2 (33, 122) (List.mem_of_getElem? (i := 19) rfl)).2 k h
theorem u_Hand (W : bW G) (h : bRo G 34 k) : k = 123 := (W.2.2.2 (34, 123) (List.mem_of_getElem? (i := 20) rfl)).2 k h
theorem u_Hand_figures (W : bW G) (h : bRo G 37 k) : k = 134 := (W.2.2.2 (37, 134) (List.mem_of_getElem? (i := 21) rfl)).2 k h
theorem u_Hand_lengths (W : bW G) (h : bRo G 39 k) : k = 137 := (W.2.2.2 (39, 137) (List.mem_of_getElem? (i := 22) rfl)).2 k h
theorem u_Solver (W : bW G) (h : bRo G 40 k) : k = 138 := (W.2.2.2 (40, 138) (List.mem_of_getElem? (i := 23) rfl)).2 k h
theorem u_Solver_cell (W : bW G) (h : bRo G 41 k) : k = 139 := (W.2.2.2 (41, 139) (List.mem_of_getElem? (i := 24) rfl)).2 k h
theorem u_Solver_leader (W : bW G) (h : bRo G 43 k) : k = 172 := (W.2.2.2 (43, 172) (List.mem_of_getElem? (i := 25) rfl)).2 k h
theorem u_Flow (W : bW G) (h : bRo G 44 k) : k = 177 := (W.2.2.2 (44, 177) (List.mem_of_getElem? (i := 26) rfl)).2 k h
theorem u_Rules_stages (W : bW G) (h : bRo G 61 k) : k = 251 := (W.2.2.2 (61, 251) (List.mem_of_getElem? (i := 27) rfl)).2 k h
theorem u_Meters (W : bW G) (h : bRo G 62 k) : k = 252 := (W.2.2.2 (62, 252) (List.mem_of_getElem? (i := 28) rfl)).2 k h
theorem u_Meters_kind (W : bW G) (h : bRo G 63 k) : k = 253 := (W.2.2.2 (63, 253) (List.mem_of_getElem? (i := 29) rfl)).2 k h
theorem u_Meters_place (W : bW G) (h : bRo G 64 k) : k = 254 := (W.2.2.2 (64, 254) (List.mem_of_getElem? (i := 30) rfl)).2 k h
theorem u_Meters_value (W : bW G) (h : bRo G 65 k) : k = 255 := (W.2.2.2 (65, 255) (List.mem_of_getElem? (i := 31) rfl)).2 k h
theorem u_Meters_weight (W : bW G) (h : bRo G 66 k) : k = 256 := (W.2.2.2 (66, 256) (List.mem_of_getElem? (i := 32) rfl)).2 k h
theorem u_Meters_struck (W : bW G) (h : bRo G 67 k) : k = 257 := (W.2.2.2 (67, 257) (List.mem_of_getElem? (i := 33) rfl)).2 k h
theorem u_Meters_seen (W : bW G) (h : bRo G 68 k) : k = 258 := (W.2.2.2 (68, 258) (List.mem_of_getElem? (i := 34) rfl)).2 k h
theorem u_Meters_whole (W : bW G) (h : bRo G 69 k) : k = 259 := (W.2.2.2 (69, 259) (List.mem_of_getElem? (i := 35) rfl)).2 k h
theorem u_Meters_shows (W : bW G) (h : bRo G 72 k) : k = 434 := (W.2.2.2 (72, 434) (List.mem_of_getElem? (i := 36) rfl)).2 k h
theorem u_Meters_ranks (W : bW G) (h : bRo G 74 k) : k = 467 := (W.2.2.2 (74, 467) (List.mem_of_getElem? (i := 37) rfl)).2 k h
theorem u_Relays (W : bW G) (h : bRo G 81 k) : k = 580 := (W.2.2.2 (81, 580) (List.mem_of_getElem? (i := 38) rfl)).2 k h
theorem u_Relays_line (W : bW G) (h : bRo G 82 k) : k = 581 := (W.2.2.2 (82, 581) (List.mem_of_getElem? (i := 39) rfl)).2 k h
theorem u_Relays_end (W : bW G) (h : bRo G 83 k) : k = 582 := (W.2.2.2 (83, 582) (List.mem_of_getElem? (i := 40) rfl)).2 k h
theorem u_Relays_opens (W : bW G) (h : bRo G 84 k) : k = 583 := (W.2.2.2 (84, 583) (List.mem_of_getElem? (i := 41) rfl)).2 k h
theorem u_Relays_impedance (W : bW G) (h : bRo G 85 k) : k = 584 := (W.2.2.2 (85, 584) (List.mem_of_getElem? (i := 42) rfl)).2 k h
theorem u_Relays_rowCount (W : bW G) (h : bRo G 86 k) : k = 585 := (W.2.2.2 (86, 585) (List.mem_of_getElem? (i := 43) rfl)).2 k h
theorem u_Relays_setting (W : bW G) (h : bRo G 87 k) : k = 586 := (W.2.2.2 (87, 586) (List.mem_of_getElem? (i := 44) rfl)).2 k h
theorem u_Relays_delay (W : bW G) (h : bRo G 88 k) : k = 587 := (W.2.2.2 (88, 587) (List.mem_of_getElem? (i := 45) rfl)).2 k h
theorem u_Relays_failing (W : bW G) (h : bRo G 89 k) : k = 588 := (W.2.2.2 (89, 588) (List.mem_of_getElem? (i := 46) rfl)).2 k h
theorem u_Relays_tripAt (W : bW G) (h : bRo G 90 k) : k = 589 := (W.2.2.2 (90, 589) (List.mem_of_getElem? (i := 47) rfl)).2 k h
theorem u_Relays_openAt (W : bW G) (h : bRo G 91 k) : k = 590 := (W.2.2.2 (91, 590) (List.mem_of_getElem? (i := 48) rfl)).2 k h
theorem u_Relays_backupAt (W : bW G) (h : bRo G 92 k) : k = 591 := (W.2.2.2 (92, 591) (List.mem_of_getElem? (i := 49) rfl)).2 k h
theorem u_Relays_hasOrder (W : bW G) (h : bRo G 93 k) : k = 592 := (W.2.2.2 (93, 592) (List.mem_of_getElem? (i := 50) rfl)).2 k h
theorem u_Relays_opened (W : bW G) (h : bRo G 94 k) : k = 593 := (W.2.2.2 (94, 593) (List.mem_of_getElem? (i := 51) rfl)).2 k h
theorem u_Dispatch (W : bW G) (h : bRo G 96 k) : k = 773 := (W.2.2.2 (96, 773) (List.mem_of_getElem? (i := 52) rfl)).2 k h
theorem u_Dispatch_machineOf (W : bW G) (h : bRo G 97 k) : k = 774 := (W.2.2.2 (97, 774) (List.mem_of_getElem? (i := 53) rfl)).2 k h
theorem u_Dispatch_costOf (W : bW G) (h : bRo G 98 k) : k = 775 := (W.2.2.2 (98, 775) (List.mem_of_getElem? (i := 54) rfl)).2 k h
theorem u_Dispatch_startOf (W : bW G) (h : bRo G 99 k) : k = 776 := (W.2.2.2 (99, 776) (List.mem_of_getElem? (i := 55) rfl)).2 k h
theorem u_Dispatch_turned (W : bW G) (h : bRo G 100 k) : k = 777 := (W.2.2.2 (100, 777) (List.mem_of_getElem? (i := 56) rfl)).2 k h
theorem u_Dispatch_most (W : bW G) (h : bRo G 101 k) : k = 778 := (W.2.2.2 (101, 778) (List.mem_of_getElem? (i := 57) rfl)).2 k h
theorem u_Dispatch_keeper (W : bW G) (h : bRo G 102 k) : k = 779 := (W.2.2.2 (102, 779) (List.mem_of_getElem? (i := 58) rfl)).2 k h
theorem u_Dispatch_rowVariable (W : bW G) (h : bRo G 103 k) : k = 780 := (W.2.2.2 (103, 780) (List.mem_of_getElem? (i := 59) rfl)).2 k h
theorem u_Dispatch_columnVariable (W : bW G) (h : bRo G 104 k) : k = 781 := (W.2.2.2 (104, 781) (List.mem_of_getElem? (i := 60) rfl)).2 k h
theorem u_Big429 (W : bW G) (h : bRo G 105 k) : k = 782 := (W.2.2.2 (105, 782) (List.mem_of_getElem? (i := 61) rfl)).2 k h
theorem u_Big8 (W : bW G) (h : bRo G 106 k) : k = 1652 := (W.2.2.2 (106, 1652) (List.mem_of_getElem? (i := 62) rfl)).2 k h
theorem u_Rules (W : bW G) (h : bRo G 107 k) : k = 1669 := (W.2.2.2 (107, 1669) (List.mem_of_getElem? (i := 63) rfl)).2 k h
theorem u_Rules_waiting (W : bW G) (h : bRo G 109 k) : k = 1672 := (W.2.2.2 (109, 1672) (List.mem_of_getElem? (i := 64) rfl)).2 k h
theorem u_Rules_tried (W : bW G) (h : bRo G 111 k) : k = 1675 := (W.2.2.2 (111, 1675) (List.mem_of_getElem? (i := 65) rfl)).2 k h
theorem u_Rules_choice (W : bW G) (h : bRo G 112 k) : k = 1676 := (W.2.2.2 (112, 1676) (List.mem_of_getElem? (i := 66) rfl)).2 k h
theorem u_Rules_oversBySet (W : bW G) (h : bRo G 113 k) : k = 1677 := (W.2.2.2 (113, 1677) (List.mem_of_getElem? (i := 67) rfl)).2 k h
theorem u_Rules_found (W : bW G) (h : bRo G 114 k) : k = 1678 := (W.2.2.2 (114, 1678) (List.mem_of_getElem? (i := 68) rfl)).2 k h
theorem v_S_Net_MOST (W : bW G) (h : bRo G 0 k) : yIF G k 5 0 (bTf 5 t_S_Net_MOST) := bIP (d_S_Net_MOST W) h (n_S_Net_MOST W h) rfl (by decide)
theorem v_S_Net_WIDTH (W : bW G) (h : bRo G 1 k) : yIF G k 5 0 (bTf 5 t_S_Net_WIDTH) := bIP (d_S_Net_WIDTH W) h (n_S_Net_WIDTH W h) rfl (by decide)
theorem v_S_Solver_PRIMES (W : bW G) (h : bRo G 2 k) : yIA G k 48 1 (1, (2147482621, 2147483647)) := bIA (d_S_Solver_PRIMES W) h (n_S_Solver_PRIMES W h)
theorem v_S_Net_GREATEST (W : bW G) (h : bRo G 3 k) : yIF G k 17 0 (bTf 17 t_S_Net_GREATEST) := bIP (d_S_Net_GREATEST W) h (n_S_Net_GREATEST W h) rfl (by decide)
theorem v_S_Net_BOUNDS (W : bW G) (h : bRo G 4 k) : yIF G k 5 0 (bTf 5 t_S_Net_BOUNDS) := bIP (d_S_Net_BOUNDS W) h (n_S_Net_BOUNDS W h) rfl (by decide)
theorem v_S_Net_ENDS (W : bW G) (h : bRo G 5 k) : yIF G k 5 0 (bTf 5 t_S_Net_ENDS) := bIP (d_S_Net_ENDS W) h (n_S_Net_ENDS W h) rfl (by decide)
theorem v_S_Net_FIRST_END (W : bW G) (h : bRo G 6 k) : yIF G k 5 0 (bTf 5 t_S_Net_FIRST_END) := bIP (d_S_Net_FIRST_END W) h (n_S_Net_FIRST_END W h) rfl (by decide)
theorem v_S_Net_FIRST_NUMBER (W : bW G) (h : bRo G 7 k) : yIF G k 5 0 (bTf 5 t_S_Net_FIRST_NUMBER) := bIP (d_S_Net_FIRST_NUMBER W) h (n_S_Net_FIRST_NUMBER W h) rfl (by decide)
theorem v_S_Net_SETTABLE (W : bW G) (h : bRo G 8 k) : yIF G k 5 0 (bTf 5 t_S_Net_SETTABLE) := bIP (d_S_Net_SETTABLE W) h (n_S_Net_SETTABLE W h) rfl (by decide)
theorem v_S_Net_LEAST (W : bW G) (h : bRo G 9 k) : yIF G k 17 0 (bTf 17 t_S_Net_LEAST) := bIP (d_S_Net_LEAST W) h (n_S_Net_LEAST W h) rfl (by decide)
theorem v_S_Rules_ACT_SORT (W : bW G) (h : bRo G 10 k) : yIF G k 6 0 (bTf 6 t_S_Rules_ACT_SORT) := bIP (d_S_Rules_ACT_SORT W) h (n_S_Rules_ACT_SORT W h) rfl (by decide)
theorem v_S_Rules_ACT_FIELD (W : bW G) (h : bRo G 11 k) : yIF G k 6 0 (bTf 6 t_S_Rules_ACT_FIELD) := bIP (d_S_Rules_ACT_FIELD W) h (n_S_Rules_ACT_FIELD W h) rfl (by decide)
theorem v_S_Rules_ACT_VALUE (W : bW G) (h : bRo G 12 k) : yIF G k 6 0 (bTf 6 t_S_Rules_ACT_VALUE) := bIP (d_S_Rules_ACT_VALUE W) h (n_S_Rules_ACT_VALUE W h) rfl (by decide)
theorem v_S_GModel_PRIME (W : bW G) (h : bRo G 13 k) : yIA G k 40 0 (0, (2147482801, 2147483647)) := bIA (d_S_GModel_PRIME W) h (n_S_GModel_PRIME W h)
theorem w_G_tape (W : bW G) (h : bRo G 14 k) : yFd G k 12 0 (2, (((2 ^ 15 : Nat) : Int), 0)) := bFd (d_G W) h rfl
theorem w_G_net (W : bW G) (h : bRo G 14 k) : yFd G k 12 1 (2, (((2 ^ 18 : Nat) : Int), 0)) := bFd (d_G W) h rfl
theorem w_G_spare (W : bW G) (h : bRo G 14 k) : yFd G k 12 2 (2, (((2 ^ 18 : Nat) : Int), 0)) := bFd (d_G W) h rfl
theorem w_G_kept (W : bW G) (h : bRo G 14 k) : yFd G k 12 3 (2, (((2 ^ 32 : Nat) : Int), 0)) := bFd (d_G W) h rfl
theorem w_G_isKept (W : bW G) (h : bRo G 14 k) : yFd G k 12 4 (2, (((2 ^ 33 : Nat) : Int), 0)) := bFd (d_G W) h rfl
theorem w_G_hand (W : bW G) (h : bRo G 14 k) : yFd G k 12 5 (2, (((2 ^ 34 : Nat) : Int), 0)) := bFd (d_G W) h rfl
theorem w_G_solver (W : bW G) (h : bRo G 14 k) : yFd G k 12 6 (2, (((2 ^ 40 : Nat) : Int), 0)) := bFd (d_G W) h rfl
theorem w_G_flow (W : bW G) (h : bRo G 14 k) : yFd G k 12 7 (2, (((2 ^ 44 : Nat) : Int), 0)) := bFd (d_G W) h rfl
theorem w_G_stages (W : bW G) (h : bRo G 14 k) : yFd G k 12 8 (2, (((2 ^ 61 : Nat) : Int), 0)) := bFd (d_G W) h rfl
theorem w_G_meters (W : bW G) (h : bRo G 14 k) : yFd G k 12 9 (2, (((2 ^ 62 : Nat) : Int), 0)) := bFd (d_G W) h rfl
theorem w_G_shorts (W : bW G) (h : bRo G 14 k) : yFd G k 12 10 (2, (((2 ^ 75 : Nat) : Int), 0)) := bFd (d_G W) h rfl
theorem w_G_relays (W : bW G) (h : bRo G 14 k) : yFd G k 12 11 (2, (((2 ^ 81 : Nat) : Int), 0)) := bFd (d_G W) h rfl
theorem w_G_dispatch (W : bW G) (h : bRo G 14 k) : yFd G k 12 12 (2, (((2 ^ 96 : Nat) : Int), 0)) := bFd (d_G W) h rfl
theorem w_G_rules (W : bW G) (h : bRo G 14 k) : yFd G k 12 13 (2, (((2 ^ 107 : Nat) : Int), 0)) := bFd (d_G W) h rfl
theorem w_G_looked (W : bW G) (h : bRo G 14 k) : yFd G k 12 14 (0, (0, 1)) := bFd (d_G W) h rfl
theorem w_Tape_bytes (W : bW G) (h : bRo G 15 k) : yFd G k 11 0 (2, (((2 ^ 16 : Nat) : Int), 0)) := bFd (d_Tape W) h rfl
theorem w_Tape_keys (W : bW G) (h : bRo G 15 k) : yFd G k 11 1 (2, (((2 ^ 17 : Nat) : Int), 0)) := bFd (d_Tape W) h rfl
theorem w_Tape_at (W : bW G) (h : bRo G 15 k) : yFd G k 11 2 (0, (0, 4000)) := bFd (d_Tape W) h rfl
theorem w_Tape_letterFirst (W : bW G) (h : bRo G 15 k) : yFd G k 11 3 (0, (0, 1)) := bFd (d_Tape W) h rfl
theorem w_Tape_length (W : bW G) (h : bRo G 15 k) : yFd G k 11 4 (0, (0, 4000)) := bFd (d_Tape W) h rfl
theorem w_Tape_from (W : bW G) (h : bRo G 15 k) : yFd G k 11 5 (0, (0, 4000)) := bFd (d_Tape W) h rfl
theorem w_Tape_word (W : bW G) (h : bRo G 15 k) : yFd G k 11 6 (1, ((-9223372036854775808), 9223372036854775807)) := bFd (d_Tape W) h rfl
theorem w_Tape_number (W : bW G) (h : bRo G 15 k) : yFd G k 11 7 (0, ((-2147483648), 2147483647)) := bFd (d_Tape W) h rfl
theorem v_Tape_bytes (W : bW G) (h : bRo G 16 k) : yIA G k 4000 3 (0, ((-128), 127)) := bIA (d_Tape_bytes W) h (n_Tape_bytes W h)
theorem v_Tape_keys (W : bW G) (h : bRo G 17 k) : yIA G k 31 1 (1, ((-9223372036854775808), 9223372036854775807)) := bIA (d_Tape_keys W) h (n_Tape_keys W h)
theorem w_Net_count (W : bW G) (h : bRo G 18 k) : yFd G k 5 0 (2, (((2 ^ 19 : Nat) : Int), 0)) := bFd (d_Net W) h rfl
theorem w_Net_value (W : bW G) (h : bRo G 18 k) : yFd G k 5 1 (2, (((2 ^ 20 : Nat) : Int), 0)) := bFd (d_Net W) h rfl
theorem w_Net_names (W : bW G) (h : bRo G 18 k) : yFd G k 5 2 (2, (((2 ^ 21 : Nat) : Int), 0)) := bFd (d_Net W) h rfl
theorem w_Net_shortKind (W : bW G) (h : bRo G 18 k) : yFd G k 5 3 (0, ((-1), 3)) := bFd (d_Net W) h rfl
theorem w_Net_shortBar (W : bW G) (h : bRo G 18 k) : yFd G k 5 4 (0, ((-1), 15)) := bFd (d_Net W) h rfl
theorem w_Net_shortLine (W : bW G) (h : bRo G 18 k) : yFd G k 5 5 (0, ((-1), 19)) := bFd (d_Net W) h rfl
theorem w_Net_shortPart (W : bW G) (h : bRo G 18 k) : yFd G k 5 6 (0, (0, 15)) := bFd (d_Net W) h rfl
theorem w_Net_shortZ (W : bW G) (h : bRo G 18 k) : yFd G k 5 7 (0, (0, 99)) := bFd (d_Net W) h rfl
theorem v_Net_count (W : bW G) (h : bRo G 19 k) : yIF G k 5 0 (bTf 5 t_Net_count) := bIP (d_Net_count W) h (n_Net_count W h) rfl (by decide)
theorem v_Net_value (W : bW G) (h : bRo G 20 k) : yIF G k 5 64 (bTf 5 t_Net_value) := bIP (d_Net_value W) h (n_Net_value W h) rfl (by decide)
theorem v_Net_names (W : bW G) (h : bRo G 21 k) : yIF G k 5 65 (bTf 5 t_Net_names) := bIP (d_Net_names W) h (n_Net_names W h) rfl (by decide)
theorem v_Net_value0 (W : bW G) (h : bRo G 22 k) : yIA G k 16 0 (0, (0, 1)) := bIA (d_Net_value0 W) h (n_Net_value0 W h)
theorem v_Net_names0 (W : bW G) (h : bRo G 23 k) : yIA G k 16 1 (1, ((-9223372036854775808), 9223372036854775807)) := bIA (d_Net_names0 W) h (n_Net_names0 W h)
theorem v_Net_value1 (W : bW G) (h : bRo G 24 k) : yIF G k 120 0 (bTf 5 t_Net_value1) := bIP (d_Net_value1 W) h (n_Net_value1 W h) rfl (by decide)
theorem v_Net_names1 (W : bW G) (h : bRo G 25 k) : yIA G k 24 1 (1, ((-9223372036854775808), 9223372036854775807)) := bIA (d_Net_names1 W) h (n_Net_names1 W h)
theorem v_Net_value2 (W : bW G) (h : bRo G 26 k) : yIF G k 120 0 (bTf 6 t_Net_value2) := bIP (d_Net_value2 W) h (n_Net_value2 W h) rfl (by decide)
theorem v_Net_names2 (W : bW G) (h : bRo G 27 k) : yIA G k 20 1 (1, ((-9223372036854775808), 9223372036854775807)) := bIA (d_Net_names2 W) h (n_Net_names2 W h)
theorem v_Net_value3 (W : bW G) (h : bRo G 28 k) : yIF G k 66 0 (bTf 11 t_Net_value3) := bIP (d_Net_value3 W) h (n_Net_value3 W h) rfl (by decide)
theorem v_Net_names3 (W : bW G) (h : bRo G 29 k) : yIA G k 6 1 (1, ((-9223372036854775808), 9223372036854775807)) := bIA (d_Net_names3 W) h (n_Net_names3 W h)
theorem v_Net_value4 (W : bW G) (h : bRo G 30 k) : yIF G k 24 0 (bTf 2 t_Net_value4) := bIP (d_Net_value4 W) h (n_Net_value4 W h) rfl (by decide)
theorem v_Net_names4 (W : bW G) (h : bRo G 31 k) : yIA G k 12 1 (1, ((-9223372036854775808), 9223372036854775807)) := bIA (d_Net_names4 W) h (n_Net_names4 W h)
theorem v_G_kept (W : bW G) (h : bRo G 32 k) : yIF G k 3 9 (fun _ => (2, (((2 ^ 18 : Nat) : Int), 0))) := (bIA (d_G_kept W) h (n_G_kept W h)).yIF
theorem v_G_isKept (W : bW G) (h : bRo G 33 k) : yIA G k 3 2 (0, (0, 1)) := bIA (d_G_isKept W) h (n_G_isKept W h)
theorem w_Hand_above (W : bW G) (h : bRo G 34 k) : yFd G k 3 0 (2, (((2 ^ 35 : Nat) : Int), 0)) := bFd (d_Hand W) h rfl
theorem w_Hand_below (W : bW G) (h : bRo G 34 k) : yFd G k 3 1 (2, (((2 ^ 35 : Nat) : Int), 0)) := bFd (d_Hand W) h rfl
theorem w_Hand_great (W : bW G) (h : bRo G 34 k) : yFd G k 3 2 (2, (((2 ^ 35 : Nat) : Int), 0)) := bFd (d_Hand W) h rfl
theorem w_Hand_small (W : bW G) (h : bRo G 34 k) : yFd G k 3 3 (2, (((2 ^ 35 : Nat) : Int), 0)) := bFd (d_Hand W) h rfl
theorem w_Hand_often (W : bW G) (h : bRo G 34 k) : yFd G k 3 4 (2, (((2 ^ 35 : Nat) : Int), 0)) := bFd (d_Hand W) h rfl
theorem w_Hand_figures (W : bW G) (h : bRo G 34 k) : yFd G k 3 5 (2, (((2 ^ 37 : Nat) : Int), 0)) := bFd (d_Hand W) h rfl
theorem w_Hand_lengths (W : bW G) (h : bRo G 34 k) : yFd G k 3 6 (2, (((2 ^ 39 : Nat) : Int), 0)) := bFd (d_Hand W) h rfl
theorem w_Hand_lowest (W : bW G) (h : bRo G 34 k) : yFd G k 3 7 (0, (0, 1)) := bFd (d_Hand W) h rfl
theorem w_Big_limb (W : bW G) (h : bRo G 35 k) : yFd G k 0 0 (2, (((2 ^ 36 : Nat) : Int), 1)) := bFd (d_Big W) h rfl
theorem w_Big_size (W : bW G) (h : bRo G 35 k) : yFd G k 0 1 (3, (0, 0)) := bFd (d_Big W) h rfl
theorem w_Big_minus (W : bW G) (h : bRo G 35 k) : yFd G k 0 2 (0, (0, 1)) := bFd (d_Big W) h rfl
theorem v_Big_limb (W : bW G) (h : bRo G 36 k) : yIA G k (zat G k) 1 (1, (0, 1073741823)) := bIA (d_Big_limb W) h rfl
theorem v_Hand_figures (W : bW G) (h : bRo G 37 k) : yIF G k 2 64 (fun _ => (2, (((2 ^ 38 : Nat) : Int), 0))) := (bIA (d_Hand_figures W) h (n_Hand_figures W h)).yIF
theorem v_Hand_figuress (W : bW G) (h : bRo G 38 k) : yIA G k 900 0 (0, ((-2147483648), 2147483647)) := bIA (d_Hand_figuress W) h (n_Hand_figuress W h)
theorem v_Hand_lengths (W : bW G) (h : bRo G 39 k) : yIA G k 2 0 (0, (0, 900)) := bIA (d_Hand_lengths W) h (n_Hand_lengths W h)
theorem w_Solver_cell (W : bW G) (h : bRo G 40 k) : yFd G k 10 0 (2, (((2 ^ 41 : Nat) : Int), 0)) := bFd (d_Solver W) h rfl
theorem w_Solver_leader (W : bW G) (h : bRo G 40 k) : yFd G k 10 1 (2, (((2 ^ 43 : Nat) : Int), 0)) := bFd (d_Solver W) h rfl
theorem w_Solver_prime (W : bW G) (h : bRo G 40 k) : yFd G k 10 2 (1, (2147482621, 2147483647)) := bFd (d_Solver W) h rfl
theorem w_Solver_determinant (W : bW G) (h : bRo G 40 k) : yFd G k 10 3 (1, ((-9223372036854775808), 9223372036854775807)) := bFd (d_Solver W) h rfl
theorem w_Solver_modulus (W : bW G) (h : bRo G 40 k) : yFd G k 10 4 (2, (((2 ^ 35 : Nat) : Int), 0)) := bFd (d_Solver W) h rfl
theorem w_Solver_half (W : bW G) (h : bRo G 40 k) : yFd G k 10 5 (2, (((2 ^ 35 : Nat) : Int), 0)) := bFd (d_Solver W) h rfl
theorem w_Solver_lift (W : bW G) (h : bRo G 40 k) : yFd G k 10 6 (1, ((-9223372036854775808), 9223372036854775807)) := bFd (d_Solver W) h rfl
theorem w_Solver_next (W : bW G) (h : bRo G 40 k) : yFd G k 10 7 (0, (0, 48)) := bFd (d_Solver W) h rfl
theorem w_Solver_bitsLeft (W : bW G) (h : bRo G 40 k) : yFd G k 10 8 (0, ((-2147483648), 2147483647)) := bFd (d_Solver W) h rfl
theorem v_Solver_cell (W : bW G) (h : bRo G 41 k) : yIF G k 32 65 (fun _ => (2, (((2 ^ 42 : Nat) : Int), 0))) := (bIA (d_Solver_cell W) h (n_Solver_cell W h)).yIF
theorem v_Solver_cells (W : bW G) (h : bRo G 42 k) : yIA G k 48 1 (1, ((-9223372036854775808), 9223372036854775807)) := bIA (d_Solver_cells W) h (n_Solver_cells W h)
theorem v_Solver_leader (W : bW G) (h : bRo G 43 k) : yIA G k 48 0 (0, ((-1), 31)) := bIA (d_Solver_leader W) h (n_Solver_leader W h)
theorem w_Flow_shape (W : bW G) (h : bRo G 44 k) : yFd G k 2 0 (2, (((2 ^ 51 : Nat) : Int), 0)) := bFd (d_Flow W) h rfl
theorem w_Flow_net (W : bW G) (h : bRo G 44 k) : yFd G k 2 1 (2, (((2 ^ 18 : Nat) : Int), 0)) := bFd (d_Flow W) h rfl
theorem w_Flow_solver (W : bW G) (h : bRo G 44 k) : yFd G k 2 2 (2, (((2 ^ 40 : Nat) : Int), 0)) := bFd (d_Flow W) h rfl
theorem w_Flow_gap (W : bW G) (h : bRo G 44 k) : yFd G k 2 3 (2, (((2 ^ 45 : Nat) : Int), 0)) := bFd (d_Flow W) h rfl
theorem w_Flow_total (W : bW G) (h : bRo G 44 k) : yFd G k 2 4 (2, (((2 ^ 46 : Nat) : Int), 0)) := bFd (d_Flow W) h rfl
theorem w_Flow_solvable (W : bW G) (h : bRo G 44 k) : yFd G k 2 5 (2, (((2 ^ 47 : Nat) : Int), 0)) := bFd (d_Flow W) h rfl
theorem w_Flow_stuck (W : bW G) (h : bRo G 44 k) : yFd G k 2 6 (2, (((2 ^ 48 : Nat) : Int), 0)) := bFd (d_Flow W) h rfl
theorem w_Flow_top (W : bW G) (h : bRo G 44 k) : yFd G k 2 7 (2, (((2 ^ 49 : Nat) : Int), 0)) := bFd (d_Flow W) h rfl
theorem w_Flow_whole (W : bW G) (h : bRo G 44 k) : yFd G k 2 8 (2, (((2 ^ 35 : Nat) : Int), 0)) := bFd (d_Flow W) h rfl
theorem w_Flow_one (W : bW G) (h : bRo G 44 k) : yFd G k 2 9 (2, (((2 ^ 35 : Nat) : Int), 0)) := bFd (d_Flow W) h rfl
theorem w_Flow_other (W : bW G) (h : bRo G 44 k) : yFd G k 2 10 (2, (((2 ^ 35 : Nat) : Int), 0)) := bFd (d_Flow W) h rfl
theorem w_Flow_solved (W : bW G) (h : bRo G 44 k) : yFd G k 2 11 (0, (0, 1)) := bFd (d_Flow W) h rfl
theorem w_Flow_stuckCount (W : bW G) (h : bRo G 44 k) : yFd G k 2 12 (0, ((-2147483648), 2147483647)) := bFd (d_Flow W) h rfl
theorem w_Flow_lost (W : bW G) (h : bRo G 44 k) : yFd G k 2 13 (0, ((-2147483648), 2147483647)) := bFd (d_Flow W) h rfl
theorem w_Flow_overs (W : bW G) (h : bRo G 44 k) : yFd G k 2 14 (0, ((-2147483648), 2147483647)) := bFd (d_Flow W) h rfl
theorem w_Flow_troubles (W : bW G) (h : bRo G 44 k) : yFd G k 2 15 (0, ((-1), 20)) := bFd (d_Flow W) h rfl
theorem w_Flow_troubleOf (W : bW G) (h : bRo G 44 k) : yFd G k 2 16 (2, (((2 ^ 50 : Nat) : Int), 0)) := bFd (d_Flow W) h rfl
theorem v_Flow_gap (W : bW G) (h : bRo G 45 k) : yIA G k 16 0 (0, ((-2147483648), 2147483647)) := bIA (d_Flow_gap W) h (n_Flow_gap W h)
theorem v_Flow_total (W : bW G) (h : bRo G 46 k) : yIA G k 16 0 (0, ((-2147483648), 2147483647)) := bIA (d_Flow_total W) h (n_Flow_total W h)
theorem v_Flow_solvable (W : bW G) (h : bRo G 47 k) : yIA G k 16 2 (0, (0, 1)) := bIA (d_Flow_solvable W) h (n_Flow_solvable W h)
theorem v_Flow_stuck (W : bW G) (h : bRo G 48 k) : yIA G k 16 2 (0, (0, 1)) := bIA (d_Flow_stuck W) h (n_Flow_stuck W h)
theorem v_Big16 (W : bW G) (h : bRo G 49 k) : yIF G k 16 4 (fun _ => (2, (((2 ^ 35 : Nat) : Int), 0))) := (bIA (d_Big16 W) h (n_Big16 W h)).yIF
theorem v_Flow_troubleOf (W : bW G) (h : bRo G 50 k) : yIA G k 80 0 (0, ((-2147483648), 2147483647)) := bIA (d_Flow_troubleOf W) h (n_Flow_troubleOf W h)
theorem w_Shape_net (W : bW G) (h : bRo G 51 k) : yFd G k 8 0 (2, (((2 ^ 18 : Nat) : Int), 0)) := bFd (d_Shape W) h rfl
theorem w_Shape_node (W : bW G) (h : bRo G 51 k) : yFd G k 8 1 (2, (((2 ^ 52 : Nat) : Int), 0)) := bFd (d_Shape W) h rfl
theorem w_Shape_island (W : bW G) (h : bRo G 51 k) : yFd G k 8 2 (2, (((2 ^ 53 : Nat) : Int), 0)) := bFd (d_Shape W) h rfl
theorem w_Shape_row (W : bW G) (h : bRo G 51 k) : yFd G k 8 3 (2, (((2 ^ 54 : Nat) : Int), 0)) := bFd (d_Shape W) h rfl
theorem w_Shape_live (W : bW G) (h : bRo G 51 k) : yFd G k 8 4 (2, (((2 ^ 55 : Nat) : Int), 0)) := bFd (d_Shape W) h rfl
theorem w_Shape_ends (W : bW G) (h : bRo G 51 k) : yFd G k 8 5 (2, (((2 ^ 56 : Nat) : Int), 0)) := bFd (d_Shape W) h rfl
theorem w_Shape_joins (W : bW G) (h : bRo G 51 k) : yFd G k 8 6 (2, (((2 ^ 58 : Nat) : Int), 0)) := bFd (d_Shape W) h rfl
theorem w_Shape_spot (W : bW G) (h : bRo G 51 k) : yFd G k 8 7 (2, (((2 ^ 59 : Nat) : Int), 0)) := bFd (d_Shape W) h rfl
theorem w_Shape_on (W : bW G) (h : bRo G 51 k) : yFd G k 8 8 (2, (((2 ^ 60 : Nat) : Int), 0)) := bFd (d_Shape W) h rfl
theorem w_Shape_nodes (W : bW G) (h : bRo G 51 k) : yFd G k 8 9 (0, ((-2147483648), 2147483647)) := bFd (d_Shape W) h rfl
theorem w_Shape_islands (W : bW G) (h : bRo G 51 k) : yFd G k 8 10 (0, ((-2147483648), 2147483647)) := bFd (d_Shape W) h rfl
theorem w_Shape_lives (W : bW G) (h : bRo G 51 k) : yFd G k 8 11 (0, ((-2147483648), 2147483647)) := bFd (d_Shape W) h rfl
theorem v_Shape_node (W : bW G) (h : bRo G 52 k) : yIF G k 16 0 (fun j => (0, (0, (j : Int)))) := bIF (d_Shape_node W) h (n_Shape_node W h) (by decide)
theorem v_Shape_island (W : bW G) (h : bRo G 53 k) : yIF G k 16 0 (fun j => (0, (0, (j : Int)))) := bIF (d_Shape_island W) h (n_Shape_island W h) (by decide)
theorem v_Shape_row (W : bW G) (h : bRo G 54 k) : yIA G k 16 0 (0, ((-1), 15)) := bIA (d_Shape_row W) h (n_Shape_row W h)
theorem v_Shape_live (W : bW G) (h : bRo G 55 k) : yIA G k 16 2 (0, (0, 1)) := bIA (d_Shape_live W) h (n_Shape_live W h)
theorem v_Shape_ends (W : bW G) (h : bRo G 56 k) : yIF G k 20 64 (fun _ => (2, (((2 ^ 57 : Nat) : Int), 0))) := (bIA (d_Shape_ends W) h (n_Shape_ends W h)).yIF
theorem v_Shape_endss (W : bW G) (h : bRo G 57 k) : yIA G k 2 0 (0, (0, 15)) := bIA (d_Shape_endss W) h (n_Shape_endss W h)
theorem v_Shape_joins (W : bW G) (h : bRo G 58 k) : yIA G k 20 2 (0, (0, 1)) := bIA (d_Shape_joins W) h (n_Shape_joins W h)
theorem v_Shape_spot (W : bW G) (h : bRo G 59 k) : yIA G k 6 0 (0, (0, 15)) := bIA (d_Shape_spot W) h (n_Shape_spot W h)
theorem v_Shape_on (W : bW G) (h : bRo G 60 k) : yIA G k 6 2 (0, (0, 1)) := bIA (d_Shape_on W) h (n_Shape_on W h)
theorem v_Rules_stages (W : bW G) (h : bRo G 61 k) : yIF G k 4 6 (fun _ => (2, (((2 ^ 115 : Nat) : Int), 0))) := (bIA (d_Rules_stages W) h (n_Rules_stages W h)).yIF
theorem w_Meters_shape (W : bW G) (h : bRo G 62 k) : yFd G k 4 0 (2, (((2 ^ 51 : Nat) : Int), 0)) := bFd (d_Meters W) h rfl
theorem w_Meters_net (W : bW G) (h : bRo G 62 k) : yFd G k 4 1 (2, (((2 ^ 18 : Nat) : Int), 0)) := bFd (d_Meters W) h rfl
theorem w_Meters_solver (W : bW G) (h : bRo G 62 k) : yFd G k 4 2 (2, (((2 ^ 40 : Nat) : Int), 0)) := bFd (d_Meters W) h rfl
theorem w_Meters_kind (W : bW G) (h : bRo G 62 k) : yFd G k 4 3 (2, (((2 ^ 63 : Nat) : Int), 0)) := bFd (d_Meters W) h rfl
theorem w_Meters_place (W : bW G) (h : bRo G 62 k) : yFd G k 4 4 (2, (((2 ^ 64 : Nat) : Int), 0)) := bFd (d_Meters W) h rfl
theorem w_Meters_value (W : bW G) (h : bRo G 62 k) : yFd G k 4 5 (2, (((2 ^ 65 : Nat) : Int), 0)) := bFd (d_Meters W) h rfl
theorem w_Meters_weight (W : bW G) (h : bRo G 62 k) : yFd G k 4 6 (2, (((2 ^ 66 : Nat) : Int), 0)) := bFd (d_Meters W) h rfl
theorem w_Meters_struck (W : bW G) (h : bRo G 62 k) : yFd G k 4 7 (2, (((2 ^ 67 : Nat) : Int), 0)) := bFd (d_Meters W) h rfl
theorem w_Meters_count (W : bW G) (h : bRo G 62 k) : yFd G k 4 8 (0, (0, 32)) := bFd (d_Meters W) h rfl
theorem w_Meters_known (W : bW G) (h : bRo G 62 k) : yFd G k 4 9 (0, (0, 1)) := bFd (d_Meters W) h rfl
theorem w_Meters_seen (W : bW G) (h : bRo G 62 k) : yFd G k 4 10 (2, (((2 ^ 68 : Nat) : Int), 0)) := bFd (d_Meters W) h rfl
theorem w_Meters_whole (W : bW G) (h : bRo G 62 k) : yFd G k 4 11 (2, (((2 ^ 69 : Nat) : Int), 0)) := bFd (d_Meters W) h rfl
theorem w_Meters_top (W : bW G) (h : bRo G 62 k) : yFd G k 4 12 (2, (((2 ^ 49 : Nat) : Int), 0)) := bFd (d_Meters W) h rfl
theorem w_Meters_rests (W : bW G) (h : bRo G 62 k) : yFd G k 4 13 (2, (((2 ^ 70 : Nat) : Int), 0)) := bFd (d_Meters W) h rfl
theorem w_Meters_spreads (W : bW G) (h : bRo G 62 k) : yFd G k 4 14 (2, (((2 ^ 70 : Nat) : Int), 0)) := bFd (d_Meters W) h rfl
theorem w_Meters_common (W : bW G) (h : bRo G 62 k) : yFd G k 4 15 (2, (((2 ^ 35 : Nat) : Int), 0)) := bFd (d_Meters W) h rfl
theorem w_Meters_help (W : bW G) (h : bRo G 62 k) : yFd G k 4 16 (2, (((2 ^ 71 : Nat) : Int), 0)) := bFd (d_Meters W) h rfl
theorem w_Meters_shows (W : bW G) (h : bRo G 62 k) : yFd G k 4 17 (2, (((2 ^ 72 : Nat) : Int), 0)) := bFd (d_Meters W) h rfl
theorem w_Meters_ranks (W : bW G) (h : bRo G 62 k) : yFd G k 4 18 (2, (((2 ^ 74 : Nat) : Int), 0)) := bFd (d_Meters W) h rfl
theorem v_Meters_kind (W : bW G) (h : bRo G 63 k) : yIA G k 32 0 (0, (0, 2)) := bIA (d_Meters_kind W) h (n_Meters_kind W h)
theorem v_Meters_place (W : bW G) (h : bRo G 64 k) : yIA G k 32 0 (0, (0, 19)) := bIA (d_Meters_place W) h (n_Meters_place W h)
theorem v_Meters_value (W : bW G) (h : bRo G 65 k) : yIA G k 32 0 (0, ((-2147483648), 2147483647)) := bIA (d_Meters_value W) h (n_Meters_value W h)
theorem v_Meters_weight (W : bW G) (h : bRo G 66 k) : yIA G k 32 0 (0, ((-2147483648), 2147483647)) := bIA (d_Meters_weight W) h (n_Meters_weight W h)
theorem v_Meters_struck (W : bW G) (h : bRo G 67 k) : yIA G k 32 2 (0, (0, 1)) := bIA (d_Meters_struck W) h (n_Meters_struck W h)
theorem v_Meters_seen (W : bW G) (h : bRo G 68 k) : yIA G k 16 2 (0, (0, 1)) := bIA (d_Meters_seen W) h (n_Meters_seen W h)
theorem v_Meters_whole (W : bW G) (h : bRo G 69 k) : yIA G k 16 2 (0, (0, 1)) := bIA (d_Meters_whole W) h (n_Meters_whole W h)
theorem v_Big32 (W : bW G) (h : bRo G 70 k) : yIF G k 32 4 (fun _ => (2, (((2 ^ 35 : Nat) : Int), 0))) := (bIA (d_Big32 W) h (n_Big32 W h)).yIF
theorem v_Big4 (W : bW G) (h : bRo G 71 k) : yIF G k 4 4 (fun _ => (2, (((2 ^ 35 : Nat) : Int), 0))) := (bIA (d_Big4 W) h (n_Big4 W h)).yIF
theorem v_Meters_shows (W : bW G) (h : bRo G 72 k) : yIF G k 32 65 (fun _ => (2, (((2 ^ 73 : Nat) : Int), 0))) := (bIA (d_Meters_shows W) h (n_Meters_shows W h)).yIF
theorem v_Meters_showss (W : bW G) (h : bRo G 73 k) : yIA G k 16 1 (1, ((-9223372036854775808), 9223372036854775807)) := bIA (d_Meters_showss W) h (n_Meters_showss W h)
theorem v_Meters_ranks (W : bW G) (h : bRo G 74 k) : yIA G k 16 0 (0, ((-2147483648), 2147483647)) := bIA (d_Meters_ranks W) h (n_Meters_ranks W h)
theorem w_Shorts_shape (W : bW G) (h : bRo G 75 k) : yFd G k 9 0 (2, (((2 ^ 51 : Nat) : Int), 0)) := bFd (d_Shorts W) h rfl
theorem w_Shorts_net (W : bW G) (h : bRo G 75 k) : yFd G k 9 1 (2, (((2 ^ 18 : Nat) : Int), 0)) := bFd (d_Shorts W) h rfl
theorem w_Shorts_solver (W : bW G) (h : bRo G 75 k) : yFd G k 9 2 (2, (((2 ^ 40 : Nat) : Int), 0)) := bFd (d_Shorts W) h rfl
theorem w_Shorts_taken (W : bW G) (h : bRo G 75 k) : yFd G k 9 3 (2, (((2 ^ 76 : Nat) : Int), 0)) := bFd (d_Shorts W) h rfl
theorem w_Shorts_known (W : bW G) (h : bRo G 75 k) : yFd G k 9 4 (0, (0, 1)) := bFd (d_Shorts W) h rfl
theorem w_Shorts_active (W : bW G) (h : bRo G 75 k) : yFd G k 9 5 (0, (0, 1)) := bFd (d_Shorts W) h rfl
theorem w_Shorts_grounded (W : bW G) (h : bRo G 75 k) : yFd G k 9 6 (0, (0, 1)) := bFd (d_Shorts W) h rfl
theorem w_Shorts_island (W : bW G) (h : bRo G 75 k) : yFd G k 9 7 (0, (0, 15)) := bFd (d_Shorts W) h rfl
theorem w_Shorts_place (W : bW G) (h : bRo G 75 k) : yFd G k 9 8 (0, (0, 16)) := bFd (d_Shorts W) h rfl
theorem w_Shorts_top1 (W : bW G) (h : bRo G 75 k) : yFd G k 9 9 (2, (((2 ^ 77 : Nat) : Int), 0)) := bFd (d_Shorts W) h rfl
theorem w_Shorts_top0 (W : bW G) (h : bRo G 75 k) : yFd G k 9 10 (2, (((2 ^ 77 : Nat) : Int), 0)) := bFd (d_Shorts W) h rfl
theorem w_Shorts_whole (W : bW G) (h : bRo G 75 k) : yFd G k 9 11 (2, (((2 ^ 78 : Nat) : Int), 0)) := bFd (d_Shorts W) h rfl
theorem w_Shorts_part (W : bW G) (h : bRo G 75 k) : yFd G k 9 12 (2, (((2 ^ 79 : Nat) : Int), 0)) := bFd (d_Shorts W) h rfl
theorem w_Shorts_below (W : bW G) (h : bRo G 75 k) : yFd G k 9 13 (2, (((2 ^ 35 : Nat) : Int), 0)) := bFd (d_Shorts W) h rfl
theorem w_Shorts_asked (W : bW G) (h : bRo G 75 k) : yFd G k 9 14 (2, (((2 ^ 79 : Nat) : Int), 0)) := bFd (d_Shorts W) h rfl
theorem w_Shorts_reach (W : bW G) (h : bRo G 75 k) : yFd G k 9 15 (2, (((2 ^ 80 : Nat) : Int), 0)) := bFd (d_Shorts W) h rfl
theorem w_Shorts_square (W : bW G) (h : bRo G 75 k) : yFd G k 9 16 (2, (((2 ^ 78 : Nat) : Int), 0)) := bFd (d_Shorts W) h rfl
theorem w_Shorts_help (W : bW G) (h : bRo G 75 k) : yFd G k 9 17 (2, (((2 ^ 71 : Nat) : Int), 0)) := bFd (d_Shorts W) h rfl
theorem w_Shorts_first (W : bW G) (h : bRo G 75 k) : yFd G k 9 18 (2, (((2 ^ 35 : Nat) : Int), 0)) := bFd (d_Shorts W) h rfl
theorem w_Shorts_second (W : bW G) (h : bRo G 75 k) : yFd G k 9 19 (2, (((2 ^ 35 : Nat) : Int), 0)) := bFd (d_Shorts W) h rfl
theorem v_Shorts_taken (W : bW G) (h : bRo G 76 k) : yIA G k 16 2 (0, (0, 1)) := bIA (d_Shorts_taken W) h (n_Shorts_taken W h)
theorem v_Big17 (W : bW G) (h : bRo G 77 k) : yIF G k 17 4 (fun _ => (2, (((2 ^ 35 : Nat) : Int), 0))) := (bIA (d_Big17 W) h (n_Big17 W h)).yIF
theorem v_Big2 (W : bW G) (h : bRo G 78 k) : yIF G k 2 4 (fun _ => (2, (((2 ^ 35 : Nat) : Int), 0))) := (bIA (d_Big2 W) h (n_Big2 W h)).yIF
theorem v_Big3 (W : bW G) (h : bRo G 79 k) : yIF G k 3 4 (fun _ => (2, (((2 ^ 35 : Nat) : Int), 0))) := (bIA (d_Big3 W) h (n_Big3 W h)).yIF
theorem v_Shorts_reach (W : bW G) (h : bRo G 80 k) : yIA G k 3 0 (0, ((-2147483648), 2147483647)) := bIA (d_Shorts_reach W) h (n_Shorts_reach W h)
theorem w_Relays_line (W : bW G) (h : bRo G 81 k) : yFd G k 6 0 (2, (((2 ^ 82 : Nat) : Int), 0)) := bFd (d_Relays W) h rfl
theorem w_Relays_end (W : bW G) (h : bRo G 81 k) : yFd G k 6 1 (2, (((2 ^ 83 : Nat) : Int), 0)) := bFd (d_Relays W) h rfl
theorem w_Relays_opens (W : bW G) (h : bRo G 81 k) : yFd G k 6 2 (2, (((2 ^ 84 : Nat) : Int), 0)) := bFd (d_Relays W) h rfl
theorem w_Relays_impedance (W : bW G) (h : bRo G 81 k) : yFd G k 6 3 (2, (((2 ^ 85 : Nat) : Int), 0)) := bFd (d_Relays W) h rfl
theorem w_Relays_rowCount (W : bW G) (h : bRo G 81 k) : yFd G k 6 4 (2, (((2 ^ 86 : Nat) : Int), 0)) := bFd (d_Relays W) h rfl
theorem w_Relays_setting (W : bW G) (h : bRo G 81 k) : yFd G k 6 5 (2, (((2 ^ 87 : Nat) : Int), 0)) := bFd (d_Relays W) h rfl
theorem w_Relays_delay (W : bW G) (h : bRo G 81 k) : yFd G k 6 6 (2, (((2 ^ 88 : Nat) : Int), 0)) := bFd (d_Relays W) h rfl
theorem w_Relays_count (W : bW G) (h : bRo G 81 k) : yFd G k 6 7 (0, (0, 16)) := bFd (d_Relays W) h rfl
theorem w_Relays_failing (W : bW G) (h : bRo G 81 k) : yFd G k 6 8 (2, (((2 ^ 89 : Nat) : Int), 0)) := bFd (d_Relays W) h rfl
theorem w_Relays_later (W : bW G) (h : bRo G 81 k) : yFd G k 6 9 (0, ((-2147483648), 2147483647)) := bFd (d_Relays W) h rfl
theorem w_Relays_running (W : bW G) (h : bRo G 81 k) : yFd G k 6 10 (0, (0, 1)) := bFd (d_Relays W) h rfl
theorem w_Relays_time (W : bW G) (h : bRo G 81 k) : yFd G k 6 11 (0, ((-2147483648), 2147483647)) := bFd (d_Relays W) h rfl
theorem w_Relays_net (W : bW G) (h : bRo G 81 k) : yFd G k 6 12 (2, (((2 ^ 18 : Nat) : Int), 0)) := bFd (d_Relays W) h rfl
theorem w_Relays_shorts (W : bW G) (h : bRo G 81 k) : yFd G k 6 13 (2, (((2 ^ 75 : Nat) : Int), 0)) := bFd (d_Relays W) h rfl
theorem w_Relays_tripAt (W : bW G) (h : bRo G 81 k) : yFd G k 6 14 (2, (((2 ^ 90 : Nat) : Int), 0)) := bFd (d_Relays W) h rfl
theorem w_Relays_openAt (W : bW G) (h : bRo G 81 k) : yFd G k 6 15 (2, (((2 ^ 91 : Nat) : Int), 0)) := bFd (d_Relays W) h rfl
theorem w_Relays_backupAt (W : bW G) (h : bRo G 81 k) : yFd G k 6 16 (2, (((2 ^ 92 : Nat) : Int), 0)) := bFd (d_Relays W) h rfl
theorem w_Relays_hasOrder (W : bW G) (h : bRo G 81 k) : yFd G k 6 17 (2, (((2 ^ 93 : Nat) : Int), 0)) := bFd (d_Relays W) h rfl
theorem w_Relays_opened (W : bW G) (h : bRo G 81 k) : yFd G k 6 18 (2, (((2 ^ 94 : Nat) : Int), 0)) := bFd (d_Relays W) h rfl
theorem w_Relays_openedCount (W : bW G) (h : bRo G 81 k) : yFd G k 6 19 (0, (0, 24)) := bFd (d_Relays W) h rfl
theorem v_Relays_line (W : bW G) (h : bRo G 82 k) : yIA G k 16 0 (0, (0, 19)) := bIA (d_Relays_line W) h (n_Relays_line W h)
theorem v_Relays_end (W : bW G) (h : bRo G 83 k) : yIA G k 16 0 (0, (0, 1)) := bIA (d_Relays_end W) h (n_Relays_end W h)
theorem v_Relays_opens (W : bW G) (h : bRo G 84 k) : yIA G k 16 0 (0, (0, 23)) := bIA (d_Relays_opens W) h (n_Relays_opens W h)
theorem v_Relays_impedance (W : bW G) (h : bRo G 85 k) : yIA G k 16 2 (0, (0, 1)) := bIA (d_Relays_impedance W) h (n_Relays_impedance W h)
theorem v_Relays_rowCount (W : bW G) (h : bRo G 86 k) : yIA G k 16 0 (0, (0, 4)) := bIA (d_Relays_rowCount W) h (n_Relays_rowCount W h)
theorem v_Relays_setting (W : bW G) (h : bRo G 87 k) : yIA G k 64 0 (0, ((-2147483648), 2147483647)) := bIA (d_Relays_setting W) h (n_Relays_setting W h)
theorem v_Relays_delay (W : bW G) (h : bRo G 88 k) : yIA G k 64 0 (0, ((-2147483648), 2147483647)) := bIA (d_Relays_delay W) h (n_Relays_delay W h)
theorem v_Relays_failing (W : bW G) (h : bRo G 89 k) : yIA G k 24 2 (0, (0, 1)) := bIA (d_Relays_failing W) h (n_Relays_failing W h)
theorem v_Relays_tripAt (W : bW G) (h : bRo G 90 k) : yIA G k 64 1 (1, ((-9223372036854775808), 9223372036854775807)) := bIA (d_Relays_tripAt W) h (n_Relays_tripAt W h)
theorem v_Relays_openAt (W : bW G) (h : bRo G 91 k) : yIA G k 24 1 (1, ((-9223372036854775808), 9223372036854775807)) := bIA (d_Relays_openAt W) h (n_Relays_openAt W h)
theorem v_Relays_backupAt (W : bW G) (h : bRo G 92 k) : yIA G k 24 1 (1, ((-9223372036854775808), 9223372036854775807)) := bIA (d_Relays_backupAt W) h (n_Relays_backupAt W h)
theorem v_Relays_hasOrder (W : bW G) (h : bRo G 93 k) : yIA G k 24 2 (0, (0, 1)) := bIA (d_Relays_hasOrder W) h (n_Relays_hasOrder W h)
theorem v_Relays_opened (W : bW G) (h : bRo G 94 k) : yIF G k 24 65 (fun _ => (2, (((2 ^ 95 : Nat) : Int), 0))) := (bIA (d_Relays_opened W) h (n_Relays_opened W h)).yIF
theorem v_Relays_openeds (W : bW G) (h : bRo G 95 k) : yIA G k 2 1 (1, ((-9223372036854775808), 9223372036854775807)) := bIA (d_Relays_openeds W) h (n_Relays_openeds W h)
theorem w_Dispatch_shape (W : bW G) (h : bRo G 96 k) : yFd G k 1 0 (2, (((2 ^ 51 : Nat) : Int), 0)) := bFd (d_Dispatch W) h rfl
theorem w_Dispatch_net (W : bW G) (h : bRo G 96 k) : yFd G k 1 1 (2, (((2 ^ 18 : Nat) : Int), 0)) := bFd (d_Dispatch W) h rfl
theorem w_Dispatch_solver (W : bW G) (h : bRo G 96 k) : yFd G k 1 2 (2, (((2 ^ 40 : Nat) : Int), 0)) := bFd (d_Dispatch W) h rfl
theorem w_Dispatch_parts (W : bW G) (h : bRo G 96 k) : yFd G k 1 3 (0, (0, 12)) := bFd (d_Dispatch W) h rfl
theorem w_Dispatch_machineOf (W : bW G) (h : bRo G 96 k) : yFd G k 1 4 (2, (((2 ^ 97 : Nat) : Int), 0)) := bFd (d_Dispatch W) h rfl
theorem w_Dispatch_costOf (W : bW G) (h : bRo G 96 k) : yFd G k 1 5 (2, (((2 ^ 98 : Nat) : Int), 0)) := bFd (d_Dispatch W) h rfl
theorem w_Dispatch_startOf (W : bW G) (h : bRo G 96 k) : yFd G k 1 6 (2, (((2 ^ 99 : Nat) : Int), 0)) := bFd (d_Dispatch W) h rfl
theorem w_Dispatch_turned (W : bW G) (h : bRo G 96 k) : yFd G k 1 7 (2, (((2 ^ 100 : Nat) : Int), 0)) := bFd (d_Dispatch W) h rfl
theorem w_Dispatch_most (W : bW G) (h : bRo G 96 k) : yFd G k 1 8 (2, (((2 ^ 101 : Nat) : Int), 0)) := bFd (d_Dispatch W) h rfl
theorem w_Dispatch_keeper (W : bW G) (h : bRo G 96 k) : yFd G k 1 9 (2, (((2 ^ 102 : Nat) : Int), 0)) := bFd (d_Dispatch W) h rfl
theorem w_Dispatch_rows (W : bW G) (h : bRo G 96 k) : yFd G k 1 10 (0, (0, 26)) := bFd (d_Dispatch W) h rfl
theorem w_Dispatch_columns (W : bW G) (h : bRo G 96 k) : yFd G k 1 11 (0, (0, 13)) := bFd (d_Dispatch W) h rfl
theorem w_Dispatch_rowVariable (W : bW G) (h : bRo G 96 k) : yFd G k 1 12 (2, (((2 ^ 103 : Nat) : Int), 0)) := bFd (d_Dispatch W) h rfl
theorem w_Dispatch_columnVariable (W : bW G) (h : bRo G 96 k) : yFd G k 1 13 (2, (((2 ^ 104 : Nat) : Int), 0)) := bFd (d_Dispatch W) h rfl
theorem w_Dispatch_cell (W : bW G) (h : bRo G 96 k) : yFd G k 1 14 (2, (((2 ^ 105 : Nat) : Int), 0)) := bFd (d_Dispatch W) h rfl
theorem w_Dispatch_common (W : bW G) (h : bRo G 96 k) : yFd G k 1 15 (2, (((2 ^ 35 : Nat) : Int), 0)) := bFd (d_Dispatch W) h rfl
theorem w_Dispatch_help (W : bW G) (h : bRo G 96 k) : yFd G k 1 16 (2, (((2 ^ 71 : Nat) : Int), 0)) := bFd (d_Dispatch W) h rfl
theorem w_Dispatch_best (W : bW G) (h : bRo G 96 k) : yFd G k 1 17 (2, (((2 ^ 106 : Nat) : Int), 0)) := bFd (d_Dispatch W) h rfl
theorem w_Dispatch_known (W : bW G) (h : bRo G 96 k) : yFd G k 1 18 (0, (0, 1)) := bFd (d_Dispatch W) h rfl
theorem w_Dispatch_found (W : bW G) (h : bRo G 96 k) : yFd G k 1 19 (0, (0, 1)) := bFd (d_Dispatch W) h rfl
theorem v_Dispatch_machineOf (W : bW G) (h : bRo G 97 k) : yIA G k 12 0 (0, (0, 5)) := bIA (d_Dispatch_machineOf W) h (n_Dispatch_machineOf W h)
theorem v_Dispatch_costOf (W : bW G) (h : bRo G 98 k) : yIA G k 12 0 (0, ((-2147483648), 2147483647)) := bIA (d_Dispatch_costOf W) h (n_Dispatch_costOf W h)
theorem v_Dispatch_startOf (W : bW G) (h : bRo G 99 k) : yIA G k 12 0 (0, ((-2147483648), 2147483647)) := bIA (d_Dispatch_startOf W) h (n_Dispatch_startOf W h)
theorem v_Dispatch_turned (W : bW G) (h : bRo G 100 k) : yIA G k 12 2 (0, (0, 1)) := bIA (d_Dispatch_turned W) h (n_Dispatch_turned W h)
theorem v_Dispatch_most (W : bW G) (h : bRo G 101 k) : yIA G k 32 0 (0, ((-2147483648), 2147483647)) := bIA (d_Dispatch_most W) h (n_Dispatch_most W h)
theorem v_Dispatch_keeper (W : bW G) (h : bRo G 102 k) : yIA G k 16 0 (0, ((-1), 11)) := bIA (d_Dispatch_keeper W) h (n_Dispatch_keeper W h)
theorem v_Dispatch_rowVariable (W : bW G) (h : bRo G 103 k) : yIA G k 26 0 (0, (0, 31)) := bIA (d_Dispatch_rowVariable W) h (n_Dispatch_rowVariable W h)
theorem v_Dispatch_columnVariable (W : bW G) (h : bRo G 104 k) : yIA G k 13 0 (0, (0, 31)) := bIA (d_Dispatch_columnVariable W) h (n_Dispatch_columnVariable W h)
theorem v_Big429 (W : bW G) (h : bRo G 105 k) : yIF G k 429 4 (fun _ => (2, (((2 ^ 35 : Nat) : Int), 0))) := (bIA (d_Big429 W) h (n_Big429 W h)).yIF
theorem v_Big8 (W : bW G) (h : bRo G 106 k) : yIF G k 8 4 (fun _ => (2, (((2 ^ 35 : Nat) : Int), 0))) := (bIA (d_Big8 W) h (n_Big8 W h)).yIF
theorem w_Rules_stages (W : bW G) (h : bRo G 107 k) : yFd G k 7 0 (2, (((2 ^ 61 : Nat) : Int), 0)) := bFd (d_Rules W) h rfl
theorem w_Rules_code (W : bW G) (h : bRo G 107 k) : yFd G k 7 1 (2, (((2 ^ 108 : Nat) : Int), 0)) := bFd (d_Rules W) h rfl
theorem w_Rules_draft (W : bW G) (h : bRo G 107 k) : yFd G k 7 2 (2, (((2 ^ 108 : Nat) : Int), 0)) := bFd (d_Rules W) h rfl
theorem w_Rules_drafted (W : bW G) (h : bRo G 107 k) : yFd G k 7 3 (0, (0, 2048)) := bFd (d_Rules W) h rfl
theorem w_Rules_waiting (W : bW G) (h : bRo G 107 k) : yFd G k 7 4 (2, (((2 ^ 109 : Nat) : Int), 0)) := bFd (d_Rules W) h rfl
theorem w_Rules_waitCount (W : bW G) (h : bRo G 107 k) : yFd G k 7 5 (0, (0, 64)) := bFd (d_Rules W) h rfl
theorem w_Rules_count (W : bW G) (h : bRo G 107 k) : yFd G k 7 6 (0, ((-2147483648), 2147483647)) := bFd (d_Rules W) h rfl
theorem w_Rules_steps (W : bW G) (h : bRo G 107 k) : yFd G k 7 7 (2, (((2 ^ 110 : Nat) : Int), 0)) := bFd (d_Rules W) h rfl
theorem w_Rules_draftSteps (W : bW G) (h : bRo G 107 k) : yFd G k 7 8 (2, (((2 ^ 110 : Nat) : Int), 0)) := bFd (d_Rules W) h rfl
theorem w_Rules_stepCount (W : bW G) (h : bRo G 107 k) : yFd G k 7 9 (0, (0, 24)) := bFd (d_Rules W) h rfl
theorem w_Rules_done (W : bW G) (h : bRo G 107 k) : yFd G k 7 10 (0, (0, 24)) := bFd (d_Rules W) h rfl
theorem w_Rules_stopped (W : bW G) (h : bRo G 107 k) : yFd G k 7 11 (0, ((-2147483648), 2147483647)) := bFd (d_Rules W) h rfl
theorem w_Rules_stoppedBy (W : bW G) (h : bRo G 107 k) : yFd G k 7 12 (0, ((-2147483648), 2147483647)) := bFd (d_Rules W) h rfl
theorem w_Rules_tried (W : bW G) (h : bRo G 107 k) : yFd G k 7 13 (2, (((2 ^ 111 : Nat) : Int), 0)) := bFd (d_Rules W) h rfl
theorem w_Rules_triedCount (W : bW G) (h : bRo G 107 k) : yFd G k 7 14 (0, (0, 8)) := bFd (d_Rules W) h rfl
theorem w_Rules_choice (W : bW G) (h : bRo G 107 k) : yFd G k 7 15 (2, (((2 ^ 112 : Nat) : Int), 0)) := bFd (d_Rules W) h rfl
theorem w_Rules_oversBySet (W : bW G) (h : bRo G 107 k) : yFd G k 7 16 (2, (((2 ^ 113 : Nat) : Int), 0)) := bFd (d_Rules W) h rfl
theorem w_Rules_leastLost (W : bW G) (h : bRo G 107 k) : yFd G k 7 17 (0, ((-2147483648), 2147483647)) := bFd (d_Rules W) h rfl
theorem w_Rules_found (W : bW G) (h : bRo G 107 k) : yFd G k 7 18 (2, (((2 ^ 114 : Nat) : Int), 0)) := bFd (d_Rules W) h rfl
theorem w_Rules_foundCount (W : bW G) (h : bRo G 107 k) : yFd G k 7 19 (0, (0, 4)) := bFd (d_Rules W) h rfl
theorem v_Rules_code (W : bW G) (h : bRo G 108 k) : yIA G k 2048 0 (0, ((-2147483648), 2147483647)) := bIA (d_Rules_code W) h (n_Rules_code W h)
theorem v_Rules_waiting (W : bW G) (h : bRo G 109 k) : yIA G k 64 0 (0, ((-2147483648), 2147483647)) := bIA (d_Rules_waiting W) h (n_Rules_waiting W h)
theorem v_Rules_steps (W : bW G) (h : bRo G 110 k) : yIA G k 24 0 (0, ((-2147483648), 2147483647)) := bIA (d_Rules_steps W) h (n_Rules_steps W h)
theorem v_Rules_tried (W : bW G) (h : bRo G 111 k) : yIA G k 8 0 (0, (0, 23)) := bIA (d_Rules_tried W) h (n_Rules_tried W h)
theorem v_Rules_choice (W : bW G) (h : bRo G 112 k) : yIA G k 4 0 (0, ((-1), 8)) := bIA (d_Rules_choice W) h (n_Rules_choice W h)
theorem v_Rules_oversBySet (W : bW G) (h : bRo G 113 k) : yIA G k 256 0 (0, ((-2147483648), 2147483647)) := bIA (d_Rules_oversBySet W) h (n_Rules_oversBySet W h)
theorem v_Rules_found (W : bW G) (h : bRo G 114 k) : yIA G k 4 0 (0, ((-2147483648), 2147483647)) := bIA (d_Rules_found W) h (n_Rules_found W h)
theorem w_FlowS_shape (W : bW G) (h : bRo G 115 k) : yFd G k 2 0 (2, (((2 ^ 51 : Nat) : Int), 0)) := bFd (d_FlowS W) h rfl
theorem w_FlowS_net (W : bW G) (h : bRo G 115 k) : yFd G k 2 1 (2, (((2 ^ 18 : Nat) : Int), 0)) := bFd (d_FlowS W) h rfl
theorem w_FlowS_solver (W : bW G) (h : bRo G 115 k) : yFd G k 2 2 (2, (((2 ^ 40 : Nat) : Int), 0)) := bFd (d_FlowS W) h rfl
theorem w_FlowS_gap (W : bW G) (h : bRo G 115 k) : yFd G k 2 3 (2, (((2 ^ 45 : Nat) : Int), 0)) := bFd (d_FlowS W) h rfl
theorem w_FlowS_total (W : bW G) (h : bRo G 115 k) : yFd G k 2 4 (2, (((2 ^ 46 : Nat) : Int), 0)) := bFd (d_FlowS W) h rfl
theorem w_FlowS_solvable (W : bW G) (h : bRo G 115 k) : yFd G k 2 5 (2, (((2 ^ 47 : Nat) : Int), 0)) := bFd (d_FlowS W) h rfl
theorem w_FlowS_stuck (W : bW G) (h : bRo G 115 k) : yFd G k 2 6 (2, (((2 ^ 48 : Nat) : Int), 0)) := bFd (d_FlowS W) h rfl
theorem w_FlowS_top (W : bW G) (h : bRo G 115 k) : yFd G k 2 7 (2, (((2 ^ 49 : Nat) : Int), 0)) := bFd (d_FlowS W) h rfl
theorem w_FlowS_whole (W : bW G) (h : bRo G 115 k) : yFd G k 2 8 (2, (((2 ^ 35 : Nat) : Int), 0)) := bFd (d_FlowS W) h rfl
theorem w_FlowS_one (W : bW G) (h : bRo G 115 k) : yFd G k 2 9 (2, (((2 ^ 35 : Nat) : Int), 0)) := bFd (d_FlowS W) h rfl
theorem w_FlowS_other (W : bW G) (h : bRo G 115 k) : yFd G k 2 10 (2, (((2 ^ 35 : Nat) : Int), 0)) := bFd (d_FlowS W) h rfl
theorem w_FlowS_solved (W : bW G) (h : bRo G 115 k) : yFd G k 2 11 (0, (0, 1)) := bFd (d_FlowS W) h rfl
theorem w_FlowS_stuckCount (W : bW G) (h : bRo G 115 k) : yFd G k 2 12 (0, ((-2147483648), 2147483647)) := bFd (d_FlowS W) h rfl
theorem w_FlowS_lost (W : bW G) (h : bRo G 115 k) : yFd G k 2 13 (0, ((-2147483648), 2147483647)) := bFd (d_FlowS W) h rfl
theorem w_FlowS_overs (W : bW G) (h : bRo G 115 k) : yFd G k 2 14 (0, ((-2147483648), 2147483647)) := bFd (d_FlowS W) h rfl
theorem w_FlowS_troubles (W : bW G) (h : bRo G 115 k) : yFd G k 2 15 (0, ((-1), 20)) := bFd (d_FlowS W) h rfl
theorem w_FlowS_troubleOf (W : bW G) (h : bRo G 115 k) : yFd G k 2 16 (2, (((2 ^ 50 : Nat) : Int), 0)) := bFd (d_FlowS W) h rfl
end BWorld
section BInvs
variable {G : zW} {a b : xH} {Wl : zWr}
/-- a meter that is not on a line is at a bar -/
def bMk (G : zW) (hp : xH) : Prop := ∀ q1 q2, bRo G 63 q1 → bRo G 64 q2 → ∀ m, m < 32 → 1 ≤ ys hp q1 m → ys hp q2 m ≤ 15
theorem bMk.fr (h : bMk G a) (hA : bAx G Wl a b) (hw : (bNo Wl 63 && bNo Wl 64) = true) : bMk G b := fun q1 q2 h1 h2 m hm => by
  obtain ⟨w1, w2⟩ := and_true' hw
  rw [hA.ys h1 (bNo_ok w1 m), hA.ys h2 (bNo_ok w2 m)]
  exact h q1 q2 h1 h2 m hm
/-- a short is at a bar or on a line -/
def bSh (G : zW) (hp : xH) : Prop := ∀ q, bRo G 18 q → 0 ≤ ys hp q 3 → 0 ≤ ys hp q 4 ∨ 0 ≤ ys hp q 5
theorem bSh.fr (h : bSh G a) (hA : bAx G Wl a b) (hw : (!(zwr Wl 18 3) && (!(zwr Wl 18 4) && !(zwr Wl 18 5))) = true) : bSh G b := fun q h1 => by
  obtain ⟨w1, w2⟩ := and_true' hw
  obtain ⟨w2, w3⟩ := and_true' w2
  rw [Bool.not_eq_true'] at w1 w2 w3
  rw [hA.ys h1 w1, hA.ys h1 w2, hA.ys h1 w3]
  exact h q h1
end BInvs
