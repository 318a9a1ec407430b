/-! ===== the reference: what is told of each of its cells ===== -/
def yW1 : List (Nat × zT) := [(0, (0, (0, 3))), (10, (0, (0, 40))), (11, (1, (0, 2147483647))), (15, (0, (0, 4000))), (18, (0, (0, 4000))), (19, (0, (0, 4000))), (20, (0, (0, 4000))), (21, (0, ((-1), 4000))), (38, (0, (0, 16))), (40, (0, (0, 1))), (45, (0, ((-2147483648), 2147483647))), (46, (0, ((-2147483648), 2147483647))), (47, (0, ((-2147483648), 2147483647))), (49, (0, (0, 1))), (50, (0, (0, 20))), (56, (0, (0, 32))), (62, (0, (0, 1))), (68, (0, (0, 1))), (69, (0, (0, 3))), (70, (0, (0, 1))), (71, (0, (0, 19))), (72, (0, (0, 15))), (73, (0, (0, 99))), (74, (0, (0, 1))), (75, (0, (0, 15))), (76, (0, (0, 1))), (77, (0, (0, 1))), (78, (0, (0, 16))), (87, (0, (0, 9999999))), (88, (0, (0, 1))), (89, (0, ((-1), 1))), (90, (0, (0, 1))), (91, (0, (0, 2147483647))), (100, (0, (0, 24))), (101, (0, (0, 2))), (102, (0, (0, 6))), (110, (0, (0, 42))), (111, (1, ((-1000000), 1000000))), (112, (0, (0, 15))), (113, (0, (0, 1))), (114, (0, (0, 12))), (118, (0, (0, 12))), (119, (0, (0, 2500))), (123, (0, (0, 24))), (135, (0, ((-1), 11))), (137, (0, (0, 3))), (140, (0, (0, 8))), (142, (0, ((-2147483648), 2147483647)))]
def yW2 : List (Nat × Nat) := [(7, 2080), (8, 2081), (9, 2082), (12, 2083), (13, 2084), (14, 2085), (16, 2086), (17, 2087), (22, 2088), (23, 2089), (24, 2090), (25, 2091), (26, 2092), (27, 2093), (28, 2094), (29, 2095), (30, 2096), (31, 2097), (32, 2098), (33, 2099), (34, 2100), (35, 2101), (36, 2102), (37, 2103), (39, 2104), (41, 2105), (42, 2106), (43, 2107), (44, 2108), (48, 2109), (51, 2110), (52, 2111), (53, 2112), (54, 2113), (55, 2114), (57, 2115), (58, 2116), (59, 2117), (60, 2118), (61, 2119), (63, 2120), (64, 2121), (65, 2122), (66, 2123), (67, 2124), (79, 2125), (80, 2126), (81, 2127), (82, 2128), (83, 2129), (84, 2130), (85, 2131), (86, 2132), (92, 2133), (93, 2134), (94, 2135), (95, 2136), (96, 2137), (97, 2138), (98, 2139), (99, 2140), (103, 2141), (104, 2142), (105, 2143), (106, 2144), (107, 2145), (108, 2146), (109, 2147), (115, 2148), (116, 2149), (117, 2150), (120, 2151), (121, 2152), (122, 2153), (124, 2154), (125, 2155), (126, 2156), (127, 2157), (128, 2158), (129, 2159), (130, 2160), (131, 2161), (132, 2162), (133, 2163), (134, 2164), (136, 2165), (138, 2166), (139, 2167), (141, 2168), (143, 2169), (144, 2170)]
def yW3 : List (Nat × (Nat × (Nat × zT))) := [(2080, (1600, (1, (1, (0, 2147483647))))), (2081, (7200, (1, (1, (0, 2147483647))))), (2082, (40, (0, (0, (0, 39))))), (2083, (960, (1, (1, (0, 2147483647))))), (2084, (40, (1, (1, (0, 2147483647))))), (2085, (4000, (0, (0, (0, 255))))), (2086, (4001, (0, (0, (0, 4000))))), (2087, (4001, (0, (0, (0, 4000))))), (2090, (960, (0, (0, (0, 255))))), (2091, (120, (0, (0, (0, 8))))), (2094, (960, (0, (0, (0, 255))))), (2095, (120, (0, (0, (0, 8))))), (2097, (3, (2, (0, (0, 1))))), (2098, (24, (0, (0, (0, 2))))), (2099, (20, (0, (0, (0, 1))))), (2100, (16, (0, (0, (0, 15))))), (2101, (16, (0, (0, (0, 15))))), (2102, (16, (2, (0, (0, 1))))), (2103, (16, (0, (0, (0, 15))))), (2104, (16, (0, (0, ((-1), 14))))), (2105, (16, (2, (0, (0, 1))))), (2106, (16, (1, (1, ((-9223372036854775808), 9223372036854775807))))), (2107, (16, (1, (1, ((-9223372036854775808), 9223372036854775807))))), (2108, (20, (2, (0, (0, 1))))), (2109, (16, (1, (1, ((-9223372036854775808), 9223372036854775807))))), (2110, (20, (2, (0, (0, 1))))), (2111, (20, (0, (0, (0, 19))))), (2112, (20, (0, (0, (0, 3))))), (2113, (20, (0, (0, ((-2147483648), 2147483647))))), (2114, (20, (0, (0, ((-2147483648), 2147483647))))), (2115, (32, (0, (0, (0, 2))))), (2116, (32, (0, (0, (0, 19))))), (2117, (32, (0, (0, ((-99999), 99999))))), (2118, (32, (0, (0, (0, 99))))), (2119, (32, (2, (0, (0, 1))))), (2120, (16, (2, (0, (0, 1))))), (2121, (16, (2, (0, (0, 1))))), (2122, (512, (1, (1, (0, 2147483647))))), (2123, (20, (1, (1, (0, 2147483647))))), (2124, (16, (0, (0, (0, 16))))), (2125, (16, (0, (0, (0, 19))))), (2126, (16, (0, (0, (0, 1))))), (2127, (16, (0, (0, (0, 23))))), (2128, (16, (0, (0, (0, 1))))), (2129, (16, (0, (0, (0, 4))))), (2130, (64, (0, (0, (0, 99999))))), (2131, (64, (0, (0, (0, 9999999))))), (2132, (24, (2, (0, (0, 1))))), (2133, (24, (0, (0, (0, 2))))), (2134, (24, (2, (0, (0, 1))))), (2135, (24, (1, (1, ((-1), 4294967295))))), (2136, (24, (1, (1, ((-1), 4294967295))))), (2137, (64, (1, (1, ((-1), 2147483647))))), (2138, (64, (2, (0, (0, 1))))), (2139, (24, (0, (0, (0, 23))))), (2140, (24, (0, (0, ((-2147483648), 2147483647))))), (2141, (6, (0, (0, (0, 5))))), (2142, (6, (0, (0, (0, 9999))))), (2143, (6, (0, (0, (0, 9999))))), (2144, (6, (0, (0, (0, 999))))), (2145, (6, (0, (0, (0, 5))))), (2146, (6, (0, (0, (0, 64))))), (2147, (36, (0, (0, (0, 5))))), (2148, (12, (0, (0, (0, 5))))), (2149, (13, (0, (0, (0, 2500))))), (2151, (12, (0, (0, (0, 5))))), (2152, (13, (0, (0, (0, 2500))))), (2154, (24, (0, (0, (0, 5))))), (2155, (24, (0, (0, (0, 23))))), (2156, (24, (0, (0, (0, 5))))), (2157, (24, (0, (0, (0, 23))))), (2159, (32, (0, (0, (0, 15))))), (2160, (32, (2, (0, (0, 1))))), (2161, (2, (0, (0, ((-2147483648), 2147483647))))), (2162, (2, (0, (0, ((-2147483648), 2147483647))))), (2163, (2, (0, (0, ((-2147483648), 2147483647))))), (2164, (2500, (2, (0, (0, 1))))), (2166, (3, (0, (0, (0, 23))))), (2167, (8, (0, (0, (0, 23))))), (2168, (3, (0, (0, (0, 23))))), (2169, (256, (0, (0, (0, 2))))), (2170, (256, (0, (0, ((-2147483648), 2147483647))))), (14, (40, (0, (0, (2147482801, 2147483647)))))]
def yfT (j : Nat) : zT := match j / 264, j % 264 % 11 with
  | 0, 0 => (0, (0, 1))
  | 1, 0 => (0, (0, 2))
  | 1, 1 => (0, (0, 999999))
  | 1, 2 => (0, (0, 1))
  | 1, 3 => (0, (0, 15))
  | 1, 4 => (0, (0, 15))
  | 2, 0 => (0, (0, 1))
  | 2, 1 => (0, (0, 99))
  | 2, 2 => (0, (0, 299))
  | 2, 3 => (0, (0, 9999))
  | 2, 4 => (0, (0, 15))
  | 2, 5 => (0, (0, 15))
  | 3, 0 => (0, (0, 1))
  | 3, 1 => (0, (0, 9999))
  | 3, 2 => (0, (0, 99))
  | 3, 3 => (0, (0, 299))
  | 3, 4 => (0, (0, 9999))
  | 3, 5 => (0, (0, 9999))
  | 3, 6 => (0, (0, 999))
  | 3, 7 => (0, (0, 9999))
  | 3, 8 => (0, (0, 999))
  | 3, 9 => (0, (0, 9))
  | 3, 10 => (0, (0, 15))
  | 4, 0 => (0, (0, 9999))
  | 4, 1 => (0, (0, 15))
  | _, _ => (0, (0, 0))
def ynT (j : Nat) : zT := match j / 264, j % 264 % 11 with
  | 0, 0 => (0, (0, 1))
  | 1, 0 => (0, (0, 2))
  | 1, 1 => (0, (0, 999999))
  | 1, 2 => (0, (0, 1))
  | 1, 3 => (0, ((-1), 15))
  | 1, 4 => (0, ((-1), 15))
  | 2, 0 => (0, (0, 1))
  | 2, 1 => (0, (0, 99))
  | 2, 2 => (0, (0, 299))
  | 2, 3 => (0, (0, 9999))
  | 2, 4 => (0, ((-1), 15))
  | 2, 5 => (0, ((-1), 15))
  | 3, 0 => (0, (0, 1))
  | 3, 1 => (0, (0, 9999))
  | 3, 2 => (0, (0, 99))
  | 3, 3 => (0, (0, 299))
  | 3, 4 => (0, (0, 9999))
  | 3, 5 => (0, (0, 9999))
  | 3, 6 => (0, (0, 999))
  | 3, 7 => (0, (0, 9999))
  | 3, 8 => (0, (0, 999))
  | 3, 9 => (0, (0, 9))
  | 3, 10 => (0, ((-1), 15))
  | 4, 0 => (0, (0, 9999))
  | 4, 1 => (0, ((-1), 15))
  | _, _ => (0, (0, 0))
def ycT (j : Nat) : zT := match j with
  | 0 => (0, (0, 16))
  | 1 => (0, (0, 24))
  | 2 => (0, (0, 20))
  | 3 => (0, (0, 6))
  | 4 => (0, (0, 12))
  | _ => (0, (0, 0))
def yoT (j : Nat) : zT := match j % 4 with
  | 0 => (0, (0, 11))
  | 1 => (0, (0, 1))
  | 2 => (0, ((-3), 23))
  | _ => (0, (0, 999999))
/-- a text: its row, how many letters -/
def yTX (G : zW) (k j n : Nat) : Prop := k < G.2.2.1 ∧ xget G.1 (zro G k) = .inr (.inr 1) ∧ zat G k = j ∧ yIA G j n 3 (0, (0, 127))
def yW4 : List (Nat × (Nat × Nat)) := [(15, (16, 96)), (17, (18, 63)), (19, (20, 160)), (21, (22, 3)), (23, (24, 6)), (25, (26, 4)), (27, (28, 7)), (29, (30, 4)), (31, (32, 1)), (33, (34, 6)), (35, (36, 4)), (37, (38, 5)), (39, (40, 5)), (41, (42, 4)), (43, (44, 3)), (45, (46, 5)), (47, (48, 2)), (49, (50, 4)), (51, (52, 2)), (53, (54, 2)), (55, (56, 3)), (57, (58, 3)), (59, (60, 1)), (61, (62, 1)), (63, (64, 4)), (65, (66, 6)), (67, (68, 4)), (69, (70, 7)), (71, (72, 6)), (73, (74, 4)), (75, (76, 4)), (77, (78, 5)), (79, (80, 5)), (81, (82, 5)), (83, (84, 2)), (85, (86, 2)), (87, (88, 2))]
def yWW (G : zW) : Prop := yMW G ∧ (∀ q ∈ yW1, yFd G 2073 13 q.1 q.2) ∧ (∀ q ∈ yW2, yFR G 2073 13 q.1 q.2) ∧ (∀ q ∈ yW3, yIA G q.1 q.2.1 q.2.2.1 q.2.2.2) ∧ yIF G 2088 5 0 ycT ∧ yIF G 2089 1320 0 yfT ∧ yIF G 2092 5 0 ycT ∧ yIF G 2093 1320 0 ynT ∧ yIF G 2096 3960 0 (fun j => yfT (j % 1320)) ∧ yIF G 2150 10000 0 yoT ∧ yIF G 2153 10000 0 yoT ∧ yIF G 2158 2640 0 (fun j => yfT (j % 1320)) ∧ yIF G 2165 1320 0 yfT ∧ (∀ q ∈ yW4, yTX G q.1 q.2.1 q.2.2)
section YWorld
variable {G : zW}
theorem w_thrown (W : yWW G) : yFd G 2073 13 0 (0, (0, 3)) := W.2.1 (0, (0, (0, 3))) (List.mem_of_getElem? (i := 0) rfl)
theorem w_usedCount (W : yWW G) : yFd G 2073 13 10 (0, (0, 40)) := W.2.1 (10, (0, (0, 40))) (List.mem_of_getElem? (i := 1) rfl)
theorem w_p (W : yWW G) : yFd G 2073 13 11 (1, (0, 2147483647)) := W.2.1 (11, (1, (0, 2147483647))) (List.mem_of_getElem? (i := 2) rfl)
theorem w_taped (W : yWW G) : yFd G 2073 13 15 (0, (0, 4000)) := W.2.1 (15, (0, (0, 4000))) (List.mem_of_getElem? (i := 3) rfl)
theorem w_words (W : yWW G) : yFd G 2073 13 18 (0, (0, 4000)) := W.2.1 (18, (0, (0, 4000))) (List.mem_of_getElem? (i := 4) rfl)
theorem w_at (W : yWW G) : yFd G 2073 13 19 (0, (0, 4000)) := W.2.1 (19, (0, (0, 4000))) (List.mem_of_getElem? (i := 5) rfl)
theorem w_textSize (W : yWW G) : yFd G 2073 13 20 (0, (0, 4000)) := W.2.1 (20, (0, (0, 4000))) (List.mem_of_getElem? (i := 6) rfl)
theorem w_fault (W : yWW G) : yFd G 2073 13 21 (0, ((-1), 4000)) := W.2.1 (21, (0, ((-1), 4000))) (List.mem_of_getElem? (i := 7) rfl)
theorem w_nodes (W : yWW G) : yFd G 2073 13 38 (0, (0, 16)) := W.2.1 (38, (0, (0, 16))) (List.mem_of_getElem? (i := 8) rfl)
theorem w_hasFlows (W : yWW G) : yFd G 2073 13 40 (0, (0, 1)) := W.2.1 (40, (0, (0, 1))) (List.mem_of_getElem? (i := 9) rfl)
theorem w_overCount (W : yWW G) : yFd G 2073 13 45 (0, ((-2147483648), 2147483647)) := W.2.1 (45, (0, ((-2147483648), 2147483647))) (List.mem_of_getElem? (i := 10) rfl)
theorem w_stuckCount (W : yWW G) : yFd G 2073 13 46 (0, ((-2147483648), 2147483647)) := W.2.1 (46, (0, ((-2147483648), 2147483647))) (List.mem_of_getElem? (i := 11) rfl)
theorem w_lost (W : yWW G) : yFd G 2073 13 47 (0, ((-2147483648), 2147483647)) := W.2.1 (47, (0, ((-2147483648), 2147483647))) (List.mem_of_getElem? (i := 12) rfl)
theorem w_hasTroubles (W : yWW G) : yFd G 2073 13 49 (0, (0, 1)) := W.2.1 (49, (0, (0, 1))) (List.mem_of_getElem? (i := 13) rfl)
theorem w_troubles (W : yWW G) : yFd G 2073 13 50 (0, (0, 20)) := W.2.1 (50, (0, (0, 20))) (List.mem_of_getElem? (i := 14) rfl)
theorem w_meters (W : yWW G) : yFd G 2073 13 56 (0, (0, 32)) := W.2.1 (56, (0, (0, 32))) (List.mem_of_getElem? (i := 15) rfl)
theorem w_hasEstimates (W : yWW G) : yFd G 2073 13 62 (0, (0, 1)) := W.2.1 (62, (0, (0, 1))) (List.mem_of_getElem? (i := 16) rfl)
theorem w_hasShort (W : yWW G) : yFd G 2073 13 68 (0, (0, 1)) := W.2.1 (68, (0, (0, 1))) (List.mem_of_getElem? (i := 17) rfl)
theorem w_shortKind (W : yWW G) : yFd G 2073 13 69 (0, (0, 3)) := W.2.1 (69, (0, (0, 3))) (List.mem_of_getElem? (i := 18) rfl)
theorem w_isOnLine (W : yWW G) : yFd G 2073 13 70 (0, (0, 1)) := W.2.1 (70, (0, (0, 1))) (List.mem_of_getElem? (i := 19) rfl)
theorem w_shortPlace (W : yWW G) : yFd G 2073 13 71 (0, (0, 19)) := W.2.1 (71, (0, (0, 19))) (List.mem_of_getElem? (i := 20) rfl)
theorem w_shortK (W : yWW G) : yFd G 2073 13 72 (0, (0, 15)) := W.2.1 (72, (0, (0, 15))) (List.mem_of_getElem? (i := 21) rfl)
theorem w_shortZ (W : yWW G) : yFd G 2073 13 73 (0, (0, 99)) := W.2.1 (73, (0, (0, 99))) (List.mem_of_getElem? (i := 22) rfl)
theorem w_isVoid (W : yWW G) : yFd G 2073 13 74 (0, (0, 1)) := W.2.1 (74, (0, (0, 1))) (List.mem_of_getElem? (i := 23) rfl)
theorem w_shortIsland (W : yWW G) : yFd G 2073 13 75 (0, (0, 15)) := W.2.1 (75, (0, (0, 15))) (List.mem_of_getElem? (i := 24) rfl)
theorem w_hasZero (W : yWW G) : yFd G 2073 13 76 (0, (0, 1)) := W.2.1 (76, (0, (0, 1))) (List.mem_of_getElem? (i := 25) rfl)
theorem w_hasNetShort (W : yWW G) : yFd G 2073 13 77 (0, (0, 1)) := W.2.1 (77, (0, (0, 1))) (List.mem_of_getElem? (i := 26) rfl)
theorem w_relays (W : yWW G) : yFd G 2073 13 78 (0, (0, 16)) := W.2.1 (78, (0, (0, 16))) (List.mem_of_getElem? (i := 27) rfl)
theorem w_back (W : yWW G) : yFd G 2073 13 87 (0, (0, 9999999)) := W.2.1 (87, (0, (0, 9999999))) (List.mem_of_getElem? (i := 28) rfl)
theorem w_isB (W : yWW G) : yFd G 2073 13 88 (0, (0, 1)) := W.2.1 (88, (0, (0, 1))) (List.mem_of_getElem? (i := 29) rfl)
theorem w_signOfOne (W : yWW G) : yFd G 2073 13 89 (0, ((-1), 1)) := W.2.1 (89, (0, ((-1), 1))) (List.mem_of_getElem? (i := 30) rfl)
theorem w_hasRun (W : yWW G) : yFd G 2073 13 90 (0, (0, 1)) := W.2.1 (90, (0, (0, 1))) (List.mem_of_getElem? (i := 31) rfl)
theorem w_runTime (W : yWW G) : yFd G 2073 13 91 (0, (0, 2147483647)) := W.2.1 (91, (0, (0, 2147483647))) (List.mem_of_getElem? (i := 32) rfl)
theorem w_openedCount (W : yWW G) : yFd G 2073 13 100 (0, (0, 24)) := W.2.1 (100, (0, (0, 24))) (List.mem_of_getElem? (i := 33) rfl)
theorem w_hasDispatch (W : yWW G) : yFd G 2073 13 101 (0, (0, 2)) := W.2.1 (101, (0, (0, 2))) (List.mem_of_getElem? (i := 34) rfl)
theorem w_machines (W : yWW G) : yFd G 2073 13 102 (0, (0, 6)) := W.2.1 (102, (0, (0, 6))) (List.mem_of_getElem? (i := 35) rfl)
theorem w_lineRows (W : yWW G) : yFd G 2073 13 110 (0, (0, 42)) := W.2.1 (110, (0, (0, 42))) (List.mem_of_getElem? (i := 36) rfl)
theorem w_demand (W : yWW G) : yFd G 2073 13 111 (1, ((-1000000), 1000000)) := W.2.1 (111, (1, ((-1000000), 1000000))) (List.mem_of_getElem? (i := 37) rfl)
theorem w_moreAt (W : yWW G) : yFd G 2073 13 112 (0, (0, 15)) := W.2.1 (112, (0, (0, 15))) (List.mem_of_getElem? (i := 38) rfl)
theorem w_moreBy (W : yWW G) : yFd G 2073 13 113 (0, (0, 1)) := W.2.1 (113, (0, (0, 1))) (List.mem_of_getElem? (i := 39) rfl)
theorem w_ruleCount (W : yWW G) : yFd G 2073 13 114 (0, (0, 12)) := W.2.1 (114, (0, (0, 12))) (List.mem_of_getElem? (i := 40) rfl)
theorem w_newRules (W : yWW G) : yFd G 2073 13 118 (0, (0, 12)) := W.2.1 (118, (0, (0, 12))) (List.mem_of_getElem? (i := 41) rfl)
theorem w_codes (W : yWW G) : yFd G 2073 13 119 (0, (0, 2500)) := W.2.1 (119, (0, (0, 2500))) (List.mem_of_getElem? (i := 42) rfl)
theorem w_steps (W : yWW G) : yFd G 2073 13 123 (0, (0, 24)) := W.2.1 (123, (0, (0, 24))) (List.mem_of_getElem? (i := 43) rfl)
theorem w_barredBy (W : yWW G) : yFd G 2073 13 135 (0, ((-1), 11)) := W.2.1 (135, (0, ((-1), 11))) (List.mem_of_getElem? (i := 44) rfl)
theorem w_restored (W : yWW G) : yFd G 2073 13 137 (0, (0, 3)) := W.2.1 (137, (0, (0, 3))) (List.mem_of_getElem? (i := 45) rfl)
theorem w_openCount (W : yWW G) : yFd G 2073 13 140 (0, (0, 8)) := W.2.1 (140, (0, (0, 8))) (List.mem_of_getElem? (i := 46) rfl)
theorem w_bestLost (W : yWW G) : yFd G 2073 13 142 (0, ((-2147483648), 2147483647)) := W.2.1 (142, (0, ((-2147483648), 2147483647))) (List.mem_of_getElem? (i := 47) rfl)
theorem r_inverseOf (W : yWW G) : yFR G 2073 13 7 2080 := W.2.2.1 (7, 2080) (List.mem_of_getElem? (i := 0) rfl)
theorem r_residue (W : yWW G) : yFR G 2073 13 8 2081 := W.2.2.1 (8, 2081) (List.mem_of_getElem? (i := 1) rfl)
theorem r_used (W : yWW G) : yFR G 2073 13 9 2082 := W.2.2.1 (9, 2082) (List.mem_of_getElem? (i := 2) rfl)
theorem r_matrix (W : yWW G) : yFR G 2073 13 12 2083 := W.2.2.1 (12, 2083) (List.mem_of_getElem? (i := 3) rfl)
theorem r_mixed (W : yWW G) : yFR G 2073 13 13 2084 := W.2.2.1 (13, 2084) (List.mem_of_getElem? (i := 4) rfl)
theorem r_tape (W : yWW G) : yFR G 2073 13 14 2085 := W.2.2.1 (14, 2085) (List.mem_of_getElem? (i := 5) rfl)
theorem r_wordAt (W : yWW G) : yFR G 2073 13 16 2086 := W.2.2.1 (16, 2086) (List.mem_of_getElem? (i := 6) rfl)
theorem r_wordSize (W : yWW G) : yFR G 2073 13 17 2087 := W.2.2.1 (17, 2087) (List.mem_of_getElem? (i := 7) rfl)
theorem r_count (W : yWW G) : yFR G 2073 13 22 2088 := W.2.2.1 (22, 2088) (List.mem_of_getElem? (i := 8) rfl)
theorem r_field (W : yWW G) : yFR G 2073 13 23 2089 := W.2.2.1 (23, 2089) (List.mem_of_getElem? (i := 9) rfl)
theorem r_name (W : yWW G) : yFR G 2073 13 24 2090 := W.2.2.1 (24, 2090) (List.mem_of_getElem? (i := 10) rfl)
theorem r_nameSize (W : yWW G) : yFR G 2073 13 25 2091 := W.2.2.1 (25, 2091) (List.mem_of_getElem? (i := 11) rfl)
theorem r_newCount (W : yWW G) : yFR G 2073 13 26 2092 := W.2.2.1 (26, 2092) (List.mem_of_getElem? (i := 12) rfl)
theorem r_newField (W : yWW G) : yFR G 2073 13 27 2093 := W.2.2.1 (27, 2093) (List.mem_of_getElem? (i := 13) rfl)
theorem r_newName (W : yWW G) : yFR G 2073 13 28 2094 := W.2.2.1 (28, 2094) (List.mem_of_getElem? (i := 14) rfl)
theorem r_newSize (W : yWW G) : yFR G 2073 13 29 2095 := W.2.2.1 (29, 2095) (List.mem_of_getElem? (i := 15) rfl)
theorem r_kept (W : yWW G) : yFR G 2073 13 30 2096 := W.2.2.1 (30, 2096) (List.mem_of_getElem? (i := 16) rfl)
theorem r_isKept (W : yWW G) : yFR G 2073 13 31 2097 := W.2.2.1 (31, 2097) (List.mem_of_getElem? (i := 17) rfl)
theorem r_stateNow (W : yWW G) : yFR G 2073 13 32 2098 := W.2.2.1 (32, 2098) (List.mem_of_getElem? (i := 18) rfl)
theorem r_inNow (W : yWW G) : yFR G 2073 13 33 2099 := W.2.2.1 (33, 2099) (List.mem_of_getElem? (i := 19) rfl)
theorem r_node (W : yWW G) : yFR G 2073 13 34 2100 := W.2.2.1 (34, 2100) (List.mem_of_getElem? (i := 20) rfl)
theorem r_island (W : yWW G) : yFR G 2073 13 35 2101 := W.2.2.1 (35, 2101) (List.mem_of_getElem? (i := 21) rfl)
theorem r_isLive (W : yWW G) : yFR G 2073 13 36 2102 := W.2.2.1 (36, 2102) (List.mem_of_getElem? (i := 22) rfl)
theorem r_nodeAt (W : yWW G) : yFR G 2073 13 37 2103 := W.2.2.1 (37, 2103) (List.mem_of_getElem? (i := 23) rfl)
theorem r_placeOf (W : yWW G) : yFR G 2073 13 39 2104 := W.2.2.1 (39, 2104) (List.mem_of_getElem? (i := 24) rfl)
theorem r_isStuck (W : yWW G) : yFR G 2073 13 41 2105 := W.2.2.1 (41, 2105) (List.mem_of_getElem? (i := 25) rfl)
theorem r_lack (W : yWW G) : yFR G 2073 13 42 2106 := W.2.2.1 (42, 2106) (List.mem_of_getElem? (i := 26) rfl)
theorem r_share (W : yWW G) : yFR G 2073 13 43 2107 := W.2.2.1 (43, 2107) (List.mem_of_getElem? (i := 27) rfl)
theorem r_isOver (W : yWW G) : yFR G 2073 13 44 2108 := W.2.2.1 (44, 2108) (List.mem_of_getElem? (i := 28) rfl)
theorem r_putIn (W : yWW G) : yFR G 2073 13 48 2109 := W.2.2.1 (48, 2109) (List.mem_of_getElem? (i := 29) rfl)
theorem r_isScreened (W : yWW G) : yFR G 2073 13 51 2110 := W.2.2.1 (51, 2110) (List.mem_of_getElem? (i := 30) rfl)
theorem r_troubleLine (W : yWW G) : yFR G 2073 13 52 2111 := W.2.2.1 (52, 2111) (List.mem_of_getElem? (i := 31) rfl)
theorem r_troubleSort (W : yWW G) : yFR G 2073 13 53 2112 := W.2.2.1 (53, 2112) (List.mem_of_getElem? (i := 32) rfl)
theorem r_troubleLost (W : yWW G) : yFR G 2073 13 54 2113 := W.2.2.1 (54, 2113) (List.mem_of_getElem? (i := 33) rfl)
theorem r_troubleOver (W : yWW G) : yFR G 2073 13 55 2114 := W.2.2.1 (55, 2114) (List.mem_of_getElem? (i := 34) rfl)
theorem r_meterKind (W : yWW G) : yFR G 2073 13 57 2115 := W.2.2.1 (57, 2115) (List.mem_of_getElem? (i := 35) rfl)
theorem r_meterAt (W : yWW G) : yFR G 2073 13 58 2116 := W.2.2.1 (58, 2116) (List.mem_of_getElem? (i := 36) rfl)
theorem r_meterValue (W : yWW G) : yFR G 2073 13 59 2117 := W.2.2.1 (59, 2117) (List.mem_of_getElem? (i := 37) rfl)
theorem r_meterWeight (W : yWW G) : yFR G 2073 13 60 2118 := W.2.2.1 (60, 2118) (List.mem_of_getElem? (i := 38) rfl)
theorem r_isStruck (W : yWW G) : yFR G 2073 13 61 2119 := W.2.2.1 (61, 2119) (List.mem_of_getElem? (i := 39) rfl)
theorem r_isWhole (W : yWW G) : yFR G 2073 13 63 2120 := W.2.2.1 (63, 2120) (List.mem_of_getElem? (i := 40) rfl)
theorem r_isSeen (W : yWW G) : yFR G 2073 13 64 2121 := W.2.2.1 (64, 2121) (List.mem_of_getElem? (i := 41) rfl)
theorem r_shows (W : yWW G) : yFR G 2073 13 65 2122 := W.2.2.1 (65, 2122) (List.mem_of_getElem? (i := 42) rfl)
theorem r_conductance (W : yWW G) : yFR G 2073 13 66 2123 := W.2.2.1 (66, 2123) (List.mem_of_getElem? (i := 43) rfl)
theorem r_rankWith (W : yWW G) : yFR G 2073 13 67 2124 := W.2.2.1 (67, 2124) (List.mem_of_getElem? (i := 44) rfl)
theorem r_relayLine (W : yWW G) : yFR G 2073 13 79 2125 := W.2.2.1 (79, 2125) (List.mem_of_getElem? (i := 45) rfl)
theorem r_relayEnd (W : yWW G) : yFR G 2073 13 80 2126 := W.2.2.1 (80, 2126) (List.mem_of_getElem? (i := 46) rfl)
theorem r_relaySwitch (W : yWW G) : yFR G 2073 13 81 2127 := W.2.2.1 (81, 2127) (List.mem_of_getElem? (i := 47) rfl)
theorem r_relayKind (W : yWW G) : yFR G 2073 13 82 2128 := W.2.2.1 (82, 2128) (List.mem_of_getElem? (i := 48) rfl)
theorem r_rowCount (W : yWW G) : yFR G 2073 13 83 2129 := W.2.2.1 (83, 2129) (List.mem_of_getElem? (i := 49) rfl)
theorem r_setting (W : yWW G) : yFR G 2073 13 84 2130 := W.2.2.1 (84, 2130) (List.mem_of_getElem? (i := 50) rfl)
theorem r_delay (W : yWW G) : yFR G 2073 13 85 2131 := W.2.2.1 (85, 2131) (List.mem_of_getElem? (i := 51) rfl)
theorem r_doesFail (W : yWW G) : yFR G 2073 13 86 2132 := W.2.2.1 (86, 2132) (List.mem_of_getElem? (i := 52) rfl)
theorem r_runState (W : yWW G) : yFR G 2073 13 92 2133 := W.2.2.1 (92, 2133) (List.mem_of_getElem? (i := 53) rfl)
theorem r_hasOrder (W : yWW G) : yFR G 2073 13 93 2134 := W.2.2.1 (93, 2134) (List.mem_of_getElem? (i := 54) rfl)
theorem r_opensAt (W : yWW G) : yFR G 2073 13 94 2135 := W.2.2.1 (94, 2135) (List.mem_of_getElem? (i := 55) rfl)
theorem r_backupAt (W : yWW G) : yFR G 2073 13 95 2136 := W.2.2.1 (95, 2136) (List.mem_of_getElem? (i := 56) rfl)
theorem r_since (W : yWW G) : yFR G 2073 13 96 2137 := W.2.2.1 (96, 2137) (List.mem_of_getElem? (i := 57) rfl)
theorem r_hasTripped (W : yWW G) : yFR G 2073 13 97 2138 := W.2.2.1 (97, 2138) (List.mem_of_getElem? (i := 58) rfl)
theorem r_openedSwitch (W : yWW G) : yFR G 2073 13 98 2139 := W.2.2.1 (98, 2139) (List.mem_of_getElem? (i := 59) rfl)
theorem r_openedAt (W : yWW G) : yFR G 2073 13 99 2140 := W.2.2.1 (99, 2140) (List.mem_of_getElem? (i := 60) rfl)
theorem r_machineAt (W : yWW G) : yFR G 2073 13 103 2141 := W.2.2.1 (103, 2141) (List.mem_of_getElem? (i := 61) rfl)
theorem r_low (W : yWW G) : yFR G 2073 13 104 2142 := W.2.2.1 (104, 2142) (List.mem_of_getElem? (i := 62) rfl)
theorem r_high (W : yWW G) : yFR G 2073 13 105 2143 := W.2.2.1 (105, 2143) (List.mem_of_getElem? (i := 63) rfl)
theorem r_slope (W : yWW G) : yFR G 2073 13 106 2144 := W.2.2.1 (106, 2144) (List.mem_of_getElem? (i := 64) rfl)
theorem r_dimensions (W : yWW G) : yFR G 2073 13 107 2145 := W.2.2.1 (107, 2145) (List.mem_of_getElem? (i := 65) rfl)
theorem r_rowsAt (W : yWW G) : yFR G 2073 13 108 2146 := W.2.2.1 (108, 2146) (List.mem_of_getElem? (i := 66) rfl)
theorem r_machineOf (W : yWW G) : yFR G 2073 13 109 2147 := W.2.2.1 (109, 2147) (List.mem_of_getElem? (i := 67) rfl)
theorem r_ruleAct (W : yWW G) : yFR G 2073 13 115 2148 := W.2.2.1 (115, 2148) (List.mem_of_getElem? (i := 68) rfl)
theorem r_ruleFrom (W : yWW G) : yFR G 2073 13 116 2149 := W.2.2.1 (116, 2149) (List.mem_of_getElem? (i := 69) rfl)
theorem r_code (W : yWW G) : yFR G 2073 13 117 2150 := W.2.2.1 (117, 2150) (List.mem_of_getElem? (i := 70) rfl)
theorem r_newAct (W : yWW G) : yFR G 2073 13 120 2151 := W.2.2.1 (120, 2151) (List.mem_of_getElem? (i := 71) rfl)
theorem r_newFrom (W : yWW G) : yFR G 2073 13 121 2152 := W.2.2.1 (121, 2152) (List.mem_of_getElem? (i := 72) rfl)
theorem r_newCode (W : yWW G) : yFR G 2073 13 122 2153 := W.2.2.1 (122, 2153) (List.mem_of_getElem? (i := 73) rfl)
theorem r_stepAct (W : yWW G) : yFR G 2073 13 124 2154 := W.2.2.1 (124, 2154) (List.mem_of_getElem? (i := 74) rfl)
theorem r_stepOf (W : yWW G) : yFR G 2073 13 125 2155 := W.2.2.1 (125, 2155) (List.mem_of_getElem? (i := 75) rfl)
theorem r_newStepAct (W : yWW G) : yFR G 2073 13 126 2156 := W.2.2.1 (126, 2156) (List.mem_of_getElem? (i := 76) rfl)
theorem r_newStepOf (W : yWW G) : yFR G 2073 13 127 2157 := W.2.2.1 (127, 2157) (List.mem_of_getElem? (i := 77) rfl)
theorem r_seenField (W : yWW G) : yFR G 2073 13 128 2158 := W.2.2.1 (128, 2158) (List.mem_of_getElem? (i := 78) rfl)
theorem r_seenNode (W : yWW G) : yFR G 2073 13 129 2159 := W.2.2.1 (129, 2159) (List.mem_of_getElem? (i := 79) rfl)
theorem r_seenLive (W : yWW G) : yFR G 2073 13 130 2160 := W.2.2.1 (130, 2160) (List.mem_of_getElem? (i := 80) rfl)
theorem r_seenLost (W : yWW G) : yFR G 2073 13 131 2161 := W.2.2.1 (131, 2161) (List.mem_of_getElem? (i := 81) rfl)
theorem r_seenOver (W : yWW G) : yFR G 2073 13 132 2162 := W.2.2.1 (132, 2162) (List.mem_of_getElem? (i := 82) rfl)
theorem r_seenLoops (W : yWW G) : yFR G 2073 13 133 2163 := W.2.2.1 (133, 2163) (List.mem_of_getElem? (i := 83) rfl)
theorem r_pile (W : yWW G) : yFR G 2073 13 134 2164 := W.2.2.1 (134, 2164) (List.mem_of_getElem? (i := 84) rfl)
theorem r_fieldsBefore (W : yWW G) : yFR G 2073 13 136 2165 := W.2.2.1 (136, 2165) (List.mem_of_getElem? (i := 85) rfl)
theorem r_restoredSwitch (W : yWW G) : yFR G 2073 13 138 2166 := W.2.2.1 (138, 2166) (List.mem_of_getElem? (i := 86) rfl)
theorem r_openSwitch (W : yWW G) : yFR G 2073 13 139 2167 := W.2.2.1 (139, 2167) (List.mem_of_getElem? (i := 87) rfl)
theorem r_row (W : yWW G) : yFR G 2073 13 141 2168 := W.2.2.1 (141, 2168) (List.mem_of_getElem? (i := 88) rfl)
theorem r_isWell (W : yWW G) : yFR G 2073 13 143 2169 := W.2.2.1 (143, 2169) (List.mem_of_getElem? (i := 89) rfl)
theorem r_lostBy (W : yWW G) : yFR G 2073 13 144 2170 := W.2.2.1 (144, 2170) (List.mem_of_getElem? (i := 90) rfl)
theorem v_inverseOf (W : yWW G) : yIA G 2080 1600 1 (1, (0, 2147483647)) := W.2.2.2.1 (2080, (1600, (1, (1, (0, 2147483647))))) (List.mem_of_getElem? (i := 0) rfl)
theorem v_residue (W : yWW G) : yIA G 2081 7200 1 (1, (0, 2147483647)) := W.2.2.2.1 (2081, (7200, (1, (1, (0, 2147483647))))) (List.mem_of_getElem? (i := 1) rfl)
theorem v_used (W : yWW G) : yIA G 2082 40 0 (0, (0, 39)) := W.2.2.2.1 (2082, (40, (0, (0, (0, 39))))) (List.mem_of_getElem? (i := 2) rfl)
theorem v_matrix (W : yWW G) : yIA G 2083 960 1 (1, (0, 2147483647)) := W.2.2.2.1 (2083, (960, (1, (1, (0, 2147483647))))) (List.mem_of_getElem? (i := 3) rfl)
theorem v_mixed (W : yWW G) : yIA G 2084 40 1 (1, (0, 2147483647)) := W.2.2.2.1 (2084, (40, (1, (1, (0, 2147483647))))) (List.mem_of_getElem? (i := 4) rfl)
theorem v_tape (W : yWW G) : yIA G 2085 4000 0 (0, (0, 255)) := W.2.2.2.1 (2085, (4000, (0, (0, (0, 255))))) (List.mem_of_getElem? (i := 5) rfl)
theorem v_wordAt (W : yWW G) : yIA G 2086 4001 0 (0, (0, 4000)) := W.2.2.2.1 (2086, (4001, (0, (0, (0, 4000))))) (List.mem_of_getElem? (i := 6) rfl)
theorem v_wordSize (W : yWW G) : yIA G 2087 4001 0 (0, (0, 4000)) := W.2.2.2.1 (2087, (4001, (0, (0, (0, 4000))))) (List.mem_of_getElem? (i := 7) rfl)
theorem v_name (W : yWW G) : yIA G 2090 960 0 (0, (0, 255)) := W.2.2.2.1 (2090, (960, (0, (0, (0, 255))))) (List.mem_of_getElem? (i := 8) rfl)
theorem v_nameSize (W : yWW G) : yIA G 2091 120 0 (0, (0, 8)) := W.2.2.2.1 (2091, (120, (0, (0, (0, 8))))) (List.mem_of_getElem? (i := 9) rfl)
theorem v_newName (W : yWW G) : yIA G 2094 960 0 (0, (0, 255)) := W.2.2.2.1 (2094, (960, (0, (0, (0, 255))))) (List.mem_of_getElem? (i := 10) rfl)
theorem v_newSize (W : yWW G) : yIA G 2095 120 0 (0, (0, 8)) := W.2.2.2.1 (2095, (120, (0, (0, (0, 8))))) (List.mem_of_getElem? (i := 11) rfl)
theorem v_isKept (W : yWW G) : yIA G 2097 3 2 (0, (0, 1)) := W.2.2.2.1 (2097, (3, (2, (0, (0, 1))))) (List.mem_of_getElem? (i := 12) rfl)
theorem v_stateNow (W : yWW G) : yIA G 2098 24 0 (0, (0, 2)) := W.2.2.2.1 (2098, (24, (0, (0, (0, 2))))) (List.mem_of_getElem? (i := 13) rfl)
theorem v_inNow (W : yWW G) : yIA G 2099 20 0 (0, (0, 1)) := W.2.2.2.1 (2099, (20, (0, (0, (0, 1))))) (List.mem_of_getElem? (i := 14) rfl)
theorem v_node (W : yWW G) : yIA G 2100 16 0 (0, (0, 15)) := W.2.2.2.1 (2100, (16, (0, (0, (0, 15))))) (List.mem_of_getElem? (i := 15) rfl)
theorem v_island (W : yWW G) : yIA G 2101 16 0 (0, (0, 15)) := W.2.2.2.1 (2101, (16, (0, (0, (0, 15))))) (List.mem_of_getElem? (i := 16) rfl)
theorem v_isLive (W : yWW G) : yIA G 2102 16 2 (0, (0, 1)) := W.2.2.2.1 (2102, (16, (2, (0, (0, 1))))) (List.mem_of_getElem? (i := 17) rfl)
theorem v_nodeAt (W : yWW G) : yIA G 2103 16 0 (0, (0, 15)) := W.2.2.2.1 (2103, (16, (0, (0, (0, 15))))) (List.mem_of_getElem? (i := 18) rfl)
theorem v_placeOf (W : yWW G) : yIA G 2104 16 0 (0, ((-1), 14)) := W.2.2.2.1 (2104, (16, (0, (0, ((-1), 14))))) (List.mem_of_getElem? (i := 19) rfl)
theorem v_isStuck (W : yWW G) : yIA G 2105 16 2 (0, (0, 1)) := W.2.2.2.1 (2105, (16, (2, (0, (0, 1))))) (List.mem_of_getElem? (i := 20) rfl)
theorem v_lack (W : yWW G) : yIA G 2106 16 1 (1, ((-9223372036854775808), 9223372036854775807)) := W.2.2.2.1 (2106, (16, (1, (1, ((-9223372036854775808), 9223372036854775807))))) (List.mem_of_getElem? (i := 21) rfl)
theorem v_share (W : yWW G) : yIA G 2107 16 1 (1, ((-9223372036854775808), 9223372036854775807)) := W.2.2.2.1 (2107, (16, (1, (1, ((-9223372036854775808), 9223372036854775807))))) (List.mem_of_getElem? (i := 22) rfl)
theorem v_isOver (W : yWW G) : yIA G 2108 20 2 (0, (0, 1)) := W.2.2.2.1 (2108, (20, (2, (0, (0, 1))))) (List.mem_of_getElem? (i := 23) rfl)
theorem v_putIn (W : yWW G) : yIA G 2109 16 1 (1, ((-9223372036854775808), 9223372036854775807)) := W.2.2.2.1 (2109, (16, (1, (1, ((-9223372036854775808), 9223372036854775807))))) (List.mem_of_getElem? (i := 24) rfl)
theorem v_isScreened (W : yWW G) : yIA G 2110 20 2 (0, (0, 1)) := W.2.2.2.1 (2110, (20, (2, (0, (0, 1))))) (List.mem_of_getElem? (i := 25) rfl)
theorem v_troubleLine (W : yWW G) : yIA G 2111 20 0 (0, (0, 19)) := W.2.2.2.1 (2111, (20, (0, (0, (0, 19))))) (List.mem_of_getElem? (i := 26) rfl)
theorem v_troubleSort (W : yWW G) : yIA G 2112 20 0 (0, (0, 3)) := W.2.2.2.1 (2112, (20, (0, (0, (0, 3))))) (List.mem_of_getElem? (i := 27) rfl)
theorem v_troubleLost (W : yWW G) : yIA G 2113 20 0 (0, ((-2147483648), 2147483647)) := W.2.2.2.1 (2113, (20, (0, (0, ((-2147483648), 2147483647))))) (List.mem_of_getElem? (i := 28) rfl)
theorem v_troubleOver (W : yWW G) : yIA G 2114 20 0 (0, ((-2147483648), 2147483647)) := W.2.2.2.1 (2114, (20, (0, (0, ((-2147483648), 2147483647))))) (List.mem_of_getElem? (i := 29) rfl)
theorem v_meterKind (W : yWW G) : yIA G 2115 32 0 (0, (0, 2)) := W.2.2.2.1 (2115, (32, (0, (0, (0, 2))))) (List.mem_of_getElem? (i := 30) rfl)
theorem v_meterAt (W : yWW G) : yIA G 2116 32 0 (0, (0, 19)) := W.2.2.2.1 (2116, (32, (0, (0, (0, 19))))) (List.mem_of_getElem? (i := 31) rfl)
theorem v_meterValue (W : yWW G) : yIA G 2117 32 0 (0, ((-99999), 99999)) := W.2.2.2.1 (2117, (32, (0, (0, ((-99999), 99999))))) (List.mem_of_getElem? (i := 32) rfl)
theorem v_meterWeight (W : yWW G) : yIA G 2118 32 0 (0, (0, 99)) := W.2.2.2.1 (2118, (32, (0, (0, (0, 99))))) (List.mem_of_getElem? (i := 33) rfl)
theorem v_isStruck (W : yWW G) : yIA G 2119 32 2 (0, (0, 1)) := W.2.2.2.1 (2119, (32, (2, (0, (0, 1))))) (List.mem_of_getElem? (i := 34) rfl)
theorem v_isWhole (W : yWW G) : yIA G 2120 16 2 (0, (0, 1)) := W.2.2.2.1 (2120, (16, (2, (0, (0, 1))))) (List.mem_of_getElem? (i := 35) rfl)
theorem v_isSeen (W : yWW G) : yIA G 2121 16 2 (0, (0, 1)) := W.2.2.2.1 (2121, (16, (2, (0, (0, 1))))) (List.mem_of_getElem? (i := 36) rfl)
theorem v_shows (W : yWW G) : yIA G 2122 512 1 (1, (0, 2147483647)) := W.2.2.2.1 (2122, (512, (1, (1, (0, 2147483647))))) (List.mem_of_getElem? (i := 37) rfl)
theorem v_conductance (W : yWW G) : yIA G 2123 20 1 (1, (0, 2147483647)) := W.2.2.2.1 (2123, (20, (1, (1, (0, 2147483647))))) (List.mem_of_getElem? (i := 38) rfl)
theorem v_rankWith (W : yWW G) : yIA G 2124 16 0 (0, (0, 16)) := W.2.2.2.1 (2124, (16, (0, (0, (0, 16))))) (List.mem_of_getElem? (i := 39) rfl)
theorem v_relayLine (W : yWW G) : yIA G 2125 16 0 (0, (0, 19)) := W.2.2.2.1 (2125, (16, (0, (0, (0, 19))))) (List.mem_of_getElem? (i := 40) rfl)
theorem v_relayEnd (W : yWW G) : yIA G 2126 16 0 (0, (0, 1)) := W.2.2.2.1 (2126, (16, (0, (0, (0, 1))))) (List.mem_of_getElem? (i := 41) rfl)
theorem v_relaySwitch (W : yWW G) : yIA G 2127 16 0 (0, (0, 23)) := W.2.2.2.1 (2127, (16, (0, (0, (0, 23))))) (List.mem_of_getElem? (i := 42) rfl)
theorem v_relayKind (W : yWW G) : yIA G 2128 16 0 (0, (0, 1)) := W.2.2.2.1 (2128, (16, (0, (0, (0, 1))))) (List.mem_of_getElem? (i := 43) rfl)
theorem v_rowCount (W : yWW G) : yIA G 2129 16 0 (0, (0, 4)) := W.2.2.2.1 (2129, (16, (0, (0, (0, 4))))) (List.mem_of_getElem? (i := 44) rfl)
theorem v_setting (W : yWW G) : yIA G 2130 64 0 (0, (0, 99999)) := W.2.2.2.1 (2130, (64, (0, (0, (0, 99999))))) (List.mem_of_getElem? (i := 45) rfl)
theorem v_delay (W : yWW G) : yIA G 2131 64 0 (0, (0, 9999999)) := W.2.2.2.1 (2131, (64, (0, (0, (0, 9999999))))) (List.mem_of_getElem? (i := 46) rfl)
theorem v_doesFail (W : yWW G) : yIA G 2132 24 2 (0, (0, 1)) := W.2.2.2.1 (2132, (24, (2, (0, (0, 1))))) (List.mem_of_getElem? (i := 47) rfl)
theorem v_runState (W : yWW G) : yIA G 2133 24 0 (0, (0, 2)) := W.2.2.2.1 (2133, (24, (0, (0, (0, 2))))) (List.mem_of_getElem? (i := 48) rfl)
theorem v_hasOrder (W : yWW G) : yIA G 2134 24 2 (0, (0, 1)) := W.2.2.2.1 (2134, (24, (2, (0, (0, 1))))) (List.mem_of_getElem? (i := 49) rfl)
theorem v_opensAt (W : yWW G) : yIA G 2135 24 1 (1, ((-1), 4294967295)) := W.2.2.2.1 (2135, (24, (1, (1, ((-1), 4294967295))))) (List.mem_of_getElem? (i := 50) rfl)
theorem v_backupAt (W : yWW G) : yIA G 2136 24 1 (1, ((-1), 4294967295)) := W.2.2.2.1 (2136, (24, (1, (1, ((-1), 4294967295))))) (List.mem_of_getElem? (i := 51) rfl)
theorem v_since (W : yWW G) : yIA G 2137 64 1 (1, ((-1), 2147483647)) := W.2.2.2.1 (2137, (64, (1, (1, ((-1), 2147483647))))) (List.mem_of_getElem? (i := 52) rfl)
theorem v_hasTripped (W : yWW G) : yIA G 2138 64 2 (0, (0, 1)) := W.2.2.2.1 (2138, (64, (2, (0, (0, 1))))) (List.mem_of_getElem? (i := 53) rfl)
theorem v_openedSwitch (W : yWW G) : yIA G 2139 24 0 (0, (0, 23)) := W.2.2.2.1 (2139, (24, (0, (0, (0, 23))))) (List.mem_of_getElem? (i := 54) rfl)
theorem v_openedAt (W : yWW G) : yIA G 2140 24 0 (0, ((-2147483648), 2147483647)) := W.2.2.2.1 (2140, (24, (0, (0, ((-2147483648), 2147483647))))) (List.mem_of_getElem? (i := 55) rfl)
theorem v_machineAt (W : yWW G) : yIA G 2141 6 0 (0, (0, 5)) := W.2.2.2.1 (2141, (6, (0, (0, (0, 5))))) (List.mem_of_getElem? (i := 56) rfl)
theorem v_low (W : yWW G) : yIA G 2142 6 0 (0, (0, 9999)) := W.2.2.2.1 (2142, (6, (0, (0, (0, 9999))))) (List.mem_of_getElem? (i := 57) rfl)
theorem v_high (W : yWW G) : yIA G 2143 6 0 (0, (0, 9999)) := W.2.2.2.1 (2143, (6, (0, (0, (0, 9999))))) (List.mem_of_getElem? (i := 58) rfl)
theorem v_slope (W : yWW G) : yIA G 2144 6 0 (0, (0, 999)) := W.2.2.2.1 (2144, (6, (0, (0, (0, 999))))) (List.mem_of_getElem? (i := 59) rfl)
theorem v_dimensions (W : yWW G) : yIA G 2145 6 0 (0, (0, 5)) := W.2.2.2.1 (2145, (6, (0, (0, (0, 5))))) (List.mem_of_getElem? (i := 60) rfl)
theorem v_rowsAt (W : yWW G) : yIA G 2146 6 0 (0, (0, 64)) := W.2.2.2.1 (2146, (6, (0, (0, (0, 64))))) (List.mem_of_getElem? (i := 61) rfl)
theorem v_machineOf (W : yWW G) : yIA G 2147 36 0 (0, (0, 5)) := W.2.2.2.1 (2147, (36, (0, (0, (0, 5))))) (List.mem_of_getElem? (i := 62) rfl)
theorem v_ruleAct (W : yWW G) : yIA G 2148 12 0 (0, (0, 5)) := W.2.2.2.1 (2148, (12, (0, (0, (0, 5))))) (List.mem_of_getElem? (i := 63) rfl)
theorem v_ruleFrom (W : yWW G) : yIA G 2149 13 0 (0, (0, 2500)) := W.2.2.2.1 (2149, (13, (0, (0, (0, 2500))))) (List.mem_of_getElem? (i := 64) rfl)
theorem v_newAct (W : yWW G) : yIA G 2151 12 0 (0, (0, 5)) := W.2.2.2.1 (2151, (12, (0, (0, (0, 5))))) (List.mem_of_getElem? (i := 65) rfl)
theorem v_newFrom (W : yWW G) : yIA G 2152 13 0 (0, (0, 2500)) := W.2.2.2.1 (2152, (13, (0, (0, (0, 2500))))) (List.mem_of_getElem? (i := 66) rfl)
theorem v_stepAct (W : yWW G) : yIA G 2154 24 0 (0, (0, 5)) := W.2.2.2.1 (2154, (24, (0, (0, (0, 5))))) (List.mem_of_getElem? (i := 67) rfl)
theorem v_stepOf (W : yWW G) : yIA G 2155 24 0 (0, (0, 23)) := W.2.2.2.1 (2155, (24, (0, (0, (0, 23))))) (List.mem_of_getElem? (i := 68) rfl)
theorem v_newStepAct (W : yWW G) : yIA G 2156 24 0 (0, (0, 5)) := W.2.2.2.1 (2156, (24, (0, (0, (0, 5))))) (List.mem_of_getElem? (i := 69) rfl)
theorem v_newStepOf (W : yWW G) : yIA G 2157 24 0 (0, (0, 23)) := W.2.2.2.1 (2157, (24, (0, (0, (0, 23))))) (List.mem_of_getElem? (i := 70) rfl)
theorem v_seenNode (W : yWW G) : yIA G 2159 32 0 (0, (0, 15)) := W.2.2.2.1 (2159, (32, (0, (0, (0, 15))))) (List.mem_of_getElem? (i := 71) rfl)
theorem v_seenLive (W : yWW G) : yIA G 2160 32 2 (0, (0, 1)) := W.2.2.2.1 (2160, (32, (2, (0, (0, 1))))) (List.mem_of_getElem? (i := 72) rfl)
theorem v_seenLost (W : yWW G) : yIA G 2161 2 0 (0, ((-2147483648), 2147483647)) := W.2.2.2.1 (2161, (2, (0, (0, ((-2147483648), 2147483647))))) (List.mem_of_getElem? (i := 73) rfl)
theorem v_seenOver (W : yWW G) : yIA G 2162 2 0 (0, ((-2147483648), 2147483647)) := W.2.2.2.1 (2162, (2, (0, (0, ((-2147483648), 2147483647))))) (List.mem_of_getElem? (i := 74) rfl)
theorem v_seenLoops (W : yWW G) : yIA G 2163 2 0 (0, ((-2147483648), 2147483647)) := W.2.2.2.1 (2163, (2, (0, (0, ((-2147483648), 2147483647))))) (List.mem_of_getElem? (i := 75) rfl)
theorem v_pile (W : yWW G) : yIA G 2164 2500 2 (0, (0, 1)) := W.2.2.2.1 (2164, (2500, (2, (0, (0, 1))))) (List.mem_of_getElem? (i := 76) rfl)
theorem v_restoredSwitch (W : yWW G) : yIA G 2166 3 0 (0, (0, 23)) := W.2.2.2.1 (2166, (3, (0, (0, (0, 23))))) (List.mem_of_getElem? (i := 77) rfl)
theorem v_openSwitch (W : yWW G) : yIA G 2167 8 0 (0, (0, 23)) := W.2.2.2.1 (2167, (8, (0, (0, (0, 23))))) (List.mem_of_getElem? (i := 78) rfl)
theorem v_row (W : yWW G) : yIA G 2168 3 0 (0, (0, 23)) := W.2.2.2.1 (2168, (3, (0, (0, (0, 23))))) (List.mem_of_getElem? (i := 79) rfl)
theorem v_isWell (W : yWW G) : yIA G 2169 256 0 (0, (0, 2)) := W.2.2.2.1 (2169, (256, (0, (0, (0, 2))))) (List.mem_of_getElem? (i := 80) rfl)
theorem v_lostBy (W : yWW G) : yIA G 2170 256 0 (0, ((-2147483648), 2147483647)) := W.2.2.2.1 (2170, (256, (0, (0, ((-2147483648), 2147483647))))) (List.mem_of_getElem? (i := 81) rfl)
theorem v_PRIME (W : yWW G) : yIA G 14 40 0 (0, (2147482801, 2147483647)) := W.2.2.2.1 (14, (40, (0, (0, (2147482801, 2147483647))))) (List.mem_of_getElem? (i := 82) rfl)
theorem p_count (W : yWW G) : yIF G 2088 5 0 ycT := W.2.2.2.2.1
theorem p_field (W : yWW G) : yIF G 2089 1320 0 yfT := W.2.2.2.2.2.1
theorem p_newCount (W : yWW G) : yIF G 2092 5 0 ycT := W.2.2.2.2.2.2.1
theorem p_newField (W : yWW G) : yIF G 2093 1320 0 ynT := W.2.2.2.2.2.2.2.1
theorem p_kept (W : yWW G) : yIF G 2096 3960 0 (fun j => yfT (j % 1320)) := W.2.2.2.2.2.2.2.2.1
theorem p_code (W : yWW G) : yIF G 2150 10000 0 yoT := W.2.2.2.2.2.2.2.2.2.1
theorem p_newCode (W : yWW G) : yIF G 2153 10000 0 yoT := W.2.2.2.2.2.2.2.2.2.2.1
theorem p_seenField (W : yWW G) : yIF G 2158 2640 0 (fun j => yfT (j % 1320)) := W.2.2.2.2.2.2.2.2.2.2.2.1
theorem p_fieldsBefore (W : yWW G) : yIF G 2165 1320 0 yfT := W.2.2.2.2.2.2.2.2.2.2.2.2.1
theorem x_15 (W : yWW G) : yTX G 15 16 96 := W.2.2.2.2.2.2.2.2.2.2.2.2.2 (15, (16, 96)) (List.mem_of_getElem? (i := 0) rfl)
theorem x_17 (W : yWW G) : yTX G 17 18 63 := W.2.2.2.2.2.2.2.2.2.2.2.2.2 (17, (18, 63)) (List.mem_of_getElem? (i := 1) rfl)
theorem x_19 (W : yWW G) : yTX G 19 20 160 := W.2.2.2.2.2.2.2.2.2.2.2.2.2 (19, (20, 160)) (List.mem_of_getElem? (i := 2) rfl)
theorem x_21 (W : yWW G) : yTX G 21 22 3 := W.2.2.2.2.2.2.2.2.2.2.2.2.2 (21, (22, 3)) (List.mem_of_getElem? (i := 3) rfl)
theorem x_23 (W : yWW G) : yTX G 23 24 6 := W.2.2.2.2.2.2.2.2.2.2.2.2.2 (23, (24, 6)) (List.mem_of_getElem? (i := 4) rfl)
theorem x_25 (W : yWW G) : yTX G 25 26 4 := W.2.2.2.2.2.2.2.2.2.2.2.2.2 (25, (26, 4)) (List.mem_of_getElem? (i := 5) rfl)
theorem x_27 (W : yWW G) : yTX G 27 28 7 := W.2.2.2.2.2.2.2.2.2.2.2.2.2 (27, (28, 7)) (List.mem_of_getElem? (i := 6) rfl)
theorem x_29 (W : yWW G) : yTX G 29 30 4 := W.2.2.2.2.2.2.2.2.2.2.2.2.2 (29, (30, 4)) (List.mem_of_getElem? (i := 7) rfl)
theorem x_31 (W : yWW G) : yTX G 31 32 1 := W.2.2.2.2.2.2.2.2.2.2.2.2.2 (31, (32, 1)) (List.mem_of_getElem? (i := 8) rfl)
theorem x_33 (W : yWW G) : yTX G 33 34 6 := W.2.2.2.2.2.2.2.2.2.2.2.2.2 (33, (34, 6)) (List.mem_of_getElem? (i := 9) rfl)
theorem x_35 (W : yWW G) : yTX G 35 36 4 := W.2.2.2.2.2.2.2.2.2.2.2.2.2 (35, (36, 4)) (List.mem_of_getElem? (i := 10) rfl)
theorem x_37 (W : yWW G) : yTX G 37 38 5 := W.2.2.2.2.2.2.2.2.2.2.2.2.2 (37, (38, 5)) (List.mem_of_getElem? (i := 11) rfl)
theorem x_39 (W : yWW G) : yTX G 39 40 5 := W.2.2.2.2.2.2.2.2.2.2.2.2.2 (39, (40, 5)) (List.mem_of_getElem? (i := 12) rfl)
theorem x_41 (W : yWW G) : yTX G 41 42 4 := W.2.2.2.2.2.2.2.2.2.2.2.2.2 (41, (42, 4)) (List.mem_of_getElem? (i := 13) rfl)
theorem x_43 (W : yWW G) : yTX G 43 44 3 := W.2.2.2.2.2.2.2.2.2.2.2.2.2 (43, (44, 3)) (List.mem_of_getElem? (i := 14) rfl)
theorem x_45 (W : yWW G) : yTX G 45 46 5 := W.2.2.2.2.2.2.2.2.2.2.2.2.2 (45, (46, 5)) (List.mem_of_getElem? (i := 15) rfl)
theorem x_47 (W : yWW G) : yTX G 47 48 2 := W.2.2.2.2.2.2.2.2.2.2.2.2.2 (47, (48, 2)) (List.mem_of_getElem? (i := 16) rfl)
theorem x_49 (W : yWW G) : yTX G 49 50 4 := W.2.2.2.2.2.2.2.2.2.2.2.2.2 (49, (50, 4)) (List.mem_of_getElem? (i := 17) rfl)
theorem x_51 (W : yWW G) : yTX G 51 52 2 := W.2.2.2.2.2.2.2.2.2.2.2.2.2 (51, (52, 2)) (List.mem_of_getElem? (i := 18) rfl)
theorem x_53 (W : yWW G) : yTX G 53 54 2 := W.2.2.2.2.2.2.2.2.2.2.2.2.2 (53, (54, 2)) (List.mem_of_getElem? (i := 19) rfl)
theorem x_55 (W : yWW G) : yTX G 55 56 3 := W.2.2.2.2.2.2.2.2.2.2.2.2.2 (55, (56, 3)) (List.mem_of_getElem? (i := 20) rfl)
theorem x_57 (W : yWW G) : yTX G 57 58 3 := W.2.2.2.2.2.2.2.2.2.2.2.2.2 (57, (58, 3)) (List.mem_of_getElem? (i := 21) rfl)
theorem x_59 (W : yWW G) : yTX G 59 60 1 := W.2.2.2.2.2.2.2.2.2.2.2.2.2 (59, (60, 1)) (List.mem_of_getElem? (i := 22) rfl)
theorem x_61 (W : yWW G) : yTX G 61 62 1 := W.2.2.2.2.2.2.2.2.2.2.2.2.2 (61, (62, 1)) (List.mem_of_getElem? (i := 23) rfl)
theorem x_63 (W : yWW G) : yTX G 63 64 4 := W.2.2.2.2.2.2.2.2.2.2.2.2.2 (63, (64, 4)) (List.mem_of_getElem? (i := 24) rfl)
theorem x_65 (W : yWW G) : yTX G 65 66 6 := W.2.2.2.2.2.2.2.2.2.2.2.2.2 (65, (66, 6)) (List.mem_of_getElem? (i := 25) rfl)
theorem x_67 (W : yWW G) : yTX G 67 68 4 := W.2.2.2.2.2.2.2.2.2.2.2.2.2 (67, (68, 4)) (List.mem_of_getElem? (i := 26) rfl)
theorem x_69 (W : yWW G) : yTX G 69 70 7 := W.2.2.2.2.2.2.2.2.2.2.2.2.2 (69, (70, 7)) (List.mem_of_getElem? (i := 27) rfl)
theorem x_71 (W : yWW G) : yTX G 71 72 6 := W.2.2.2.2.2.2.2.2.2.2.2.2.2 (71, (72, 6)) (List.mem_of_getElem? (i := 28) rfl)
theorem x_73 (W : yWW G) : yTX G 73 74 4 := W.2.2.2.2.2.2.2.2.2.2.2.2.2 (73, (74, 4)) (List.mem_of_getElem? (i := 29) rfl)
theorem x_75 (W : yWW G) : yTX G 75 76 4 := W.2.2.2.2.2.2.2.2.2.2.2.2.2 (75, (76, 4)) (List.mem_of_getElem? (i := 30) rfl)
theorem x_77 (W : yWW G) : yTX G 77 78 5 := W.2.2.2.2.2.2.2.2.2.2.2.2.2 (77, (78, 5)) (List.mem_of_getElem? (i := 31) rfl)
theorem x_79 (W : yWW G) : yTX G 79 80 5 := W.2.2.2.2.2.2.2.2.2.2.2.2.2 (79, (80, 5)) (List.mem_of_getElem? (i := 32) rfl)
theorem x_81 (W : yWW G) : yTX G 81 82 5 := W.2.2.2.2.2.2.2.2.2.2.2.2.2 (81, (82, 5)) (List.mem_of_getElem? (i := 33) rfl)
theorem x_83 (W : yWW G) : yTX G 83 84 2 := W.2.2.2.2.2.2.2.2.2.2.2.2.2 (83, (84, 2)) (List.mem_of_getElem? (i := 34) rfl)
theorem x_85 (W : yWW G) : yTX G 85 86 2 := W.2.2.2.2.2.2.2.2.2.2.2.2.2 (85, (86, 2)) (List.mem_of_getElem? (i := 35) rfl)
theorem x_87 (W : yWW G) : yTX G 87 88 2 := W.2.2.2.2.2.2.2.2.2.2.2.2.2 (87, (88, 2)) (List.mem_of_getElem? (i := 36) rfl)
theorem yWW.m (W : yWW G) : yMW G := W.1
end YWorld
/-! walks that a program prints: what a method leaves, contracts of ranges -/
def yAx (G : zW) (FS KS : List Nat) (hp hp' : xH) : Prop := zTy G hp' ∧ hp'.2 = hp.2 ∧ ∀ k j, KS.contains k = false → (Nat.beq k 2073 && FS.contains j) = false → zsl hp' k j = zsl hp k j
section YAuto
variable {G : zW} {FS KS : List Nat} {a b c hp : xH}
theorem yAx.rf (h : zTy G hp) : yAx G FS KS hp hp := ⟨h, rfl, fun _ _ _ _ => rfl⟩
theorem yAx.tr (h : yAx G FS KS a b) (h2 : yAx G FS KS b c) : yAx G FS KS a c := ⟨h2.1, h2.2.1.trans h.2.1, fun k j x y => (h2.2.2 k j x y).trans (h.2.2 k j x y)⟩
theorem ycont {l l' : List Nat} (h : l.all (fun x => l'.contains x) = true) {k : Nat} (hk : l'.contains k = false) : l.contains k = false := by
  cases hc : l.contains k with
  | false => rfl
  | true =>
    have := List.all_eq_true.mp h k (List.contains_iff_mem.mp hc)
    rw [hk] at this
    cases this
theorem yAx.sub {FS' KS' : List Nat} (h : yAx G FS KS a b) (hf : FS.all (fun x => FS'.contains x) = true) (hk : KS.all (fun x => KS'.contains x) = true) : yAx G FS' KS' a b := ⟨h.1, h.2.1, fun k j x y => h.2.2 k j (ycont hk x) (by
  cases e : Nat.beq k 2073 with
  | false => rfl
  | true =>
    rw [e] at y
    exact ycont hf y)⟩
theorem yAx.putA {k n : Nat} {v : xA} (h : yAx G FS KS a b) (hT : zTy G c) (h2 : c.2 = b.2) (h3 : ∀ k' j', zsl c k' j' = if k' = k ∧ j' = n then v else zsl b k' j') (hk : KS.contains k = true) : yAx G FS KS a c := ⟨hT, h2.trans h.2.1, fun k' j x y => by
  rw [h3, if_neg]
  · exact h.2.2 k' j x y
  · rintro ⟨rfl, -⟩
    rw [hk] at x
    cases x⟩
theorem yAx.putF {n : Nat} {v : xA} (h : yAx G FS KS a b) (hT : zTy G c) (h2 : c.2 = b.2) (h3 : ∀ k' j', zsl c k' j' = if k' = 2073 ∧ j' = n then v else zsl b k' j') (hk : FS.contains n = true) : yAx G FS KS a c := ⟨hT, h2.trans h.2.1, fun k' j x y => by
  rw [h3, if_neg]
  · exact h.2.2 k' j x y
  · rintro ⟨rfl, rfl⟩
    rw [hk] at y
    cases y⟩
theorem yAx.ys (h : yAx G FS KS a b) {k j : Nat} (hk : KS.contains k = false) (hj : (Nat.beq k 2073 && FS.contains j) = false) : ys b k j = ys a k j := by
  show ydec (zsl b k j) = ydec (zsl a k j)
  rw [h.2.2 k j hk hj]
def yQv (G : zW) (FS KS : List Nat) (hp : xH) : Option xA → xH → Prop := fun rv hp' => rv = none ∧ yAx G FS KS hp hp'
def yQi (G : zW) (FS KS : List Nat) (hp : xH) (lo hi : Int) : Option xA → xH → Prop := fun rv hp' => (∃ z, rv = some (yI z) ∧ lo ≤ z ∧ z ≤ hi) ∧ yAx G FS KS hp hp'
def yQj (G : zW) (FS KS : List Nat) (hp : xH) (lo hi : Int) : Option xA → xH → Prop := fun rv hp' => (∃ z, rv = some (yJ z) ∧ lo ≤ z ∧ z ≤ hi) ∧ yAx G FS KS hp hp'
def yQpi (hp : xH) (lo hi : Int) : Option xA → xH → Prop := fun rv hp' => (∃ z, rv = some (yI z) ∧ lo ≤ z ∧ z ≤ hi) ∧ hp' = hp
def yQpj (hp : xH) (lo hi : Int) : Option xA → xH → Prop := fun rv hp' => (∃ z, rv = some (yJ z) ∧ lo ≤ z ∧ z ≤ hi) ∧ hp' = hp
def yQei (hp : xH) (e : Int) : Option xA → xH → Prop := fun rv hp' => rv = some (yI e) ∧ hp' = hp
theorem ywI (z : Int) : ∃ z', yI z = yI z' ∧ -2147483648 ≤ z' ∧ z' ≤ 2147483647 := ⟨z.bmod (2 ^ 32), by
  show Sum.inl _ = Sum.inl _
  rw [zc32_bmod], by
  have := Int.le_bmod (x := z) (m := 2 ^ 32) (by decide)
  omega, by
  have := Int.bmod_lt (x := z) (m := 2 ^ 32) (by decide)
  omega⟩
theorem ywJ (z : Int) : ∃ z', yJ z = yJ z' ∧ -9223372036854775808 ≤ z' ∧ z' ≤ 9223372036854775807 := ⟨z.bmod (2 ^ 64), by
  show Sum.inr (Sum.inl _) = Sum.inr (Sum.inl _)
  rw [zc64_bmod], by
  have := Int.le_bmod (x := z) (m := 2 ^ 64) (by decide)
  omega, by
  have := Int.bmod_lt (x := z) (m := 2 ^ 64) (by decide)
  omega⟩
theorem ymulb {x y A B C : Int} (hx : 0 ≤ x) (hX : x ≤ A) (hy : 0 ≤ y) (hY : y ≤ B) (hC : A * B ≤ C) : 0 ≤ x * y ∧ x * y ≤ C := ⟨Int.mul_nonneg hx hy, Int.le_trans (Int.mul_le_mul hX hY hy (Int.le_trans hx hX)) hC⟩
theorem ymuls {x y A B C : Int} (hx : -A ≤ x) (hX : x ≤ A) (hy : -B ≤ y) (hY : y ≤ B) (hC : A * B ≤ C) : -C ≤ x * y ∧ x * y ≤ C := by
  rcases Int.le_total 0 x with h1 | h1 <;> rcases Int.le_total 0 y with h2 | h2
  · have := ymulb h1 hX h2 hY hC
    omega
  · have := ymulb h1 hX (show 0 ≤ -y by omega) (show -y ≤ B by omega) hC
    rw [Int.mul_neg] at this
    omega
  · have := ymulb (show 0 ≤ -x by omega) (show -x ≤ A by omega) h2 hY hC
    rw [Int.neg_mul] at this
    omega
  · have := ymulb (show 0 ≤ -x by omega) (show -x ≤ A by omega) (show 0 ≤ -y by omega) (show -y ≤ B by omega) hC
    rw [Int.neg_mul, Int.mul_neg, Int.neg_neg] at this
    omega
end YAuto
section YStat
variable {o : Nat} {ft : Nat → List Nat} {call : xF} {pool : Nat → xP} {hs : List (Nat × (Nat × (Nat × Nat)))} {tab : Lean.RArray xI} {P : xE → Prop}
variable {N pc nx len : Nat} {L : List (Nat × xA)} {stk : List xA} {hp : xH}
theorem yG.getS {kk c : Nat} (ht : xget tab pc = (pc, (.getstatic kk, (len, nx)))) (hq : pool kk = (10, (c, (0, 0)))) (h : yG o ft call pool hs tab P N nx L (yR c :: stk) hp) : yG o ft call pool hs tab P (N + 1) pc L stk hp := yG.step (pc' := nx) (stk' := yR c :: stk) ht (fun K l => by
  show cond (Nat.beq (pool kk).1 10) (K nx l (.inr (.inr (.inl (pool kk).2.1)) :: stk) hp) _ = _
  rw [hq]
  rfl) h
end YStat
section YRemS
variable {o : Nat} {ft : Nat → List Nat} {call : xF} {pool : Nat → xP} {hs : List (Nat × (Nat × (Nat × Nat)))} {tab : Lean.RArray xI} {P : xE → Prop}
variable {N pc nx len : Nat} {L : List (Nat × xA)} {rest : List xA} {hp : xH}
theorem yG.lremS {a b : Int} (ht : xget tab pc = (pc, (.lrem, (len, nx)))) (ha : zi64 a) (hb : zi64 b) (h1 : 1 ≤ b) (h : ∀ r : Int, -b < r → r < b → yG o ft call pool hs tab P N nx L (yJ r :: rest) hp) : yG o ft call pool hs tab P (N + 1) pc L (yJ b :: yJ a :: rest) hp := by
  have e : a - a.tdiv b * b = a.tmod b := by
    rw [Int.tmod_def, Int.mul_comm]
  have e1 := Int.tmod_lt_of_pos a (show 0 < b by omega)
  have e2 : -b < a.tmod b := by
    have := Int.lt_tmod_of_pos a (show 0 < b by omega)
    omega
  exact yG.step (pc' := nx) (stk' := yJ (a.tmod b) :: rest) ht (fun K l => by
    show xj (cond (Nat.beq (xm64 (zc64 b)) 0) none (some (.inr (.inl (x64 (Int64.ofNat (zc64 a) - (Int64.ofNat (zc64 a) / Int64.ofNat (zc64 b)) * Int64.ofNat (zc64 b))))))) (fun v => K nx l (v :: rest) hp) = _
    rw [zc64_ne hb h1, zrem64 ha hb, e]
    rfl) (h _ e2 e1)
end YRemS
section YBits
variable {o : Nat} {ft : Nat → List Nat} {call : xF} {pool : Nat → xP} {hs : List (Nat × (Nat × (Nat × Nat)))} {tab : Lean.RArray xI} {P : xE → Prop}
variable {N pc nx len : Nat} {i : Instr} {L : List (Nat × xA)} {stk rest : List xA} {hp : xH} {G : zW}
theorem yG.bit32 {v : Int32} (ht : xget tab pc = (pc, (i, (len, nx)))) (he : ∀ (K : xK) l, xstep o ft call pool hs K i pc nx l stk hp = K nx l (.inl (x32 v) :: rest) hp) (h : ∀ z : Int, z = v.toInt → -2147483648 ≤ z → z ≤ 2147483647 → yG o ft call pool hs tab P N nx L (yI z :: rest) hp) : yG o ft call pool hs tab P (N + 1) pc L stk hp := by
  refine yG.step (pc' := nx) (stk' := yI v.toInt :: rest) ht (fun K l => ?_) (h _ rfl (by have := Int32.le_toInt v; omega) (by have := Int32.toInt_lt v; omega))
  rw [he, zx32_toInt]
theorem yG.bit64 {v : Int64} (ht : xget tab pc = (pc, (i, (len, nx)))) (he : ∀ (K : xK) l, xstep o ft call pool hs K i pc nx l stk hp = K nx l (.inr (.inl (x64 v)) :: rest) hp) (h : ∀ z : Int, z = v.toInt → -9223372036854775808 ≤ z → z ≤ 9223372036854775807 → yG o ft call pool hs tab P N nx L (yJ z :: rest) hp) : yG o ft call pool hs tab P (N + 1) pc L stk hp := by
  refine yG.step (pc' := nx) (stk' := yJ v.toInt :: rest) ht (fun K l => ?_) (h _ rfl (by have := Int64.le_toInt v; omega) (by have := Int64.toInt_lt v; omega))
  rw [he, zx64_toInt]
theorem yiand {a c : Int} (hc : zi32 c) (h0 : 0 ≤ c) : 0 ≤ (Int32.ofNat (zc32 a) &&& Int32.ofNat (zc32 c)).toInt ∧ (Int32.ofNat (zc32 a) &&& Int32.ofNat (zc32 c)).toInt ≤ c := by
  have h1 := zand_le (Int32.ofNat (zc32 a)) (Int32.ofNat (zc32 c))
  rw [zx32_toInt, zx32_toInt, zc32_of c, zof32 hc] at h1
  have h2 := Int32.le_toInt (Int32.ofNat (zc32 a) &&& Int32.ofInt c)
  have h3 := Int32.toInt_lt (Int32.ofNat (zc32 a) &&& Int32.ofInt c)
  rw [zc32_of c]
  generalize (Int32.ofNat (zc32 a) &&& Int32.ofInt c).toInt = z at h1 h2 h3 ⊢
  have e1 := zc32_emod z
  have e2 := zc32_emod c
  obtain ⟨c1, c2⟩ := hc
  omega
theorem zand_le64 (v w : Int64) : x64 (v &&& w) ≤ x64 w := by
  show (v &&& w).toUInt64.toNat ≤ w.toUInt64.toNat
  rw [Int64.toUInt64_and, UInt64.toNat_and]
  exact Nat.and_le_right
theorem yland {a c : Int} (hc : zi64 c) (h0 : 0 ≤ c) : 0 ≤ (Int64.ofNat (zc64 a) &&& Int64.ofNat (zc64 c)).toInt ∧ (Int64.ofNat (zc64 a) &&& Int64.ofNat (zc64 c)).toInt ≤ c := by
  have h1 := zand_le64 (Int64.ofNat (zc64 a)) (Int64.ofNat (zc64 c))
  rw [zx64_toInt, zx64_toInt, zc64_of c, zof64 hc] at h1
  have h2 := Int64.le_toInt (Int64.ofNat (zc64 a) &&& Int64.ofInt c)
  have h3 := Int64.toInt_lt (Int64.ofNat (zc64 a) &&& Int64.ofInt c)
  rw [zc64_of c]
  generalize (Int64.ofNat (zc64 a) &&& Int64.ofInt c).toInt = z at h1 h2 h3 ⊢
  have e1 := zc64_emod z
  have e2 := zc64_emod c
  obtain ⟨c1, c2⟩ := hc
  omega
theorem ylshr {a : Int} {s : Int64} {n : Nat} (ha : zi64 a) (hs9 : (s.toBitVec.smod 64#64).toNat = n) : (Int64.ofNat (zc64 a) >>> s).toInt = a / 2 ^ n := by
  rw [zc64_of]
  show ((Int64.ofInt a >>> s).toBitVec).toInt = _
  rw [Int64.toBitVec_shiftRight]
  show (BitVec.sshiftRight (Int64.ofInt a).toBitVec (s.toBitVec.smod 64#64).toNat).toInt = _
  rw [hs9, BitVec.toInt_sshiftRight, Int.shiftRight_eq_div_pow]
  have : (Int64.ofInt a).toBitVec.toInt = a := zof64 ha
  rw [this]
  rfl
theorem yishr {a : Int} {s : Int32} {n : Nat} (ha : zi32 a) (hs9 : (s.toBitVec.smod 32#32).toNat = n) : (Int32.ofNat (zc32 a) >>> s).toInt = a / 2 ^ n := by
  rw [zc32_of]
  show ((Int32.ofInt a >>> s).toBitVec).toInt = _
  rw [Int32.toBitVec_shiftRight]
  show (BitVec.sshiftRight (Int32.ofInt a).toBitVec (s.toBitVec.smod 32#32).toNat).toInt = _
  rw [hs9, BitVec.toInt_sshiftRight, Int.shiftRight_eq_div_pow]
  have : (Int32.ofInt a).toBitVec.toInt = a := zof32 ha
  rw [this]
  rfl
/-- an int out of a row by place: its type's ends -/
theorem yG.ialdT {k n : Nat} {tf : Nat → zT} {e : Int} (hT : zTy G hp) (hA : yIF G k n 0 tf) (htf : ∃ lo hi, tf e.toNat = (0, (lo, hi))) (ht : xget tab pc = (pc, (.iaload, (len, nx)))) (h0 : 0 ≤ e) (h1 : e < n) (h : ∀ z lo hi, z = ys hp k e.toNat → zi32 z → tf e.toNat = (0, (lo, hi)) → lo ≤ z → z ≤ hi → yG o ft call pool hs tab P N nx L (yI z :: rest) hp) : yG o ft call pool hs tab P (N + 1) pc L (yI e :: yR k :: rest) hp := by
  obtain ⟨lo, hi, e9⟩ := htf
  exact yG.ialdF hT hA e9 ht h0 h1 fun z a b c d => h z lo hi a b e9 c d
theorem yfT_h (j : Nat) : ∃ lo hi : Int, yfT j = (0, (lo, hi)) ∧ 0 ≤ lo ∧ hi ≤ 999999 := by
  unfold yfT
  split <;> exact ⟨_, _, rfl, by decide, by decide⟩
theorem ynT_h (j : Nat) : ∃ lo hi : Int, ynT j = (0, (lo, hi)) ∧ -1 ≤ lo ∧ hi ≤ 999999 := by
  unfold ynT
  split <;> exact ⟨_, _, rfl, by decide, by decide⟩
theorem ycT_h (j : Nat) : ∃ lo hi : Int, ycT j = (0, (lo, hi)) ∧ 0 ≤ lo ∧ hi ≤ 24 := by
  unfold ycT
  split <;> exact ⟨_, _, rfl, by decide, by decide⟩
theorem yoT_h (j : Nat) : ∃ lo hi : Int, yoT j = (0, (lo, hi)) ∧ -3 ≤ lo ∧ hi ≤ 999999 := by
  unfold yoT
  split <;> exact ⟨_, _, rfl, by decide, by decide⟩
theorem yhull {tf : Nat → zT} {j : Nat} {lo hi A B : Int} (h : ∃ lo hi : Int, tf j = (0, (lo, hi)) ∧ A ≤ lo ∧ hi ≤ B) (e : tf j = (0, (lo, hi))) : A ≤ lo ∧ hi ≤ B := by
  obtain ⟨a, b, c, d, f⟩ := h
  rw [e] at c
  cases c
  exact ⟨d, f⟩
theorem yhull2 {tf : Nat → zT} {j : Nat} {A B : Int} (h : ∃ lo hi : Int, tf j = (0, (lo, hi)) ∧ A ≤ lo ∧ hi ≤ B) : ∃ lo hi : Int, tf j = (0, (lo, hi)) := by
  obtain ⟨a, b, c, -⟩ := h
  exact ⟨a, b, c⟩
end YBits
theorem yoT_m {j r : Nat} (h : j % 4 = r) : yoT j = yoT r := by
  unfold yoT
  rw [h, show r % 4 = r by omega]

