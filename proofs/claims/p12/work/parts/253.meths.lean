set_option maxRecDepth 1000000 in
theorem xmc_X7_readBound {S : State} {ad : Nat → Nat} (Z : xSf S ad xmt xL) : xMc S ad xmt xpools (yX7_readBound, (cX7_readBound, (3, ((some .boolean), none)))) (xt_X7_readBound, (3, (4, (8, [])))) := xMc_mk (own := RX7) (pool := xp_RX7) (lst := fun u k => xus_RX7.any fun q => Nat.beq q.1 u && Nat.beq q.2.1 k) (thr := []) false rfl xqw_X7_readBound rfl (plainFor_of_name xpl_RX7) (fun h => nomatch h) rfl trivial (xhu_RX7 Z) (fun _ h => nomatch h) (by decide +kernel)
set_option maxRecDepth 1000000 in
theorem xmc_X7_readCondition {S : State} {ad : Nat → Nat} (Z : xSf S ad xmt xL) : xMc S ad xmt xpools (yX7_readCondition, (cX7_readCondition, (8, ((some .boolean), none)))) (xt_X7_readCondition, (8, (4, (8, [])))) := xMc_mk (own := RX7) (pool := xp_RX7) (lst := fun u k => xus_RX7.any fun q => Nat.beq q.1 u && Nat.beq q.2.1 k) (thr := []) false rfl xqw_X7_readCondition rfl (plainFor_of_name xpl_RX7) (fun h => nomatch h) rfl trivial (xhu_RX7 Z) (fun _ h => nomatch h) (by decide +kernel)
set_option maxRecDepth 1000000 in
theorem xmc_X7_readObjects {S : State} {ad : Nat → Nat} (Z : xSf S ad xmt xL) : xMc S ad xmt xpools (yX7_readObjects, (cX7_readObjects, (9, ((some .boolean), none)))) (xt_X7_readObjects, (9, (4, (8, [])))) := xMc_mk (own := RX7) (pool := xp_RX7) (lst := fun u k => xus_RX7.any fun q => Nat.beq q.1 u && Nat.beq q.2.1 k) (thr := []) false rfl xqw_X7_readObjects rfl (plainFor_of_name xpl_RX7) (fun h => nomatch h) rfl trivial (xhu_RX7 Z) (fun _ h => nomatch h) (by decide +kernel)
set_option maxRecDepth 1000000 in
theorem xmc_X7_readOrder {S : State} {ad : Nat → Nat} (Z : xSf S ad xmt xL) : xMc S ad xmt xpools (yX7_readOrder, (cX7_readOrder, (7, ((some .int), none)))) (xt_X7_readOrder, (7, (1, (8, [])))) := xMc_mk (own := RX7) (pool := xp_RX7) (lst := fun u k => xus_RX7.any fun q => Nat.beq q.1 u && Nat.beq q.2.1 k) (thr := []) false rfl xqw_X7_readOrder rfl (plainFor_of_name xpl_RX7) (fun h => nomatch h) rfl trivial (xhu_RX7 Z) (fun _ h => nomatch h) (by decide +kernel)
set_option maxRecDepth 1000000 in
theorem xmc_X7_readRule {S : State} {ad : Nat → Nat} (Z : xSf S ad xmt xL) : xMc S ad xmt xpools (yX7_readRule, (cX7_readRule, (5, ((some .boolean), none)))) (xt_X7_readRule, (5, (4, (8, [])))) := xMc_mk (own := RX7) (pool := xp_RX7) (lst := fun u k => xus_RX7.any fun q => Nat.beq q.1 u && Nat.beq q.2.1 k) (thr := []) false rfl xqw_X7_readRule rfl (plainFor_of_name xpl_RX7) (fun h => nomatch h) rfl trivial (xhu_RX7 Z) (fun _ h => nomatch h) (by decide +kernel)
set_option maxRecDepth 1000000 in
theorem xmc_X7_readRules {S : State} {ad : Nat → Nat} (Z : xSf S ad xmt xL) : xMc S ad xmt xpools (yX7_readRules, (cX7_readRules, (5, ((some .int), none)))) (xt_X7_readRules, (5, (1, (8, [])))) := xMc_mk (own := RX7) (pool := xp_RX7) (lst := fun u k => xus_RX7.any fun q => Nat.beq q.1 u && Nat.beq q.2.1 k) (thr := []) false rfl xqw_X7_readRules rfl (plainFor_of_name xpl_RX7) (fun h => nomatch h) rfl trivial (xhu_RX7 Z) (fun _ h => nomatch h) (by decide +kernel)
set_option maxRecDepth 1000000 in
theorem xmc_X7_release {S : State} {ad : Nat → Nat} (Z : xSf S ad xmt xL) : xMc S ad xmt xpools (yX7_release, (cX7_release, (2, (none, none)))) (xt_X7_release, (2, (0, (8, [])))) := xMc_mk (own := RX7) (pool := xp_RX7) (lst := fun u k => xus_RX7.any fun q => Nat.beq q.1 u && Nat.beq q.2.1 k) (thr := []) false rfl xqw_X7_release rfl (plainFor_of_name xpl_RX7) (fun h => nomatch h) rfl trivial (xhu_RX7 Z) (fun _ h => nomatch h) (by decide +kernel)
set_option maxRecDepth 1000000 in
theorem xmc_X7_setOut {S : State} {ad : Nat → Nat} (Z : xSf S ad xmt xL) : xMc S ad xmt xpools (yX7_setOut, (cX7_setOut, (3, (none, none)))) (xt_X7_setOut, (3, (0, (8, [])))) := xMc_mk (own := RX7) (pool := xp_RX7) (lst := fun u k => xus_RX7.any fun q => Nat.beq q.1 u && Nat.beq q.2.1 k) (thr := []) false rfl xqw_X7_setOut rfl (plainFor_of_name xpl_RX7) (fun h => nomatch h) rfl trivial (xhu_RX7 Z) (fun _ h => nomatch h) (by decide +kernel)
set_option maxRecDepth 1000000 in
theorem xmc_X7_weigh {S : State} {ad : Nat → Nat} (Z : xSf S ad xmt xL) : xMc S ad xmt xpools (yX7_weigh, (cX7_weigh, (4, (none, none)))) (xt_X7_weigh, (4, (0, (8, [])))) := xMc_mk (own := RX7) (pool := xp_RX7) (lst := fun u k => xus_RX7.any fun q => Nat.beq q.1 u && Nat.beq q.2.1 k) (thr := []) false rfl xqw_X7_weigh rfl (plainFor_of_name xpl_RX7) (fun h => nomatch h) rfl trivial (xhu_RX7 Z) (fun _ h => nomatch h) (by decide +kernel)
set_option maxRecDepth 1000000 in
theorem xmc_X8_bits {S : State} {ad : Nat → Nat} (Z : xSf S ad xmt xL) : xMc S ad xmt xpools (yX8_bits, (cX8_bits, (6, ((some .int), none)))) (xt_X8_bits, (6, (1, (9, [])))) := xMc_mk (own := RX8) (pool := xp_RX8) (lst := fun u k => xus_RX8.any fun q => Nat.beq q.1 u && Nat.beq q.2.1 k) (thr := []) false rfl xqw_X8_bits rfl (plainFor_of_name xpl_RX8) (fun h => nomatch h) rfl trivial (xhu_RX8 Z) (fun _ h => nomatch h) (by decide +kernel)
set_option maxRecDepth 1000000 in
theorem xmc_X8_bitsOf {S : State} {ad : Nat → Nat} (Z : xSf S ad xmt xL) : xMc S ad xmt xpools (yX8_bitsOf, (cX8_bitsOf, (3, ((some .int), none)))) (xt_X8_bitsOf, (3, (1, (9, [])))) := xMc_mk (own := RX8) (pool := xp_RX8) (lst := fun u k => xus_RX8.any fun q => Nat.beq q.1 u && Nat.beq q.2.1 k) (thr := []) false rfl xqw_X8_bitsOf rfl (plainFor_of_name xpl_RX8) (fun h => nomatch h) rfl trivial (xhu_RX8 Z) (fun _ h => nomatch h) (by decide +kernel)
set_option maxRecDepth 1000000 in
theorem xmc_X8_init {S : State} {ad : Nat → Nat} (Z : xSf S ad xmt xL) : xMc S ad xmt xpools (yX8_init, (cX8_init, (2, (none, none)))) (xt_X8_init, (2, (0, (9, [])))) := xMc_mk (own := RX8) (pool := xp_RX8) (lst := fun u k => xus_RX8.any fun q => Nat.beq q.1 u && Nat.beq q.2.1 k) (thr := []) true rfl xqw_X8_init rfl (plainFor_of_name xpl_RX8) (fun _ => rfl) rfl trivial (xhu_RX8 Z) (fun _ h => nomatch h) (by decide +kernel)
set_option maxRecDepth 1000000 in
theorem xmc_X8_isLineIn {S : State} {ad : Nat → Nat} (Z : xSf S ad xmt xL) : xMc S ad xmt xpools (yX8_isLineIn, (cX8_isLineIn, (3, ((some .boolean), none)))) (xt_X8_isLineIn, (3, (4, (9, [])))) := xMc_mk (own := RX8) (pool := xp_RX8) (lst := fun u k => xus_RX8.any fun q => Nat.beq q.1 u && Nat.beq q.2.1 k) (thr := []) false rfl xqw_X8_isLineIn rfl (plainFor_of_name xpl_RX8) (fun h => nomatch h) rfl trivial (xhu_RX8 Z) (fun _ h => nomatch h) (by decide +kernel)
set_option maxRecDepth 1000000 in
theorem xmc_X8_isMachineIn {S : State} {ad : Nat → Nat} (Z : xSf S ad xmt xL) : xMc S ad xmt xpools (yX8_isMachineIn, (cX8_isMachineIn, (3, ((some .boolean), none)))) (xt_X8_isMachineIn, (3, (4, (9, [])))) := xMc_mk (own := RX8) (pool := xp_RX8) (lst := fun u k => xus_RX8.any fun q => Nat.beq q.1 u && Nat.beq q.2.1 k) (thr := []) false rfl xqw_X8_isMachineIn rfl (plainFor_of_name xpl_RX8) (fun h => nomatch h) rfl trivial (xhu_RX8 Z) (fun _ h => nomatch h) (by decide +kernel)
set_option maxRecDepth 1000000 in
theorem xmc_X8_islandOfLine {S : State} {ad : Nat → Nat} (Z : xSf S ad xmt xL) : xMc S ad xmt xpools (yX8_islandOfLine, (cX8_islandOfLine, (2, ((some .int), none)))) (xt_X8_islandOfLine, (2, (1, (9, [])))) := xMc_mk (own := RX8) (pool := xp_RX8) (lst := fun u k => xus_RX8.any fun q => Nat.beq q.1 u && Nat.beq q.2.1 k) (thr := []) false rfl xqw_X8_islandOfLine rfl (plainFor_of_name xpl_RX8) (fun h => nomatch h) rfl trivial (xhu_RX8 Z) (fun _ h => nomatch h) (by decide +kernel)
set_option maxRecDepth 1000000 in
theorem xmc_X8_islandOfLoad {S : State} {ad : Nat → Nat} (Z : xSf S ad xmt xL) : xMc S ad xmt xpools (yX8_islandOfLoad, (cX8_islandOfLoad, (2, ((some .int), none)))) (xt_X8_islandOfLoad, (2, (1, (9, [])))) := xMc_mk (own := RX8) (pool := xp_RX8) (lst := fun u k => xus_RX8.any fun q => Nat.beq q.1 u && Nat.beq q.2.1 k) (thr := []) false rfl xqw_X8_islandOfLoad rfl (plainFor_of_name xpl_RX8) (fun h => nomatch h) rfl trivial (xhu_RX8 Z) (fun _ h => nomatch h) (by decide +kernel)
set_option maxRecDepth 1000000 in
theorem xmc_X8_islandOfMachine {S : State} {ad : Nat → Nat} (Z : xSf S ad xmt xL) : xMc S ad xmt xpools (yX8_islandOfMachine, (cX8_islandOfMachine, (2, ((some .int), none)))) (xt_X8_islandOfMachine, (2, (1, (9, [])))) := xMc_mk (own := RX8) (pool := xp_RX8) (lst := fun u k => xus_RX8.any fun q => Nat.beq q.1 u && Nat.beq q.2.1 k) (thr := []) false rfl xqw_X8_islandOfMachine rfl (plainFor_of_name xpl_RX8) (fun h => nomatch h) rfl trivial (xhu_RX8 Z) (fun _ h => nomatch h) (by decide +kernel)
set_option maxRecDepth 1000000 in
theorem xmc_X8_join {S : State} {ad : Nat → Nat} (Z : xSf S ad xmt xL) : xMc S ad xmt xpools (yX8_join, (cX8_join, (6, (none, none)))) (xt_X8_join, (6, (0, (9, [])))) := xMc_mk (own := RX8) (pool := xp_RX8) (lst := fun u k => xus_RX8.any fun q => Nat.beq q.1 u && Nat.beq q.2.1 k) (thr := []) false rfl xqw_X8_join rfl (plainFor_of_name xpl_RX8) (fun h => nomatch h) rfl trivial (xhu_RX8 Z) (fun _ h => nomatch h) (by decide +kernel)
set_option maxRecDepth 1000000 in
theorem xmc_X8_lay {S : State} {ad : Nat → Nat} (Z : xSf S ad xmt xL) : xMc S ad xmt xpools (yX8_lay, (cX8_lay, (10, ((some .long), none)))) (xt_X8_lay, (10, (2, (9, [])))) := xMc_mk (own := RX8) (pool := xp_RX8) (lst := fun u k => xus_RX8.any fun q => Nat.beq q.1 u && Nat.beq q.2.1 k) (thr := []) false rfl xqw_X8_lay rfl (plainFor_of_name xpl_RX8) (fun h => nomatch h) rfl trivial (xhu_RX8 Z) (fun _ h => nomatch h) (by decide +kernel)
set_option maxRecDepth 1000000 in
theorem xmr_X8_look_0 : xallB (xrowB cX8_look (xpool xp_RX8) 4 false 0 (fun u k => xus_RX8.any fun q => Nat.beq q.1 u && Nat.beq q.2.1 k) []) xt_X8_look_0 = true := by decide +kernel
set_option maxRecDepth 1000000 in
theorem xmr_X8_look_1 : xallB (xrowB cX8_look (xpool xp_RX8) 4 false 0 (fun u k => xus_RX8.any fun q => Nat.beq q.1 u && Nat.beq q.2.1 k) []) xt_X8_look_1 = true := by decide +kernel
set_option maxRecDepth 1000000 in
theorem xmr_X8_look_2 : xallB (xrowB cX8_look (xpool xp_RX8) 4 false 0 (fun u k => xus_RX8.any fun q => Nat.beq q.1 u && Nat.beq q.2.1 k) []) xt_X8_look_2 = true := by decide +kernel
set_option maxRecDepth 1000000 in
theorem xmr_X8_look_3 : xallB (xrowB cX8_look (xpool xp_RX8) 4 false 0 (fun u k => xus_RX8.any fun q => Nat.beq q.1 u && Nat.beq q.2.1 k) []) xt_X8_look_3 = true := by decide +kernel
set_option maxRecDepth 1000000 in
theorem xmr_X8_look_4 : xallB (xrowB cX8_look (xpool xp_RX8) 4 false 0 (fun u k => xus_RX8.any fun q => Nat.beq q.1 u && Nat.beq q.2.1 k) []) xt_X8_look_4 = true := by decide +kernel
set_option maxRecDepth 1000000 in
theorem xmr_X8_look_5 : xallB (xrowB cX8_look (xpool xp_RX8) 4 false 0 (fun u k => xus_RX8.any fun q => Nat.beq q.1 u && Nat.beq q.2.1 k) []) xt_X8_look_5 = true := by decide +kernel
set_option maxRecDepth 1000000 in
theorem xmr_X8_look_6 : xallB (xrowB cX8_look (xpool xp_RX8) 4 false 0 (fun u k => xus_RX8.any fun q => Nat.beq q.1 u && Nat.beq q.2.1 k) []) xt_X8_look_6 = true := by decide +kernel
set_option maxRecDepth 1000000 in
theorem xmr_X8_look_7 : xallB (xrowB cX8_look (xpool xp_RX8) 4 false 0 (fun u k => xus_RX8.any fun q => Nat.beq q.1 u && Nat.beq q.2.1 k) []) xt_X8_look_7 = true := by decide +kernel
set_option maxRecDepth 1000000 in
theorem xmc_X8_look {S : State} {ad : Nat → Nat} (Z : xSf S ad xmt xL) : xMc S ad xmt xpools (yX8_look, (cX8_look, (4, (none, none)))) (xt_X8_look, (4, (0, (9, [])))) := xMc_mk (own := RX8) (pool := xp_RX8) (lst := fun u k => xus_RX8.any fun q => Nat.beq q.1 u && Nat.beq q.2.1 k) (thr := []) false rfl xqw_X8_look rfl (plainFor_of_name xpl_RX8) (fun h => nomatch h) rfl trivial (xhu_RX8 Z) (fun _ h => nomatch h) (xallB_br (xallB_br (xallB_br xmr_X8_look_0 xmr_X8_look_1) (xallB_br xmr_X8_look_2 xmr_X8_look_3)) (xallB_br (xallB_br xmr_X8_look_4 xmr_X8_look_5) (xallB_br xmr_X8_look_6 xmr_X8_look_7)))
set_option maxRecDepth 1000000 in
theorem xmc_X8_loops {S : State} {ad : Nat → Nat} (Z : xSf S ad xmt xL) : xMc S ad xmt xpools (yX8_loops, (cX8_loops, (3, ((some .int), none)))) (xt_X8_loops, (3, (1, (9, [])))) := xMc_mk (own := RX8) (pool := xp_RX8) (lst := fun u k => xus_RX8.any fun q => Nat.beq q.1 u && Nat.beq q.2.1 k) (thr := []) false rfl xqw_X8_loops rfl (plainFor_of_name xpl_RX8) (fun h => nomatch h) rfl trivial (xhu_RX8 Z) (fun _ h => nomatch h) (by decide +kernel)
set_option maxRecDepth 1000000 in
theorem xmc_X8_number {S : State} {ad : Nat → Nat} (Z : xSf S ad xmt xL) : xMc S ad xmt xpools (yX8_number, (cX8_number, (5, ((some .int), none)))) (xt_X8_number, (5, (1, (9, [])))) := xMc_mk (own := RX8) (pool := xp_RX8) (lst := fun u k => xus_RX8.any fun q => Nat.beq q.1 u && Nat.beq q.2.1 k) (thr := []) false rfl xqw_X8_number rfl (plainFor_of_name xpl_RX8) (fun h => nomatch h) rfl trivial (xhu_RX8 Z) (fun _ h => nomatch h) (by decide +kernel)
set_option maxRecDepth 1000000 in
theorem xmc_X8_rowOfEnd {S : State} {ad : Nat → Nat} (Z : xSf S ad xmt xL) : xMc S ad xmt xpools (yX8_rowOfEnd, (cX8_rowOfEnd, (3, ((some .int), none)))) (xt_X8_rowOfEnd, (3, (1, (9, [])))) := xMc_mk (own := RX8) (pool := xp_RX8) (lst := fun u k => xus_RX8.any fun q => Nat.beq q.1 u && Nat.beq q.2.1 k) (thr := []) false rfl xqw_X8_rowOfEnd rfl (plainFor_of_name xpl_RX8) (fun h => nomatch h) rfl trivial (xhu_RX8 Z) (fun _ h => nomatch h) (by decide +kernel)
set_option maxRecDepth 1000000 in
theorem xmc_X8_rowOfLoad {S : State} {ad : Nat → Nat} (Z : xSf S ad xmt xL) : xMc S ad xmt xpools (yX8_rowOfLoad, (cX8_rowOfLoad, (2, ((some .int), none)))) (xt_X8_rowOfLoad, (2, (1, (9, [])))) := xMc_mk (own := RX8) (pool := xp_RX8) (lst := fun u k => xus_RX8.any fun q => Nat.beq q.1 u && Nat.beq q.2.1 k) (thr := []) false rfl xqw_X8_rowOfLoad rfl (plainFor_of_name xpl_RX8) (fun h => nomatch h) rfl trivial (xhu_RX8 Z) (fun _ h => nomatch h) (by decide +kernel)
set_option maxRecDepth 1000000 in
theorem xmc_X8_rowOfMachine {S : State} {ad : Nat → Nat} (Z : xSf S ad xmt xL) : xMc S ad xmt xpools (yX8_rowOfMachine, (cX8_rowOfMachine, (2, ((some .int), none)))) (xt_X8_rowOfMachine, (2, (1, (9, [])))) := xMc_mk (own := RX8) (pool := xp_RX8) (lst := fun u k => xus_RX8.any fun q => Nat.beq q.1 u && Nat.beq q.2.1 k) (thr := []) false rfl xqw_X8_rowOfMachine rfl (plainFor_of_name xpl_RX8) (fun h => nomatch h) rfl trivial (xhu_RX8 Z) (fun _ h => nomatch h) (by decide +kernel)
set_option maxRecDepth 1000000 in
theorem xmc_X8_tally {S : State} {ad : Nat → Nat} (Z : xSf S ad xmt xL) : xMc S ad xmt xpools (yX8_tally, (cX8_tally, (2, (none, none)))) (xt_X8_tally, (2, (0, (9, [])))) := xMc_mk (own := RX8) (pool := xp_RX8) (lst := fun u k => xus_RX8.any fun q => Nat.beq q.1 u && Nat.beq q.2.1 k) (thr := []) false rfl xqw_X8_tally rfl (plainFor_of_name xpl_RX8) (fun h => nomatch h) rfl trivial (xhu_RX8 Z) (fun _ h => nomatch h) (by decide +kernel)
set_option maxRecDepth 1000000 in
theorem xmc_X9_belowSquares {S : State} {ad : Nat → Nat} (Z : xSf S ad xmt xL) : xMc S ad xmt xpools (yX9_belowSquares, (cX9_belowSquares, (2, (none, none)))) (xt_X9_belowSquares, (2, (0, (10, [])))) := xMc_mk (own := RX9) (pool := xp_RX9) (lst := fun u k => xus_RX9.any fun q => Nat.beq q.1 u && Nat.beq q.2.1 k) (thr := []) false rfl xqw_X9_belowSquares rfl (plainFor_of_name xpl_RX9) (fun h => nomatch h) rfl trivial (xhu_RX9 Z) (fun _ h => nomatch h) (by decide +kernel)
set_option maxRecDepth 1000000 in
theorem xmc_X9_bits {S : State} {ad : Nat → Nat} (Z : xSf S ad xmt xL) : xMc S ad xmt xpools (yX9_bits, (cX9_bits, (4, ((some .int), none)))) (xt_X9_bits, (4, (1, (10, [])))) := xMc_mk (own := RX9) (pool := xp_RX9) (lst := fun u k => xus_RX9.any fun q => Nat.beq q.1 u && Nat.beq q.2.1 k) (thr := []) false rfl xqw_X9_bits rfl (plainFor_of_name xpl_RX9) (fun h => nomatch h) rfl trivial (xhu_RX9 Z) (fun _ h => nomatch h) (by decide +kernel)
set_option maxRecDepth 1000000 in
theorem xmr_X9_currents_0 : xallB (xrowB cX9_currents (xpool xp_RX9) 9 false 0 (fun u k => xus_RX9.any fun q => Nat.beq q.1 u && Nat.beq q.2.1 k) []) xt_X9_currents_0 = true := by decide +kernel
set_option maxRecDepth 1000000 in
theorem xmr_X9_currents_1 : xallB (xrowB cX9_currents (xpool xp_RX9) 9 false 0 (fun u k => xus_RX9.any fun q => Nat.beq q.1 u && Nat.beq q.2.1 k) []) xt_X9_currents_1 = true := by decide +kernel
set_option maxRecDepth 1000000 in
theorem xmr_X9_currents_2 : xallB (xrowB cX9_currents (xpool xp_RX9) 9 false 0 (fun u k => xus_RX9.any fun q => Nat.beq q.1 u && Nat.beq q.2.1 k) []) xt_X9_currents_2 = true := by decide +kernel
set_option maxRecDepth 1000000 in
theorem xmr_X9_currents_3 : xallB (xrowB cX9_currents (xpool xp_RX9) 9 false 0 (fun u k => xus_RX9.any fun q => Nat.beq q.1 u && Nat.beq q.2.1 k) []) xt_X9_currents_3 = true := by decide +kernel
set_option maxRecDepth 1000000 in
theorem xmc_X9_currents {S : State} {ad : Nat → Nat} (Z : xSf S ad xmt xL) : xMc S ad xmt xpools (yX9_currents, (cX9_currents, (9, (none, none)))) (xt_X9_currents, (9, (0, (10, [])))) := xMc_mk (own := RX9) (pool := xp_RX9) (lst := fun u k => xus_RX9.any fun q => Nat.beq q.1 u && Nat.beq q.2.1 k) (thr := []) false rfl xqw_X9_currents rfl (plainFor_of_name xpl_RX9) (fun h => nomatch h) rfl trivial (xhu_RX9 Z) (fun _ h => nomatch h) (xallB_br (xallB_br xmr_X9_currents_0 xmr_X9_currents_1) (xallB_br xmr_X9_currents_2 xmr_X9_currents_3))
set_option maxRecDepth 1000000 in
theorem xmc_X9_init {S : State} {ad : Nat → Nat} (Z : xSf S ad xmt xL) : xMc S ad xmt xpools (yX9_init, (cX9_init, (3, (none, none)))) (xt_X9_init, (3, (0, (10, [])))) := xMc_mk (own := RX9) (pool := xp_RX9) (lst := fun u k => xus_RX9.any fun q => Nat.beq q.1 u && Nat.beq q.2.1 k) (thr := []) true rfl xqw_X9_init rfl (plainFor_of_name xpl_RX9) (fun _ => rfl) rfl trivial (xhu_RX9 Z) (fun _ h => nomatch h) (by decide +kernel)
set_option maxRecDepth 1000000 in
theorem xmc_X9_isAbove {S : State} {ad : Nat → Nat} (Z : xSf S ad xmt xL) : xMc S ad xmt xpools (yX9_isAbove, (cX9_isAbove, (2, ((some .boolean), none)))) (xt_X9_isAbove, (2, (4, (10, [])))) := xMc_mk (own := RX9) (pool := xp_RX9) (lst := fun u k => xus_RX9.any fun q => Nat.beq q.1 u && Nat.beq q.2.1 k) (thr := []) false rfl xqw_X9_isAbove rfl (plainFor_of_name xpl_RX9) (fun h => nomatch h) rfl trivial (xhu_RX9 Z) (fun _ h => nomatch h) (by decide +kernel)
set_option maxRecDepth 1000000 in
theorem xmc_X9_isGrounded {S : State} {ad : Nat → Nat} (Z : xSf S ad xmt xL) : xMc S ad xmt xpools (yX9_isGrounded, (cX9_isGrounded, (2, ((some .boolean), none)))) (xt_X9_isGrounded, (2, (4, (10, [])))) := xMc_mk (own := RX9) (pool := xp_RX9) (lst := fun u k => xus_RX9.any fun q => Nat.beq q.1 u && Nat.beq q.2.1 k) (thr := []) false rfl xqw_X9_isGrounded rfl (plainFor_of_name xpl_RX9) (fun h => nomatch h) rfl trivial (xhu_RX9 Z) (fun _ h => nomatch h) (by decide +kernel)
set_option maxRecDepth 1000000 in
theorem xmc_X9_isOdd {S : State} {ad : Nat → Nat} (Z : xSf S ad xmt xL) : xMc S ad xmt xpools (yX9_isOdd, (cX9_isOdd, (1, ((some .boolean), none)))) (xt_X9_isOdd, (1, (4, (10, [])))) := xMc_mk (own := RX9) (pool := xp_RX9) (lst := fun u k => xus_RX9.any fun q => Nat.beq q.1 u && Nat.beq q.2.1 k) (thr := []) false rfl xqw_X9_isOdd rfl (plainFor_of_name xpl_RX9) (fun h => nomatch h) rfl trivial (xhu_RX9 Z) (fun _ h => nomatch h) (by decide +kernel)
set_option maxRecDepth 1000000 in
theorem xmc_X9_isOnLine {S : State} {ad : Nat → Nat} (Z : xSf S ad xmt xL) : xMc S ad xmt xpools (yX9_isOnLine, (cX9_isOnLine, (1, ((some .boolean), none)))) (xt_X9_isOnLine, (1, (4, (10, [])))) := xMc_mk (own := RX9) (pool := xp_RX9) (lst := fun u k => xus_RX9.any fun q => Nat.beq q.1 u && Nat.beq q.2.1 k) (thr := []) false rfl xqw_X9_isOnLine rfl (plainFor_of_name xpl_RX9) (fun h => nomatch h) rfl trivial (xhu_RX9 Z) (fun _ h => nomatch h) (by decide +kernel)
set_option maxRecDepth 1000000 in
theorem xmc_X9_isThere {S : State} {ad : Nat → Nat} (Z : xSf S ad xmt xL) : xMc S ad xmt xpools (yX9_isThere, (cX9_isThere, (2, ((some .boolean), none)))) (xt_X9_isThere, (2, (4, (10, [])))) := xMc_mk (own := RX9) (pool := xp_RX9) (lst := fun u k => xus_RX9.any fun q => Nat.beq q.1 u && Nat.beq q.2.1 k) (thr := []) false rfl xqw_X9_isThere rfl (plainFor_of_name xpl_RX9) (fun h => nomatch h) rfl trivial (xhu_RX9 Z) (fun _ h => nomatch h) (by decide +kernel)
set_option maxRecDepth 1000000 in
theorem xmr_X9_lay_0 : xallB (xrowB cX9_lay (xpool xp_RX9) 9 false 2 (fun u k => xus_RX9.any fun q => Nat.beq q.1 u && Nat.beq q.2.1 k) []) xt_X9_lay_0 = true := by decide +kernel
set_option maxRecDepth 1000000 in
theorem xmr_X9_lay_1 : xallB (xrowB cX9_lay (xpool xp_RX9) 9 false 2 (fun u k => xus_RX9.any fun q => Nat.beq q.1 u && Nat.beq q.2.1 k) []) xt_X9_lay_1 = true := by decide +kernel
set_option maxRecDepth 1000000 in
theorem xmr_X9_lay_2 : xallB (xrowB cX9_lay (xpool xp_RX9) 9 false 2 (fun u k => xus_RX9.any fun q => Nat.beq q.1 u && Nat.beq q.2.1 k) []) xt_X9_lay_2 = true := by decide +kernel
set_option maxRecDepth 1000000 in
theorem xmr_X9_lay_3 : xallB (xrowB cX9_lay (xpool xp_RX9) 9 false 2 (fun u k => xus_RX9.any fun q => Nat.beq q.1 u && Nat.beq q.2.1 k) []) xt_X9_lay_3 = true := by decide +kernel
set_option maxRecDepth 1000000 in
theorem xmc_X9_lay {S : State} {ad : Nat → Nat} (Z : xSf S ad xmt xL) : xMc S ad xmt xpools (yX9_lay, (cX9_lay, (9, ((some .long), none)))) (xt_X9_lay, (9, (2, (10, [])))) := xMc_mk (own := RX9) (pool := xp_RX9) (lst := fun u k => xus_RX9.any fun q => Nat.beq q.1 u && Nat.beq q.2.1 k) (thr := []) false rfl xqw_X9_lay rfl (plainFor_of_name xpl_RX9) (fun h => nomatch h) rfl trivial (xhu_RX9 Z) (fun _ h => nomatch h) (xallB_br (xallB_br xmr_X9_lay_0 xmr_X9_lay_1) (xallB_br xmr_X9_lay_2 xmr_X9_lay_3))
set_option maxRecDepth 1000000 in
theorem xmc_X9_measure {S : State} {ad : Nat → Nat} (Z : xSf S ad xmt xL) : xMc S ad xmt xpools (yX9_measure, (cX9_measure, (8, ((some .boolean), none)))) (xt_X9_measure, (8, (4, (10, [])))) := xMc_mk (own := RX9) (pool := xp_RX9) (lst := fun u k => xus_RX9.any fun q => Nat.beq q.1 u && Nat.beq q.2.1 k) (thr := []) false rfl xqw_X9_measure rfl (plainFor_of_name xpl_RX9) (fun h => nomatch h) rfl trivial (xhu_RX9 Z) (fun _ h => nomatch h) (by decide +kernel)
set_option maxRecDepth 1000000 in
theorem xmc_X9_scaleAll {S : State} {ad : Nat → Nat} (Z : xSf S ad xmt xL) : xMc S ad xmt xpools (yX9_scaleAll, (cX9_scaleAll, (3, (none, none)))) (xt_X9_scaleAll, (3, (0, (10, [])))) := xMc_mk (own := RX9) (pool := xp_RX9) (lst := fun u k => xus_RX9.any fun q => Nat.beq q.1 u && Nat.beq q.2.1 k) (thr := []) false rfl xqw_X9_scaleAll rfl (plainFor_of_name xpl_RX9) (fun h => nomatch h) rfl trivial (xhu_RX9 Z) (fun _ h => nomatch h) (by decide +kernel)
set_option maxRecDepth 1000000 in
theorem xmr_X9_sequence_0 : xallB (xrowB cX9_sequence (xpool xp_RX9) 10 false 0 (fun u k => xus_RX9.any fun q => Nat.beq q.1 u && Nat.beq q.2.1 k) []) xt_X9_sequence_0 = true := by decide +kernel
set_option maxRecDepth 1000000 in
theorem xmr_X9_sequence_1 : xallB (xrowB cX9_sequence (xpool xp_RX9) 10 false 0 (fun u k => xus_RX9.any fun q => Nat.beq q.1 u && Nat.beq q.2.1 k) []) xt_X9_sequence_1 = true := by decide +kernel
set_option maxRecDepth 1000000 in
theorem xmr_X9_sequence_2 : xallB (xrowB cX9_sequence (xpool xp_RX9) 10 false 0 (fun u k => xus_RX9.any fun q => Nat.beq q.1 u && Nat.beq q.2.1 k) []) xt_X9_sequence_2 = true := by decide +kernel
set_option maxRecDepth 1000000 in
theorem xmr_X9_sequence_3 : xallB (xrowB cX9_sequence (xpool xp_RX9) 10 false 0 (fun u k => xus_RX9.any fun q => Nat.beq q.1 u && Nat.beq q.2.1 k) []) xt_X9_sequence_3 = true := by decide +kernel
set_option maxRecDepth 1000000 in
theorem xmc_X9_sequence {S : State} {ad : Nat → Nat} (Z : xSf S ad xmt xL) : xMc S ad xmt xpools (yX9_sequence, (cX9_sequence, (10, (none, none)))) (xt_X9_sequence, (10, (0, (10, [])))) := xMc_mk (own := RX9) (pool := xp_RX9) (lst := fun u k => xus_RX9.any fun q => Nat.beq q.1 u && Nat.beq q.2.1 k) (thr := []) false rfl xqw_X9_sequence rfl (plainFor_of_name xpl_RX9) (fun h => nomatch h) rfl trivial (xhu_RX9 Z) (fun _ h => nomatch h) (xallB_br (xallB_br xmr_X9_sequence_0 xmr_X9_sequence_1) (xallB_br xmr_X9_sequence_2 xmr_X9_sequence_3))
set_option maxRecDepth 1000000 in
theorem xmc_X9_sixteenths {S : State} {ad : Nat → Nat} (Z : xSf S ad xmt xL) : xMc S ad xmt xpools (yX9_sixteenths, (cX9_sixteenths, (2, ((some .int), none)))) (xt_X9_sixteenths, (2, (1, (10, [])))) := xMc_mk (own := RX9) (pool := xp_RX9) (lst := fun u k => xus_RX9.any fun q => Nat.beq q.1 u && Nat.beq q.2.1 k) (thr := []) false rfl xqw_X9_sixteenths rfl (plainFor_of_name xpl_RX9) (fun h => nomatch h) rfl trivial (xhu_RX9 Z) (fun _ h => nomatch h) (by decide +kernel)
set_option maxRecDepth 1000000 in
theorem xmc_X9_solve {S : State} {ad : Nat → Nat} (Z : xSf S ad xmt xL) : xMc S ad xmt xpools (yX9_solve, (cX9_solve, (2, (none, none)))) (xt_X9_solve, (2, (0, (10, [])))) := xMc_mk (own := RX9) (pool := xp_RX9) (lst := fun u k => xus_RX9.any fun q => Nat.beq q.1 u && Nat.beq q.2.1 k) (thr := []) false rfl xqw_X9_solve rfl (plainFor_of_name xpl_RX9) (fun h => nomatch h) rfl trivial (xhu_RX9 Z) (fun _ h => nomatch h) (by decide +kernel)
set_option maxRecDepth 1000000 in
theorem xmr_X9_squares_0 : xallB (xrowB cX9_squares (xpool xp_RX9) 4 false 0 (fun u k => xus_RX9.any fun q => Nat.beq q.1 u && Nat.beq q.2.1 k) []) xt_X9_squares_0 = true := by decide +kernel
set_option maxRecDepth 1000000 in
theorem xmr_X9_squares_1 : xallB (xrowB cX9_squares (xpool xp_RX9) 4 false 0 (fun u k => xus_RX9.any fun q => Nat.beq q.1 u && Nat.beq q.2.1 k) []) xt_X9_squares_1 = true := by decide +kernel
set_option maxRecDepth 1000000 in
theorem xmr_X9_squares_2 : xallB (xrowB cX9_squares (xpool xp_RX9) 4 false 0 (fun u k => xus_RX9.any fun q => Nat.beq q.1 u && Nat.beq q.2.1 k) []) xt_X9_squares_2 = true := by decide +kernel
set_option maxRecDepth 1000000 in
theorem xmr_X9_squares_3 : xallB (xrowB cX9_squares (xpool xp_RX9) 4 false 0 (fun u k => xus_RX9.any fun q => Nat.beq q.1 u && Nat.beq q.2.1 k) []) xt_X9_squares_3 = true := by decide +kernel
set_option maxRecDepth 1000000 in
theorem xmc_X9_squares {S : State} {ad : Nat → Nat} (Z : xSf S ad xmt xL) : xMc S ad xmt xpools (yX9_squares, (cX9_squares, (4, (none, none)))) (xt_X9_squares, (4, (0, (10, [])))) := xMc_mk (own := RX9) (pool := xp_RX9) (lst := fun u k => xus_RX9.any fun q => Nat.beq q.1 u && Nat.beq q.2.1 k) (thr := []) false rfl xqw_X9_squares rfl (plainFor_of_name xpl_RX9) (fun h => nomatch h) rfl trivial (xhu_RX9 Z) (fun _ h => nomatch h) (xallB_br (xallB_br xmr_X9_squares_0 xmr_X9_squares_1) (xallB_br xmr_X9_squares_2 xmr_X9_squares_3))
set_option maxRecDepth 1000000 in
theorem xmc_X9_tell {S : State} {ad : Nat → Nat} (Z : xSf S ad xmt xL) : xMc S ad xmt xpools (yX9_tell, (cX9_tell, (3, (none, none)))) (xt_X9_tell, (3, (0, (10, [])))) := xMc_mk (own := RX9) (pool := xp_RX9) (lst := fun u k => xus_RX9.any fun q => Nat.beq q.1 u && Nat.beq q.2.1 k) (thr := []) false rfl xqw_X9_tell rfl (plainFor_of_name xpl_RX9) (fun h => nomatch h) rfl trivial (xhu_RX9 Z) (fun _ h => nomatch h) (by decide +kernel)
set_option maxRecDepth 1000000 in
theorem xmc_X9_tellInto {S : State} {ad : Nat → Nat} (Z : xSf S ad xmt xL) : xMc S ad xmt xpools (yX9_tellInto, (cX9_tellInto, (3, (none, none)))) (xt_X9_tellInto, (3, (0, (10, [])))) := xMc_mk (own := RX9) (pool := xp_RX9) (lst := fun u k => xus_RX9.any fun q => Nat.beq q.1 u && Nat.beq q.2.1 k) (thr := []) false rfl xqw_X9_tellInto rfl (plainFor_of_name xpl_RX9) (fun h => nomatch h) rfl trivial (xhu_RX9 Z) (fun _ h => nomatch h) (by decide +kernel)
set_option maxRecDepth 1000000 in
theorem xmc_X9_volts {S : State} {ad : Nat → Nat} (Z : xSf S ad xmt xL) : xMc S ad xmt xpools (yX9_volts, (cX9_volts, (4, (none, none)))) (xt_X9_volts, (4, (0, (10, [])))) := xMc_mk (own := RX9) (pool := xp_RX9) (lst := fun u k => xus_RX9.any fun q => Nat.beq q.1 u && Nat.beq q.2.1 k) (thr := []) false rfl xqw_X9_volts rfl (plainFor_of_name xpl_RX9) (fun h => nomatch h) rfl trivial (xhu_RX9 Z) (fun _ h => nomatch h) (by decide +kernel)
set_option maxRecDepth 1000000 in
theorem xmc_X9_weigh {S : State} {ad : Nat → Nat} (Z : xSf S ad xmt xL) : xMc S ad xmt xpools (yX9_weigh, (cX9_weigh, (3, (none, none)))) (xt_X9_weigh, (3, (0, (10, [])))) := xMc_mk (own := RX9) (pool := xp_RX9) (lst := fun u k => xus_RX9.any fun q => Nat.beq q.1 u && Nat.beq q.2.1 k) (thr := []) false rfl xqw_X9_weigh rfl (plainFor_of_name xpl_RX9) (fun h => nomatch h) rfl trivial (xhu_RX9 Z) (fun _ h => nomatch h) (by decide +kernel)
set_option maxRecDepth 1000000 in
theorem xmr_X9_weighOdd_0 : xallB (xrowB cX9_weighOdd (xpool xp_RX9) 6 false 0 (fun u k => xus_RX9.any fun q => Nat.beq q.1 u && Nat.beq q.2.1 k) []) xt_X9_weighOdd_0 = true := by decide +kernel
set_option maxRecDepth 1000000 in
theorem xmr_X9_weighOdd_1 : xallB (xrowB cX9_weighOdd (xpool xp_RX9) 6 false 0 (fun u k => xus_RX9.any fun q => Nat.beq q.1 u && Nat.beq q.2.1 k) []) xt_X9_weighOdd_1 = true := by decide +kernel
set_option maxRecDepth 1000000 in
theorem xmr_X9_weighOdd_2 : xallB (xrowB cX9_weighOdd (xpool xp_RX9) 6 false 0 (fun u k => xus_RX9.any fun q => Nat.beq q.1 u && Nat.beq q.2.1 k) []) xt_X9_weighOdd_2 = true := by decide +kernel
set_option maxRecDepth 1000000 in
theorem xmr_X9_weighOdd_3 : xallB (xrowB cX9_weighOdd (xpool xp_RX9) 6 false 0 (fun u k => xus_RX9.any fun q => Nat.beq q.1 u && Nat.beq q.2.1 k) []) xt_X9_weighOdd_3 = true := by decide +kernel
set_option maxRecDepth 1000000 in
theorem xmc_X9_weighOdd {S : State} {ad : Nat → Nat} (Z : xSf S ad xmt xL) : xMc S ad xmt xpools (yX9_weighOdd, (cX9_weighOdd, (6, (none, none)))) (xt_X9_weighOdd, (6, (0, (10, [])))) := xMc_mk (own := RX9) (pool := xp_RX9) (lst := fun u k => xus_RX9.any fun q => Nat.beq q.1 u && Nat.beq q.2.1 k) (thr := []) false rfl xqw_X9_weighOdd rfl (plainFor_of_name xpl_RX9) (fun h => nomatch h) rfl trivial (xhu_RX9 Z) (fun _ h => nomatch h) (xallB_br (xallB_br xmr_X9_weighOdd_0 xmr_X9_weighOdd_1) (xallB_br xmr_X9_weighOdd_2 xmr_X9_weighOdd_3))
set_option maxRecDepth 1000000 in
theorem xmc_X10_blank {S : State} {ad : Nat → Nat} (Z : xSf S ad xmt xL) : xMc S ad xmt xpools (yX10_blank, (cX10_blank, (6, (none, none)))) (xt_X10_blank, (6, (0, (11, [])))) := xMc_mk (own := RX10) (pool := xp_RX10) (lst := fun u k => xus_RX10.any fun q => Nat.beq q.1 u && Nat.beq q.2.1 k) (thr := []) false rfl xqw_X10_blank rfl (plainFor_of_name xpl_RX10) (fun h => nomatch h) rfl trivial (xhu_RX10 Z) (fun _ h => nomatch h) (by decide +kernel)
