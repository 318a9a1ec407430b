set_option maxRecDepth 1000000 in
theorem xmc_X13_addSizes {S : State} {ad : Nat → Nat} (Z : xSf S ad xmt xL) : xMc S ad xmt xpools (yX13_addSizes, (cX13_addSizes, (8, (none, none)))) (xt_X13_addSizes, (8, (0, (14, [])))) := xMc_mk (own := RX13) (pool := xp_RX13) (lst := fun u k => xus_RX13.any fun q => Nat.beq q.1 u && Nat.beq q.2.1 k) (thr := []) false rfl xqw_X13_addSizes rfl (plainFor_of_name xpl_RX13) (fun h => nomatch h) rfl trivial (xhu_RX13 Z) (fun _ h => nomatch h) (by decide +kernel)
set_option maxRecDepth 1000000 in
theorem xmc_X13_aimOf {S : State} {ad : Nat → Nat} (Z : xSf S ad xmt xL) : xMc S ad xmt xpools (yX13_aimOf, (cX13_aimOf, (3, ((some .int), none)))) (xt_X13_aimOf, (3, (1, (14, [])))) := xMc_mk (own := RX13) (pool := xp_RX13) (lst := fun u k => xus_RX13.any fun q => Nat.beq q.1 u && Nat.beq q.2.1 k) (thr := []) false rfl xqw_X13_aimOf rfl (plainFor_of_name xpl_RX13) (fun h => nomatch h) rfl trivial (xhu_RX13 Z) (fun _ h => nomatch h) (by decide +kernel)
set_option maxRecDepth 1000000 in
theorem xmc_X13_allOf {S : State} {ad : Nat → Nat} (Z : xSf S ad xmt xL) : xMc S ad xmt xpools (yX13_allOf, (cX13_allOf, (3, (none, none)))) (xt_X13_allOf, (3, (0, (14, [])))) := xMc_mk (own := RX13) (pool := xp_RX13) (lst := fun u k => xus_RX13.any fun q => Nat.beq q.1 u && Nat.beq q.2.1 k) (thr := []) false rfl xqw_X13_allOf rfl (plainFor_of_name xpl_RX13) (fun h => nomatch h) rfl trivial (xhu_RX13 Z) (fun _ h => nomatch h) (by decide +kernel)
set_option maxRecDepth 1000000 in
theorem xmc_X13_angle {S : State} {ad : Nat → Nat} (Z : xSf S ad xmt xL) : xMc S ad xmt xpools (yX13_angle, (cX13_angle, (3, ((some .int), none)))) (xt_X13_angle, (3, (1, (14, [])))) := xMc_mk (own := RX13) (pool := xp_RX13) (lst := fun u k => xus_RX13.any fun q => Nat.beq q.1 u && Nat.beq q.2.1 k) (thr := []) false rfl xqw_X13_angle rfl (plainFor_of_name xpl_RX13) (fun h => nomatch h) rfl trivial (xhu_RX13 Z) (fun _ h => nomatch h) (by decide +kernel)
set_option maxRecDepth 1000000 in
theorem xmc_X13_angleAt {S : State} {ad : Nat → Nat} (Z : xSf S ad xmt xL) : xMc S ad xmt xpools (yX13_angleAt, (cX13_angleAt, (3, ((some .long), none)))) (xt_X13_angleAt, (3, (2, (14, [])))) := xMc_mk (own := RX13) (pool := xp_RX13) (lst := fun u k => xus_RX13.any fun q => Nat.beq q.1 u && Nat.beq q.2.1 k) (thr := []) false rfl xqw_X13_angleAt rfl (plainFor_of_name xpl_RX13) (fun h => nomatch h) rfl trivial (xhu_RX13 Z) (fun _ h => nomatch h) (by decide +kernel)
set_option maxRecDepth 1000000 in
theorem xmc_X13_asInRun {S : State} {ad : Nat → Nat} (Z : xSf S ad xmt xL) : xMc S ad xmt xpools (yX13_asInRun, (cX13_asInRun, (2, (none, none)))) (xt_X13_asInRun, (2, (0, (14, [])))) := xMc_mk (own := RX13) (pool := xp_RX13) (lst := fun u k => xus_RX13.any fun q => Nat.beq q.1 u && Nat.beq q.2.1 k) (thr := []) false rfl xqw_X13_asInRun rfl (plainFor_of_name xpl_RX13) (fun h => nomatch h) rfl trivial (xhu_RX13 Z) (fun _ h => nomatch h) (by decide +kernel)
set_option maxRecDepth 1000000 in
theorem xmc_X13_asItIs {S : State} {ad : Nat → Nat} (Z : xSf S ad xmt xL) : xMc S ad xmt xpools (yX13_asItIs, (cX13_asItIs, (2, (none, none)))) (xt_X13_asItIs, (2, (0, (14, [])))) := xMc_mk (own := RX13) (pool := xp_RX13) (lst := fun u k => xus_RX13.any fun q => Nat.beq q.1 u && Nat.beq q.2.1 k) (thr := []) false rfl xqw_X13_asItIs rfl (plainFor_of_name xpl_RX13) (fun h => nomatch h) rfl trivial (xhu_RX13 Z) (fun _ h => nomatch h) (by decide +kernel)
set_option maxRecDepth 1000000 in
theorem xmc_X13_back {S : State} {ad : Nat → Nat} (Z : xSf S ad xmt xL) : xMc S ad xmt xpools (yX13_back, (cX13_back, (3, (none, none)))) (xt_X13_back, (3, (0, (14, [])))) := xMc_mk (own := RX13) (pool := xp_RX13) (lst := fun u k => xus_RX13.any fun q => Nat.beq q.1 u && Nat.beq q.2.1 k) (thr := []) false rfl xqw_X13_back rfl (plainFor_of_name xpl_RX13) (fun h => nomatch h) rfl trivial (xhu_RX13 Z) (fun _ h => nomatch h) (by decide +kernel)
set_option maxRecDepth 1000000 in
theorem xmc_X13_backUp {S : State} {ad : Nat → Nat} (Z : xSf S ad xmt xL) : xMc S ad xmt xpools (yX13_backUp, (cX13_backUp, (10, (none, none)))) (xt_X13_backUp, (10, (0, (14, [])))) := xMc_mk (own := RX13) (pool := xp_RX13) (lst := fun u k => xus_RX13.any fun q => Nat.beq q.1 u && Nat.beq q.2.1 k) (thr := []) false rfl xqw_X13_backUp rfl (plainFor_of_name xpl_RX13) (fun h => nomatch h) rfl trivial (xhu_RX13 Z) (fun _ h => nomatch h) (by decide +kernel)
set_option maxRecDepth 1000000 in
theorem xmc_X13_backup {S : State} {ad : Nat → Nat} (Z : xSf S ad xmt xL) : xMc S ad xmt xpools (yX13_backup, (cX13_backup, (3, ((some .int), none)))) (xt_X13_backup, (3, (1, (14, [])))) := xMc_mk (own := RX13) (pool := xp_RX13) (lst := fun u k => xus_RX13.any fun q => Nat.beq q.1 u && Nat.beq q.2.1 k) (thr := []) false rfl xqw_X13_backup rfl (plainFor_of_name xpl_RX13) (fun h => nomatch h) rfl trivial (xhu_RX13 Z) (fun _ h => nomatch h) (by decide +kernel)
set_option maxRecDepth 1000000 in
theorem xmr_X13_bar_0 : xallB (xrowB cX13_bar (xpool xp_RX13) 4 false 1 (fun u k => xus_RX13.any fun q => Nat.beq q.1 u && Nat.beq q.2.1 k) []) xt_X13_bar_0 = true := by decide +kernel
set_option maxRecDepth 1000000 in
theorem xmr_X13_bar_1 : xallB (xrowB cX13_bar (xpool xp_RX13) 4 false 1 (fun u k => xus_RX13.any fun q => Nat.beq q.1 u && Nat.beq q.2.1 k) []) xt_X13_bar_1 = true := by decide +kernel
set_option maxRecDepth 1000000 in
theorem xmr_X13_bar_2 : xallB (xrowB cX13_bar (xpool xp_RX13) 4 false 1 (fun u k => xus_RX13.any fun q => Nat.beq q.1 u && Nat.beq q.2.1 k) []) xt_X13_bar_2 = true := by decide +kernel
set_option maxRecDepth 1000000 in
theorem xmr_X13_bar_3 : xallB (xrowB cX13_bar (xpool xp_RX13) 4 false 1 (fun u k => xus_RX13.any fun q => Nat.beq q.1 u && Nat.beq q.2.1 k) []) xt_X13_bar_3 = true := by decide +kernel
set_option maxRecDepth 1000000 in
theorem xmc_X13_bar {S : State} {ad : Nat → Nat} (Z : xSf S ad xmt xL) : xMc S ad xmt xpools (yX13_bar, (cX13_bar, (4, ((some .int), none)))) (xt_X13_bar, (4, (1, (14, [])))) := xMc_mk (own := RX13) (pool := xp_RX13) (lst := fun u k => xus_RX13.any fun q => Nat.beq q.1 u && Nat.beq q.2.1 k) (thr := []) false rfl xqw_X13_bar rfl (plainFor_of_name xpl_RX13) (fun h => nomatch h) rfl trivial (xhu_RX13 Z) (fun _ h => nomatch h) (xallB_br (xallB_br xmr_X13_bar_0 xmr_X13_bar_1) (xallB_br xmr_X13_bar_2 xmr_X13_bar_3))
set_option maxRecDepth 1000000 in
theorem xmc_X13_barred {S : State} {ad : Nat → Nat} (Z : xSf S ad xmt xL) : xMc S ad xmt xpools (yX13_barred, (cX13_barred, (3, ((some .int), none)))) (xt_X13_barred, (3, (1, (14, [])))) := xMc_mk (own := RX13) (pool := xp_RX13) (lst := fun u k => xus_RX13.any fun q => Nat.beq q.1 u && Nat.beq q.2.1 k) (thr := []) false rfl xqw_X13_barred rfl (plainFor_of_name xpl_RX13) (fun h => nomatch h) rfl trivial (xhu_RX13 Z) (fun _ h => nomatch h) (by decide +kernel)
set_option maxRecDepth 1000000 in
theorem xmc_X13_begin {S : State} {ad : Nat → Nat} (Z : xSf S ad xmt xL) : xMc S ad xmt xpools (yX13_begin, (cX13_begin, (2, ((some .int), none)))) (xt_X13_begin, (2, (1, (14, [])))) := xMc_mk (own := RX13) (pool := xp_RX13) (lst := fun u k => xus_RX13.any fun q => Nat.beq q.1 u && Nat.beq q.2.1 k) (thr := []) false rfl xqw_X13_begin rfl (plainFor_of_name xpl_RX13) (fun h => nomatch h) rfl trivial (xhu_RX13 Z) (fun _ h => nomatch h) (by decide +kernel)
set_option maxRecDepth 1000000 in
theorem xmc_X13_bestOf {S : State} {ad : Nat → Nat} (Z : xSf S ad xmt xL) : xMc S ad xmt xpools (yX13_bestOf, (cX13_bestOf, (3, ((some .boolean), none)))) (xt_X13_bestOf, (3, (4, (14, [])))) := xMc_mk (own := RX13) (pool := xp_RX13) (lst := fun u k => xus_RX13.any fun q => Nat.beq q.1 u && Nat.beq q.2.1 k) (thr := []) false rfl xqw_X13_bestOf rfl (plainFor_of_name xpl_RX13) (fun h => nomatch h) rfl trivial (xhu_RX13 Z) (fun _ h => nomatch h) (by decide +kernel)
set_option maxRecDepth 1000000 in
theorem xmr_X13_bestOfCell_0 : xallB (xrowB cX13_bestOfCell (xpool xp_RX13) 4 false 4 (fun u k => xus_RX13.any fun q => Nat.beq q.1 u && Nat.beq q.2.1 k) []) xt_X13_bestOfCell_0 = true := by decide +kernel
set_option maxRecDepth 1000000 in
theorem xmr_X13_bestOfCell_1 : xallB (xrowB cX13_bestOfCell (xpool xp_RX13) 4 false 4 (fun u k => xus_RX13.any fun q => Nat.beq q.1 u && Nat.beq q.2.1 k) []) xt_X13_bestOfCell_1 = true := by decide +kernel
set_option maxRecDepth 1000000 in
theorem xmr_X13_bestOfCell_2 : xallB (xrowB cX13_bestOfCell (xpool xp_RX13) 4 false 4 (fun u k => xus_RX13.any fun q => Nat.beq q.1 u && Nat.beq q.2.1 k) []) xt_X13_bestOfCell_2 = true := by decide +kernel
set_option maxRecDepth 1000000 in
theorem xmr_X13_bestOfCell_3 : xallB (xrowB cX13_bestOfCell (xpool xp_RX13) 4 false 4 (fun u k => xus_RX13.any fun q => Nat.beq q.1 u && Nat.beq q.2.1 k) []) xt_X13_bestOfCell_3 = true := by decide +kernel
set_option maxRecDepth 1000000 in
theorem xmc_X13_bestOfCell {S : State} {ad : Nat → Nat} (Z : xSf S ad xmt xL) : xMc S ad xmt xpools (yX13_bestOfCell, (cX13_bestOfCell, (4, ((some .boolean), none)))) (xt_X13_bestOfCell, (4, (4, (14, [])))) := xMc_mk (own := RX13) (pool := xp_RX13) (lst := fun u k => xus_RX13.any fun q => Nat.beq q.1 u && Nat.beq q.2.1 k) (thr := []) false rfl xqw_X13_bestOfCell rfl (plainFor_of_name xpl_RX13) (fun h => nomatch h) rfl trivial (xhu_RX13 Z) (fun _ h => nomatch h) (xallB_br (xallB_br xmr_X13_bestOfCell_0 xmr_X13_bestOfCell_1) (xallB_br xmr_X13_bestOfCell_2 xmr_X13_bestOfCell_3))
set_option maxRecDepth 1000000 in
theorem xmr_X13_boundRows_0 : xallB (xrowB cX13_boundRows (xpool xp_RX13) 13 false 0 (fun u k => xus_RX13.any fun q => Nat.beq q.1 u && Nat.beq q.2.1 k) []) xt_X13_boundRows_0 = true := by decide +kernel
set_option maxRecDepth 1000000 in
theorem xmr_X13_boundRows_1 : xallB (xrowB cX13_boundRows (xpool xp_RX13) 13 false 0 (fun u k => xus_RX13.any fun q => Nat.beq q.1 u && Nat.beq q.2.1 k) []) xt_X13_boundRows_1 = true := by decide +kernel
set_option maxRecDepth 1000000 in
theorem xmr_X13_boundRows_2 : xallB (xrowB cX13_boundRows (xpool xp_RX13) 13 false 0 (fun u k => xus_RX13.any fun q => Nat.beq q.1 u && Nat.beq q.2.1 k) []) xt_X13_boundRows_2 = true := by decide +kernel
set_option maxRecDepth 1000000 in
theorem xmr_X13_boundRows_3 : xallB (xrowB cX13_boundRows (xpool xp_RX13) 13 false 0 (fun u k => xus_RX13.any fun q => Nat.beq q.1 u && Nat.beq q.2.1 k) []) xt_X13_boundRows_3 = true := by decide +kernel
set_option maxRecDepth 1000000 in
theorem xmc_X13_boundRows {S : State} {ad : Nat → Nat} (Z : xSf S ad xmt xL) : xMc S ad xmt xpools (yX13_boundRows, (cX13_boundRows, (13, (none, none)))) (xt_X13_boundRows, (13, (0, (14, [])))) := xMc_mk (own := RX13) (pool := xp_RX13) (lst := fun u k => xus_RX13.any fun q => Nat.beq q.1 u && Nat.beq q.2.1 k) (thr := []) false rfl xqw_X13_boundRows rfl (plainFor_of_name xpl_RX13) (fun h => nomatch h) rfl trivial (xhu_RX13 Z) (fun _ h => nomatch h) (xallB_br (xallB_br xmr_X13_boundRows_0 xmr_X13_boundRows_1) (xallB_br xmr_X13_boundRows_2 xmr_X13_boundRows_3))
set_option maxRecDepth 1000000 in
theorem xmc_X13_carries {S : State} {ad : Nat → Nat} (Z : xSf S ad xmt xL) : xMc S ad xmt xpools (yX13_carries, (cX13_carries, (3, ((some .int), none)))) (xt_X13_carries, (3, (1, (14, [])))) := xMc_mk (own := RX13) (pool := xp_RX13) (lst := fun u k => xus_RX13.any fun q => Nat.beq q.1 u && Nat.beq q.2.1 k) (thr := []) false rfl xqw_X13_carries rfl (plainFor_of_name xpl_RX13) (fun h => nomatch h) rfl trivial (xhu_RX13 Z) (fun _ h => nomatch h) (by decide +kernel)
set_option maxRecDepth 1000000 in
theorem xmc_X13_carry {S : State} {ad : Nat → Nat} (Z : xSf S ad xmt xL) : xMc S ad xmt xpools (yX13_carry, (cX13_carry, (2, ((some .int), none)))) (xt_X13_carry, (2, (1, (14, [])))) := xMc_mk (own := RX13) (pool := xp_RX13) (lst := fun u k => xus_RX13.any fun q => Nat.beq q.1 u && Nat.beq q.2.1 k) (thr := []) false rfl xqw_X13_carry rfl (plainFor_of_name xpl_RX13) (fun h => nomatch h) rfl trivial (xhu_RX13 Z) (fun _ h => nomatch h) (by decide +kernel)
set_option maxRecDepth 1000000 in
theorem xmc_X13_cell {S : State} {ad : Nat → Nat} (Z : xSf S ad xmt xL) : xMc S ad xmt xpools (yX13_cell, (cX13_cell, (5, (none, none)))) (xt_X13_cell, (5, (0, (14, [])))) := xMc_mk (own := RX13) (pool := xp_RX13) (lst := fun u k => xus_RX13.any fun q => Nat.beq q.1 u && Nat.beq q.2.1 k) (thr := []) false rfl xqw_X13_cell rfl (plainFor_of_name xpl_RX13) (fun h => nomatch h) rfl trivial (xhu_RX13 Z) (fun _ h => nomatch h) (by decide +kernel)
set_option maxRecDepth 1000000 in
theorem xmc_X13_cellOf {S : State} {ad : Nat → Nat} (Z : xSf S ad xmt xL) : xMc S ad xmt xpools (yX13_cellOf, (cX13_cellOf, (3, ((some .int), none)))) (xt_X13_cellOf, (3, (1, (14, [])))) := xMc_mk (own := RX13) (pool := xp_RX13) (lst := fun u k => xus_RX13.any fun q => Nat.beq q.1 u && Nat.beq q.2.1 k) (thr := []) false rfl xqw_X13_cellOf rfl (plainFor_of_name xpl_RX13) (fun h => nomatch h) rfl trivial (xhu_RX13 Z) (fun _ h => nomatch h) (by decide +kernel)
set_option maxRecDepth 1000000 in
theorem xmc_X13_changed {S : State} {ad : Nat → Nat} (Z : xSf S ad xmt xL) : xMc S ad xmt xpools (yX13_changed, (cX13_changed, (1, (none, none)))) (xt_X13_changed, (1, (0, (14, [])))) := xMc_mk (own := RX13) (pool := xp_RX13) (lst := fun u k => xus_RX13.any fun q => Nat.beq q.1 u && Nat.beq q.2.1 k) (thr := []) false rfl xqw_X13_changed rfl (plainFor_of_name xpl_RX13) (fun h => nomatch h) rfl trivial (xhu_RX13 Z) (fun _ h => nomatch h) (by decide +kernel)
set_option maxRecDepth 1000000 in
theorem xmc_X13_clear {S : State} {ad : Nat → Nat} (Z : xSf S ad xmt xL) : xMc S ad xmt xpools (yX13_clear, (cX13_clear, (11, (none, none)))) (xt_X13_clear, (11, (0, (14, [])))) := xMc_mk (own := RX13) (pool := xp_RX13) (lst := fun u k => xus_RX13.any fun q => Nat.beq q.1 u && Nat.beq q.2.1 k) (thr := []) false rfl xqw_X13_clear rfl (plainFor_of_name xpl_RX13) (fun h => nomatch h) rfl trivial (xhu_RX13 Z) (fun _ h => nomatch h) (by decide +kernel)
set_option maxRecDepth 1000000 in
theorem xmc_X13_clearMatrix {S : State} {ad : Nat → Nat} (Z : xSf S ad xmt xL) : xMc S ad xmt xpools (yX13_clearMatrix, (cX13_clearMatrix, (5, (none, none)))) (xt_X13_clearMatrix, (5, (0, (14, [])))) := xMc_mk (own := RX13) (pool := xp_RX13) (lst := fun u k => xus_RX13.any fun q => Nat.beq q.1 u && Nat.beq q.2.1 k) (thr := []) false rfl xqw_X13_clearMatrix rfl (plainFor_of_name xpl_RX13) (fun h => nomatch h) rfl trivial (xhu_RX13 Z) (fun _ h => nomatch h) (by decide +kernel)
set_option maxRecDepth 1000000 in
theorem xmc_X13_clearShort {S : State} {ad : Nat → Nat} (Z : xSf S ad xmt xL) : xMc S ad xmt xpools (yX13_clearShort, (cX13_clearShort, (2, ((some .boolean), none)))) (xt_X13_clearShort, (2, (4, (14, [])))) := xMc_mk (own := RX13) (pool := xp_RX13) (lst := fun u k => xus_RX13.any fun q => Nat.beq q.1 u && Nat.beq q.2.1 k) (thr := []) false rfl xqw_X13_clearShort rfl (plainFor_of_name xpl_RX13) (fun h => nomatch h) rfl trivial (xhu_RX13 Z) (fun _ h => nomatch h) (by decide +kernel)
set_option maxRecDepth 1000000 in
theorem xmc_X13_comeBack {S : State} {ad : Nat → Nat} (Z : xSf S ad xmt xL) : xMc S ad xmt xpools (yX13_comeBack, (cX13_comeBack, (2, (none, none)))) (xt_X13_comeBack, (2, (0, (14, [])))) := xMc_mk (own := RX13) (pool := xp_RX13) (lst := fun u k => xus_RX13.any fun q => Nat.beq q.1 u && Nat.beq q.2.1 k) (thr := []) false rfl xqw_X13_comeBack rfl (plainFor_of_name xpl_RX13) (fun h => nomatch h) rfl trivial (xhu_RX13 Z) (fun _ h => nomatch h) (by decide +kernel)
set_option maxRecDepth 1000000 in
theorem xmc_X13_common {S : State} {ad : Nat → Nat} (Z : xSf S ad xmt xL) : xMc S ad xmt xpools (yX13_common, (cX13_common, (8, (none, none)))) (xt_X13_common, (8, (0, (14, [])))) := xMc_mk (own := RX13) (pool := xp_RX13) (lst := fun u k => xus_RX13.any fun q => Nat.beq q.1 u && Nat.beq q.2.1 k) (thr := []) false rfl xqw_X13_common rfl (plainFor_of_name xpl_RX13) (fun h => nomatch h) rfl trivial (xhu_RX13 Z) (fun _ h => nomatch h) (by decide +kernel)
set_option maxRecDepth 1000000 in
theorem xmc_X13_compare {S : State} {ad : Nat → Nat} (Z : xSf S ad xmt xL) : xMc S ad xmt xpools (yX13_compare, (cX13_compare, (3, ((some .int), none)))) (xt_X13_compare, (3, (1, (14, [])))) := xMc_mk (own := RX13) (pool := xp_RX13) (lst := fun u k => xus_RX13.any fun q => Nat.beq q.1 u && Nat.beq q.2.1 k) (thr := []) false rfl xqw_X13_compare rfl (plainFor_of_name xpl_RX13) (fun h => nomatch h) rfl trivial (xhu_RX13 Z) (fun _ h => nomatch h) (by decide +kernel)
set_option maxRecDepth 1000000 in
theorem xmc_X13_compareSizes {S : State} {ad : Nat → Nat} (Z : xSf S ad xmt xL) : xMc S ad xmt xpools (yX13_compareSizes, (cX13_compareSizes, (6, ((some .int), none)))) (xt_X13_compareSizes, (6, (1, (14, [])))) := xMc_mk (own := RX13) (pool := xp_RX13) (lst := fun u k => xus_RX13.any fun q => Nat.beq q.1 u && Nat.beq q.2.1 k) (thr := []) false rfl xqw_X13_compareSizes rfl (plainFor_of_name xpl_RX13) (fun h => nomatch h) rfl trivial (xhu_RX13 Z) (fun _ h => nomatch h) (by decide +kernel)
set_option maxRecDepth 1000000 in
theorem xmc_X13_condition {S : State} {ad : Nat → Nat} (Z : xSf S ad xmt xL) : xMc S ad xmt xpools (yX13_condition, (cX13_condition, (3, (none, none)))) (xt_X13_condition, (3, (0, (14, [])))) := xMc_mk (own := RX13) (pool := xp_RX13) (lst := fun u k => xus_RX13.any fun q => Nat.beq q.1 u && Nat.beq q.2.1 k) (thr := []) false rfl xqw_X13_condition rfl (plainFor_of_name xpl_RX13) (fun h => nomatch h) rfl trivial (xhu_RX13 Z) (fun _ h => nomatch h) (by decide +kernel)
set_option maxRecDepth 1000000 in
theorem xmc_X13_copy {S : State} {ad : Nat → Nat} (Z : xSf S ad xmt xL) : xMc S ad xmt xpools (yX13_copy, (cX13_copy, (4, (none, none)))) (xt_X13_copy, (4, (0, (14, [])))) := xMc_mk (own := RX13) (pool := xp_RX13) (lst := fun u k => xus_RX13.any fun q => Nat.beq q.1 u && Nat.beq q.2.1 k) (thr := []) false rfl xqw_X13_copy rfl (plainFor_of_name xpl_RX13) (fun h => nomatch h) rfl trivial (xhu_RX13 Z) (fun _ h => nomatch h) (by decide +kernel)
set_option maxRecDepth 1000000 in
theorem xmc_X13_cost {S : State} {ad : Nat → Nat} (Z : xSf S ad xmt xL) : xMc S ad xmt xpools (yX13_cost, (cX13_cost, (1, ((some .int), none)))) (xt_X13_cost, (1, (1, (14, [])))) := xMc_mk (own := RX13) (pool := xp_RX13) (lst := fun u k => xus_RX13.any fun q => Nat.beq q.1 u && Nat.beq q.2.1 k) (thr := []) false rfl xqw_X13_cost rfl (plainFor_of_name xpl_RX13) (fun h => nomatch h) rfl trivial (xhu_RX13 Z) (fun _ h => nomatch h) (by decide +kernel)
set_option maxRecDepth 1000000 in
theorem xmc_X13_costOf {S : State} {ad : Nat → Nat} (Z : xSf S ad xmt xL) : xMc S ad xmt xpools (yX13_costOf, (cX13_costOf, (7, (none, none)))) (xt_X13_costOf, (7, (0, (14, [])))) := xMc_mk (own := RX13) (pool := xp_RX13) (lst := fun u k => xus_RX13.any fun q => Nat.beq q.1 u && Nat.beq q.2.1 k) (thr := []) false rfl xqw_X13_costOf rfl (plainFor_of_name xpl_RX13) (fun h => nomatch h) rfl trivial (xhu_RX13 Z) (fun _ h => nomatch h) (by decide +kernel)
set_option maxRecDepth 1000000 in
theorem xmr_X13_count_0 : xallB (xrowB cX13_count (xpool xp_RX13) 4 false 1 (fun u k => xus_RX13.any fun q => Nat.beq q.1 u && Nat.beq q.2.1 k) []) xt_X13_count_0 = true := by decide +kernel
set_option maxRecDepth 1000000 in
theorem xmr_X13_count_1 : xallB (xrowB cX13_count (xpool xp_RX13) 4 false 1 (fun u k => xus_RX13.any fun q => Nat.beq q.1 u && Nat.beq q.2.1 k) []) xt_X13_count_1 = true := by decide +kernel
set_option maxRecDepth 1000000 in
theorem xmr_X13_count_2 : xallB (xrowB cX13_count (xpool xp_RX13) 4 false 1 (fun u k => xus_RX13.any fun q => Nat.beq q.1 u && Nat.beq q.2.1 k) []) xt_X13_count_2 = true := by decide +kernel
set_option maxRecDepth 1000000 in
theorem xmr_X13_count_3 : xallB (xrowB cX13_count (xpool xp_RX13) 4 false 1 (fun u k => xus_RX13.any fun q => Nat.beq q.1 u && Nat.beq q.2.1 k) []) xt_X13_count_3 = true := by decide +kernel
set_option maxRecDepth 1000000 in
theorem xmc_X13_count {S : State} {ad : Nat → Nat} (Z : xSf S ad xmt xL) : xMc S ad xmt xpools (yX13_count, (cX13_count, (4, ((some .int), none)))) (xt_X13_count, (4, (1, (14, [])))) := xMc_mk (own := RX13) (pool := xp_RX13) (lst := fun u k => xus_RX13.any fun q => Nat.beq q.1 u && Nat.beq q.2.1 k) (thr := []) false rfl xqw_X13_count rfl (plainFor_of_name xpl_RX13) (fun h => nomatch h) rfl trivial (xhu_RX13 Z) (fun _ h => nomatch h) (xallB_br (xallB_br xmr_X13_count_0 xmr_X13_count_1) (xallB_br xmr_X13_count_2 xmr_X13_count_3))
set_option maxRecDepth 1000000 in
theorem xmc_X13_counts {S : State} {ad : Nat → Nat} (Z : xSf S ad xmt xL) : xMc S ad xmt xpools (yX13_counts, (cX13_counts, (3, ((some .boolean), none)))) (xt_X13_counts, (3, (4, (14, [])))) := xMc_mk (own := RX13) (pool := xp_RX13) (lst := fun u k => xus_RX13.any fun q => Nat.beq q.1 u && Nat.beq q.2.1 k) (thr := []) false rfl xqw_X13_counts rfl (plainFor_of_name xpl_RX13) (fun h => nomatch h) rfl trivial (xhu_RX13 Z) (fun _ h => nomatch h) (by decide +kernel)
set_option maxRecDepth 1000000 in
theorem xmc_X13_cross {S : State} {ad : Nat → Nat} (Z : xSf S ad xmt xL) : xMc S ad xmt xpools (yX13_cross, (cX13_cross, (7, (none, none)))) (xt_X13_cross, (7, (0, (14, [])))) := xMc_mk (own := RX13) (pool := xp_RX13) (lst := fun u k => xus_RX13.any fun q => Nat.beq q.1 u && Nat.beq q.2.1 k) (thr := []) false rfl xqw_X13_cross rfl (plainFor_of_name xpl_RX13) (fun h => nomatch h) rfl trivial (xhu_RX13 Z) (fun _ h => nomatch h) (by decide +kernel)
set_option maxRecDepth 1000000 in
theorem xmc_X13_current {S : State} {ad : Nat → Nat} (Z : xSf S ad xmt xL) : xMc S ad xmt xpools (yX13_current, (cX13_current, (4, ((some .int), none)))) (xt_X13_current, (4, (1, (14, [])))) := xMc_mk (own := RX13) (pool := xp_RX13) (lst := fun u k => xus_RX13.any fun q => Nat.beq q.1 u && Nat.beq q.2.1 k) (thr := []) false rfl xqw_X13_current rfl (plainFor_of_name xpl_RX13) (fun h => nomatch h) rfl trivial (xhu_RX13 Z) (fun _ h => nomatch h) (by decide +kernel)
set_option maxRecDepth 1000000 in
theorem xmr_X13_currentsInto_0 : xallB (xrowB cX13_currentsInto (xpool xp_RX13) 12 false 0 (fun u k => xus_RX13.any fun q => Nat.beq q.1 u && Nat.beq q.2.1 k) []) xt_X13_currentsInto_0 = true := by decide +kernel
set_option maxRecDepth 1000000 in
theorem xmr_X13_currentsInto_1 : xallB (xrowB cX13_currentsInto (xpool xp_RX13) 12 false 0 (fun u k => xus_RX13.any fun q => Nat.beq q.1 u && Nat.beq q.2.1 k) []) xt_X13_currentsInto_1 = true := by decide +kernel
set_option maxRecDepth 1000000 in
theorem xmr_X13_currentsInto_2 : xallB (xrowB cX13_currentsInto (xpool xp_RX13) 12 false 0 (fun u k => xus_RX13.any fun q => Nat.beq q.1 u && Nat.beq q.2.1 k) []) xt_X13_currentsInto_2 = true := by decide +kernel
set_option maxRecDepth 1000000 in
theorem xmr_X13_currentsInto_3 : xallB (xrowB cX13_currentsInto (xpool xp_RX13) 12 false 0 (fun u k => xus_RX13.any fun q => Nat.beq q.1 u && Nat.beq q.2.1 k) []) xt_X13_currentsInto_3 = true := by decide +kernel
set_option maxRecDepth 1000000 in
theorem xmc_X13_currentsInto {S : State} {ad : Nat → Nat} (Z : xSf S ad xmt xL) : xMc S ad xmt xpools (yX13_currentsInto, (cX13_currentsInto, (12, (none, none)))) (xt_X13_currentsInto, (12, (0, (14, [])))) := xMc_mk (own := RX13) (pool := xp_RX13) (lst := fun u k => xus_RX13.any fun q => Nat.beq q.1 u && Nat.beq q.2.1 k) (thr := []) false rfl xqw_X13_currentsInto rfl (plainFor_of_name xpl_RX13) (fun h => nomatch h) rfl trivial (xhu_RX13 Z) (fun _ h => nomatch h) (xallB_br (xallB_br xmr_X13_currentsInto_0 xmr_X13_currentsInto_1) (xallB_br xmr_X13_currentsInto_2 xmr_X13_currentsInto_3))
set_option maxRecDepth 1000000 in
theorem xmr_X13_currentsOfShort_0 : xallB (xrowB cX13_currentsOfShort (xpool xp_RX13) 3 false 0 (fun u k => xus_RX13.any fun q => Nat.beq q.1 u && Nat.beq q.2.1 k) []) xt_X13_currentsOfShort_0 = true := by decide +kernel
set_option maxRecDepth 1000000 in
theorem xmr_X13_currentsOfShort_1 : xallB (xrowB cX13_currentsOfShort (xpool xp_RX13) 3 false 0 (fun u k => xus_RX13.any fun q => Nat.beq q.1 u && Nat.beq q.2.1 k) []) xt_X13_currentsOfShort_1 = true := by decide +kernel
set_option maxRecDepth 1000000 in
theorem xmr_X13_currentsOfShort_2 : xallB (xrowB cX13_currentsOfShort (xpool xp_RX13) 3 false 0 (fun u k => xus_RX13.any fun q => Nat.beq q.1 u && Nat.beq q.2.1 k) []) xt_X13_currentsOfShort_2 = true := by decide +kernel
set_option maxRecDepth 1000000 in
theorem xmr_X13_currentsOfShort_3 : xallB (xrowB cX13_currentsOfShort (xpool xp_RX13) 3 false 0 (fun u k => xus_RX13.any fun q => Nat.beq q.1 u && Nat.beq q.2.1 k) []) xt_X13_currentsOfShort_3 = true := by decide +kernel
set_option maxRecDepth 1000000 in
theorem xmr_X13_currentsOfShort_4 : xallB (xrowB cX13_currentsOfShort (xpool xp_RX13) 3 false 0 (fun u k => xus_RX13.any fun q => Nat.beq q.1 u && Nat.beq q.2.1 k) []) xt_X13_currentsOfShort_4 = true := by decide +kernel
set_option maxRecDepth 1000000 in
theorem xmr_X13_currentsOfShort_5 : xallB (xrowB cX13_currentsOfShort (xpool xp_RX13) 3 false 0 (fun u k => xus_RX13.any fun q => Nat.beq q.1 u && Nat.beq q.2.1 k) []) xt_X13_currentsOfShort_5 = true := by decide +kernel
set_option maxRecDepth 1000000 in
theorem xmr_X13_currentsOfShort_6 : xallB (xrowB cX13_currentsOfShort (xpool xp_RX13) 3 false 0 (fun u k => xus_RX13.any fun q => Nat.beq q.1 u && Nat.beq q.2.1 k) []) xt_X13_currentsOfShort_6 = true := by decide +kernel
set_option maxRecDepth 1000000 in
theorem xmr_X13_currentsOfShort_7 : xallB (xrowB cX13_currentsOfShort (xpool xp_RX13) 3 false 0 (fun u k => xus_RX13.any fun q => Nat.beq q.1 u && Nat.beq q.2.1 k) []) xt_X13_currentsOfShort_7 = true := by decide +kernel
set_option maxRecDepth 1000000 in
theorem xmc_X13_currentsOfShort {S : State} {ad : Nat → Nat} (Z : xSf S ad xmt xL) : xMc S ad xmt xpools (yX13_currentsOfShort, (cX13_currentsOfShort, (3, (none, none)))) (xt_X13_currentsOfShort, (3, (0, (14, [])))) := xMc_mk (own := RX13) (pool := xp_RX13) (lst := fun u k => xus_RX13.any fun q => Nat.beq q.1 u && Nat.beq q.2.1 k) (thr := []) false rfl xqw_X13_currentsOfShort rfl (plainFor_of_name xpl_RX13) (fun h => nomatch h) rfl trivial (xhu_RX13 Z) (fun _ h => nomatch h) (xallB_br (xallB_br (xallB_br xmr_X13_currentsOfShort_0 xmr_X13_currentsOfShort_1) (xallB_br xmr_X13_currentsOfShort_2 xmr_X13_currentsOfShort_3)) (xallB_br (xallB_br xmr_X13_currentsOfShort_4 xmr_X13_currentsOfShort_5) (xallB_br xmr_X13_currentsOfShort_6 xmr_X13_currentsOfShort_7)))
set_option maxRecDepth 1000000 in
theorem xmc_X13_dispatch {S : State} {ad : Nat → Nat} (Z : xSf S ad xmt xL) : xMc S ad xmt xpools (yX13_dispatch, (cX13_dispatch, (1, ((some .int), none)))) (xt_X13_dispatch, (1, (1, (14, [])))) := xMc_mk (own := RX13) (pool := xp_RX13) (lst := fun u k => xus_RX13.any fun q => Nat.beq q.1 u && Nat.beq q.2.1 k) (thr := []) false rfl xqw_X13_dispatch rfl (plainFor_of_name xpl_RX13) (fun h => nomatch h) rfl trivial (xhu_RX13 Z) (fun _ h => nomatch h) (by decide +kernel)
set_option maxRecDepth 1000000 in
theorem xmc_X13_dispatchNet {S : State} {ad : Nat → Nat} (Z : xSf S ad xmt xL) : xMc S ad xmt xpools (yX13_dispatchNet, (cX13_dispatchNet, (2, (none, none)))) (xt_X13_dispatchNet, (2, (0, (14, [])))) := xMc_mk (own := RX13) (pool := xp_RX13) (lst := fun u k => xus_RX13.any fun q => Nat.beq q.1 u && Nat.beq q.2.1 k) (thr := []) false rfl xqw_X13_dispatchNet rfl (plainFor_of_name xpl_RX13) (fun h => nomatch h) rfl trivial (xhu_RX13 Z) (fun _ h => nomatch h) (by decide +kernel)
set_option maxRecDepth 1000000 in
theorem xmr_X13_dispatchOf_0 : xallB (xrowB cX13_dispatchOf (xpool xp_RX13) 7 false 4 (fun u k => xus_RX13.any fun q => Nat.beq q.1 u && Nat.beq q.2.1 k) []) xt_X13_dispatchOf_0 = true := by decide +kernel
set_option maxRecDepth 1000000 in
theorem xmr_X13_dispatchOf_1 : xallB (xrowB cX13_dispatchOf (xpool xp_RX13) 7 false 4 (fun u k => xus_RX13.any fun q => Nat.beq q.1 u && Nat.beq q.2.1 k) []) xt_X13_dispatchOf_1 = true := by decide +kernel
set_option maxRecDepth 1000000 in
theorem xmr_X13_dispatchOf_2 : xallB (xrowB cX13_dispatchOf (xpool xp_RX13) 7 false 4 (fun u k => xus_RX13.any fun q => Nat.beq q.1 u && Nat.beq q.2.1 k) []) xt_X13_dispatchOf_2 = true := by decide +kernel
set_option maxRecDepth 1000000 in
theorem xmr_X13_dispatchOf_3 : xallB (xrowB cX13_dispatchOf (xpool xp_RX13) 7 false 4 (fun u k => xus_RX13.any fun q => Nat.beq q.1 u && Nat.beq q.2.1 k) []) xt_X13_dispatchOf_3 = true := by decide +kernel
set_option maxRecDepth 1000000 in
theorem xmc_X13_dispatchOf {S : State} {ad : Nat → Nat} (Z : xSf S ad xmt xL) : xMc S ad xmt xpools (yX13_dispatchOf, (cX13_dispatchOf, (7, ((some .boolean), none)))) (xt_X13_dispatchOf, (7, (4, (14, [])))) := xMc_mk (own := RX13) (pool := xp_RX13) (lst := fun u k => xus_RX13.any fun q => Nat.beq q.1 u && Nat.beq q.2.1 k) (thr := []) false rfl xqw_X13_dispatchOf rfl (plainFor_of_name xpl_RX13) (fun h => nomatch h) rfl trivial (xhu_RX13 Z) (fun _ h => nomatch h) (xallB_br (xallB_br xmr_X13_dispatchOf_0 xmr_X13_dispatchOf_1) (xallB_br xmr_X13_dispatchOf_2 xmr_X13_dispatchOf_3))
