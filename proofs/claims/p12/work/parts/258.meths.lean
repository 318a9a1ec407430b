set_option maxRecDepth 1000000 in
theorem xmc_X13_newBar {S : State} {ad : Nat → Nat} (Z : xSf S ad xmt xL) : xMc S ad xmt xpools (yX13_newBar, (cX13_newBar, (3, ((some .int), none)))) (xt_X13_newBar, (3, (1, (14, [])))) := xMc_mk (own := RX13) (pool := xp_RX13) (lst := fun u k => xus_RX13.any fun q => Nat.beq q.1 u && Nat.beq q.2.1 k) (thr := []) false rfl xqw_X13_newBar rfl (plainFor_of_name xpl_RX13) (fun h => nomatch h) rfl trivial (xhu_RX13 Z) (fun _ h => nomatch h) (by decide +kernel)
set_option maxRecDepth 1000000 in
theorem xmc_X13_newOne {S : State} {ad : Nat → Nat} (Z : xSf S ad xmt xL) : xMc S ad xmt xpools (yX13_newOne, (cX13_newOne, (5, (none, none)))) (xt_X13_newOne, (5, (0, (14, [])))) := xMc_mk (own := RX13) (pool := xp_RX13) (lst := fun u k => xus_RX13.any fun q => Nat.beq q.1 u && Nat.beq q.2.1 k) (thr := []) false rfl xqw_X13_newOne rfl (plainFor_of_name xpl_RX13) (fun h => nomatch h) rfl trivial (xhu_RX13 Z) (fun _ h => nomatch h) (by decide +kernel)
set_option maxRecDepth 1000000 in
theorem xmc_X13_nextTime {S : State} {ad : Nat → Nat} (Z : xSf S ad xmt xL) : xMc S ad xmt xpools (yX13_nextTime, (cX13_nextTime, (7, ((some .long), none)))) (xt_X13_nextTime, (7, (2, (14, [])))) := xMc_mk (own := RX13) (pool := xp_RX13) (lst := fun u k => xus_RX13.any fun q => Nat.beq q.1 u && Nat.beq q.2.1 k) (thr := []) false rfl xqw_X13_nextTime rfl (plainFor_of_name xpl_RX13) (fun h => nomatch h) rfl trivial (xhu_RX13 Z) (fun _ h => nomatch h) (by decide +kernel)
set_option maxRecDepth 1000000 in
theorem xmc_X13_nodeOfLine {S : State} {ad : Nat → Nat} (Z : xSf S ad xmt xL) : xMc S ad xmt xpools (yX13_nodeOfLine, (cX13_nodeOfLine, (3, ((some .int), none)))) (xt_X13_nodeOfLine, (3, (1, (14, [])))) := xMc_mk (own := RX13) (pool := xp_RX13) (lst := fun u k => xus_RX13.any fun q => Nat.beq q.1 u && Nat.beq q.2.1 k) (thr := []) false rfl xqw_X13_nodeOfLine rfl (plainFor_of_name xpl_RX13) (fun h => nomatch h) rfl trivial (xhu_RX13 Z) (fun _ h => nomatch h) (by decide +kernel)
set_option maxRecDepth 1000000 in
theorem xmc_X13_number {S : State} {ad : Nat → Nat} (Z : xSf S ad xmt xL) : xMc S ad xmt xpools (yX13_number, (cX13_number, (7, ((some .int), none)))) (xt_X13_number, (7, (1, (14, [])))) := xMc_mk (own := RX13) (pool := xp_RX13) (lst := fun u k => xus_RX13.any fun q => Nat.beq q.1 u && Nat.beq q.2.1 k) (thr := []) false rfl xqw_X13_number rfl (plainFor_of_name xpl_RX13) (fun h => nomatch h) rfl trivial (xhu_RX13 Z) (fun _ h => nomatch h) (by decide +kernel)
set_option maxRecDepth 1000000 in
theorem xmc_X13_objectOf {S : State} {ad : Nat → Nat} (Z : xSf S ad xmt xL) : xMc S ad xmt xpools (yX13_objectOf, (cX13_objectOf, (3, ((some .int), none)))) (xt_X13_objectOf, (3, (1, (14, [])))) := xMc_mk (own := RX13) (pool := xp_RX13) (lst := fun u k => xus_RX13.any fun q => Nat.beq q.1 u && Nat.beq q.2.1 k) (thr := []) false rfl xqw_X13_objectOf rfl (plainFor_of_name xpl_RX13) (fun h => nomatch h) rfl trivial (xhu_RX13 Z) (fun _ h => nomatch h) (by decide +kernel)
set_option maxRecDepth 1000000 in
theorem xmc_X13_of {S : State} {ad : Nat → Nat} (Z : xSf S ad xmt xL) : xMc S ad xmt xpools (yX13_of, (cX13_of, (4, ((some .int), none)))) (xt_X13_of, (4, (1, (14, [])))) := xMc_mk (own := RX13) (pool := xp_RX13) (lst := fun u k => xus_RX13.any fun q => Nat.beq q.1 u && Nat.beq q.2.1 k) (thr := []) false rfl xqw_X13_of rfl (plainFor_of_name xpl_RX13) (fun h => nomatch h) rfl trivial (xhu_RX13 Z) (fun _ h => nomatch h) (by decide +kernel)
set_option maxRecDepth 1000000 in
theorem xmr_X13_onPlane_0 : xallB (xrowB cX13_onPlane (xpool xp_RX13) 10 false 0 (fun u k => xus_RX13.any fun q => Nat.beq q.1 u && Nat.beq q.2.1 k) []) xt_X13_onPlane_0 = true := by decide +kernel
set_option maxRecDepth 1000000 in
theorem xmr_X13_onPlane_1 : xallB (xrowB cX13_onPlane (xpool xp_RX13) 10 false 0 (fun u k => xus_RX13.any fun q => Nat.beq q.1 u && Nat.beq q.2.1 k) []) xt_X13_onPlane_1 = true := by decide +kernel
set_option maxRecDepth 1000000 in
theorem xmr_X13_onPlane_2 : xallB (xrowB cX13_onPlane (xpool xp_RX13) 10 false 0 (fun u k => xus_RX13.any fun q => Nat.beq q.1 u && Nat.beq q.2.1 k) []) xt_X13_onPlane_2 = true := by decide +kernel
set_option maxRecDepth 1000000 in
theorem xmr_X13_onPlane_3 : xallB (xrowB cX13_onPlane (xpool xp_RX13) 10 false 0 (fun u k => xus_RX13.any fun q => Nat.beq q.1 u && Nat.beq q.2.1 k) []) xt_X13_onPlane_3 = true := by decide +kernel
set_option maxRecDepth 1000000 in
theorem xmc_X13_onPlane {S : State} {ad : Nat → Nat} (Z : xSf S ad xmt xL) : xMc S ad xmt xpools (yX13_onPlane, (cX13_onPlane, (10, (none, none)))) (xt_X13_onPlane, (10, (0, (14, [])))) := xMc_mk (own := RX13) (pool := xp_RX13) (lst := fun u k => xus_RX13.any fun q => Nat.beq q.1 u && Nat.beq q.2.1 k) (thr := []) false rfl xqw_X13_onPlane rfl (plainFor_of_name xpl_RX13) (fun h => nomatch h) rfl trivial (xhu_RX13 Z) (fun _ h => nomatch h) (xallB_br (xallB_br xmr_X13_onPlane_0 xmr_X13_onPlane_1) (xallB_br xmr_X13_onPlane_2 xmr_X13_onPlane_3))
set_option maxRecDepth 1000000 in
theorem xmc_X13_one {S : State} {ad : Nat → Nat} (Z : xSf S ad xmt xL) : xMc S ad xmt xpools (yX13_one, (cX13_one, (4, (none, none)))) (xt_X13_one, (4, (0, (14, [])))) := xMc_mk (own := RX13) (pool := xp_RX13) (lst := fun u k => xus_RX13.any fun q => Nat.beq q.1 u && Nat.beq q.2.1 k) (thr := []) false rfl xqw_X13_one rfl (plainFor_of_name xpl_RX13) (fun h => nomatch h) rfl trivial (xhu_RX13 Z) (fun _ h => nomatch h) (by decide +kernel)
set_option maxRecDepth 1000000 in
theorem xmc_X13_openAll {S : State} {ad : Nat → Nat} (Z : xSf S ad xmt xL) : xMc S ad xmt xpools (yX13_openAll, (cX13_openAll, (5, ((some .int), none)))) (xt_X13_openAll, (5, (1, (14, [])))) := xMc_mk (own := RX13) (pool := xp_RX13) (lst := fun u k => xus_RX13.any fun q => Nat.beq q.1 u && Nat.beq q.2.1 k) (thr := []) false rfl xqw_X13_openAll rfl (plainFor_of_name xpl_RX13) (fun h => nomatch h) rfl trivial (xhu_RX13 Z) (fun _ h => nomatch h) (by decide +kernel)
set_option maxRecDepth 1000000 in
theorem xmc_X13_opened {S : State} {ad : Nat → Nat} (Z : xSf S ad xmt xL) : xMc S ad xmt xpools (yX13_opened, (cX13_opened, (3, ((some .int), none)))) (xt_X13_opened, (3, (1, (14, [])))) := xMc_mk (own := RX13) (pool := xp_RX13) (lst := fun u k => xus_RX13.any fun q => Nat.beq q.1 u && Nat.beq q.2.1 k) (thr := []) false rfl xqw_X13_opened rfl (plainFor_of_name xpl_RX13) (fun h => nomatch h) rfl trivial (xhu_RX13 Z) (fun _ h => nomatch h) (by decide +kernel)
set_option maxRecDepth 1000000 in
theorem xmc_X13_order {S : State} {ad : Nat → Nat} (Z : xSf S ad xmt xL) : xMc S ad xmt xpools (yX13_order, (cX13_order, (4, ((some .int), none)))) (xt_X13_order, (4, (1, (14, [])))) := xMc_mk (own := RX13) (pool := xp_RX13) (lst := fun u k => xus_RX13.any fun q => Nat.beq q.1 u && Nat.beq q.2.1 k) (thr := []) false rfl xqw_X13_order rfl (plainFor_of_name xpl_RX13) (fun h => nomatch h) rfl trivial (xhu_RX13 Z) (fun _ h => nomatch h) (by decide +kernel)
set_option maxRecDepth 1000000 in
theorem xmc_X13_ordered {S : State} {ad : Nat → Nat} (Z : xSf S ad xmt xL) : xMc S ad xmt xpools (yX13_ordered, (cX13_ordered, (2, ((some .boolean), none)))) (xt_X13_ordered, (2, (4, (14, [])))) := xMc_mk (own := RX13) (pool := xp_RX13) (lst := fun u k => xus_RX13.any fun q => Nat.beq q.1 u && Nat.beq q.2.1 k) (thr := []) false rfl xqw_X13_ordered rfl (plainFor_of_name xpl_RX13) (fun h => nomatch h) rfl trivial (xhu_RX13 Z) (fun _ h => nomatch h) (by decide +kernel)
set_option maxRecDepth 1000000 in
theorem xmc_X13_overOf {S : State} {ad : Nat → Nat} (Z : xSf S ad xmt xL) : xMc S ad xmt xpools (yX13_overOf, (cX13_overOf, (3, ((some .int), none)))) (xt_X13_overOf, (3, (1, (14, [])))) := xMc_mk (own := RX13) (pool := xp_RX13) (lst := fun u k => xus_RX13.any fun q => Nat.beq q.1 u && Nat.beq q.2.1 k) (thr := []) false rfl xqw_X13_overOf rfl (plainFor_of_name xpl_RX13) (fun h => nomatch h) rfl trivial (xhu_RX13 Z) (fun _ h => nomatch h) (by decide +kernel)
set_option maxRecDepth 1000000 in
theorem xmc_X13_parts {S : State} {ad : Nat → Nat} (Z : xSf S ad xmt xL) : xMc S ad xmt xpools (yX13_parts, (cX13_parts, (5, (none, none)))) (xt_X13_parts, (5, (0, (14, [])))) := xMc_mk (own := RX13) (pool := xp_RX13) (lst := fun u k => xus_RX13.any fun q => Nat.beq q.1 u && Nat.beq q.2.1 k) (thr := []) false rfl xqw_X13_parts rfl (plainFor_of_name xpl_RX13) (fun h => nomatch h) rfl trivial (xhu_RX13 Z) (fun _ h => nomatch h) (by decide +kernel)
set_option maxRecDepth 1000000 in
theorem xmc_X13_placeRow {S : State} {ad : Nat → Nat} (Z : xSf S ad xmt xL) : xMc S ad xmt xpools (yX13_placeRow, (cX13_placeRow, (1, ((some .int), none)))) (xt_X13_placeRow, (1, (1, (14, [])))) := xMc_mk (own := RX13) (pool := xp_RX13) (lst := fun u k => xus_RX13.any fun q => Nat.beq q.1 u && Nat.beq q.2.1 k) (thr := []) false rfl xqw_X13_placeRow rfl (plainFor_of_name xpl_RX13) (fun h => nomatch h) rfl trivial (xhu_RX13 Z) (fun _ h => nomatch h) (by decide +kernel)
set_option maxRecDepth 1000000 in
theorem xmc_X13_plus {S : State} {ad : Nat → Nat} (Z : xSf S ad xmt xL) : xMc S ad xmt xpools (yX13_plus, (cX13_plus, (8, (none, none)))) (xt_X13_plus, (8, (0, (14, [])))) := xMc_mk (own := RX13) (pool := xp_RX13) (lst := fun u k => xus_RX13.any fun q => Nat.beq q.1 u && Nat.beq q.2.1 k) (thr := []) false rfl xqw_X13_plus rfl (plainFor_of_name xpl_RX13) (fun h => nomatch h) rfl trivial (xhu_RX13 Z) (fun _ h => nomatch h) (by decide +kernel)
set_option maxRecDepth 1000000 in
theorem xmc_X13_pointOf {S : State} {ad : Nat → Nat} (Z : xSf S ad xmt xL) : xMc S ad xmt xpools (yX13_pointOf, (cX13_pointOf, (2, ((some .int), none)))) (xt_X13_pointOf, (2, (1, (14, [])))) := xMc_mk (own := RX13) (pool := xp_RX13) (lst := fun u k => xus_RX13.any fun q => Nat.beq q.1 u && Nat.beq q.2.1 k) (thr := []) false rfl xqw_X13_pointOf rfl (plainFor_of_name xpl_RX13) (fun h => nomatch h) rfl trivial (xhu_RX13 Z) (fun _ h => nomatch h) (by decide +kernel)
set_option maxRecDepth 1000000 in
theorem xmr_X13_potentials_0 : xallB (xrowB cX13_potentials (xpool xp_RX13) 11 false 0 (fun u k => xus_RX13.any fun q => Nat.beq q.1 u && Nat.beq q.2.1 k) []) xt_X13_potentials_0 = true := by decide +kernel
set_option maxRecDepth 1000000 in
theorem xmr_X13_potentials_1 : xallB (xrowB cX13_potentials (xpool xp_RX13) 11 false 0 (fun u k => xus_RX13.any fun q => Nat.beq q.1 u && Nat.beq q.2.1 k) []) xt_X13_potentials_1 = true := by decide +kernel
set_option maxRecDepth 1000000 in
theorem xmr_X13_potentials_2 : xallB (xrowB cX13_potentials (xpool xp_RX13) 11 false 0 (fun u k => xus_RX13.any fun q => Nat.beq q.1 u && Nat.beq q.2.1 k) []) xt_X13_potentials_2 = true := by decide +kernel
set_option maxRecDepth 1000000 in
theorem xmr_X13_potentials_3 : xallB (xrowB cX13_potentials (xpool xp_RX13) 11 false 0 (fun u k => xus_RX13.any fun q => Nat.beq q.1 u && Nat.beq q.2.1 k) []) xt_X13_potentials_3 = true := by decide +kernel
set_option maxRecDepth 1000000 in
theorem xmr_X13_potentials_4 : xallB (xrowB cX13_potentials (xpool xp_RX13) 11 false 0 (fun u k => xus_RX13.any fun q => Nat.beq q.1 u && Nat.beq q.2.1 k) []) xt_X13_potentials_4 = true := by decide +kernel
set_option maxRecDepth 1000000 in
theorem xmr_X13_potentials_5 : xallB (xrowB cX13_potentials (xpool xp_RX13) 11 false 0 (fun u k => xus_RX13.any fun q => Nat.beq q.1 u && Nat.beq q.2.1 k) []) xt_X13_potentials_5 = true := by decide +kernel
set_option maxRecDepth 1000000 in
theorem xmr_X13_potentials_6 : xallB (xrowB cX13_potentials (xpool xp_RX13) 11 false 0 (fun u k => xus_RX13.any fun q => Nat.beq q.1 u && Nat.beq q.2.1 k) []) xt_X13_potentials_6 = true := by decide +kernel
set_option maxRecDepth 1000000 in
theorem xmc_X13_potentials {S : State} {ad : Nat → Nat} (Z : xSf S ad xmt xL) : xMc S ad xmt xpools (yX13_potentials, (cX13_potentials, (11, (none, none)))) (xt_X13_potentials, (11, (0, (14, [])))) := xMc_mk (own := RX13) (pool := xp_RX13) (lst := fun u k => xus_RX13.any fun q => Nat.beq q.1 u && Nat.beq q.2.1 k) (thr := []) false rfl xqw_X13_potentials rfl (plainFor_of_name xpl_RX13) (fun h => nomatch h) rfl trivial (xhu_RX13 Z) (fun _ h => nomatch h) (xallB_br (xallB_br xmr_X13_potentials_0 (xallB_br xmr_X13_potentials_1 xmr_X13_potentials_2)) (xallB_br (xallB_br xmr_X13_potentials_3 xmr_X13_potentials_4) (xallB_br xmr_X13_potentials_5 xmr_X13_potentials_6)))
set_option maxRecDepth 1000000 in
theorem xmr_X13_price_0 : xallB (xrowB cX13_price (xpool xp_RX13) 5 false 1 (fun u k => xus_RX13.any fun q => Nat.beq q.1 u && Nat.beq q.2.1 k) []) xt_X13_price_0 = true := by decide +kernel
set_option maxRecDepth 1000000 in
theorem xmr_X13_price_1 : xallB (xrowB cX13_price (xpool xp_RX13) 5 false 1 (fun u k => xus_RX13.any fun q => Nat.beq q.1 u && Nat.beq q.2.1 k) []) xt_X13_price_1 = true := by decide +kernel
set_option maxRecDepth 1000000 in
theorem xmr_X13_price_2 : xallB (xrowB cX13_price (xpool xp_RX13) 5 false 1 (fun u k => xus_RX13.any fun q => Nat.beq q.1 u && Nat.beq q.2.1 k) []) xt_X13_price_2 = true := by decide +kernel
set_option maxRecDepth 1000000 in
theorem xmr_X13_price_3 : xallB (xrowB cX13_price (xpool xp_RX13) 5 false 1 (fun u k => xus_RX13.any fun q => Nat.beq q.1 u && Nat.beq q.2.1 k) []) xt_X13_price_3 = true := by decide +kernel
set_option maxRecDepth 1000000 in
theorem xmc_X13_price {S : State} {ad : Nat → Nat} (Z : xSf S ad xmt xL) : xMc S ad xmt xpools (yX13_price, (cX13_price, (5, ((some .int), none)))) (xt_X13_price, (5, (1, (14, [])))) := xMc_mk (own := RX13) (pool := xp_RX13) (lst := fun u k => xus_RX13.any fun q => Nat.beq q.1 u && Nat.beq q.2.1 k) (thr := []) false rfl xqw_X13_price rfl (plainFor_of_name xpl_RX13) (fun h => nomatch h) rfl trivial (xhu_RX13 Z) (fun _ h => nomatch h) (xallB_br (xallB_br xmr_X13_price_0 xmr_X13_price_1) (xallB_br xmr_X13_price_2 xmr_X13_price_3))
set_option maxRecDepth 1000000 in
theorem xmc_X13_put {S : State} {ad : Nat → Nat} (Z : xSf S ad xmt xL) : xMc S ad xmt xpools (yX13_put, (cX13_put, (7, (none, none)))) (xt_X13_put, (7, (0, (14, [])))) := xMc_mk (own := RX13) (pool := xp_RX13) (lst := fun u k => xus_RX13.any fun q => Nat.beq q.1 u && Nat.beq q.2.1 k) (thr := []) false rfl xqw_X13_put rfl (plainFor_of_name xpl_RX13) (fun h => nomatch h) rfl trivial (xhu_RX13 Z) (fun _ h => nomatch h) (by decide +kernel)
set_option maxRecDepth 1000000 in
theorem xmr_X13_putAllIn_0 : xallB (xrowB cX13_putAllIn (xpool xp_RX13) 4 false 0 (fun u k => xus_RX13.any fun q => Nat.beq q.1 u && Nat.beq q.2.1 k) []) xt_X13_putAllIn_0 = true := by decide +kernel
set_option maxRecDepth 1000000 in
theorem xmr_X13_putAllIn_1 : xallB (xrowB cX13_putAllIn (xpool xp_RX13) 4 false 0 (fun u k => xus_RX13.any fun q => Nat.beq q.1 u && Nat.beq q.2.1 k) []) xt_X13_putAllIn_1 = true := by decide +kernel
set_option maxRecDepth 1000000 in
theorem xmr_X13_putAllIn_2 : xallB (xrowB cX13_putAllIn (xpool xp_RX13) 4 false 0 (fun u k => xus_RX13.any fun q => Nat.beq q.1 u && Nat.beq q.2.1 k) []) xt_X13_putAllIn_2 = true := by decide +kernel
set_option maxRecDepth 1000000 in
theorem xmr_X13_putAllIn_3 : xallB (xrowB cX13_putAllIn (xpool xp_RX13) 4 false 0 (fun u k => xus_RX13.any fun q => Nat.beq q.1 u && Nat.beq q.2.1 k) []) xt_X13_putAllIn_3 = true := by decide +kernel
set_option maxRecDepth 1000000 in
theorem xmc_X13_putAllIn {S : State} {ad : Nat → Nat} (Z : xSf S ad xmt xL) : xMc S ad xmt xpools (yX13_putAllIn, (cX13_putAllIn, (4, (none, none)))) (xt_X13_putAllIn, (4, (0, (14, [])))) := xMc_mk (own := RX13) (pool := xp_RX13) (lst := fun u k => xus_RX13.any fun q => Nat.beq q.1 u && Nat.beq q.2.1 k) (thr := []) false rfl xqw_X13_putAllIn rfl (plainFor_of_name xpl_RX13) (fun h => nomatch h) rfl trivial (xhu_RX13 Z) (fun _ h => nomatch h) (xallB_br (xallB_br xmr_X13_putAllIn_0 xmr_X13_putAllIn_1) (xallB_br xmr_X13_putAllIn_2 xmr_X13_putAllIn_3))
set_option maxRecDepth 1000000 in
theorem xmc_X13_readMachine {S : State} {ad : Nat → Nat} (Z : xSf S ad xmt xL) : xMc S ad xmt xpools (yX13_readMachine, (cX13_readMachine, (3, (none, none)))) (xt_X13_readMachine, (3, (0, (14, [])))) := xMc_mk (own := RX13) (pool := xp_RX13) (lst := fun u k => xus_RX13.any fun q => Nat.beq q.1 u && Nat.beq q.2.1 k) (thr := []) false rfl xqw_X13_readMachine rfl (plainFor_of_name xpl_RX13) (fun h => nomatch h) rfl trivial (xhu_RX13 Z) (fun _ h => nomatch h) (by decide +kernel)
set_option maxRecDepth 1000000 in
theorem xmc_X13_readNet {S : State} {ad : Nat → Nat} (Z : xSf S ad xmt xL) : xMc S ad xmt xpools (yX13_readNet, (cX13_readNet, (2, (none, none)))) (xt_X13_readNet, (2, (0, (14, [])))) := xMc_mk (own := RX13) (pool := xp_RX13) (lst := fun u k => xus_RX13.any fun q => Nat.beq q.1 u && Nat.beq q.2.1 k) (thr := []) false rfl xqw_X13_readNet rfl (plainFor_of_name xpl_RX13) (fun h => nomatch h) rfl trivial (xhu_RX13 Z) (fun _ h => nomatch h) (by decide +kernel)
set_option maxRecDepth 1000000 in
theorem xmr_X13_readObject_0 : xallB (xrowB cX13_readObject (xpool xp_RX13) 5 false 0 (fun u k => xus_RX13.any fun q => Nat.beq q.1 u && Nat.beq q.2.1 k) []) xt_X13_readObject_0 = true := by decide +kernel
set_option maxRecDepth 1000000 in
theorem xmr_X13_readObject_1 : xallB (xrowB cX13_readObject (xpool xp_RX13) 5 false 0 (fun u k => xus_RX13.any fun q => Nat.beq q.1 u && Nat.beq q.2.1 k) []) xt_X13_readObject_1 = true := by decide +kernel
set_option maxRecDepth 1000000 in
theorem xmr_X13_readObject_2 : xallB (xrowB cX13_readObject (xpool xp_RX13) 5 false 0 (fun u k => xus_RX13.any fun q => Nat.beq q.1 u && Nat.beq q.2.1 k) []) xt_X13_readObject_2 = true := by decide +kernel
set_option maxRecDepth 1000000 in
theorem xmr_X13_readObject_3 : xallB (xrowB cX13_readObject (xpool xp_RX13) 5 false 0 (fun u k => xus_RX13.any fun q => Nat.beq q.1 u && Nat.beq q.2.1 k) []) xt_X13_readObject_3 = true := by decide +kernel
set_option maxRecDepth 1000000 in
theorem xmc_X13_readObject {S : State} {ad : Nat → Nat} (Z : xSf S ad xmt xL) : xMc S ad xmt xpools (yX13_readObject, (cX13_readObject, (5, (none, none)))) (xt_X13_readObject, (5, (0, (14, [])))) := xMc_mk (own := RX13) (pool := xp_RX13) (lst := fun u k => xus_RX13.any fun q => Nat.beq q.1 u && Nat.beq q.2.1 k) (thr := []) false rfl xqw_X13_readObject rfl (plainFor_of_name xpl_RX13) (fun h => nomatch h) rfl trivial (xhu_RX13 Z) (fun _ h => nomatch h) (xallB_br (xallB_br xmr_X13_readObject_0 xmr_X13_readObject_1) (xallB_br xmr_X13_readObject_2 xmr_X13_readObject_3))
set_option maxRecDepth 1000000 in
theorem xmc_X13_reduced {S : State} {ad : Nat → Nat} (Z : xSf S ad xmt xL) : xMc S ad xmt xpools (yX13_reduced, (cX13_reduced, (3, ((some .int), none)))) (xt_X13_reduced, (3, (1, (14, [])))) := xMc_mk (own := RX13) (pool := xp_RX13) (lst := fun u k => xus_RX13.any fun q => Nat.beq q.1 u && Nat.beq q.2.1 k) (thr := []) false rfl xqw_X13_reduced rfl (plainFor_of_name xpl_RX13) (fun h => nomatch h) rfl trivial (xhu_RX13 Z) (fun _ h => nomatch h) (by decide +kernel)
set_option maxRecDepth 1000000 in
theorem xmc_X13_relay {S : State} {ad : Nat → Nat} (Z : xSf S ad xmt xL) : xMc S ad xmt xpools (yX13_relay, (cX13_relay, (5, ((some .int), none)))) (xt_X13_relay, (5, (1, (14, [])))) := xMc_mk (own := RX13) (pool := xp_RX13) (lst := fun u k => xus_RX13.any fun q => Nat.beq q.1 u && Nat.beq q.2.1 k) (thr := []) false rfl xqw_X13_relay rfl (plainFor_of_name xpl_RX13) (fun h => nomatch h) rfl trivial (xhu_RX13 Z) (fun _ h => nomatch h) (by decide +kernel)
set_option maxRecDepth 1000000 in
theorem xmc_X13_remember {S : State} {ad : Nat → Nat} (Z : xSf S ad xmt xL) : xMc S ad xmt xpools (yX13_remember, (cX13_remember, (2, (none, none)))) (xt_X13_remember, (2, (0, (14, [])))) := xMc_mk (own := RX13) (pool := xp_RX13) (lst := fun u k => xus_RX13.any fun q => Nat.beq q.1 u && Nat.beq q.2.1 k) (thr := []) false rfl xqw_X13_remember rfl (plainFor_of_name xpl_RX13) (fun h => nomatch h) rfl trivial (xhu_RX13 Z) (fun _ h => nomatch h) (by decide +kernel)
set_option maxRecDepth 1000000 in
theorem xmc_X13_rest {S : State} {ad : Nat → Nat} (Z : xSf S ad xmt xL) : xMc S ad xmt xpools (yX13_rest, (cX13_rest, (4, ((some .int), none)))) (xt_X13_rest, (4, (1, (14, [])))) := xMc_mk (own := RX13) (pool := xp_RX13) (lst := fun u k => xus_RX13.any fun q => Nat.beq q.1 u && Nat.beq q.2.1 k) (thr := []) false rfl xqw_X13_rest rfl (plainFor_of_name xpl_RX13) (fun h => nomatch h) rfl trivial (xhu_RX13 Z) (fun _ h => nomatch h) (by decide +kernel)
set_option maxRecDepth 1000000 in
theorem xmc_X13_restore {S : State} {ad : Nat → Nat} (Z : xSf S ad xmt xL) : xMc S ad xmt xpools (yX13_restore, (cX13_restore, (3, ((some .int), none)))) (xt_X13_restore, (3, (1, (14, [])))) := xMc_mk (own := RX13) (pool := xp_RX13) (lst := fun u k => xus_RX13.any fun q => Nat.beq q.1 u && Nat.beq q.2.1 k) (thr := []) false rfl xqw_X13_restore rfl (plainFor_of_name xpl_RX13) (fun h => nomatch h) rfl trivial (xhu_RX13 Z) (fun _ h => nomatch h) (by decide +kernel)
set_option maxRecDepth 1000000 in
theorem xmc_X13_row {S : State} {ad : Nat → Nat} (Z : xSf S ad xmt xL) : xMc S ad xmt xpools (yX13_row, (cX13_row, (5, ((some .int), none)))) (xt_X13_row, (5, (1, (14, [])))) := xMc_mk (own := RX13) (pool := xp_RX13) (lst := fun u k => xus_RX13.any fun q => Nat.beq q.1 u && Nat.beq q.2.1 k) (thr := []) false rfl xqw_X13_row rfl (plainFor_of_name xpl_RX13) (fun h => nomatch h) rfl trivial (xhu_RX13 Z) (fun _ h => nomatch h) (by decide +kernel)
set_option maxRecDepth 1000000 in
theorem xmc_X13_rowsOfShort {S : State} {ad : Nat → Nat} (Z : xSf S ad xmt xL) : xMc S ad xmt xpools (yX13_rowsOfShort, (cX13_rowsOfShort, (1, (none, none)))) (xt_X13_rowsOfShort, (1, (0, (14, [])))) := xMc_mk (own := RX13) (pool := xp_RX13) (lst := fun u k => xus_RX13.any fun q => Nat.beq q.1 u && Nat.beq q.2.1 k) (thr := []) false rfl xqw_X13_rowsOfShort rfl (plainFor_of_name xpl_RX13) (fun h => nomatch h) rfl trivial (xhu_RX13 Z) (fun _ h => nomatch h) (by decide +kernel)
set_option maxRecDepth 1000000 in
theorem xmr_X13_rules_0 : xallB (xrowB cX13_rules (xpool xp_RX13) 2 false 1 (fun u k => xus_RX13.any fun q => Nat.beq q.1 u && Nat.beq q.2.1 k) []) xt_X13_rules_0 = true := by decide +kernel
set_option maxRecDepth 1000000 in
theorem xmr_X13_rules_1 : xallB (xrowB cX13_rules (xpool xp_RX13) 2 false 1 (fun u k => xus_RX13.any fun q => Nat.beq q.1 u && Nat.beq q.2.1 k) []) xt_X13_rules_1 = true := by decide +kernel
set_option maxRecDepth 1000000 in
theorem xmr_X13_rules_2 : xallB (xrowB cX13_rules (xpool xp_RX13) 2 false 1 (fun u k => xus_RX13.any fun q => Nat.beq q.1 u && Nat.beq q.2.1 k) []) xt_X13_rules_2 = true := by decide +kernel
set_option maxRecDepth 1000000 in
theorem xmr_X13_rules_3 : xallB (xrowB cX13_rules (xpool xp_RX13) 2 false 1 (fun u k => xus_RX13.any fun q => Nat.beq q.1 u && Nat.beq q.2.1 k) []) xt_X13_rules_3 = true := by decide +kernel
set_option maxRecDepth 1000000 in
theorem xmc_X13_rules {S : State} {ad : Nat → Nat} (Z : xSf S ad xmt xL) : xMc S ad xmt xpools (yX13_rules, (cX13_rules, (2, ((some .int), none)))) (xt_X13_rules, (2, (1, (14, [])))) := xMc_mk (own := RX13) (pool := xp_RX13) (lst := fun u k => xus_RX13.any fun q => Nat.beq q.1 u && Nat.beq q.2.1 k) (thr := []) false rfl xqw_X13_rules rfl (plainFor_of_name xpl_RX13) (fun h => nomatch h) rfl trivial (xhu_RX13 Z) (fun _ h => nomatch h) (xallB_br (xallB_br xmr_X13_rules_0 xmr_X13_rules_1) (xallB_br xmr_X13_rules_2 xmr_X13_rules_3))
set_option maxRecDepth 1000000 in
theorem xmc_X13_run {S : State} {ad : Nat → Nat} (Z : xSf S ad xmt xL) : xMc S ad xmt xpools (yX13_run, (cX13_run, (5, ((some .int), none)))) (xt_X13_run, (5, (1, (14, [])))) := xMc_mk (own := RX13) (pool := xp_RX13) (lst := fun u k => xus_RX13.any fun q => Nat.beq q.1 u && Nat.beq q.2.1 k) (thr := []) false rfl xqw_X13_run rfl (plainFor_of_name xpl_RX13) (fun h => nomatch h) rfl trivial (xhu_RX13 Z) (fun _ h => nomatch h) (by decide +kernel)
set_option maxRecDepth 1000000 in
theorem xmc_X13_scale {S : State} {ad : Nat → Nat} (Z : xSf S ad xmt xL) : xMc S ad xmt xpools (yX13_scale, (cX13_scale, (5, (none, none)))) (xt_X13_scale, (5, (0, (14, [])))) := xMc_mk (own := RX13) (pool := xp_RX13) (lst := fun u k => xus_RX13.any fun q => Nat.beq q.1 u && Nat.beq q.2.1 k) (thr := []) false rfl xqw_X13_scale rfl (plainFor_of_name xpl_RX13) (fun h => nomatch h) rfl trivial (xhu_RX13 Z) (fun _ h => nomatch h) (by decide +kernel)
set_option maxRecDepth 1000000 in
theorem xmc_X13_screen {S : State} {ad : Nat → Nat} (Z : xSf S ad xmt xL) : xMc S ad xmt xpools (yX13_screen, (cX13_screen, (1, ((some .int), none)))) (xt_X13_screen, (1, (1, (14, [])))) := xMc_mk (own := RX13) (pool := xp_RX13) (lst := fun u k => xus_RX13.any fun q => Nat.beq q.1 u && Nat.beq q.2.1 k) (thr := []) false rfl xqw_X13_screen rfl (plainFor_of_name xpl_RX13) (fun h => nomatch h) rfl trivial (xhu_RX13 Z) (fun _ h => nomatch h) (by decide +kernel)
set_option maxRecDepth 1000000 in
theorem xmr_X13_screenAll_0 : xallB (xrowB cX13_screenAll (xpool xp_RX13) 6 false 0 (fun u k => xus_RX13.any fun q => Nat.beq q.1 u && Nat.beq q.2.1 k) []) xt_X13_screenAll_0 = true := by decide +kernel
set_option maxRecDepth 1000000 in
theorem xmr_X13_screenAll_1 : xallB (xrowB cX13_screenAll (xpool xp_RX13) 6 false 0 (fun u k => xus_RX13.any fun q => Nat.beq q.1 u && Nat.beq q.2.1 k) []) xt_X13_screenAll_1 = true := by decide +kernel
set_option maxRecDepth 1000000 in
theorem xmr_X13_screenAll_2 : xallB (xrowB cX13_screenAll (xpool xp_RX13) 6 false 0 (fun u k => xus_RX13.any fun q => Nat.beq q.1 u && Nat.beq q.2.1 k) []) xt_X13_screenAll_2 = true := by decide +kernel
set_option maxRecDepth 1000000 in
theorem xmr_X13_screenAll_3 : xallB (xrowB cX13_screenAll (xpool xp_RX13) 6 false 0 (fun u k => xus_RX13.any fun q => Nat.beq q.1 u && Nat.beq q.2.1 k) []) xt_X13_screenAll_3 = true := by decide +kernel
set_option maxRecDepth 1000000 in
theorem xmc_X13_screenAll {S : State} {ad : Nat → Nat} (Z : xSf S ad xmt xL) : xMc S ad xmt xpools (yX13_screenAll, (cX13_screenAll, (6, (none, none)))) (xt_X13_screenAll, (6, (0, (14, [])))) := xMc_mk (own := RX13) (pool := xp_RX13) (lst := fun u k => xus_RX13.any fun q => Nat.beq q.1 u && Nat.beq q.2.1 k) (thr := []) false rfl xqw_X13_screenAll rfl (plainFor_of_name xpl_RX13) (fun h => nomatch h) rfl trivial (xhu_RX13 Z) (fun _ h => nomatch h) (xallB_br (xallB_br xmr_X13_screenAll_0 xmr_X13_screenAll_1) (xallB_br xmr_X13_screenAll_2 xmr_X13_screenAll_3))
