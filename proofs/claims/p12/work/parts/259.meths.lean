set_option maxRecDepth 1000000 in
theorem xmr_X13_see_0 : xallB (xrowB cX13_see (xpool xp_RX13) 5 false 0 (fun u k => xus_RX13.any fun q => Nat.beq q.1 u && Nat.beq q.2.1 k) []) xt_X13_see_0 = true := by decide +kernel
set_option maxRecDepth 1000000 in
theorem xmr_X13_see_1 : xallB (xrowB cX13_see (xpool xp_RX13) 5 false 0 (fun u k => xus_RX13.any fun q => Nat.beq q.1 u && Nat.beq q.2.1 k) []) xt_X13_see_1 = true := by decide +kernel
set_option maxRecDepth 1000000 in
theorem xmr_X13_see_2 : xallB (xrowB cX13_see (xpool xp_RX13) 5 false 0 (fun u k => xus_RX13.any fun q => Nat.beq q.1 u && Nat.beq q.2.1 k) []) xt_X13_see_2 = true := by decide +kernel
set_option maxRecDepth 1000000 in
theorem xmr_X13_see_3 : xallB (xrowB cX13_see (xpool xp_RX13) 5 false 0 (fun u k => xus_RX13.any fun q => Nat.beq q.1 u && Nat.beq q.2.1 k) []) xt_X13_see_3 = true := by decide +kernel
set_option maxRecDepth 1000000 in
theorem xmc_X13_see {S : State} {ad : Nat → Nat} (Z : xSf S ad xmt xL) : xMc S ad xmt xpools (yX13_see, (cX13_see, (5, (none, none)))) (xt_X13_see, (5, (0, (14, [])))) := xMc_mk (own := RX13) (pool := xp_RX13) (lst := fun u k => xus_RX13.any fun q => Nat.beq q.1 u && Nat.beq q.2.1 k) (thr := []) false rfl xqw_X13_see rfl (plainFor_of_name xpl_RX13) (fun h => nomatch h) rfl trivial (xhu_RX13 Z) (fun _ h => nomatch h) (xallB_br (xallB_br xmr_X13_see_0 xmr_X13_see_1) (xallB_br xmr_X13_see_2 xmr_X13_see_3))
set_option maxRecDepth 1000000 in
theorem xmc_X13_seen {S : State} {ad : Nat → Nat} (Z : xSf S ad xmt xL) : xMc S ad xmt xpools (yX13_seen, (cX13_seen, (2, ((some .int), none)))) (xt_X13_seen, (2, (1, (14, [])))) := xMc_mk (own := RX13) (pool := xp_RX13) (lst := fun u k => xus_RX13.any fun q => Nat.beq q.1 u && Nat.beq q.2.1 k) (thr := []) false rfl xqw_X13_seen rfl (plainFor_of_name xpl_RX13) (fun h => nomatch h) rfl trivial (xhu_RX13 Z) (fun _ h => nomatch h) (by decide +kernel)
set_option maxRecDepth 1000000 in
theorem xmr_X13_seenOf_0 : xallB (xrowB cX13_seenOf (xpool xp_RX13) 9 false 0 (fun u k => xus_RX13.any fun q => Nat.beq q.1 u && Nat.beq q.2.1 k) []) xt_X13_seenOf_0 = true := by decide +kernel
set_option maxRecDepth 1000000 in
theorem xmr_X13_seenOf_1 : xallB (xrowB cX13_seenOf (xpool xp_RX13) 9 false 0 (fun u k => xus_RX13.any fun q => Nat.beq q.1 u && Nat.beq q.2.1 k) []) xt_X13_seenOf_1 = true := by decide +kernel
set_option maxRecDepth 1000000 in
theorem xmr_X13_seenOf_2 : xallB (xrowB cX13_seenOf (xpool xp_RX13) 9 false 0 (fun u k => xus_RX13.any fun q => Nat.beq q.1 u && Nat.beq q.2.1 k) []) xt_X13_seenOf_2 = true := by decide +kernel
set_option maxRecDepth 1000000 in
theorem xmr_X13_seenOf_3 : xallB (xrowB cX13_seenOf (xpool xp_RX13) 9 false 0 (fun u k => xus_RX13.any fun q => Nat.beq q.1 u && Nat.beq q.2.1 k) []) xt_X13_seenOf_3 = true := by decide +kernel
set_option maxRecDepth 1000000 in
theorem xmc_X13_seenOf {S : State} {ad : Nat → Nat} (Z : xSf S ad xmt xL) : xMc S ad xmt xpools (yX13_seenOf, (cX13_seenOf, (9, (none, none)))) (xt_X13_seenOf, (9, (0, (14, [])))) := xMc_mk (own := RX13) (pool := xp_RX13) (lst := fun u k => xus_RX13.any fun q => Nat.beq q.1 u && Nat.beq q.2.1 k) (thr := []) false rfl xqw_X13_seenOf rfl (plainFor_of_name xpl_RX13) (fun h => nomatch h) rfl trivial (xhu_RX13 Z) (fun _ h => nomatch h) (xallB_br (xallB_br xmr_X13_seenOf_0 xmr_X13_seenOf_1) (xallB_br xmr_X13_seenOf_2 xmr_X13_seenOf_3))
set_option maxRecDepth 1000000 in
theorem xmc_X13_set {S : State} {ad : Nat → Nat} (Z : xSf S ad xmt xL) : xMc S ad xmt xpools (yX13_set, (cX13_set, (6, ((some .int), none)))) (xt_X13_set, (6, (1, (14, [])))) := xMc_mk (own := RX13) (pool := xp_RX13) (lst := fun u k => xus_RX13.any fun q => Nat.beq q.1 u && Nat.beq q.2.1 k) (thr := []) false rfl xqw_X13_set rfl (plainFor_of_name xpl_RX13) (fun h => nomatch h) rfl trivial (xhu_RX13 Z) (fun _ h => nomatch h) (by decide +kernel)
set_option maxRecDepth 1000000 in
theorem xmc_X13_sets {S : State} {ad : Nat → Nat} (Z : xSf S ad xmt xL) : xMc S ad xmt xpools (yX13_sets, (cX13_sets, (2, ((some .int), none)))) (xt_X13_sets, (2, (1, (14, [])))) := xMc_mk (own := RX13) (pool := xp_RX13) (lst := fun u k => xus_RX13.any fun q => Nat.beq q.1 u && Nat.beq q.2.1 k) (thr := []) false rfl xqw_X13_sets rfl (plainFor_of_name xpl_RX13) (fun h => nomatch h) rfl trivial (xhu_RX13 Z) (fun _ h => nomatch h) (by decide +kernel)
set_option maxRecDepth 1000000 in
theorem xmr_X13_sharesBy_0 : xallB (xrowB cX13_sharesBy (xpool xp_RX13) 8 false 2 (fun u k => xus_RX13.any fun q => Nat.beq q.1 u && Nat.beq q.2.1 k) []) xt_X13_sharesBy_0 = true := by decide +kernel
set_option maxRecDepth 1000000 in
theorem xmr_X13_sharesBy_1 : xallB (xrowB cX13_sharesBy (xpool xp_RX13) 8 false 2 (fun u k => xus_RX13.any fun q => Nat.beq q.1 u && Nat.beq q.2.1 k) []) xt_X13_sharesBy_1 = true := by decide +kernel
set_option maxRecDepth 1000000 in
theorem xmr_X13_sharesBy_2 : xallB (xrowB cX13_sharesBy (xpool xp_RX13) 8 false 2 (fun u k => xus_RX13.any fun q => Nat.beq q.1 u && Nat.beq q.2.1 k) []) xt_X13_sharesBy_2 = true := by decide +kernel
set_option maxRecDepth 1000000 in
theorem xmr_X13_sharesBy_3 : xallB (xrowB cX13_sharesBy (xpool xp_RX13) 8 false 2 (fun u k => xus_RX13.any fun q => Nat.beq q.1 u && Nat.beq q.2.1 k) []) xt_X13_sharesBy_3 = true := by decide +kernel
set_option maxRecDepth 1000000 in
theorem xmc_X13_sharesBy {S : State} {ad : Nat → Nat} (Z : xSf S ad xmt xL) : xMc S ad xmt xpools (yX13_sharesBy, (cX13_sharesBy, (8, ((some .long), none)))) (xt_X13_sharesBy, (8, (2, (14, [])))) := xMc_mk (own := RX13) (pool := xp_RX13) (lst := fun u k => xus_RX13.any fun q => Nat.beq q.1 u && Nat.beq q.2.1 k) (thr := []) false rfl xqw_X13_sharesBy rfl (plainFor_of_name xpl_RX13) (fun h => nomatch h) rfl trivial (xhu_RX13 Z) (fun _ h => nomatch h) (xallB_br (xallB_br xmr_X13_sharesBy_0 xmr_X13_sharesBy_1) (xallB_br xmr_X13_sharesBy_2 xmr_X13_sharesBy_3))
set_option maxRecDepth 1000000 in
theorem xmr_X13_sharesOf_0 : xallB (xrowB cX13_sharesOf (xpool xp_RX13) 11 false 0 (fun u k => xus_RX13.any fun q => Nat.beq q.1 u && Nat.beq q.2.1 k) []) xt_X13_sharesOf_0 = true := by decide +kernel
set_option maxRecDepth 1000000 in
theorem xmr_X13_sharesOf_1 : xallB (xrowB cX13_sharesOf (xpool xp_RX13) 11 false 0 (fun u k => xus_RX13.any fun q => Nat.beq q.1 u && Nat.beq q.2.1 k) []) xt_X13_sharesOf_1 = true := by decide +kernel
set_option maxRecDepth 1000000 in
theorem xmr_X13_sharesOf_2 : xallB (xrowB cX13_sharesOf (xpool xp_RX13) 11 false 0 (fun u k => xus_RX13.any fun q => Nat.beq q.1 u && Nat.beq q.2.1 k) []) xt_X13_sharesOf_2 = true := by decide +kernel
set_option maxRecDepth 1000000 in
theorem xmr_X13_sharesOf_3 : xallB (xrowB cX13_sharesOf (xpool xp_RX13) 11 false 0 (fun u k => xus_RX13.any fun q => Nat.beq q.1 u && Nat.beq q.2.1 k) []) xt_X13_sharesOf_3 = true := by decide +kernel
set_option maxRecDepth 1000000 in
theorem xmr_X13_sharesOf_4 : xallB (xrowB cX13_sharesOf (xpool xp_RX13) 11 false 0 (fun u k => xus_RX13.any fun q => Nat.beq q.1 u && Nat.beq q.2.1 k) []) xt_X13_sharesOf_4 = true := by decide +kernel
set_option maxRecDepth 1000000 in
theorem xmr_X13_sharesOf_5 : xallB (xrowB cX13_sharesOf (xpool xp_RX13) 11 false 0 (fun u k => xus_RX13.any fun q => Nat.beq q.1 u && Nat.beq q.2.1 k) []) xt_X13_sharesOf_5 = true := by decide +kernel
set_option maxRecDepth 1000000 in
theorem xmr_X13_sharesOf_6 : xallB (xrowB cX13_sharesOf (xpool xp_RX13) 11 false 0 (fun u k => xus_RX13.any fun q => Nat.beq q.1 u && Nat.beq q.2.1 k) []) xt_X13_sharesOf_6 = true := by decide +kernel
set_option maxRecDepth 1000000 in
theorem xmr_X13_sharesOf_7 : xallB (xrowB cX13_sharesOf (xpool xp_RX13) 11 false 0 (fun u k => xus_RX13.any fun q => Nat.beq q.1 u && Nat.beq q.2.1 k) []) xt_X13_sharesOf_7 = true := by decide +kernel
set_option maxRecDepth 1000000 in
theorem xmc_X13_sharesOf {S : State} {ad : Nat → Nat} (Z : xSf S ad xmt xL) : xMc S ad xmt xpools (yX13_sharesOf, (cX13_sharesOf, (11, (none, none)))) (xt_X13_sharesOf, (11, (0, (14, [])))) := xMc_mk (own := RX13) (pool := xp_RX13) (lst := fun u k => xus_RX13.any fun q => Nat.beq q.1 u && Nat.beq q.2.1 k) (thr := []) false rfl xqw_X13_sharesOf rfl (plainFor_of_name xpl_RX13) (fun h => nomatch h) rfl trivial (xhu_RX13 Z) (fun _ h => nomatch h) (xallB_br (xallB_br (xallB_br xmr_X13_sharesOf_0 xmr_X13_sharesOf_1) (xallB_br xmr_X13_sharesOf_2 xmr_X13_sharesOf_3)) (xallB_br (xallB_br xmr_X13_sharesOf_4 xmr_X13_sharesOf_5) (xallB_br xmr_X13_sharesOf_6 xmr_X13_sharesOf_7)))
set_option maxRecDepth 1000000 in
theorem xmc_X13_shortAt {S : State} {ad : Nat → Nat} (Z : xSf S ad xmt xL) : xMc S ad xmt xpools (yX13_shortAt, (cX13_shortAt, (4, (none, none)))) (xt_X13_shortAt, (4, (0, (14, [])))) := xMc_mk (own := RX13) (pool := xp_RX13) (lst := fun u k => xus_RX13.any fun q => Nat.beq q.1 u && Nat.beq q.2.1 k) (thr := []) false rfl xqw_X13_shortAt rfl (plainFor_of_name xpl_RX13) (fun h => nomatch h) rfl trivial (xhu_RX13 Z) (fun _ h => nomatch h) (by decide +kernel)
set_option maxRecDepth 1000000 in
theorem xmc_X13_shortIs {S : State} {ad : Nat → Nat} (Z : xSf S ad xmt xL) : xMc S ad xmt xpools (yX13_shortIs, (cX13_shortIs, (6, (none, none)))) (xt_X13_shortIs, (6, (0, (14, [])))) := xMc_mk (own := RX13) (pool := xp_RX13) (lst := fun u k => xus_RX13.any fun q => Nat.beq q.1 u && Nat.beq q.2.1 k) (thr := []) false rfl xqw_X13_shortIs rfl (plainFor_of_name xpl_RX13) (fun h => nomatch h) rfl trivial (xhu_RX13 Z) (fun _ h => nomatch h) (by decide +kernel)
set_option maxRecDepth 1000000 in
theorem xmc_X13_shortOn {S : State} {ad : Nat → Nat} (Z : xSf S ad xmt xL) : xMc S ad xmt xpools (yX13_shortOn, (cX13_shortOn, (5, (none, none)))) (xt_X13_shortOn, (5, (0, (14, [])))) := xMc_mk (own := RX13) (pool := xp_RX13) (lst := fun u k => xus_RX13.any fun q => Nat.beq q.1 u && Nat.beq q.2.1 k) (thr := []) false rfl xqw_X13_shortOn rfl (plainFor_of_name xpl_RX13) (fun h => nomatch h) rfl trivial (xhu_RX13 Z) (fun _ h => nomatch h) (by decide +kernel)
set_option maxRecDepth 1000000 in
theorem xmc_X13_shorten {S : State} {ad : Nat → Nat} (Z : xSf S ad xmt xL) : xMc S ad xmt xpools (yX13_shorten, (cX13_shorten, (5, (none, none)))) (xt_X13_shorten, (5, (0, (14, [])))) := xMc_mk (own := RX13) (pool := xp_RX13) (lst := fun u k => xus_RX13.any fun q => Nat.beq q.1 u && Nat.beq q.2.1 k) (thr := []) false rfl xqw_X13_shorten rfl (plainFor_of_name xpl_RX13) (fun h => nomatch h) rfl trivial (xhu_RX13 Z) (fun _ h => nomatch h) (by decide +kernel)
set_option maxRecDepth 1000000 in
theorem xmc_X13_shorts {S : State} {ad : Nat → Nat} (Z : xSf S ad xmt xL) : xMc S ad xmt xpools (yX13_shorts, (cX13_shorts, (2, (none, none)))) (xt_X13_shorts, (2, (0, (14, [])))) := xMc_mk (own := RX13) (pool := xp_RX13) (lst := fun u k => xus_RX13.any fun q => Nat.beq q.1 u && Nat.beq q.2.1 k) (thr := []) false rfl xqw_X13_shorts rfl (plainFor_of_name xpl_RX13) (fun h => nomatch h) rfl trivial (xhu_RX13 Z) (fun _ h => nomatch h) (by decide +kernel)
set_option maxRecDepth 1000000 in
theorem xmr_X13_showAll_0 : xallB (xrowB cX13_showAll (xpool xp_RX13) 7 false 0 (fun u k => xus_RX13.any fun q => Nat.beq q.1 u && Nat.beq q.2.1 k) []) xt_X13_showAll_0 = true := by decide +kernel
set_option maxRecDepth 1000000 in
theorem xmr_X13_showAll_1 : xallB (xrowB cX13_showAll (xpool xp_RX13) 7 false 0 (fun u k => xus_RX13.any fun q => Nat.beq q.1 u && Nat.beq q.2.1 k) []) xt_X13_showAll_1 = true := by decide +kernel
set_option maxRecDepth 1000000 in
theorem xmr_X13_showAll_2 : xallB (xrowB cX13_showAll (xpool xp_RX13) 7 false 0 (fun u k => xus_RX13.any fun q => Nat.beq q.1 u && Nat.beq q.2.1 k) []) xt_X13_showAll_2 = true := by decide +kernel
set_option maxRecDepth 1000000 in
theorem xmr_X13_showAll_3 : xallB (xrowB cX13_showAll (xpool xp_RX13) 7 false 0 (fun u k => xus_RX13.any fun q => Nat.beq q.1 u && Nat.beq q.2.1 k) []) xt_X13_showAll_3 = true := by decide +kernel
set_option maxRecDepth 1000000 in
theorem xmc_X13_showAll {S : State} {ad : Nat → Nat} (Z : xSf S ad xmt xL) : xMc S ad xmt xpools (yX13_showAll, (cX13_showAll, (7, (none, none)))) (xt_X13_showAll, (7, (0, (14, [])))) := xMc_mk (own := RX13) (pool := xp_RX13) (lst := fun u k => xus_RX13.any fun q => Nat.beq q.1 u && Nat.beq q.2.1 k) (thr := []) false rfl xqw_X13_showAll rfl (plainFor_of_name xpl_RX13) (fun h => nomatch h) rfl trivial (xhu_RX13 Z) (fun _ h => nomatch h) (xallB_br (xallB_br xmr_X13_showAll_0 xmr_X13_showAll_1) (xallB_br xmr_X13_showAll_2 xmr_X13_showAll_3))
set_option maxRecDepth 1000000 in
theorem xmc_X13_sideOf {S : State} {ad : Nat → Nat} (Z : xSf S ad xmt xL) : xMc S ad xmt xpools (yX13_sideOf, (cX13_sideOf, (4, ((some .int), none)))) (xt_X13_sideOf, (4, (1, (14, [])))) := xMc_mk (own := RX13) (pool := xp_RX13) (lst := fun u k => xus_RX13.any fun q => Nat.beq q.1 u && Nat.beq q.2.1 k) (thr := []) false rfl xqw_X13_sideOf rfl (plainFor_of_name xpl_RX13) (fun h => nomatch h) rfl trivial (xhu_RX13 Z) (fun _ h => nomatch h) (by decide +kernel)
set_option maxRecDepth 1000000 in
theorem xmc_X13_solve {S : State} {ad : Nat → Nat} (Z : xSf S ad xmt xL) : xMc S ad xmt xpools (yX13_solve, (cX13_solve, (7, ((some .long), none)))) (xt_X13_solve, (7, (2, (14, [])))) := xMc_mk (own := RX13) (pool := xp_RX13) (lst := fun u k => xus_RX13.any fun q => Nat.beq q.1 u && Nat.beq q.2.1 k) (thr := []) false rfl xqw_X13_solve rfl (plainFor_of_name xpl_RX13) (fun h => nomatch h) rfl trivial (xhu_RX13 Z) (fun _ h => nomatch h) (by decide +kernel)
set_option maxRecDepth 1000000 in
theorem xmr_X13_solveLevel_0 : xallB (xrowB cX13_solveLevel (xpool xp_RX13) 6 false 4 (fun u k => xus_RX13.any fun q => Nat.beq q.1 u && Nat.beq q.2.1 k) []) xt_X13_solveLevel_0 = true := by decide +kernel
set_option maxRecDepth 1000000 in
theorem xmr_X13_solveLevel_1 : xallB (xrowB cX13_solveLevel (xpool xp_RX13) 6 false 4 (fun u k => xus_RX13.any fun q => Nat.beq q.1 u && Nat.beq q.2.1 k) []) xt_X13_solveLevel_1 = true := by decide +kernel
set_option maxRecDepth 1000000 in
theorem xmr_X13_solveLevel_2 : xallB (xrowB cX13_solveLevel (xpool xp_RX13) 6 false 4 (fun u k => xus_RX13.any fun q => Nat.beq q.1 u && Nat.beq q.2.1 k) []) xt_X13_solveLevel_2 = true := by decide +kernel
set_option maxRecDepth 1000000 in
theorem xmr_X13_solveLevel_3 : xallB (xrowB cX13_solveLevel (xpool xp_RX13) 6 false 4 (fun u k => xus_RX13.any fun q => Nat.beq q.1 u && Nat.beq q.2.1 k) []) xt_X13_solveLevel_3 = true := by decide +kernel
set_option maxRecDepth 1000000 in
theorem xmc_X13_solveLevel {S : State} {ad : Nat → Nat} (Z : xSf S ad xmt xL) : xMc S ad xmt xpools (yX13_solveLevel, (cX13_solveLevel, (6, ((some .boolean), none)))) (xt_X13_solveLevel, (6, (4, (14, [])))) := xMc_mk (own := RX13) (pool := xp_RX13) (lst := fun u k => xus_RX13.any fun q => Nat.beq q.1 u && Nat.beq q.2.1 k) (thr := []) false rfl xqw_X13_solveLevel rfl (plainFor_of_name xpl_RX13) (fun h => nomatch h) rfl trivial (xhu_RX13 Z) (fun _ h => nomatch h) (xallB_br (xallB_br xmr_X13_solveLevel_0 xmr_X13_solveLevel_1) (xallB_br xmr_X13_solveLevel_2 xmr_X13_solveLevel_3))
set_option maxRecDepth 1000000 in
theorem xmc_X13_spread {S : State} {ad : Nat → Nat} (Z : xSf S ad xmt xL) : xMc S ad xmt xpools (yX13_spread, (cX13_spread, (10, (none, none)))) (xt_X13_spread, (10, (0, (14, [])))) := xMc_mk (own := RX13) (pool := xp_RX13) (lst := fun u k => xus_RX13.any fun q => Nat.beq q.1 u && Nat.beq q.2.1 k) (thr := []) false rfl xqw_X13_spread rfl (plainFor_of_name xpl_RX13) (fun h => nomatch h) rfl trivial (xhu_RX13 Z) (fun _ h => nomatch h) (by decide +kernel)
set_option maxRecDepth 1000000 in
theorem xmc_X13_squareA {S : State} {ad : Nat → Nat} (Z : xSf S ad xmt xL) : xMc S ad xmt xpools (yX13_squareA, (cX13_squareA, (3, (none, none)))) (xt_X13_squareA, (3, (0, (14, [])))) := xMc_mk (own := RX13) (pool := xp_RX13) (lst := fun u k => xus_RX13.any fun q => Nat.beq q.1 u && Nat.beq q.2.1 k) (thr := []) false rfl xqw_X13_squareA rfl (plainFor_of_name xpl_RX13) (fun h => nomatch h) rfl trivial (xhu_RX13 Z) (fun _ h => nomatch h) (by decide +kernel)
set_option maxRecDepth 1000000 in
theorem xmc_X13_squareB {S : State} {ad : Nat → Nat} (Z : xSf S ad xmt xL) : xMc S ad xmt xpools (yX13_squareB, (cX13_squareB, (3, (none, none)))) (xt_X13_squareB, (3, (0, (14, [])))) := xMc_mk (own := RX13) (pool := xp_RX13) (lst := fun u k => xus_RX13.any fun q => Nat.beq q.1 u && Nat.beq q.2.1 k) (thr := []) false rfl xqw_X13_squareB rfl (plainFor_of_name xpl_RX13) (fun h => nomatch h) rfl trivial (xhu_RX13 Z) (fun _ h => nomatch h) (by decide +kernel)
set_option maxRecDepth 1000000 in
theorem xmc_X13_step {S : State} {ad : Nat → Nat} (Z : xSf S ad xmt xL) : xMc S ad xmt xpools (yX13_step, (cX13_step, (2, ((some .int), none)))) (xt_X13_step, (2, (1, (14, [])))) := xMc_mk (own := RX13) (pool := xp_RX13) (lst := fun u k => xus_RX13.any fun q => Nat.beq q.1 u && Nat.beq q.2.1 k) (thr := []) false rfl xqw_X13_step rfl (plainFor_of_name xpl_RX13) (fun h => nomatch h) rfl trivial (xhu_RX13 Z) (fun _ h => nomatch h) (by decide +kernel)
set_option maxRecDepth 1000000 in
theorem xmc_X13_stretch {S : State} {ad : Nat → Nat} (Z : xSf S ad xmt xL) : xMc S ad xmt xpools (yX13_stretch, (cX13_stretch, (12, (none, none)))) (xt_X13_stretch, (12, (0, (14, [])))) := xMc_mk (own := RX13) (pool := xp_RX13) (lst := fun u k => xus_RX13.any fun q => Nat.beq q.1 u && Nat.beq q.2.1 k) (thr := []) false rfl xqw_X13_stretch rfl (plainFor_of_name xpl_RX13) (fun h => nomatch h) rfl trivial (xhu_RX13 Z) (fun _ h => nomatch h) (by decide +kernel)
set_option maxRecDepth 1000000 in
theorem xmc_X13_strike {S : State} {ad : Nat → Nat} (Z : xSf S ad xmt xL) : xMc S ad xmt xpools (yX13_strike, (cX13_strike, (4, ((some .boolean), none)))) (xt_X13_strike, (4, (4, (14, [])))) := xMc_mk (own := RX13) (pool := xp_RX13) (lst := fun u k => xus_RX13.any fun q => Nat.beq q.1 u && Nat.beq q.2.1 k) (thr := []) false rfl xqw_X13_strike rfl (plainFor_of_name xpl_RX13) (fun h => nomatch h) rfl trivial (xhu_RX13 Z) (fun _ h => nomatch h) (by decide +kernel)
set_option maxRecDepth 1000000 in
theorem xmc_X13_swap {S : State} {ad : Nat → Nat} (Z : xSf S ad xmt xL) : xMc S ad xmt xpools (yX13_swap, (cX13_swap, (7, (none, none)))) (xt_X13_swap, (7, (0, (14, [])))) := xMc_mk (own := RX13) (pool := xp_RX13) (lst := fun u k => xus_RX13.any fun q => Nat.beq q.1 u && Nat.beq q.2.1 k) (thr := []) false rfl xqw_X13_swap rfl (plainFor_of_name xpl_RX13) (fun h => nomatch h) rfl trivial (xhu_RX13 Z) (fun _ h => nomatch h) (by decide +kernel)
set_option maxRecDepth 1000000 in
theorem xmr_X13_takeAway_0 : xallB (xrowB cX13_takeAway (xpool xp_RX13) 12 false 2 (fun u k => xus_RX13.any fun q => Nat.beq q.1 u && Nat.beq q.2.1 k) []) xt_X13_takeAway_0 = true := by decide +kernel
set_option maxRecDepth 1000000 in
theorem xmr_X13_takeAway_1 : xallB (xrowB cX13_takeAway (xpool xp_RX13) 12 false 2 (fun u k => xus_RX13.any fun q => Nat.beq q.1 u && Nat.beq q.2.1 k) []) xt_X13_takeAway_1 = true := by decide +kernel
set_option maxRecDepth 1000000 in
theorem xmr_X13_takeAway_2 : xallB (xrowB cX13_takeAway (xpool xp_RX13) 12 false 2 (fun u k => xus_RX13.any fun q => Nat.beq q.1 u && Nat.beq q.2.1 k) []) xt_X13_takeAway_2 = true := by decide +kernel
set_option maxRecDepth 1000000 in
theorem xmr_X13_takeAway_3 : xallB (xrowB cX13_takeAway (xpool xp_RX13) 12 false 2 (fun u k => xus_RX13.any fun q => Nat.beq q.1 u && Nat.beq q.2.1 k) []) xt_X13_takeAway_3 = true := by decide +kernel
set_option maxRecDepth 1000000 in
theorem xmc_X13_takeAway {S : State} {ad : Nat → Nat} (Z : xSf S ad xmt xL) : xMc S ad xmt xpools (yX13_takeAway, (cX13_takeAway, (12, ((some .long), none)))) (xt_X13_takeAway, (12, (2, (14, [])))) := xMc_mk (own := RX13) (pool := xp_RX13) (lst := fun u k => xus_RX13.any fun q => Nat.beq q.1 u && Nat.beq q.2.1 k) (thr := []) false rfl xqw_X13_takeAway rfl (plainFor_of_name xpl_RX13) (fun h => nomatch h) rfl trivial (xhu_RX13 Z) (fun _ h => nomatch h) (xallB_br (xallB_br xmr_X13_takeAway_0 xmr_X13_takeAway_1) (xallB_br xmr_X13_takeAway_2 xmr_X13_takeAway_3))
set_option maxRecDepth 1000000 in
theorem xmc_X13_takes {S : State} {ad : Nat → Nat} (Z : xSf S ad xmt xL) : xMc S ad xmt xpools (yX13_takes, (cX13_takes, (3, ((some .boolean), none)))) (xt_X13_takes, (3, (4, (14, [])))) := xMc_mk (own := RX13) (pool := xp_RX13) (lst := fun u k => xus_RX13.any fun q => Nat.beq q.1 u && Nat.beq q.2.1 k) (thr := []) false rfl xqw_X13_takes rfl (plainFor_of_name xpl_RX13) (fun h => nomatch h) rfl trivial (xhu_RX13 Z) (fun _ h => nomatch h) (by decide +kernel)
set_option maxRecDepth 1000000 in
theorem xmc_X13_tell {S : State} {ad : Nat → Nat} (Z : xSf S ad xmt xL) : xMc S ad xmt xpools (yX13_tell, (cX13_tell, (4, (none, none)))) (xt_X13_tell, (4, (0, (14, [])))) := xMc_mk (own := RX13) (pool := xp_RX13) (lst := fun u k => xus_RX13.any fun q => Nat.beq q.1 u && Nat.beq q.2.1 k) (thr := []) false rfl xqw_X13_tell rfl (plainFor_of_name xpl_RX13) (fun h => nomatch h) rfl trivial (xhu_RX13 Z) (fun _ h => nomatch h) (by decide +kernel)
set_option maxRecDepth 1000000 in
theorem xmr_X13_tellEstimate_0 : xallB (xrowB cX13_tellEstimate (xpool xp_RX13) 14 false 0 (fun u k => xus_RX13.any fun q => Nat.beq q.1 u && Nat.beq q.2.1 k) []) xt_X13_tellEstimate_0 = true := by decide +kernel
set_option maxRecDepth 1000000 in
theorem xmr_X13_tellEstimate_1 : xallB (xrowB cX13_tellEstimate (xpool xp_RX13) 14 false 0 (fun u k => xus_RX13.any fun q => Nat.beq q.1 u && Nat.beq q.2.1 k) []) xt_X13_tellEstimate_1 = true := by decide +kernel
set_option maxRecDepth 1000000 in
theorem xmr_X13_tellEstimate_2 : xallB (xrowB cX13_tellEstimate (xpool xp_RX13) 14 false 0 (fun u k => xus_RX13.any fun q => Nat.beq q.1 u && Nat.beq q.2.1 k) []) xt_X13_tellEstimate_2 = true := by decide +kernel
set_option maxRecDepth 1000000 in
theorem xmr_X13_tellEstimate_3 : xallB (xrowB cX13_tellEstimate (xpool xp_RX13) 14 false 0 (fun u k => xus_RX13.any fun q => Nat.beq q.1 u && Nat.beq q.2.1 k) []) xt_X13_tellEstimate_3 = true := by decide +kernel
set_option maxRecDepth 1000000 in
theorem xmc_X13_tellEstimate {S : State} {ad : Nat → Nat} (Z : xSf S ad xmt xL) : xMc S ad xmt xpools (yX13_tellEstimate, (cX13_tellEstimate, (14, (none, none)))) (xt_X13_tellEstimate, (14, (0, (14, [])))) := xMc_mk (own := RX13) (pool := xp_RX13) (lst := fun u k => xus_RX13.any fun q => Nat.beq q.1 u && Nat.beq q.2.1 k) (thr := []) false rfl xqw_X13_tellEstimate rfl (plainFor_of_name xpl_RX13) (fun h => nomatch h) rfl trivial (xhu_RX13 Z) (fun _ h => nomatch h) (xallB_br (xallB_br xmr_X13_tellEstimate_0 xmr_X13_tellEstimate_1) (xallB_br xmr_X13_tellEstimate_2 xmr_X13_tellEstimate_3))
set_option maxRecDepth 1000000 in
theorem xmc_X13_tellLines {S : State} {ad : Nat → Nat} (Z : xSf S ad xmt xL) : xMc S ad xmt xpools (yX13_tellLines, (cX13_tellLines, (8, (none, none)))) (xt_X13_tellLines, (8, (0, (14, [])))) := xMc_mk (own := RX13) (pool := xp_RX13) (lst := fun u k => xus_RX13.any fun q => Nat.beq q.1 u && Nat.beq q.2.1 k) (thr := []) false rfl xqw_X13_tellLines rfl (plainFor_of_name xpl_RX13) (fun h => nomatch h) rfl trivial (xhu_RX13 Z) (fun _ h => nomatch h) (by decide +kernel)
set_option maxRecDepth 1000000 in
theorem xmc_X13_thrown {S : State} {ad : Nat → Nat} (Z : xSf S ad xmt xL) : xMc S ad xmt xpools (yX13_thrown, (cX13_thrown, (1, ((some .int), none)))) (xt_X13_thrown, (1, (1, (14, [])))) := xMc_mk (own := RX13) (pool := xp_RX13) (lst := fun u k => xus_RX13.any fun q => Nat.beq q.1 u && Nat.beq q.2.1 k) (thr := []) false rfl xqw_X13_thrown rfl (plainFor_of_name xpl_RX13) (fun h => nomatch h) rfl trivial (xhu_RX13 Z) (fun _ h => nomatch h) (by decide +kernel)
set_option maxRecDepth 1000000 in
theorem xmr_X13_times_0 : xallB (xrowB cX13_times (xpool xp_RX13) 14 false 0 (fun u k => xus_RX13.any fun q => Nat.beq q.1 u && Nat.beq q.2.1 k) []) xt_X13_times_0 = true := by decide +kernel
set_option maxRecDepth 1000000 in
theorem xmr_X13_times_1 : xallB (xrowB cX13_times (xpool xp_RX13) 14 false 0 (fun u k => xus_RX13.any fun q => Nat.beq q.1 u && Nat.beq q.2.1 k) []) xt_X13_times_1 = true := by decide +kernel
set_option maxRecDepth 1000000 in
theorem xmr_X13_times_2 : xallB (xrowB cX13_times (xpool xp_RX13) 14 false 0 (fun u k => xus_RX13.any fun q => Nat.beq q.1 u && Nat.beq q.2.1 k) []) xt_X13_times_2 = true := by decide +kernel
set_option maxRecDepth 1000000 in
theorem xmr_X13_times_3 : xallB (xrowB cX13_times (xpool xp_RX13) 14 false 0 (fun u k => xus_RX13.any fun q => Nat.beq q.1 u && Nat.beq q.2.1 k) []) xt_X13_times_3 = true := by decide +kernel
set_option maxRecDepth 1000000 in
theorem xmc_X13_times {S : State} {ad : Nat → Nat} (Z : xSf S ad xmt xL) : xMc S ad xmt xpools (yX13_times, (cX13_times, (14, (none, none)))) (xt_X13_times, (14, (0, (14, [])))) := xMc_mk (own := RX13) (pool := xp_RX13) (lst := fun u k => xus_RX13.any fun q => Nat.beq q.1 u && Nat.beq q.2.1 k) (thr := []) false rfl xqw_X13_times rfl (plainFor_of_name xpl_RX13) (fun h => nomatch h) rfl trivial (xhu_RX13 Z) (fun _ h => nomatch h) (xallB_br (xallB_br xmr_X13_times_0 xmr_X13_times_1) (xallB_br xmr_X13_times_2 xmr_X13_times_3))
set_option maxRecDepth 1000000 in
theorem xmc_X13_times_ {S : State} {ad : Nat → Nat} (Z : xSf S ad xmt xL) : xMc S ad xmt xpools (yX13_times_, (cX13_times_, (2, ((some .long), none)))) (xt_X13_times_, (2, (2, (14, [])))) := xMc_mk (own := RX13) (pool := xp_RX13) (lst := fun u k => xus_RX13.any fun q => Nat.beq q.1 u && Nat.beq q.2.1 k) (thr := []) false rfl xqw_X13_times_ rfl (plainFor_of_name xpl_RX13) (fun h => nomatch h) rfl trivial (xhu_RX13 Z) (fun _ h => nomatch h) (by decide +kernel)
set_option maxRecDepth 1000000 in
theorem xmr_X13_told_0 : xallB (xrowB cX13_told (xpool xp_RX13) 5 false 0 (fun u k => xus_RX13.any fun q => Nat.beq q.1 u && Nat.beq q.2.1 k) []) xt_X13_told_0 = true := by decide +kernel
set_option maxRecDepth 1000000 in
theorem xmr_X13_told_1 : xallB (xrowB cX13_told (xpool xp_RX13) 5 false 0 (fun u k => xus_RX13.any fun q => Nat.beq q.1 u && Nat.beq q.2.1 k) []) xt_X13_told_1 = true := by decide +kernel
set_option maxRecDepth 1000000 in
theorem xmr_X13_told_2 : xallB (xrowB cX13_told (xpool xp_RX13) 5 false 0 (fun u k => xus_RX13.any fun q => Nat.beq q.1 u && Nat.beq q.2.1 k) []) xt_X13_told_2 = true := by decide +kernel
set_option maxRecDepth 1000000 in
theorem xmr_X13_told_3 : xallB (xrowB cX13_told (xpool xp_RX13) 5 false 0 (fun u k => xus_RX13.any fun q => Nat.beq q.1 u && Nat.beq q.2.1 k) []) xt_X13_told_3 = true := by decide +kernel
set_option maxRecDepth 1000000 in
theorem xmc_X13_told {S : State} {ad : Nat → Nat} (Z : xSf S ad xmt xL) : xMc S ad xmt xpools (yX13_told, (cX13_told, (5, (none, none)))) (xt_X13_told, (5, (0, (14, [])))) := xMc_mk (own := RX13) (pool := xp_RX13) (lst := fun u k => xus_RX13.any fun q => Nat.beq q.1 u && Nat.beq q.2.1 k) (thr := []) false rfl xqw_X13_told rfl (plainFor_of_name xpl_RX13) (fun h => nomatch h) rfl trivial (xhu_RX13 Z) (fun _ h => nomatch h) (xallB_br (xallB_br xmr_X13_told_0 xmr_X13_told_1) (xallB_br xmr_X13_told_2 xmr_X13_told_3))
