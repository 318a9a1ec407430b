set_option maxRecDepth 1000000 in
theorem xmr_X13_divide_0 : xallB (xrowB cX13_divide (xpool xp_RX13) 20 false 0 (fun u k => xus_RX13.any fun q => Nat.beq q.1 u && Nat.beq q.2.1 k) []) xt_X13_divide_0 = true := by decide +kernel
set_option maxRecDepth 1000000 in
theorem xmr_X13_divide_1 : xallB (xrowB cX13_divide (xpool xp_RX13) 20 false 0 (fun u k => xus_RX13.any fun q => Nat.beq q.1 u && Nat.beq q.2.1 k) []) xt_X13_divide_1 = true := by decide +kernel
set_option maxRecDepth 1000000 in
theorem xmr_X13_divide_2 : xallB (xrowB cX13_divide (xpool xp_RX13) 20 false 0 (fun u k => xus_RX13.any fun q => Nat.beq q.1 u && Nat.beq q.2.1 k) []) xt_X13_divide_2 = true := by decide +kernel
set_option maxRecDepth 1000000 in
theorem xmr_X13_divide_3 : xallB (xrowB cX13_divide (xpool xp_RX13) 20 false 0 (fun u k => xus_RX13.any fun q => Nat.beq q.1 u && Nat.beq q.2.1 k) []) xt_X13_divide_3 = true := by decide +kernel
set_option maxRecDepth 1000000 in
theorem xmr_X13_divide_4 : xallB (xrowB cX13_divide (xpool xp_RX13) 20 false 0 (fun u k => xus_RX13.any fun q => Nat.beq q.1 u && Nat.beq q.2.1 k) []) xt_X13_divide_4 = true := by decide +kernel
set_option maxRecDepth 1000000 in
theorem xmr_X13_divide_5 : xallB (xrowB cX13_divide (xpool xp_RX13) 20 false 0 (fun u k => xus_RX13.any fun q => Nat.beq q.1 u && Nat.beq q.2.1 k) []) xt_X13_divide_5 = true := by decide +kernel
set_option maxRecDepth 1000000 in
theorem xmr_X13_divide_6 : xallB (xrowB cX13_divide (xpool xp_RX13) 20 false 0 (fun u k => xus_RX13.any fun q => Nat.beq q.1 u && Nat.beq q.2.1 k) []) xt_X13_divide_6 = true := by decide +kernel
set_option maxRecDepth 1000000 in
theorem xmr_X13_divide_7 : xallB (xrowB cX13_divide (xpool xp_RX13) 20 false 0 (fun u k => xus_RX13.any fun q => Nat.beq q.1 u && Nat.beq q.2.1 k) []) xt_X13_divide_7 = true := by decide +kernel
set_option maxRecDepth 1000000 in
theorem xmc_X13_divide {S : State} {ad : Nat → Nat} (Z : xSf S ad xmt xL) : xMc S ad xmt xpools (yX13_divide, (cX13_divide, (20, (none, none)))) (xt_X13_divide, (20, (0, (14, [])))) := xMc_mk (own := RX13) (pool := xp_RX13) (lst := fun u k => xus_RX13.any fun q => Nat.beq q.1 u && Nat.beq q.2.1 k) (thr := []) false rfl xqw_X13_divide rfl (plainFor_of_name xpl_RX13) (fun h => nomatch h) rfl trivial (xhu_RX13 Z) (fun _ h => nomatch h) (xallB_br (xallB_br (xallB_br xmr_X13_divide_0 xmr_X13_divide_1) (xallB_br xmr_X13_divide_2 xmr_X13_divide_3)) (xallB_br (xallB_br xmr_X13_divide_4 xmr_X13_divide_5) (xallB_br xmr_X13_divide_6 xmr_X13_divide_7)))
set_option maxRecDepth 1000000 in
theorem xmc_X13_divideByOne {S : State} {ad : Nat → Nat} (Z : xSf S ad xmt xL) : xMc S ad xmt xpools (yX13_divideByOne, (cX13_divideByOne, (14, (none, none)))) (xt_X13_divideByOne, (14, (0, (14, [])))) := xMc_mk (own := RX13) (pool := xp_RX13) (lst := fun u k => xus_RX13.any fun q => Nat.beq q.1 u && Nat.beq q.2.1 k) (thr := []) false rfl xqw_X13_divideByOne rfl (plainFor_of_name xpl_RX13) (fun h => nomatch h) rfl trivial (xhu_RX13 Z) (fun _ h => nomatch h) (by decide +kernel)
set_option maxRecDepth 1000000 in
theorem xmc_X13_end {S : State} {ad : Nat → Nat} (Z : xSf S ad xmt xL) : xMc S ad xmt xpools (yX13_end, (cX13_end, (2, (none, none)))) (xt_X13_end, (2, (0, (14, [])))) := xMc_mk (own := RX13) (pool := xp_RX13) (lst := fun u k => xus_RX13.any fun q => Nat.beq q.1 u && Nat.beq q.2.1 k) (thr := []) false rfl xqw_X13_end rfl (plainFor_of_name xpl_RX13) (fun h => nomatch h) rfl trivial (xhu_RX13 Z) (fun _ h => nomatch h) (by decide +kernel)
set_option maxRecDepth 1000000 in
theorem xmr_X13_equations_0 : xallB (xrowB cX13_equations (xpool xp_RX13) 10 false 2 (fun u k => xus_RX13.any fun q => Nat.beq q.1 u && Nat.beq q.2.1 k) []) xt_X13_equations_0 = true := by decide +kernel
set_option maxRecDepth 1000000 in
theorem xmr_X13_equations_1 : xallB (xrowB cX13_equations (xpool xp_RX13) 10 false 2 (fun u k => xus_RX13.any fun q => Nat.beq q.1 u && Nat.beq q.2.1 k) []) xt_X13_equations_1 = true := by decide +kernel
set_option maxRecDepth 1000000 in
theorem xmr_X13_equations_2 : xallB (xrowB cX13_equations (xpool xp_RX13) 10 false 2 (fun u k => xus_RX13.any fun q => Nat.beq q.1 u && Nat.beq q.2.1 k) []) xt_X13_equations_2 = true := by decide +kernel
set_option maxRecDepth 1000000 in
theorem xmr_X13_equations_3 : xallB (xrowB cX13_equations (xpool xp_RX13) 10 false 2 (fun u k => xus_RX13.any fun q => Nat.beq q.1 u && Nat.beq q.2.1 k) []) xt_X13_equations_3 = true := by decide +kernel
set_option maxRecDepth 1000000 in
theorem xmc_X13_equations {S : State} {ad : Nat → Nat} (Z : xSf S ad xmt xL) : xMc S ad xmt xpools (yX13_equations, (cX13_equations, (10, ((some .long), none)))) (xt_X13_equations, (10, (2, (14, [])))) := xMc_mk (own := RX13) (pool := xp_RX13) (lst := fun u k => xus_RX13.any fun q => Nat.beq q.1 u && Nat.beq q.2.1 k) (thr := []) false rfl xqw_X13_equations rfl (plainFor_of_name xpl_RX13) (fun h => nomatch h) rfl trivial (xhu_RX13 Z) (fun _ h => nomatch h) (xallB_br (xallB_br xmr_X13_equations_0 xmr_X13_equations_1) (xallB_br xmr_X13_equations_2 xmr_X13_equations_3))
set_option maxRecDepth 1000000 in
theorem xmc_X13_estimate {S : State} {ad : Nat → Nat} (Z : xSf S ad xmt xL) : xMc S ad xmt xpools (yX13_estimate, (cX13_estimate, (2, ((some .int), none)))) (xt_X13_estimate, (2, (1, (14, [])))) := xMc_mk (own := RX13) (pool := xp_RX13) (lst := fun u k => xus_RX13.any fun q => Nat.beq q.1 u && Nat.beq q.2.1 k) (thr := []) false rfl xqw_X13_estimate rfl (plainFor_of_name xpl_RX13) (fun h => nomatch h) rfl trivial (xhu_RX13 Z) (fun _ h => nomatch h) (by decide +kernel)
set_option maxRecDepth 1000000 in
theorem xmr_X13_estimateOf_0 : xallB (xrowB cX13_estimateOf (xpool xp_RX13) 9 false 0 (fun u k => xus_RX13.any fun q => Nat.beq q.1 u && Nat.beq q.2.1 k) []) xt_X13_estimateOf_0 = true := by decide +kernel
set_option maxRecDepth 1000000 in
theorem xmr_X13_estimateOf_1 : xallB (xrowB cX13_estimateOf (xpool xp_RX13) 9 false 0 (fun u k => xus_RX13.any fun q => Nat.beq q.1 u && Nat.beq q.2.1 k) []) xt_X13_estimateOf_1 = true := by decide +kernel
set_option maxRecDepth 1000000 in
theorem xmr_X13_estimateOf_2 : xallB (xrowB cX13_estimateOf (xpool xp_RX13) 9 false 0 (fun u k => xus_RX13.any fun q => Nat.beq q.1 u && Nat.beq q.2.1 k) []) xt_X13_estimateOf_2 = true := by decide +kernel
set_option maxRecDepth 1000000 in
theorem xmr_X13_estimateOf_3 : xallB (xrowB cX13_estimateOf (xpool xp_RX13) 9 false 0 (fun u k => xus_RX13.any fun q => Nat.beq q.1 u && Nat.beq q.2.1 k) []) xt_X13_estimateOf_3 = true := by decide +kernel
set_option maxRecDepth 1000000 in
theorem xmc_X13_estimateOf {S : State} {ad : Nat → Nat} (Z : xSf S ad xmt xL) : xMc S ad xmt xpools (yX13_estimateOf, (cX13_estimateOf, (9, (none, none)))) (xt_X13_estimateOf, (9, (0, (14, [])))) := xMc_mk (own := RX13) (pool := xp_RX13) (lst := fun u k => xus_RX13.any fun q => Nat.beq q.1 u && Nat.beq q.2.1 k) (thr := []) false rfl xqw_X13_estimateOf rfl (plainFor_of_name xpl_RX13) (fun h => nomatch h) rfl trivial (xhu_RX13 Z) (fun _ h => nomatch h) (xallB_br (xallB_br xmr_X13_estimateOf_0 xmr_X13_estimateOf_1) (xallB_br xmr_X13_estimateOf_2 xmr_X13_estimateOf_3))
set_option maxRecDepth 1000000 in
theorem xmc_X13_estimates {S : State} {ad : Nat → Nat} (Z : xSf S ad xmt xL) : xMc S ad xmt xpools (yX13_estimates, (cX13_estimates, (2, (none, none)))) (xt_X13_estimates, (2, (0, (14, [])))) := xMc_mk (own := RX13) (pool := xp_RX13) (lst := fun u k => xus_RX13.any fun q => Nat.beq q.1 u && Nat.beq q.2.1 k) (thr := []) false rfl xqw_X13_estimates rfl (plainFor_of_name xpl_RX13) (fun h => nomatch h) rfl trivial (xhu_RX13 Z) (fun _ h => nomatch h) (by decide +kernel)
set_option maxRecDepth 1000000 in
theorem xmc_X13_f {S : State} {ad : Nat → Nat} (Z : xSf S ad xmt xL) : xMc S ad xmt xpools (yX13_f, (cX13_f, (3, ((some .int), none)))) (xt_X13_f, (3, (1, (14, [])))) := xMc_mk (own := RX13) (pool := xp_RX13) (lst := fun u k => xus_RX13.any fun q => Nat.beq q.1 u && Nat.beq q.2.1 k) (thr := []) false rfl xqw_X13_f rfl (plainFor_of_name xpl_RX13) (fun h => nomatch h) rfl trivial (xhu_RX13 Z) (fun _ h => nomatch h) (by decide +kernel)
set_option maxRecDepth 1000000 in
theorem xmc_X13_fails {S : State} {ad : Nat → Nat} (Z : xSf S ad xmt xL) : xMc S ad xmt xpools (yX13_fails, (cX13_fails, (4, ((some .boolean), none)))) (xt_X13_fails, (4, (4, (14, [])))) := xMc_mk (own := RX13) (pool := xp_RX13) (lst := fun u k => xus_RX13.any fun q => Nat.beq q.1 u && Nat.beq q.2.1 k) (thr := []) false rfl xqw_X13_fails rfl (plainFor_of_name xpl_RX13) (fun h => nomatch h) rfl trivial (xhu_RX13 Z) (fun _ h => nomatch h) (by decide +kernel)
set_option maxRecDepth 1000000 in
theorem xmc_X13_feed {S : State} {ad : Nat → Nat} (Z : xSf S ad xmt xL) : xMc S ad xmt xpools (yX13_feed, (cX13_feed, (8, ((some .int), none)))) (xt_X13_feed, (8, (1, (14, [])))) := xMc_mk (own := RX13) (pool := xp_RX13) (lst := fun u k => xus_RX13.any fun q => Nat.beq q.1 u && Nat.beq q.2.1 k) (thr := []) false rfl xqw_X13_feed rfl (plainFor_of_name xpl_RX13) (fun h => nomatch h) rfl trivial (xhu_RX13 Z) (fun _ h => nomatch h) (by decide +kernel)
set_option maxRecDepth 1000000 in
theorem xmc_X13_fieldOf {S : State} {ad : Nat → Nat} (Z : xSf S ad xmt xL) : xMc S ad xmt xpools (yX13_fieldOf, (cX13_fieldOf, (2, ((some .int), none)))) (xt_X13_fieldOf, (2, (1, (14, [])))) := xMc_mk (own := RX13) (pool := xp_RX13) (lst := fun u k => xus_RX13.any fun q => Nat.beq q.1 u && Nat.beq q.2.1 k) (thr := []) false rfl xqw_X13_fieldOf rfl (plainFor_of_name xpl_RX13) (fun h => nomatch h) rfl trivial (xhu_RX13 Z) (fun _ h => nomatch h) (by decide +kernel)
set_option maxRecDepth 1000000 in
theorem xmc_X13_fields {S : State} {ad : Nat → Nat} (Z : xSf S ad xmt xL) : xMc S ad xmt xpools (yX13_fields, (cX13_fields, (1, ((some .int), none)))) (xt_X13_fields, (1, (1, (14, [])))) := xMc_mk (own := RX13) (pool := xp_RX13) (lst := fun u k => xus_RX13.any fun q => Nat.beq q.1 u && Nat.beq q.2.1 k) (thr := []) false rfl xqw_X13_fields rfl (plainFor_of_name xpl_RX13) (fun h => nomatch h) rfl trivial (xhu_RX13 Z) (fun _ h => nomatch h) (by decide +kernel)
set_option maxRecDepth 1000000 in
theorem xmc_X13_figure {S : State} {ad : Nat → Nat} (Z : xSf S ad xmt xL) : xMc S ad xmt xpools (yX13_figure, (cX13_figure, (7, ((some .int), none)))) (xt_X13_figure, (7, (1, (14, [])))) := xMc_mk (own := RX13) (pool := xp_RX13) (lst := fun u k => xus_RX13.any fun q => Nat.beq q.1 u && Nat.beq q.2.1 k) (thr := []) false rfl xqw_X13_figure rfl (plainFor_of_name xpl_RX13) (fun h => nomatch h) rfl trivial (xhu_RX13 Z) (fun _ h => nomatch h) (by decide +kernel)
set_option maxRecDepth 1000000 in
theorem xmc_X13_figures {S : State} {ad : Nat → Nat} (Z : xSf S ad xmt xL) : xMc S ad xmt xpools (yX13_figures, (cX13_figures, (5, ((some .int), none)))) (xt_X13_figures, (5, (1, (14, [])))) := xMc_mk (own := RX13) (pool := xp_RX13) (lst := fun u k => xus_RX13.any fun q => Nat.beq q.1 u && Nat.beq q.2.1 k) (thr := []) false rfl xqw_X13_figures rfl (plainFor_of_name xpl_RX13) (fun h => nomatch h) rfl trivial (xhu_RX13 Z) (fun _ h => nomatch h) (by decide +kernel)
set_option maxRecDepth 1000000 in
theorem xmc_X13_find {S : State} {ad : Nat → Nat} (Z : xSf S ad xmt xL) : xMc S ad xmt xpools (yX13_find, (cX13_find, (6, ((some .int), none)))) (xt_X13_find, (6, (1, (14, [])))) := xMc_mk (own := RX13) (pool := xp_RX13) (lst := fun u k => xus_RX13.any fun q => Nat.beq q.1 u && Nat.beq q.2.1 k) (thr := []) false rfl xqw_X13_find rfl (plainFor_of_name xpl_RX13) (fun h => nomatch h) rfl trivial (xhu_RX13 Z) (fun _ h => nomatch h) (by decide +kernel)
set_option maxRecDepth 1000000 in
theorem xmc_X13_findWords {S : State} {ad : Nat → Nat} (Z : xSf S ad xmt xL) : xMc S ad xmt xpools (yX13_findWords, (cX13_findWords, (3, (none, none)))) (xt_X13_findWords, (3, (0, (14, [])))) := xMc_mk (own := RX13) (pool := xp_RX13) (lst := fun u k => xus_RX13.any fun q => Nat.beq q.1 u && Nat.beq q.2.1 k) (thr := []) false rfl xqw_X13_findWords rfl (plainFor_of_name xpl_RX13) (fun h => nomatch h) rfl trivial (xhu_RX13 Z) (fun _ h => nomatch h) (by decide +kernel)
set_option maxRecDepth 1000000 in
theorem xmc_X13_finish {S : State} {ad : Nat → Nat} (Z : xSf S ad xmt xL) : xMc S ad xmt xpools (yX13_finish, (cX13_finish, (4, (none, none)))) (xt_X13_finish, (4, (0, (14, [])))) := xMc_mk (own := RX13) (pool := xp_RX13) (lst := fun u k => xus_RX13.any fun q => Nat.beq q.1 u && Nat.beq q.2.1 k) (thr := []) false rfl xqw_X13_finish rfl (plainFor_of_name xpl_RX13) (fun h => nomatch h) rfl trivial (xhu_RX13 Z) (fun _ h => nomatch h) (by decide +kernel)
set_option maxRecDepth 1000000 in
theorem xmr_X13_flows_0 : xallB (xrowB cX13_flows (xpool xp_RX13) 3 false 0 (fun u k => xus_RX13.any fun q => Nat.beq q.1 u && Nat.beq q.2.1 k) []) xt_X13_flows_0 = true := by decide +kernel
set_option maxRecDepth 1000000 in
theorem xmr_X13_flows_1 : xallB (xrowB cX13_flows (xpool xp_RX13) 3 false 0 (fun u k => xus_RX13.any fun q => Nat.beq q.1 u && Nat.beq q.2.1 k) []) xt_X13_flows_1 = true := by decide +kernel
set_option maxRecDepth 1000000 in
theorem xmr_X13_flows_2 : xallB (xrowB cX13_flows (xpool xp_RX13) 3 false 0 (fun u k => xus_RX13.any fun q => Nat.beq q.1 u && Nat.beq q.2.1 k) []) xt_X13_flows_2 = true := by decide +kernel
set_option maxRecDepth 1000000 in
theorem xmr_X13_flows_3 : xallB (xrowB cX13_flows (xpool xp_RX13) 3 false 0 (fun u k => xus_RX13.any fun q => Nat.beq q.1 u && Nat.beq q.2.1 k) []) xt_X13_flows_3 = true := by decide +kernel
set_option maxRecDepth 1000000 in
theorem xmr_X13_flows_4 : xallB (xrowB cX13_flows (xpool xp_RX13) 3 false 0 (fun u k => xus_RX13.any fun q => Nat.beq q.1 u && Nat.beq q.2.1 k) []) xt_X13_flows_4 = true := by decide +kernel
set_option maxRecDepth 1000000 in
theorem xmr_X13_flows_5 : xallB (xrowB cX13_flows (xpool xp_RX13) 3 false 0 (fun u k => xus_RX13.any fun q => Nat.beq q.1 u && Nat.beq q.2.1 k) []) xt_X13_flows_5 = true := by decide +kernel
set_option maxRecDepth 1000000 in
theorem xmr_X13_flows_6 : xallB (xrowB cX13_flows (xpool xp_RX13) 3 false 0 (fun u k => xus_RX13.any fun q => Nat.beq q.1 u && Nat.beq q.2.1 k) []) xt_X13_flows_6 = true := by decide +kernel
set_option maxRecDepth 1000000 in
theorem xmr_X13_flows_7 : xallB (xrowB cX13_flows (xpool xp_RX13) 3 false 0 (fun u k => xus_RX13.any fun q => Nat.beq q.1 u && Nat.beq q.2.1 k) []) xt_X13_flows_7 = true := by decide +kernel
set_option maxRecDepth 1000000 in
theorem xmc_X13_flows {S : State} {ad : Nat → Nat} (Z : xSf S ad xmt xL) : xMc S ad xmt xpools (yX13_flows, (cX13_flows, (3, (none, none)))) (xt_X13_flows, (3, (0, (14, [])))) := xMc_mk (own := RX13) (pool := xp_RX13) (lst := fun u k => xus_RX13.any fun q => Nat.beq q.1 u && Nat.beq q.2.1 k) (thr := []) false rfl xqw_X13_flows rfl (plainFor_of_name xpl_RX13) (fun h => nomatch h) rfl trivial (xhu_RX13 Z) (fun _ h => nomatch h) (xallB_br (xallB_br (xallB_br xmr_X13_flows_0 xmr_X13_flows_1) (xallB_br xmr_X13_flows_2 xmr_X13_flows_3)) (xallB_br (xallB_br xmr_X13_flows_4 xmr_X13_flows_5) (xallB_br xmr_X13_flows_6 xmr_X13_flows_7)))
set_option maxRecDepth 1000000 in
theorem xmr_X13_flowsOf_0 : xallB (xrowB cX13_flowsOf (xpool xp_RX13) 9 false 0 (fun u k => xus_RX13.any fun q => Nat.beq q.1 u && Nat.beq q.2.1 k) []) xt_X13_flowsOf_0 = true := by decide +kernel
set_option maxRecDepth 1000000 in
theorem xmr_X13_flowsOf_1 : xallB (xrowB cX13_flowsOf (xpool xp_RX13) 9 false 0 (fun u k => xus_RX13.any fun q => Nat.beq q.1 u && Nat.beq q.2.1 k) []) xt_X13_flowsOf_1 = true := by decide +kernel
set_option maxRecDepth 1000000 in
theorem xmr_X13_flowsOf_2 : xallB (xrowB cX13_flowsOf (xpool xp_RX13) 9 false 0 (fun u k => xus_RX13.any fun q => Nat.beq q.1 u && Nat.beq q.2.1 k) []) xt_X13_flowsOf_2 = true := by decide +kernel
set_option maxRecDepth 1000000 in
theorem xmr_X13_flowsOf_3 : xallB (xrowB cX13_flowsOf (xpool xp_RX13) 9 false 0 (fun u k => xus_RX13.any fun q => Nat.beq q.1 u && Nat.beq q.2.1 k) []) xt_X13_flowsOf_3 = true := by decide +kernel
set_option maxRecDepth 1000000 in
theorem xmc_X13_flowsOf {S : State} {ad : Nat → Nat} (Z : xSf S ad xmt xL) : xMc S ad xmt xpools (yX13_flowsOf, (cX13_flowsOf, (9, (none, none)))) (xt_X13_flowsOf, (9, (0, (14, [])))) := xMc_mk (own := RX13) (pool := xp_RX13) (lst := fun u k => xus_RX13.any fun q => Nat.beq q.1 u && Nat.beq q.2.1 k) (thr := []) false rfl xqw_X13_flowsOf rfl (plainFor_of_name xpl_RX13) (fun h => nomatch h) rfl trivial (xhu_RX13 Z) (fun _ h => nomatch h) (xallB_br (xallB_br xmr_X13_flowsOf_0 xmr_X13_flowsOf_1) (xallB_br xmr_X13_flowsOf_2 xmr_X13_flowsOf_3))
set_option maxRecDepth 1000000 in
theorem xmr_X13_fromPlane_0 : xallB (xrowB cX13_fromPlane (xpool xp_RX13) 10 false 0 (fun u k => xus_RX13.any fun q => Nat.beq q.1 u && Nat.beq q.2.1 k) []) xt_X13_fromPlane_0 = true := by decide +kernel
set_option maxRecDepth 1000000 in
theorem xmr_X13_fromPlane_1 : xallB (xrowB cX13_fromPlane (xpool xp_RX13) 10 false 0 (fun u k => xus_RX13.any fun q => Nat.beq q.1 u && Nat.beq q.2.1 k) []) xt_X13_fromPlane_1 = true := by decide +kernel
set_option maxRecDepth 1000000 in
theorem xmr_X13_fromPlane_2 : xallB (xrowB cX13_fromPlane (xpool xp_RX13) 10 false 0 (fun u k => xus_RX13.any fun q => Nat.beq q.1 u && Nat.beq q.2.1 k) []) xt_X13_fromPlane_2 = true := by decide +kernel
set_option maxRecDepth 1000000 in
theorem xmr_X13_fromPlane_3 : xallB (xrowB cX13_fromPlane (xpool xp_RX13) 10 false 0 (fun u k => xus_RX13.any fun q => Nat.beq q.1 u && Nat.beq q.2.1 k) []) xt_X13_fromPlane_3 = true := by decide +kernel
set_option maxRecDepth 1000000 in
theorem xmc_X13_fromPlane {S : State} {ad : Nat → Nat} (Z : xSf S ad xmt xL) : xMc S ad xmt xpools (yX13_fromPlane, (cX13_fromPlane, (10, (none, none)))) (xt_X13_fromPlane, (10, (0, (14, [])))) := xMc_mk (own := RX13) (pool := xp_RX13) (lst := fun u k => xus_RX13.any fun q => Nat.beq q.1 u && Nat.beq q.2.1 k) (thr := []) false rfl xqw_X13_fromPlane rfl (plainFor_of_name xpl_RX13) (fun h => nomatch h) rfl trivial (xhu_RX13 Z) (fun _ h => nomatch h) (xallB_br (xallB_br xmr_X13_fromPlane_0 xmr_X13_fromPlane_1) (xallB_br xmr_X13_fromPlane_2 xmr_X13_fromPlane_3))
set_option maxRecDepth 1000000 in
theorem xmr_X13_fromResidues_0 : xallB (xrowB cX13_fromResidues (xpool xp_RX13) 10 false 0 (fun u k => xus_RX13.any fun q => Nat.beq q.1 u && Nat.beq q.2.1 k) []) xt_X13_fromResidues_0 = true := by decide +kernel
set_option maxRecDepth 1000000 in
theorem xmr_X13_fromResidues_1 : xallB (xrowB cX13_fromResidues (xpool xp_RX13) 10 false 0 (fun u k => xus_RX13.any fun q => Nat.beq q.1 u && Nat.beq q.2.1 k) []) xt_X13_fromResidues_1 = true := by decide +kernel
set_option maxRecDepth 1000000 in
theorem xmr_X13_fromResidues_2 : xallB (xrowB cX13_fromResidues (xpool xp_RX13) 10 false 0 (fun u k => xus_RX13.any fun q => Nat.beq q.1 u && Nat.beq q.2.1 k) []) xt_X13_fromResidues_2 = true := by decide +kernel
set_option maxRecDepth 1000000 in
theorem xmr_X13_fromResidues_3 : xallB (xrowB cX13_fromResidues (xpool xp_RX13) 10 false 0 (fun u k => xus_RX13.any fun q => Nat.beq q.1 u && Nat.beq q.2.1 k) []) xt_X13_fromResidues_3 = true := by decide +kernel
set_option maxRecDepth 1000000 in
theorem xmc_X13_fromResidues {S : State} {ad : Nat → Nat} (Z : xSf S ad xmt xL) : xMc S ad xmt xpools (yX13_fromResidues, (cX13_fromResidues, (10, (none, none)))) (xt_X13_fromResidues, (10, (0, (14, [])))) := xMc_mk (own := RX13) (pool := xp_RX13) (lst := fun u k => xus_RX13.any fun q => Nat.beq q.1 u && Nat.beq q.2.1 k) (thr := []) false rfl xqw_X13_fromResidues rfl (plainFor_of_name xpl_RX13) (fun h => nomatch h) rfl trivial (xhu_RX13 Z) (fun _ h => nomatch h) (xallB_br (xallB_br xmr_X13_fromResidues_0 xmr_X13_fromResidues_1) (xallB_br xmr_X13_fromResidues_2 xmr_X13_fromResidues_3))
set_option maxRecDepth 1000000 in
theorem xmc_X13_get {S : State} {ad : Nat → Nat} (Z : xSf S ad xmt xL) : xMc S ad xmt xpools (yX13_get, (cX13_get, (4, ((some .int), none)))) (xt_X13_get, (4, (1, (14, [])))) := xMc_mk (own := RX13) (pool := xp_RX13) (lst := fun u k => xus_RX13.any fun q => Nat.beq q.1 u && Nat.beq q.2.1 k) (thr := []) false rfl xqw_X13_get rfl (plainFor_of_name xpl_RX13) (fun h => nomatch h) rfl trivial (xhu_RX13 Z) (fun _ h => nomatch h) (by decide +kernel)
set_option maxRecDepth 1000000 in
theorem xmc_X13_giveOrder {S : State} {ad : Nat → Nat} (Z : xSf S ad xmt xL) : xMc S ad xmt xpools (yX13_giveOrder, (cX13_giveOrder, (6, ((some .boolean), none)))) (xt_X13_giveOrder, (6, (4, (14, [])))) := xMc_mk (own := RX13) (pool := xp_RX13) (lst := fun u k => xus_RX13.any fun q => Nat.beq q.1 u && Nat.beq q.2.1 k) (thr := []) false rfl xqw_X13_giveOrder rfl (plainFor_of_name xpl_RX13) (fun h => nomatch h) rfl trivial (xhu_RX13 Z) (fun _ h => nomatch h) (by decide +kernel)
set_option maxRecDepth 1000000 in
theorem xmc_X13_gives {S : State} {ad : Nat → Nat} (Z : xSf S ad xmt xL) : xMc S ad xmt xpools (yX13_gives, (cX13_gives, (5, ((some .int), none)))) (xt_X13_gives, (5, (1, (14, [])))) := xMc_mk (own := RX13) (pool := xp_RX13) (lst := fun u k => xus_RX13.any fun q => Nat.beq q.1 u && Nat.beq q.2.1 k) (thr := []) false rfl xqw_X13_gives rfl (plainFor_of_name xpl_RX13) (fun h => nomatch h) rfl trivial (xhu_RX13 Z) (fun _ h => nomatch h) (by decide +kernel)
set_option maxRecDepth 1000000 in
theorem xmc_X13_goOn {S : State} {ad : Nat → Nat} (Z : xSf S ad xmt xL) : xMc S ad xmt xpools (yX13_goOn, (cX13_goOn, (7, (none, none)))) (xt_X13_goOn, (7, (0, (14, [])))) := xMc_mk (own := RX13) (pool := xp_RX13) (lst := fun u k => xus_RX13.any fun q => Nat.beq q.1 u && Nat.beq q.2.1 k) (thr := []) false rfl xqw_X13_goOn rfl (plainFor_of_name xpl_RX13) (fun h => nomatch h) rfl trivial (xhu_RX13 Z) (fun _ h => nomatch h) (by decide +kernel)
set_option maxRecDepth 1000000 in
theorem xmc_X13_goThrough {S : State} {ad : Nat → Nat} (Z : xSf S ad xmt xL) : xMc S ad xmt xpools (yX13_goThrough, (cX13_goThrough, (2, ((some .int), none)))) (xt_X13_goThrough, (2, (1, (14, [])))) := xMc_mk (own := RX13) (pool := xp_RX13) (lst := fun u k => xus_RX13.any fun q => Nat.beq q.1 u && Nat.beq q.2.1 k) (thr := []) false rfl xqw_X13_goThrough rfl (plainFor_of_name xpl_RX13) (fun h => nomatch h) rfl trivial (xhu_RX13 Z) (fun _ h => nomatch h) (by decide +kernel)
set_option maxRecDepth 1000000 in
theorem xmc_X13_holds {S : State} {ad : Nat → Nat} (Z : xSf S ad xmt xL) : xMc S ad xmt xpools (yX13_holds, (cX13_holds, (6, ((some .boolean), none)))) (xt_X13_holds, (6, (4, (14, [])))) := xMc_mk (own := RX13) (pool := xp_RX13) (lst := fun u k => xus_RX13.any fun q => Nat.beq q.1 u && Nat.beq q.2.1 k) (thr := []) false rfl xqw_X13_holds rfl (plainFor_of_name xpl_RX13) (fun h => nomatch h) rfl trivial (xhu_RX13 Z) (fun _ h => nomatch h) (by decide +kernel)
set_option maxRecDepth 1000000 in
theorem xmr_X13_holdsCode_0 : xallB (xrowB cX13_holdsCode (xpool xp_RX13) 8 false 4 (fun u k => xus_RX13.any fun q => Nat.beq q.1 u && Nat.beq q.2.1 k) []) xt_X13_holdsCode_0 = true := by decide +kernel
set_option maxRecDepth 1000000 in
theorem xmr_X13_holdsCode_1 : xallB (xrowB cX13_holdsCode (xpool xp_RX13) 8 false 4 (fun u k => xus_RX13.any fun q => Nat.beq q.1 u && Nat.beq q.2.1 k) []) xt_X13_holdsCode_1 = true := by decide +kernel
set_option maxRecDepth 1000000 in
theorem xmr_X13_holdsCode_2 : xallB (xrowB cX13_holdsCode (xpool xp_RX13) 8 false 4 (fun u k => xus_RX13.any fun q => Nat.beq q.1 u && Nat.beq q.2.1 k) []) xt_X13_holdsCode_2 = true := by decide +kernel
set_option maxRecDepth 1000000 in
theorem xmr_X13_holdsCode_3 : xallB (xrowB cX13_holdsCode (xpool xp_RX13) 8 false 4 (fun u k => xus_RX13.any fun q => Nat.beq q.1 u && Nat.beq q.2.1 k) []) xt_X13_holdsCode_3 = true := by decide +kernel
set_option maxRecDepth 1000000 in
theorem xmc_X13_holdsCode {S : State} {ad : Nat → Nat} (Z : xSf S ad xmt xL) : xMc S ad xmt xpools (yX13_holdsCode, (cX13_holdsCode, (8, ((some .boolean), none)))) (xt_X13_holdsCode, (8, (4, (14, [])))) := xMc_mk (own := RX13) (pool := xp_RX13) (lst := fun u k => xus_RX13.any fun q => Nat.beq q.1 u && Nat.beq q.2.1 k) (thr := []) false rfl xqw_X13_holdsCode rfl (plainFor_of_name xpl_RX13) (fun h => nomatch h) rfl trivial (xhu_RX13 Z) (fun _ h => nomatch h) (xallB_br (xallB_br xmr_X13_holdsCode_0 xmr_X13_holdsCode_1) (xallB_br xmr_X13_holdsCode_2 xmr_X13_holdsCode_3))
set_option maxRecDepth 1000000 in
theorem xmc_X13_in {S : State} {ad : Nat → Nat} (Z : xSf S ad xmt xL) : xMc S ad xmt xpools (yX13_in, (cX13_in, (6, ((some .boolean), none)))) (xt_X13_in, (6, (4, (14, [])))) := xMc_mk (own := RX13) (pool := xp_RX13) (lst := fun u k => xus_RX13.any fun q => Nat.beq q.1 u && Nat.beq q.2.1 k) (thr := []) false rfl xqw_X13_in rfl (plainFor_of_name xpl_RX13) (fun h => nomatch h) rfl trivial (xhu_RX13 Z) (fun _ h => nomatch h) (by decide +kernel)
