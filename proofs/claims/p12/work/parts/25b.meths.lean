set_option maxRecDepth 1000000 in
theorem xmr_L_law_0 : xallB (xrowB code (xpool xp_RL) 7 false 4 (fun u k => xus_RL.any fun q => Nat.beq q.1 u && Nat.beq q.2.1 k) []) xt_L_law_0 = true := by decide +kernel
set_option maxRecDepth 1000000 in
theorem xmr_L_law_1 : xallB (xrowB code (xpool xp_RL) 7 false 4 (fun u k => xus_RL.any fun q => Nat.beq q.1 u && Nat.beq q.2.1 k) []) xt_L_law_1 = true := by decide +kernel
set_option maxRecDepth 1000000 in
theorem xmr_L_law_2 : xallB (xrowB code (xpool xp_RL) 7 false 4 (fun u k => xus_RL.any fun q => Nat.beq q.1 u && Nat.beq q.2.1 k) []) xt_L_law_2 = true := by decide +kernel
set_option maxRecDepth 1000000 in
theorem xmr_L_law_3 : xallB (xrowB code (xpool xp_RL) 7 false 4 (fun u k => xus_RL.any fun q => Nat.beq q.1 u && Nat.beq q.2.1 k) []) xt_L_law_3 = true := by decide +kernel
set_option maxRecDepth 1000000 in
theorem xmr_L_law_4 : xallB (xrowB code (xpool xp_RL) 7 false 4 (fun u k => xus_RL.any fun q => Nat.beq q.1 u && Nat.beq q.2.1 k) []) xt_L_law_4 = true := by decide +kernel
set_option maxRecDepth 1000000 in
theorem xmr_L_law_5 : xallB (xrowB code (xpool xp_RL) 7 false 4 (fun u k => xus_RL.any fun q => Nat.beq q.1 u && Nat.beq q.2.1 k) []) xt_L_law_5 = true := by decide +kernel
set_option maxRecDepth 1000000 in
theorem xmr_L_law_6 : xallB (xrowB code (xpool xp_RL) 7 false 4 (fun u k => xus_RL.any fun q => Nat.beq q.1 u && Nat.beq q.2.1 k) []) xt_L_law_6 = true := by decide +kernel
set_option maxRecDepth 1000000 in
theorem xmr_L_law_7 : xallB (xrowB code (xpool xp_RL) 7 false 4 (fun u k => xus_RL.any fun q => Nat.beq q.1 u && Nat.beq q.2.1 k) []) xt_L_law_7 = true := by decide +kernel
set_option maxRecDepth 1000000 in
theorem xmr_L_law_8 : xallB (xrowB code (xpool xp_RL) 7 false 4 (fun u k => xus_RL.any fun q => Nat.beq q.1 u && Nat.beq q.2.1 k) []) xt_L_law_8 = true := by decide +kernel
set_option maxRecDepth 1000000 in
theorem xmr_L_law_9 : xallB (xrowB code (xpool xp_RL) 7 false 4 (fun u k => xus_RL.any fun q => Nat.beq q.1 u && Nat.beq q.2.1 k) []) xt_L_law_9 = true := by decide +kernel
set_option maxRecDepth 1000000 in
theorem xmr_L_law_10 : xallB (xrowB code (xpool xp_RL) 7 false 4 (fun u k => xus_RL.any fun q => Nat.beq q.1 u && Nat.beq q.2.1 k) []) xt_L_law_10 = true := by decide +kernel
set_option maxRecDepth 1000000 in
theorem xmr_L_law_11 : xallB (xrowB code (xpool xp_RL) 7 false 4 (fun u k => xus_RL.any fun q => Nat.beq q.1 u && Nat.beq q.2.1 k) []) xt_L_law_11 = true := by decide +kernel
set_option maxRecDepth 1000000 in
theorem xmr_L_law_12 : xallB (xrowB code (xpool xp_RL) 7 false 4 (fun u k => xus_RL.any fun q => Nat.beq q.1 u && Nat.beq q.2.1 k) []) xt_L_law_12 = true := by decide +kernel
set_option maxRecDepth 1000000 in
theorem xmr_L_law_13 : xallB (xrowB code (xpool xp_RL) 7 false 4 (fun u k => xus_RL.any fun q => Nat.beq q.1 u && Nat.beq q.2.1 k) []) xt_L_law_13 = true := by decide +kernel
set_option maxRecDepth 1000000 in
theorem xmr_L_law_14 : xallB (xrowB code (xpool xp_RL) 7 false 4 (fun u k => xus_RL.any fun q => Nat.beq q.1 u && Nat.beq q.2.1 k) []) xt_L_law_14 = true := by decide +kernel
set_option maxRecDepth 1000000 in
theorem xmr_L_law_15 : xallB (xrowB code (xpool xp_RL) 7 false 4 (fun u k => xus_RL.any fun q => Nat.beq q.1 u && Nat.beq q.2.1 k) []) xt_L_law_15 = true := by decide +kernel
set_option maxRecDepth 1000000 in
theorem xmr_L_law_16 : xallB (xrowB code (xpool xp_RL) 7 false 4 (fun u k => xus_RL.any fun q => Nat.beq q.1 u && Nat.beq q.2.1 k) []) xt_L_law_16 = true := by decide +kernel
set_option maxRecDepth 1000000 in
theorem xmr_L_law_17 : xallB (xrowB code (xpool xp_RL) 7 false 4 (fun u k => xus_RL.any fun q => Nat.beq q.1 u && Nat.beq q.2.1 k) []) xt_L_law_17 = true := by decide +kernel
set_option maxRecDepth 1000000 in
theorem xmr_L_law_18 : xallB (xrowB code (xpool xp_RL) 7 false 4 (fun u k => xus_RL.any fun q => Nat.beq q.1 u && Nat.beq q.2.1 k) []) xt_L_law_18 = true := by decide +kernel
set_option maxRecDepth 1000000 in
theorem xmr_L_law_19 : xallB (xrowB code (xpool xp_RL) 7 false 4 (fun u k => xus_RL.any fun q => Nat.beq q.1 u && Nat.beq q.2.1 k) []) xt_L_law_19 = true := by decide +kernel
set_option maxRecDepth 1000000 in
theorem xmr_L_law_20 : xallB (xrowB code (xpool xp_RL) 7 false 4 (fun u k => xus_RL.any fun q => Nat.beq q.1 u && Nat.beq q.2.1 k) []) xt_L_law_20 = true := by decide +kernel
set_option maxRecDepth 1000000 in
theorem xmr_L_law_21 : xallB (xrowB code (xpool xp_RL) 7 false 4 (fun u k => xus_RL.any fun q => Nat.beq q.1 u && Nat.beq q.2.1 k) []) xt_L_law_21 = true := by decide +kernel
set_option maxRecDepth 1000000 in
theorem xmr_L_law_22 : xallB (xrowB code (xpool xp_RL) 7 false 4 (fun u k => xus_RL.any fun q => Nat.beq q.1 u && Nat.beq q.2.1 k) []) xt_L_law_22 = true := by decide +kernel
set_option maxRecDepth 1000000 in
theorem xmr_L_law_23 : xallB (xrowB code (xpool xp_RL) 7 false 4 (fun u k => xus_RL.any fun q => Nat.beq q.1 u && Nat.beq q.2.1 k) []) xt_L_law_23 = true := by decide +kernel
set_option maxRecDepth 1000000 in
theorem xmr_L_law_24 : xallB (xrowB code (xpool xp_RL) 7 false 4 (fun u k => xus_RL.any fun q => Nat.beq q.1 u && Nat.beq q.2.1 k) []) xt_L_law_24 = true := by decide +kernel
set_option maxRecDepth 1000000 in
theorem xmr_L_law_25 : xallB (xrowB code (xpool xp_RL) 7 false 4 (fun u k => xus_RL.any fun q => Nat.beq q.1 u && Nat.beq q.2.1 k) []) xt_L_law_25 = true := by decide +kernel
set_option maxRecDepth 1000000 in
theorem xmr_L_law_26 : xallB (xrowB code (xpool xp_RL) 7 false 4 (fun u k => xus_RL.any fun q => Nat.beq q.1 u && Nat.beq q.2.1 k) []) xt_L_law_26 = true := by decide +kernel
set_option maxRecDepth 1000000 in
theorem xmr_L_law_27 : xallB (xrowB code (xpool xp_RL) 7 false 4 (fun u k => xus_RL.any fun q => Nat.beq q.1 u && Nat.beq q.2.1 k) []) xt_L_law_27 = true := by decide +kernel
set_option maxRecDepth 1000000 in
theorem xmr_L_law_28 : xallB (xrowB code (xpool xp_RL) 7 false 4 (fun u k => xus_RL.any fun q => Nat.beq q.1 u && Nat.beq q.2.1 k) []) xt_L_law_28 = true := by decide +kernel
set_option maxRecDepth 1000000 in
theorem xmr_L_law_29 : xallB (xrowB code (xpool xp_RL) 7 false 4 (fun u k => xus_RL.any fun q => Nat.beq q.1 u && Nat.beq q.2.1 k) []) xt_L_law_29 = true := by decide +kernel
set_option maxRecDepth 1000000 in
theorem xmr_L_law_30 : xallB (xrowB code (xpool xp_RL) 7 false 4 (fun u k => xus_RL.any fun q => Nat.beq q.1 u && Nat.beq q.2.1 k) []) xt_L_law_30 = true := by decide +kernel
set_option maxRecDepth 1000000 in
theorem xmr_L_law_31 : xallB (xrowB code (xpool xp_RL) 7 false 4 (fun u k => xus_RL.any fun q => Nat.beq q.1 u && Nat.beq q.2.1 k) []) xt_L_law_31 = true := by decide +kernel
theorem xmc_law : xallB (xrowB code (xpool xp_RL) 7 false 4 (fun u k => xus_RL.any fun q => Nat.beq q.1 u && Nat.beq q.2.1 k) []) xt_L_law = true := (xallB_br (xallB_br (xallB_br (xallB_br (xallB_br xmr_L_law_0 xmr_L_law_1) (xallB_br xmr_L_law_2 xmr_L_law_3)) (xallB_br (xallB_br xmr_L_law_4 xmr_L_law_5) (xallB_br xmr_L_law_6 xmr_L_law_7))) (xallB_br (xallB_br (xallB_br xmr_L_law_8 xmr_L_law_9) (xallB_br xmr_L_law_10 xmr_L_law_11)) (xallB_br (xallB_br xmr_L_law_12 xmr_L_law_13) (xallB_br xmr_L_law_14 xmr_L_law_15)))) (xallB_br (xallB_br (xallB_br (xallB_br xmr_L_law_16 xmr_L_law_17) (xallB_br xmr_L_law_18 xmr_L_law_19)) (xallB_br (xallB_br xmr_L_law_20 xmr_L_law_21) (xallB_br xmr_L_law_22 xmr_L_law_23))) (xallB_br (xallB_br (xallB_br xmr_L_law_24 xmr_L_law_25) (xallB_br xmr_L_law_26 xmr_L_law_27)) (xallB_br (xallB_br xmr_L_law_28 xmr_L_law_29) (xallB_br xmr_L_law_30 xmr_L_law_31)))))
