theorem xall2_br {α β : Type} {P : α → β → Prop} {p : Nat} {l r : Lean.RArray α} {l' r' : Lean.RArray β} (h1 : xall2 P l l') (h2 : xall2 P r r') : xall2 P (.branch p l r) (.branch p l' r') := ⟨rfl, h1, h2⟩
theorem xall2_lf {α β : Type} {P : α → β → Prop} {x : α} {y : β} (h : P x y) : xall2 P (.leaf x) (.leaf y) := h
theorem xtw_0 {S : State} {ad : Nat → Nat} (Z : xSf S ad xmt xL) (T : xTt S) : xall2 (xMc S ad xmt xpools) xmts_0 xms_0 := (xall2_br (xall2_br (xall2_br (xall2_lf (xmc_J0_charAt_5068e Z)) (xall2_lf (xmc_J0_checkIndex_df160 Z))) (xall2_br (xall2_lf (xmc_J0_coder_7d493 Z)) (xall2_lf (xmc_J0_isLatin1_aae02 Z)))) (xall2_br (xall2_br (xall2_lf (xmc_J0_length_8abf5 Z)) (xall2_lf (xmc_J1_charAt_3b067 Z))) (xall2_br (xall2_lf (xmc_J3_checkIndex_8e157 Z)) (xall2_br (xall2_lf (xmc_J9_abs_067f4 Z)) (xall2_lf (xmc_J9_max_7cf53 Z))))))
theorem xtw_1 {S : State} {ad : Nat → Nat} (Z : xSf S ad xmt xL) (T : xTt S) : xall2 (xMc S ad xmt xpools) xmts_1 xms_1 := (xall2_br (xall2_br (xall2_br (xall2_lf (xmc_J9_min_7cf53 Z)) (xall2_lf (xmc_L_angle Z))) (xall2_br (xall2_lf (xmc_L_back Z)) (xall2_lf (xmc_L_backup Z)))) (xall2_br (xall2_br (xall2_lf (xmc_L_bar Z)) (xall2_lf (xmc_L_barred Z))) (xall2_br (xall2_lf (xmc_L_begin Z)) (xall2_br (xall2_lf (xmc_L_carries Z)) (xall2_lf (xmc_L_cost Z))))))
theorem xtw_2 {S : State} {ad : Nat → Nat} (Z : xSf S ad xmt xL) (T : xTt S) : xall2 (xMc S ad xmt xpools) xmts_2 xms_2 := (xall2_br (xall2_br (xall2_br (xall2_lf (xmc_L_count Z)) (xall2_lf (xmc_L_current Z))) (xall2_br (xall2_lf (xmc_L_end Z)) (xall2_lf (xmc_L_estimate Z)))) (xall2_br (xall2_br (xall2_lf (xmc_L_fails Z)) (xall2_lf (xmc_L_feed Z))) (xall2_br (xall2_lf (xmc_L_figure Z)) (xall2_br (xall2_lf (xmc_L_figures Z)) (xall2_lf (xmc_L_get Z))))))
theorem xtw_3 {S : State} {ad : Nat → Nat} (Z : xSf S ad xmt xL) (T : xTt S) : xall2 (xMc S ad xmt xpools) xmts_3 xms_3 := (xall2_br (xall2_br (xall2_br (xall2_lf (xmc_L_gives Z)) (xall2_lf (xmc_L_into Z))) (xall2_br (xall2_lf (xmc_L_keep Z)) (xall2_lf (xmc_L_met Z)))) (xall2_br (xall2_br (xall2_lf (xmc_L_meter Z)) (xall2_lf (xmc_L_price Z))) (xall2_br (xall2_lf (xmc_L_relay Z)) (xall2_br (xall2_lf (xmc_L_rest Z)) (xall2_lf (xmc_L_restore Z))))))
theorem xtw_4 {S : State} {ad : Nat → Nat} (Z : xSf S ad xmt xL) (T : xTt S) : xall2 (xMc S ad xmt xpools) xmts_4 xms_4 := (xall2_br (xall2_br (xall2_br (xall2_lf (xmc_L_row Z)) (xall2_lf (xmc_L_run Z))) (xall2_br (xall2_lf (xmc_L_seen Z)) (xall2_lf (xmc_L_set Z)))) (xall2_br (xall2_br (xall2_lf (xmc_L_sets Z)) (xall2_lf (xmc_L_shortAt Z))) (xall2_br (xall2_lf (xmc_L_shortOn Z)) (xall2_br (xall2_lf (xmc_L_strike Z)) (xall2_lf (xmc_L_trouble Z))))))
theorem xtw_5 {S : State} {ad : Nat → Nat} (Z : xSf S ad xmt xL) (T : xTt S) : xall2 (xMc S ad xmt xpools) xmts_5 xms_5 := (xall2_br (xall2_br (xall2_br (xall2_lf (xmc_L_voltage Z)) (xall2_lf (xmc_X0_compareSize Z))) (xall2_br (xall2_lf (xmc_X0_copy Z)) (xall2_lf (xmc_X0_divide Z)))) (xall2_br (xall2_br (xall2_lf (xmc_X0_init Z)) (xall2_lf (xmc_X0_isSmall Z))) (xall2_br (xall2_lf (xmc_X0_left Z)) (xall2_br (xall2_lf (xmc_X0_many Z)) (xall2_lf (xmc_X0_moreTimes Z))))))
theorem xtw_6 {S : State} {ad : Nat → Nat} (Z : xSf S ad xmt xL) (T : xTt S) : xall2 (xMc S ad xmt xpools) xmts_6 xms_6 := (xall2_br (xall2_br (xall2_br (xall2_lf (xmc_X0_product Z)) (xall2_lf (xmc_X0_put Z))) (xall2_br (xall2_lf (xmc_X0_scale Z)) (xall2_lf (xmc_X0_shorten Z)))) (xall2_br (xall2_br (xall2_lf (xmc_X0_sign Z)) (xall2_lf (xmc_X0_small Z))) (xall2_br (xall2_lf (xmc_X0_trim Z)) (xall2_br (xall2_lf (xmc_X0_unsign Z)) (xall2_lf (xmc_X0_wrap Z))))))
theorem xtw_7 {S : State} {ad : Nat → Nat} (Z : xSf S ad xmt xL) (T : xTt S) : xall2 (xMc S ad xmt xpools) xmts_7 xms_7 := (xall2_br (xall2_br (xall2_br (xall2_lf (xmc_X1_at Z)) (xall2_lf (xmc_X1_cut Z))) (xall2_br (xall2_lf (xmc_X1_fillParts Z)) (xall2_lf (xmc_X1_foldLines Z)))) (xall2_br (xall2_br (xall2_lf (xmc_X1_init Z)) (xall2_lf (xmc_X1_injectStart Z))) (xall2_br (xall2_lf (xmc_X1_leaving Z)) (xall2_br (xall2_lf (xmc_X1_measureLines Z)) (xall2_lf (xmc_X1_setOut Z))))))
theorem xtw_8 {S : State} {ad : Nat → Nat} (Z : xSf S ad xmt xL) (T : xTt S) : xall2 (xMc S ad xmt xpools) xmts_8 xms_8 := (xall2_br (xall2_br (xall2_br (xall2_lf (xmc_X1_share Z)) (xall2_lf (xmc_X1_solve Z))) (xall2_br (xall2_lf (xmc_X1_tellCost Z)) (xall2_lf (xmc_X1_tellMachine Z)))) (xall2_br (xall2_br (xall2_lf (xmc_X1_trial Z)) (xall2_lf (xmc_X2_addLoads Z))) (xall2_br (xall2_lf (xmc_X2_addMachines Z)) (xall2_br (xall2_lf (xmc_X2_countOver Z)) (xall2_lf (xmc_X2_init Z))))))
theorem xtw_9 {S : State} {ad : Nat → Nat} (Z : xSf S ad xmt xL) (T : xTt S) : xall2 (xMc S ad xmt xpools) xmts_9 xms_9 := (xall2_br (xall2_br (xall2_br (xall2_lf (xmc_X2_inject Z)) (xall2_lf (xmc_X2_look Z))) (xall2_br (xall2_lf (xmc_X2_solve Z)) (xall2_lf (xmc_X2_tryLines Z)))) (xall2_br (xall2_br (xall2_lf (xmc_X3_bringLow Z)) (xall2_lf (xmc_X3_common Z))) (xall2_br (xall2_lf (xmc_X3_digit Z)) (xall2_br (xall2_lf (xmc_X3_divide Z)) (xall2_lf (xmc_X3_init Z))))))
theorem xtw_10 {S : State} {ad : Nat → Nat} (Z : xSf S ad xmt xL) (T : xTt S) : xall2 (xMc S ad xmt xpools) xmts_10 xms_10 := (xall2_br (xall2_br (xall2_br (xall2_lf (xmc_X3_length Z)) (xall2_lf (xmc_X3_made Z))) (xall2_br (xall2_lf (xmc_X3_putCommon Z)) (xall2_lf (xmc_X3_write Z)))) (xall2_br (xall2_br (xall2_lf (xmc_X4_clear Z)) (xall2_lf (xmc_X4_clearTops Z))) (xall2_br (xall2_lf (xmc_X4_fill Z)) (xall2_br (xall2_lf (xmc_X4_foldMeters Z)) (xall2_lf (xmc_X4_greatest Z))))))
theorem xtw_11 {S : State} {ad : Nat → Nat} (Z : xSf S ad xmt xL) (T : xTt S) : xall2 (xMc S ad xmt xpools) xmts_11 xms_11 := (xall2_br (xall2_br (xall2_br (xall2_lf (xmc_X4_heaviest Z)) (xall2_lf (xmc_X4_init Z))) (xall2_br (xall2_lf (xmc_X4_markSeen Z)) (xall2_lf (xmc_X4_markWhole Z)))) (xall2_br (xall2_br (xall2_lf (xmc_X4_solve Z)) (xall2_lf (xmc_X4_weigh Z))) (xall2_br (xall2_lf (xmc_X5_copy Z)) (xall2_br (xall2_lf (xmc_X5_copyValues Z)) (xall2_lf (xmc_X5_has Z))))))
theorem xtw_12 {S : State} {ad : Nat → Nat} (Z : xSf S ad xmt xL) (T : xTt S) : xall2 (xMc S ad xmt xpools) xmts_12 xms_12 := (xall2_br (xall2_br (xall2_br (xall2_lf (xmc_X5_hasShort Z)) (xall2_lf (xmc_X5_init Z))) (xall2_br (xall2_lf (xmc_X5_named Z)) (xall2_lf (xmc_X5_putShort Z)))) (xall2_br (xall2_br (xall2_lf (xmc_X5_read Z)) (xall2_lf (xmc_X6_clear Z))) (xall2_br (xall2_lf (xmc_X6_init Z)) (xall2_br (xall2_lf (xmc_X6_openedAs Z)) (xall2_lf (xmc_X7_bringBack Z))))))
theorem xtw_13 {S : State} {ad : Nat → Nat} (Z : xSf S ad xmt xL) (T : xTt S) : xall2 (xMc S ad xmt xpools) xmts_13 xms_13 := (xall2_br (xall2_br (xall2_br (xall2_lf (xmc_X7_clear Z)) (xall2_lf (xmc_X7_follow Z))) (xall2_br (xall2_lf (xmc_X7_init Z)) (xall2_lf (xmc_X7_readOrder Z)))) (xall2_br (xall2_br (xall2_lf (xmc_X7_readRules Z)) (xall2_lf (xmc_X7_setOut Z))) (xall2_br (xall2_lf (xmc_X8_bits Z)) (xall2_br (xall2_lf (xmc_X8_bitsOf Z)) (xall2_lf (xmc_X8_init Z))))))
theorem xtw_14 {S : State} {ad : Nat → Nat} (Z : xSf S ad xmt xL) (T : xTt S) : xall2 (xMc S ad xmt xpools) xmts_14 xms_14 := (xall2_br (xall2_br (xall2_br (xall2_lf (xmc_X8_lay Z)) (xall2_lf (xmc_X8_look Z))) (xall2_br (xall2_lf (xmc_X8_number Z)) (xall2_lf (xmc_X8_tally Z)))) (xall2_br (xall2_br (xall2_lf (xmc_X9_init Z)) (xall2_lf (xmc_X9_solve Z))) (xall2_br (xall2_lf (xmc_X9_tellInto Z)) (xall2_br (xall2_lf (xmc_X10_blank Z)) (xall2_lf (xmc_X10_close Z))))))
theorem xtw_15 {S : State} {ad : Nat → Nat} (Z : xSf S ad xmt xL) (T : xTt S) : xall2 (xMc S ad xmt xpools) xmts_15 xms_15 := (xall2_br (xall2_br (xall2_br (xall2_lf (xmc_X10_fold Z)) (xall2_lf (xmc_X10_init Z))) (xall2_br (xall2_lf (xmc_X10_inverse Z)) (xall2_br (xall2_lf (xmc_X10_more Z)) (xall2_lf (xmc_X10_reduce Z))))) (xall2_br (xall2_br (xall2_lf (xmc_X10_settle Z)) (xall2_lf (xmc_X10_start Z))) (xall2_br (xall2_lf (xmc_X10_start_ Z)) (xall2_br (xall2_lf (xmc_X10_take Z)) (xall2_lf (xmc_X10_times Z))))))
theorem xtw_16 {S : State} {ad : Nat → Nat} (Z : xSf S ad xmt xL) (T : xTt S) : xall2 (xMc S ad xmt xpools) xmts_16 xms_16 := (xall2_br (xall2_br (xall2_br (xall2_lf (xmc_X11_init Z)) (xall2_lf (xmc_X11_learn Z))) (xall2_br (xall2_lf (xmc_X11_next Z)) (xall2_lf (xmc_X11_rewind Z)))) (xall2_br (xall2_br (xall2_lf (xmc_X11_whole Z)) (xall2_lf (xmc_X11_write Z))) (xall2_br (xall2_lf (xmc_X12_angle Z)) (xall2_br (xall2_lf (xmc_X12_back Z T)) (xall2_lf (xmc_X12_backup Z))))))
theorem xtw_17 {S : State} {ad : Nat → Nat} (Z : xSf S ad xmt xL) (T : xTt S) : xall2 (xMc S ad xmt xpools) xmts_17 xms_17 := (xall2_br (xall2_br (xall2_br (xall2_lf (xmc_X12_bar Z)) (xall2_lf (xmc_X12_barred Z))) (xall2_br (xall2_lf (xmc_X12_begin Z T)) (xall2_lf (xmc_X12_carries Z)))) (xall2_br (xall2_br (xall2_lf (xmc_X12_carry Z)) (xall2_lf (xmc_X12_changed Z))) (xall2_br (xall2_lf (xmc_X12_clearShort Z)) (xall2_br (xall2_lf (xmc_X12_cost Z)) (xall2_lf (xmc_X12_count Z T))))))
theorem xtw_18 {S : State} {ad : Nat → Nat} (Z : xSf S ad xmt xL) (T : xTt S) : xall2 (xMc S ad xmt xpools) xmts_18 xms_18 := (xall2_br (xall2_br (xall2_br (xall2_lf (xmc_X12_countFound Z)) (xall2_lf (xmc_X12_countTold Z))) (xall2_br (xall2_lf (xmc_X12_current Z)) (xall2_lf (xmc_X12_dispatch Z)))) (xall2_br (xall2_br (xall2_lf (xmc_X12_end Z T)) (xall2_lf (xmc_X12_estimate Z))) (xall2_br (xall2_lf (xmc_X12_estimated Z)) (xall2_br (xall2_lf (xmc_X12_fails Z)) (xall2_lf (xmc_X12_feed Z))))))
theorem xtw_19 {S : State} {ad : Nat → Nat} (Z : xSf S ad xmt xL) (T : xTt S) : xall2 (xMc S ad xmt xpools) xmts_19 xms_19 := (xall2_br (xall2_br (xall2_br (xall2_lf (xmc_X12_figure Z)) (xall2_lf (xmc_X12_figures Z))) (xall2_br (xall2_lf (xmc_X12_find Z)) (xall2_lf (xmc_X12_get Z T)))) (xall2_br (xall2_br (xall2_lf (xmc_X12_gives Z)) (xall2_lf (xmc_X12_init Z))) (xall2_br (xall2_lf (xmc_X12_into Z)) (xall2_br (xall2_lf (xmc_X12_keep Z T)) (xall2_lf (xmc_X12_met Z T))))))
theorem xtw_20 {S : State} {ad : Nat → Nat} (Z : xSf S ad xmt xL) (T : xTt S) : xall2 (xMc S ad xmt xpools) xmts_20 xms_20 := (xall2_br (xall2_br (xall2_br (xall2_lf (xmc_X12_meter Z T)) (xall2_lf (xmc_X12_name Z))) (xall2_br (xall2_lf (xmc_X12_net Z)) (xall2_lf (xmc_X12_now Z)))) (xall2_br (xall2_br (xall2_lf (xmc_X12_opened Z)) (xall2_lf (xmc_X12_order Z))) (xall2_br (xall2_lf (xmc_X12_ordered Z)) (xall2_br (xall2_lf (xmc_X12_price Z)) (xall2_lf (xmc_X12_relay Z))))))
theorem xtw_21 {S : State} {ad : Nat → Nat} (Z : xSf S ad xmt xL) (T : xTt S) : xall2 (xMc S ad xmt xpools) xmts_21 xms_21 := (xall2_br (xall2_br (xall2_br (xall2_lf (xmc_X12_rest Z)) (xall2_lf (xmc_X12_restore Z))) (xall2_br (xall2_lf (xmc_X12_row Z T)) (xall2_lf (xmc_X12_rules Z)))) (xall2_br (xall2_br (xall2_lf (xmc_X12_run Z T)) (xall2_lf (xmc_X12_screen Z))) (xall2_br (xall2_lf (xmc_X12_seen Z)) (xall2_br (xall2_lf (xmc_X12_set Z T)) (xall2_lf (xmc_X12_sets Z))))))
theorem xtw_22 {S : State} {ad : Nat → Nat} (Z : xSf S ad xmt xL) (T : xTt S) : xall2 (xMc S ad xmt xpools) xmts_22 xms_22 := (xall2_br (xall2_br (xall2_br (xall2_lf (xmc_X12_shortAt Z)) (xall2_lf (xmc_X12_shortOn Z))) (xall2_br (xall2_lf (xmc_X12_shorted Z)) (xall2_lf (xmc_X12_step Z)))) (xall2_br (xall2_br (xall2_lf (xmc_X12_strike Z)) (xall2_lf (xmc_X12_testBar Z T))) (xall2_br (xall2_lf (xmc_X12_testDispatch Z)) (xall2_br (xall2_lf (xmc_X12_testLine Z T)) (xall2_lf (xmc_X12_testMachine Z T))))))
theorem xtw_23 {S : State} {ad : Nat → Nat} (Z : xSf S ad xmt xL) (T : xTt S) : xall2 (xMc S ad xmt xpools) xmts_23 xms_23 := (xall2_br (xall2_br (xall2_br (xall2_lf (xmc_X12_testMeter Z T)) (xall2_lf (xmc_X12_testSwitch Z T))) (xall2_br (xall2_lf (xmc_X12_testWithin Z T)) (xall2_lf (xmc_X12_trouble Z T)))) (xall2_br (xall2_br (xall2_lf (xmc_X12_voltage Z)) (xall2_lf (xmc_X12_worst Z))) (xall2_br (xall2_lf (xmc_X13_angle Z)) (xall2_br (xall2_lf (xmc_X13_asItIs Z)) (xall2_lf (xmc_X13_back Z))))))
theorem xtw_24 {S : State} {ad : Nat → Nat} (Z : xSf S ad xmt xL) (T : xTt S) : xall2 (xMc S ad xmt xpools) xmts_24 xms_24 := (xall2_br (xall2_br (xall2_br (xall2_lf (xmc_X13_backup Z)) (xall2_lf (xmc_X13_bar Z))) (xall2_br (xall2_lf (xmc_X13_barred Z)) (xall2_lf (xmc_X13_begin Z)))) (xall2_br (xall2_br (xall2_lf (xmc_X13_carries Z)) (xall2_lf (xmc_X13_carry Z))) (xall2_br (xall2_lf (xmc_X13_changed Z)) (xall2_br (xall2_lf (xmc_X13_clearShort Z)) (xall2_lf (xmc_X13_comeBack Z))))))
theorem xtw_25 {S : State} {ad : Nat → Nat} (Z : xSf S ad xmt xL) (T : xTt S) : xall2 (xMc S ad xmt xpools) xmts_25 xms_25 := (xall2_br (xall2_br (xall2_br (xall2_lf (xmc_X13_copy Z)) (xall2_lf (xmc_X13_cost Z))) (xall2_br (xall2_lf (xmc_X13_count Z)) (xall2_lf (xmc_X13_current Z)))) (xall2_br (xall2_br (xall2_lf (xmc_X13_dispatch Z)) (xall2_lf (xmc_X13_dispatchNet Z))) (xall2_br (xall2_lf (xmc_X13_end Z)) (xall2_br (xall2_lf (xmc_X13_estimate Z)) (xall2_lf (xmc_X13_estimates Z))))))
theorem xtw_26 {S : State} {ad : Nat → Nat} (Z : xSf S ad xmt xL) (T : xTt S) : xall2 (xMc S ad xmt xpools) xmts_26 xms_26 := (xall2_br (xall2_br (xall2_br (xall2_lf (xmc_X13_fails Z)) (xall2_lf (xmc_X13_feed Z))) (xall2_br (xall2_lf (xmc_X13_figure Z)) (xall2_lf (xmc_X13_figures Z)))) (xall2_br (xall2_br (xall2_lf (xmc_X13_find Z)) (xall2_lf (xmc_X13_findWords Z))) (xall2_br (xall2_lf (xmc_X13_flows Z)) (xall2_br (xall2_lf (xmc_X13_get Z)) (xall2_lf (xmc_X13_gives Z))))))
theorem xtw_27 {S : State} {ad : Nat → Nat} (Z : xSf S ad xmt xL) (T : xTt S) : xall2 (xMc S ad xmt xpools) xmts_27 xms_27 := (xall2_br (xall2_br (xall2_br (xall2_lf (xmc_X13_goOn Z)) (xall2_lf (xmc_X13_goThrough Z))) (xall2_br (xall2_lf (xmc_X13_in Z)) (xall2_lf (xmc_X13_init Z)))) (xall2_br (xall2_br (xall2_lf (xmc_X13_into Z)) (xall2_lf (xmc_X13_isObject Z))) (xall2_br (xall2_lf (xmc_X13_keep Z)) (xall2_br (xall2_lf (xmc_X13_lowest Z)) (xall2_lf (xmc_X13_make Z))))))
theorem xtw_28 {S : State} {ad : Nat → Nat} (Z : xSf S ad xmt xL) (T : xTt S) : xall2 (xMc S ad xmt xpools) xmts_28 xms_28 := (xall2_br (xall2_br (xall2_br (xall2_lf (xmc_X13_makeWhole Z)) (xall2_lf (xmc_X13_met Z))) (xall2_br (xall2_lf (xmc_X13_meter Z)) (xall2_lf (xmc_X13_name Z)))) (xall2_br (xall2_br (xall2_lf (xmc_X13_net Z)) (xall2_lf (xmc_X13_netFlows Z))) (xall2_br (xall2_lf (xmc_X13_netShort Z)) (xall2_br (xall2_lf (xmc_X13_netTopology Z)) (xall2_lf (xmc_X13_opened Z))))))
theorem xtw_29 {S : State} {ad : Nat → Nat} (Z : xSf S ad xmt xL) (T : xTt S) : xall2 (xMc S ad xmt xpools) xmts_29 xms_29 := (xall2_br (xall2_br (xall2_br (xall2_lf (xmc_X13_order Z)) (xall2_lf (xmc_X13_ordered Z))) (xall2_br (xall2_lf (xmc_X13_price Z)) (xall2_lf (xmc_X13_put Z)))) (xall2_br (xall2_br (xall2_lf (xmc_X13_readNet Z)) (xall2_lf (xmc_X13_relay Z))) (xall2_br (xall2_lf (xmc_X13_remember Z)) (xall2_br (xall2_lf (xmc_X13_rest Z)) (xall2_lf (xmc_X13_restore Z))))))
theorem xtw_30 {S : State} {ad : Nat → Nat} (Z : xSf S ad xmt xL) (T : xTt S) : xall2 (xMc S ad xmt xpools) xmts_30 xms_30 := (xall2_br (xall2_br (xall2_br (xall2_lf (xmc_X13_row Z)) (xall2_lf (xmc_X13_rules Z))) (xall2_br (xall2_lf (xmc_X13_run Z)) (xall2_lf (xmc_X13_screen Z)))) (xall2_br (xall2_br (xall2_lf (xmc_X13_screenAll Z)) (xall2_lf (xmc_X13_seen Z))) (xall2_br (xall2_lf (xmc_X13_set Z)) (xall2_br (xall2_lf (xmc_X13_sets Z)) (xall2_lf (xmc_X13_shortAt Z))))))
theorem xtw_31 {S : State} {ad : Nat → Nat} (Z : xSf S ad xmt xL) (T : xTt S) : xall2 (xMc S ad xmt xpools) xmts_31 xms_31 := (xall2_br (xall2_br (xall2_br (xall2_lf (xmc_X13_shortOn Z)) (xall2_lf (xmc_X13_shorts Z))) (xall2_br (xall2_lf (xmc_X13_step Z)) (xall2_br (xall2_lf (xmc_X13_strike Z)) (xall2_lf (xmc_X13_thrown Z))))) (xall2_br (xall2_br (xall2_lf (xmc_X13_topology Z)) (xall2_lf (xmc_X13_trouble Z))) (xall2_br (xall2_lf (xmc_X13_voltage Z)) (xall2_br (xall2_lf (xmc_X13_wellBy Z)) (xall2_lf (xmc_X13_worst Z))))))
theorem xtw_all {S : State} {ad : Nat → Nat} (Z : xSf S ad xmt xL) (T : xTt S) : xall2 (xMc S ad xmt xpools) xmts xms := (xall2_br (xall2_br (xall2_br (xall2_br (xall2_br (xtw_0 Z T) (xtw_1 Z T)) (xall2_br (xtw_2 Z T) (xtw_3 Z T))) (xall2_br (xall2_br (xtw_4 Z T) (xtw_5 Z T)) (xall2_br (xtw_6 Z T) (xtw_7 Z T)))) (xall2_br (xall2_br (xall2_br (xtw_8 Z T) (xtw_9 Z T)) (xall2_br (xtw_10 Z T) (xtw_11 Z T))) (xall2_br (xall2_br (xtw_12 Z T) (xtw_13 Z T)) (xall2_br (xtw_14 Z T) (xtw_15 Z T))))) (xall2_br (xall2_br (xall2_br (xall2_br (xtw_16 Z T) (xtw_17 Z T)) (xall2_br (xtw_18 Z T) (xtw_19 Z T))) (xall2_br (xall2_br (xtw_20 Z T) (xtw_21 Z T)) (xall2_br (xtw_22 Z T) (xtw_23 Z T)))) (xall2_br (xall2_br (xall2_br (xtw_24 Z T) (xtw_25 Z T)) (xall2_br (xtw_26 Z T) (xtw_27 Z T))) (xall2_br (xall2_br (xtw_28 Z T) (xtw_29 Z T)) (xall2_br (xtw_30 Z T) (xtw_31 Z T))))))
/-! ===== the law ===== -/
section Law
theorem xcov_ok {ad : Nat → Nat} : ∀ {l : List xA} {lo : Nat}, xcovB l lo = true → ∀ x : Int32, lo ≤ xb x → ∃ a ∈ l, xR ad a (.int x) := by
  intro l
  induction l with
  | nil =>
    intro lo h x hx
    have h1 := Nat.le_of_ble_eq_true (show Nat.ble (4294967295 + 1) lo = true from h)
    have := xb_le x
    omega
  | cons a t ih =>
    intro lo h x hx
    rcases a with n | n | n | q | q | b | k
    · obtain ⟨h1, h2⟩ := and_true' (show (Nat.ble (xm32 (Nat.add n 2147483648)) lo && xcovB t (Nat.add (xm32 (Nat.add n 2147483648)) 1)) = true from h)
      clear h
      have h1 := Nat.le_of_ble_eq_true h1
      have e := xb_of n
      have h2' : ∀ z, z = xm32 (Nat.add n 2147483648) → xcovB t (z + 1) = true := fun z hz => by rw [hz]; exact h2
      clear h2
      generalize xm32 (Nat.add n 2147483648) = z at h1 e h2'
      have h2 := h2' z rfl
      by_cases hq : xb x ≤ z
      · refine ⟨.inl n, List.mem_cons_self, ?_⟩
        show Value.int x = .int (Int32.ofNat n)
        rw [xb_inj (x := x) (y := Int32.ofNat n) (by rw [e]; omega)]
      · obtain ⟨b, hb, hr⟩ := ih h2 x (by omega)
        exact ⟨b, List.mem_cons_of_mem _ hb, hr⟩
    · cases h
    · cases h
    · obtain ⟨h1, h2⟩ := and_true' (show (Nat.ble q.1 lo && xcovB t (Nat.add q.2 1)) = true from h)
      have h1 := Nat.le_of_ble_eq_true h1
      by_cases hq : xb x ≤ q.2
      · exact ⟨_, List.mem_cons_self, ⟨x, rfl, by omega, hq⟩⟩
      · obtain ⟨b, hb, hr⟩ := ih h2 x (by show q.2 + 1 ≤ xb x; omega)
        exact ⟨b, List.mem_cons_of_mem _ hb, hr⟩
    · cases h
    · cases h
    · cases h
theorem xAllK_ok {f : List xA → Bool} {ad : Nat → Nat} : ∀ (Bs : List (List xA)) (acc : List xA), xAllK f Bs acc = true → (Bs.all fun B => xcovB B 0) = true → ∀ xs : List Int32, xs.length = Bs.length → ∃ as, xs2 ad as (xs.map Value.int) ∧ f (acc ++ as) = true := by
  intro Bs
  induction Bs with
  | nil =>
    intro acc h _ xs hx
    cases xs with
    | nil => exact ⟨[], trivial, by rw [List.append_nil]; exact h⟩
    | cons => cases hx
  | cons B Bs ih =>
    intro acc h hc xs hx
    cases xs with
    | nil => cases hx
    | cons x xs =>
      rw [List.all_cons] at hc
      obtain ⟨hc1, hc2⟩ := and_true' hc
      obtain ⟨a, ha, hr⟩ := xcov_ok (ad := ad) hc1 x (Nat.zero_le _)
      have h1 : xAllK f Bs (acc ++ [a]) = true := List.all_eq_true.mp (show (B.all fun a => xAllK f Bs (acc ++ [a])) = true from h) a ha
      obtain ⟨as, h2, h3⟩ := ih (acc ++ [a]) h1 hc2 xs (Nat.succ.inj hx)
      refine ⟨a :: as, ⟨hr, h2⟩, ?_⟩
      rw [List.append_assoc] at h3
      exact h3
theorem x63 (x : Int32) : ∃ k, k < 64 ∧ x &&& 63 = Int32.ofNat k := by
  refine ⟨(x &&& 63).toUInt32.toNat, ?_, (xi32 _).symm⟩
  have e : (x &&& 63).toUInt32.toNat = x.toUInt32.toNat &&& 63 := by
    rw [Int32.toUInt32_and, UInt32.toNat_and]
    rfl
  rw [e]
  exact Nat.lt_of_le_of_lt Nat.and_le_right (by decide)
/-- every call's numbers have been looked at -/
theorem xk_all : ∀ k, k < 64 → ∃ Bs, xcaseB k Bs = true ∧ xAllK xgo Bs [.inr (.inr (.inr (.inr (.inr (.inr k)))))] = true := fun k h => match k, h with
  | 0, _ => ⟨xB_0, xcs_0, xk_0⟩
  | 1, _ => ⟨xB_1, xcs_1, xk_1⟩
  | 2, _ => ⟨xB_2, xcs_2, xk_2⟩
  | 3, _ => ⟨xB_3, xcs_3, xk_3⟩
  | 4, _ => ⟨xB_4, xcs_4, xk_4⟩
  | 5, _ => ⟨xB_5, xcs_5, xk_5⟩
  | 6, _ => ⟨xB_6, xcs_6, xk_6⟩
  | 7, _ => ⟨xB_7, xcs_7, xk_7⟩
  | 8, _ => ⟨xB_8, xcs_8, xk_8⟩
  | 9, _ => ⟨xB_9, xcs_9, xk_9⟩
  | 10, _ => ⟨xB_10, xcs_10, xk_10⟩
  | 11, _ => ⟨xB_11, xcs_11, xk_11⟩
  | 12, _ => ⟨xB_12, xcs_12, xk_12⟩
  | 13, _ => ⟨xB_13, xcs_13, xk_13⟩
  | 14, _ => ⟨xB_14, xcs_14, xk_14⟩
  | 15, _ => ⟨xB_15, xcs_15, xk_15⟩
  | 16, _ => ⟨xB_16, xcs_16, xk_16⟩
  | 17, _ => ⟨xB_17, xcs_17, xk_17⟩
  | 18, _ => ⟨xB_18, xcs_18, xk_18⟩
  | 19, _ => ⟨xB_19, xcs_19, xk_19⟩
  | 20, _ => ⟨xB_20, xcs_20, xk_20⟩
  | 21, _ => ⟨xB_21, xcs_21, xk_21⟩
  | 22, _ => ⟨xB_22, xcs_22, xk_22⟩
  | 23, _ => ⟨xB_23, xcs_23, xk_23⟩
  | 24, _ => ⟨xB_24, xcs_24, xk_24⟩
  | 25, _ => ⟨xB_25, xcs_25, xk_25⟩
  | 26, _ => ⟨xB_26, xcs_26, xk_26⟩
  | 27, _ => ⟨xB_27, xcs_27, xk_27⟩
  | 28, _ => ⟨xB_28, xcs_28, xk_28⟩
  | 29, _ => ⟨xB_29, xcs_29, xk_29⟩
  | 30, _ => ⟨xB_30, xcs_30, xk_30⟩
  | 31, _ => ⟨xB_31, xcs_31, xk_31⟩
  | 32, _ => ⟨xB_32, xcs_32, xk_32⟩
  | 33, _ => ⟨xB_33, xcs_33, xk_33⟩
  | 34, _ => ⟨xB_34, xcs_34, xk_34⟩
  | 35, _ => ⟨xB_35, xcs_35, xk_35⟩
  | 36, _ => ⟨xB_36, xcs_36, xk_36⟩
  | 37, _ => ⟨xB_37, xcs_37, xk_37⟩
  | 38, _ => ⟨xB_38, xcs_38, xk_38⟩
  | 39, _ => ⟨xB_39, xcs_39, xk_39⟩
  | 40, _ => ⟨xB_40, xcs_40, xk_40⟩
  | 41, _ => ⟨xB_41, xcs_41, xk_41⟩
  | 42, _ => ⟨xB_42, xcs_42, xk_42⟩
  | 43, _ => ⟨xB_43, xcs_43, xk_43⟩
  | 44, _ => ⟨xB_44, xcs_44, xk_44⟩
  | 45, _ => ⟨xB_45, xcs_45, xk_45⟩
  | 46, _ => ⟨xB_46, xcs_46, xk_46⟩
  | 47, _ => ⟨xB_47, xcs_47, xk_47⟩
  | 48, _ => ⟨xB_48, xcs_48, xk_48⟩
  | 49, _ => ⟨xB_49, xcs_49, xk_49⟩
  | 50, _ => ⟨xB_50, xcs_50, xk_50⟩
  | 51, _ => ⟨xB_51, xcs_51, xk_51⟩
  | 52, _ => ⟨xB_52, xcs_52, xk_52⟩
  | 53, _ => ⟨xB_53, xcs_53, xk_53⟩
  | 54, _ => ⟨xB_54, xcs_54, xk_54⟩
  | 55, _ => ⟨xB_55, xcs_55, xk_55⟩
  | 56, _ => ⟨xB_56, xcs_56, xk_56⟩
  | 57, _ => ⟨xB_57, xcs_57, xk_57⟩
  | 58, _ => ⟨xB_58, xcs_58, xk_58⟩
  | 59, _ => ⟨xB_59, xcs_59, xk_59⟩
  | 60, _ => ⟨xB_60, xcs_60, xk_60⟩
  | 61, _ => ⟨xB_61, xcs_61, xk_61⟩
  | 62, _ => ⟨xB_62, xcs_62, xk_62⟩
  | 63, _ => ⟨xB_63, xcs_63, xk_63⟩
  | n + 64, h => absurd h (by omega)
theorem xs2_get {ad : Nat → Nat} : ∀ {as : List xA} {vs : List Value} {j : Nat} {v : Value}, xs2 ad as vs → vs[j]? = some v → ∃ a, as[j]? = some a ∧ xR ad a v := by
  intro as
  induction as with
  | nil => intro vs j v h hv; rw [xs2_nil h] at hv; cases hv
  | cons a as ih =>
    intro vs j v h hv
    obtain ⟨b, bs, rfl, h1, h2⟩ := xs2_cons h
    cases j with
    | zero => cases hv; exact ⟨a, rfl, h1⟩
    | succ j => exact ih h2 hv
variable {S : State} {o : Nat} {old : Nat → Nat} {D : va_G}
theorem xhr.script {sc : xC} {hp : xH} {H : Heap} (h : xhr o old D S hp H) (ho : 0 < o) (hb : old 0 < S.heap.size) (hc : xcr o (xad o S.heap.size old) D S 0 sc S.heap) : xhr o old D S (xput hp 0 sc) H := by
  obtain ⟨h1, h2, h3, h4, h5, h6, h7, h8⟩ := h
  refine ⟨fun k => ?_, xset_wf _ _ _ _ _ h2, fun k hk => ?_, h4, h5, h6, h7, h8⟩
  · rw [xcell_put h2 (by omega)]
    by_cases e : k = 0
    · rw [if_pos e, e]
      refine hc.kept ?_
      have e0 : xad o S.heap.size old 0 = old 0 := if_pos ho
      rw [e0]
      exact h8 _ hb
    · rw [if_neg e]
      exact h1 k
  · have hk' : hp.2.1 ≤ k := hk
    rw [xcell_put h2 (by omega), if_neg (by omega)]
    exact h3 k hk'
/-- the script's cell -/
theorem xcr_script {b L : Nat} {xs : Nat → Int32} {l : List xA} {vs : List Value} (hX : va_X b L xs S S.heap) (ho : 0 < o) (hb : old 0 = b) (hL : L ≤ 32) (hl : l.length = L) (h2 : xs2 (xad o S.heap.size old) l vs) (hv : ∀ j, j < L → vs[j]? = some (.int (xs j))) : xcr o (xad o S.heap.size old) D S 0 (some (.inr (.inl (0, (L, (5, xmk 5 l 0 (.leaf (.inl 0)))))))) S.heap := by
  obtain ⟨scr, g1, g2, g3, g4, g5⟩ := hX
  have e0 : xad o S.heap.size old 0 = b := (if_pos ho).trans hb
  obtain ⟨w1, w2, -⟩ := xmk_spec 5 l 0 (.leaf (.inl 0)) (xwf_leaf _ _ _) (by rw [hl]; omega)
  refine ⟨scr, by rw [e0]; exact g1, g2, g3, fun h => absurd h (by omega), by show L ≤ _; omega, by show _ = Int32.ofNat L; rw [g4], w1, by show L ≤ 2 ^ 5; omega, fun j hj => ⟨_, g5 j hj, ?_⟩⟩
  obtain ⟨a, ha, hr⟩ := xs2_get h2 (hv j hj)
  have := w2 j a ha
  rw [Nat.zero_add] at this
  show xR _ (xget (xmk 5 l 0 (.leaf (.inl 0))) j) _
  rw [this]
  exact hr
theorem xcr_short {b L : Nat} {xs : Nat → Int32} (hX : va_X b L xs S S.heap) (ho : 0 < o) (hb : old 0 = b) (hL : L ≤ 32) : xcr o (xad o S.heap.size old) D S 0 (some (.inr (.inl (0, (L, (5, .leaf xTop)))))) S.heap := by
  obtain ⟨scr, g1, g2, g3, g4, g5⟩ := hX
  have e0 : xad o S.heap.size old 0 = b := (if_pos ho).trans hb
  exact ⟨scr, by rw [e0]; exact g1, g2, g3, fun h => absurd h (by omega), by show L ≤ _; omega, by show _ = Int32.ofNat L; rw [g4], xwf_leaf _ _ _, by show L ≤ 2 ^ 5; omega, fun j hj => ⟨_, g5 j hj, xR_top _ _⟩⟩
/-- a script's cell for which the run ends with 1 -/
theorem xscript_ex {b L : Nat} {xs : Nat → Int32} (hL : L ≤ 6) (hX : va_X b L xs S S.heap) (ho : 0 < o) (hb : old 0 = b) : ∃ sc, xgoC sc = true ∧ xcr o (xad o S.heap.size old) D S 0 sc S.heap := by
  rcases Nat.lt_or_ge L 6 with h | h
  · refine ⟨_, ?_, xcr_short hX ho hb (by omega)⟩
    match L, h with
    | 0, _ => exact xs_0
    | 1, _ => exact xs_1
    | 2, _ => exact xs_2
    | 3, _ => exact xs_3
    | 4, _ => exact xs_4
    | 5, _ => exact xs_5
    | n + 6, h => exact absurd h (by omega)
  · have e : L = 6 := by omega
    subst e
    obtain ⟨k, hk, h63⟩ := x63 (xs 0)
    obtain ⟨Bs, c1, c2⟩ := xk_all k hk
    obtain ⟨c3, c4⟩ := and_true' c1
    obtain ⟨as, d1, d2⟩ := xAllK_ok (ad := xad o S.heap.size old) Bs _ c2 c4 [xs 1, xs 2, xs 3, xs 4, xs 5] (Nat.eq_of_beq_eq_true c3).symm
    have d3 : xs2 (xad o S.heap.size old) (.inr (.inr (.inr (.inr (.inr (.inr k))))) :: as) [.int (xs 0), .int (xs 1), .int (xs 2), .int (xs 3), .int (xs 4), .int (xs 5)] := ⟨⟨xs 0, rfl, h63⟩, d1⟩
    have d4 : (.inr (.inr (.inr (.inr (.inr (.inr k))))) :: as : List xA).length = 6 := (xs2_len d3).symm
    refine ⟨_, d2, ?_⟩
    show xcr o _ D S 0 (some (.inr (.inl (0, ((.inr (.inr (.inr (.inr (.inr (.inr k))))) :: as : List xA).length, (5, _)))))) S.heap
    rw [d4]
    exact xcr_script hX ho hb (by omega) d4 d3 fun j hj => match j, hj with
      | 0, _ => rfl
      | 1, _ => rfl
      | 2, _ => rfl
      | 3, _ => rfl
      | 4, _ => rfl
      | 5, _ => rfl
      | n + 6, h => absurd h (by omega)
theorem xfin_some {r : Option xE} (h : xfinB r = true) : ∃ (pc : Nat) (hp : xH) (E : Nat), r = some (0, (pc, ([.inl 1], (hp, E)))) ∧ hp.2.2.2.1 ≤ 600002 ∧ hp.2.2.2.2 ≤ 7302232 := by
  unfold xfinB at h
  split at h
  · next pc hp E =>
    obtain ⟨h1, h2⟩ := and_true' h
    exact ⟨pc, hp, E, rfl, Nat.le_of_ble_eq_true h1, Nat.le_of_ble_eq_true h2⟩
  · cases h
theorem xpre_some {r : Option xE} (h : xpreB r = true) : ∃ out, r = some out ∧ out.1 = 9 ∧ out.2.2.2.1.2.2.2.1 ≤ 600002 ∧ out.2.2.2.1.2.2.2.2 ≤ 7302232 := by
  match r, h with
  | some q, h =>
    obtain ⟨h1, h⟩ := and_true' (show (Nat.beq q.1 9 && (Nat.ble q.2.2.2.1.2.2.2.1 600002 && Nat.ble q.2.2.2.1.2.2.2.2 7302232)) = true from h)
    obtain ⟨h2, h3⟩ := and_true' h
    exact ⟨q, rfl, Nat.eq_of_beq_eq_true h1, Nat.le_of_ble_eq_true h2, Nat.le_of_ble_eq_true h3⟩
theorem xK9_some {pc : Nat} {loc : List (Nat × xA)} {stk : List xA} {hp : xH} {out : xE} (h : xK9 pc loc stk hp = some out) : pc = 23 ∧ loc = xloc1 ∧ stk = [] ∧ hp = xbase ∧ out = (9, (23, ([], (xbase, 0)))) := by
  obtain ⟨h1, h2⟩ := cond_some (show cond (Nat.beq pc 23 && (xlqB loc xloc1 && (stk.isEmpty && (xRB xcqB hp.1 xbcs && (Nat.beq hp.2.1 xbase.2.1 && (hp.2.2.1 && xpqB hp.2.2.2 xbase.2.2.2)))))) (some (9, (23, ([], (xbase, 0))))) none = some out from h)
  obtain ⟨a1, h1⟩ := and_true' h1
  obtain ⟨a2, h1⟩ := and_true' h1
  obtain ⟨a3, h1⟩ := and_true' h1
  obtain ⟨a4, h1⟩ := and_true' h1
  obtain ⟨a5, h1⟩ := and_true' h1
  obtain ⟨a6, a7⟩ := and_true' h1
  refine ⟨Nat.eq_of_beq_eq_true a1, xlqB_ok _ _ a2, List.isEmpty_iff.mp a3, ?_, (Option.some.inj h2).symm⟩
  have e4 := xRB_ok xcqB_ok a4
  have e5 := Nat.eq_of_beq_eq_true a5
  have e7 := xpqB_ok _ _ a7
  obtain ⟨p1, p2, p3, p4⟩ := hp
  have e4 : p1 = xbcs := e4
  have e5 : p2 = xbase.2.1 := e5
  have e6 : p3 = true := a6
  have e7 : p4 = xbase.2.2.2 := e7
  rw [e4, e5, e6, e7]
  rfl
end Law
/-! THE CLAIM OUT OF ONE WALK OF THE LAW'S BODY. Your part is whole_start (and what it stands on); all else here is the same for every law, but numbers. -/
def R_law : String := "GridHouseLaw"
def lw_P (b : Addr) (xs : List Int32) (args : Array Value) (s : State) : Prop := args = #[.ref b] ∧ s.IntsAt b xs ∧ xs.length ≤ 6 ∧ (Jvm.Cond.and given_1 narrow_1).before args s = true
def lw_Q (_ : Array Value) (s : State) (o : Outcome) (t : State) : Prop := o = .returned (some (.int 1)) ∧ Framed s o t [] 600002 7302232
def lw_Z (below : List Frame) (a : Array Value) (s : State) : State → Prop := fun t => ∃ o, t.status = .running ∧ Ended t below o ∧ lw_Q a s o t
/-- the law's own end, with 1 on the stack, nothing written that was there before, its room as the claim has it -/
theorem lw_ret {p : Program} {l : Launch} {e : Env} {s : State} {m : MethodId} {below : List Frame} {meth : Method} {c : Code} {b : Nat} (hx : p.tables.exec = Jvm.exec) (hb : c.code = code) (hr : meth.sig.returnType = ret) (hlocks : meth.locks = false) {pc : Nat} {H : Heap} {ls : Array Slot} (hdg : decode code pc = .ok (.ireturn, 1)) : W p l e room_1 s m #[Value.ref b] below meth c H [] 600002 7302232 (lw_Z below #[Value.ref b] s) (F0 m pc ls [.int 1]) := by
  intro T hT X
  obtain ⟨fs, hret, hrun, hended, hW, hframe⟩ := X.leave (v := some (.int 1)) (hlocks := hlocks) (fun h => by rw [hr] at h; cases h)
  have hmeth' : T.vm.method? m = some meth := X.method'
  refine ⟨T.setFrames fs, ?_, .returned (some (.int 1)), hrun, hended, rfl, ⟨_, rfl⟩, hW, hframe⟩
  jvm_step X.here [X.here.top, hx, hb, hdg, hmeth', hr, ret, narrow_b1]
  (try refine ⟨rfl, ?_⟩); (try refine ⟨rfl, ?_⟩)
  first | (intro acts; rw [hret _ acts rfl rfl rfl]) | rw [hret _ _ rfl rfl rfl]
  exact Steps.refl _
/-- what holds at the law's entry: the machine, the code, the tables' words (any of lw_tbl by 'hts w (by decide +kernel)'), the script of L ints xs at the cell b, what the Statement gives of the start (any of its parts by flat_of_before) -/
def lw_At (p : Program) (s : State) (m : MethodId) (meth : Method) (c : Code) (b L : Nat) (xs : Nat → Int32) : Prop :=
  p.tables.exec = Jvm.exec ∧ c.code = code ∧ meth.sig.returnType = ret ∧ c.maxLocals = 7 ∧ s.vm.findClass R_law = some m.cls ∧ (∀ w ∈ lw_tbl, w.before #[Value.ref b] s = true) ∧ va_X b L xs s s.heap ∧ b < s.heap.size ∧ meth.locks = false ∧ (Jvm.Cond.and given_1 narrow_1).before #[Value.ref b] s = true
/-- from the entry, for every script of at most 6 ints, the law comes to its end with true -/
theorem whole_start {p : Program} {e : Env} {s : State} {m : MethodId} {below : List Frame} {meth : Method} {c : Code} (l : Launch) (hflags : l.flags = flags0) {b L : Nat} {xs : Nat → Int32} (hL : L ≤ 6) (hT : c.exceptionTable.toList = tableOf []) (C0 : lw_At p s m meth c b L xs) : W p l e room_1 s m #[Value.ref b] below meth c s.heap [] 0 0 (lw_Z below #[Value.ref b] s) (entryFrame m ([Value.ref b] : List Value).toArray 7) := by
  obtain ⟨hexec, hcode, hret, hml, hown, hts, hX, hb, hlocks, hgn⟩ := C0
  have hF : ∀ w ∈ xF0, w.before #[Value.ref b] s = true := flat_of_before _ hgn
  obtain ⟨old, D, ho, G, Z, T, hx0⟩ := xstart hF hts hb
  have hl9 : l.stackTraces = false := by
    unfold Launch.stackTraces
    rw [hflags]
    decide +kernel
  have HC := xcall_ok (l := l) G hl9 (xall2_get (xtw_all Z T)) 11
  have F : xFx p s m #[Value.ref b] meth c code 7 R_law s := ⟨hexec, hcode, hml, hown, fun w hw => hts w (List.mem_filter.mp hw).1, State.WarmedH.refl s, hlocks⟩
  have hi : ∀ pc, (xget xt_L_law pc).1 = pc → xOk s (xad 19 s.heap.size old) xmt R_law code [] (xpool xp_RL) 7 false 4 (xget xt_L_law pc) := fun pc _ => xall_get (xallB_ok (fun x hx => xrowB_ok (thr := []) (xhu_RL Z) (fun _ h => nomatch h) hx) xmc_law) pc
  have hrk : xRk 4 meth.sig.returnType := by rw [hret]; rfl
  have hS0 : s.heap.size ≤ s.heap.size ∧ ∀ q : Nat, q < s.heap.size → s.heap[q]? = s.heap[q]? := ⟨Nat.le_refl _, fun _ _ => rfl⟩
  have hR : 11 + 11 ≤ room_1.frames ∧ 264 + 64 * 11 ≤ room_1.locals := ⟨by decide, by decide⟩
  have K2 : ∀ sc, xgoC sc = true → xG p l e room_1 s m #[Value.ref b] below meth c 7 s 19 old D 0 0 (lw_Z below #[Value.ref b] s) 23 xloc1 [] (xput xbase 0 sc) := by
    intro sc hsc
    obtain ⟨pc, hp, E, hrun, hc1, hc2⟩ := xfin_some (show xfinB (xrunL xK0 1000 23 xloc1 [] (xput xbase 0 sc)) = true from hsc)
    have hG := xrunK_ok (e := e) (K0 := xK0) (d := 11) (c0 := 0) (s0 := 0) (rk := 4) (hs := []) (Q := xQ below s 19 old D (0, (some (.inl 1), (hp, 0))) #[Value.ref b] s 0 0) F G hl9 hT trivial hrk (ini := false) (fun h => nomatch h) hS0 (Or.inr ⟨(0, (some (.inl 1), (hp, 0))), rfl, rfl, hc1, hc2⟩) hR ⟨hc1, hc2⟩ HC hi (fun _ _ _ _ h9 => (by cases h9)) (fun _ _ _ _ h9 => (by cases h9)) 1000 23 xloc1 [] (xput xbase 0 sc) hrun
    intro H locs cells slots ls lv st hlv hl hs1 hx hlo hc hsl T9 hT9 X9
    obtain ⟨t, a1, oc, b1, b2, b3⟩ := hG H locs cells slots ls lv st hlv hl hs1 hx hlo hc hsl T9 hT9 X9
    refine ⟨t, a1, oc, b1, b2, ?_⟩
    rcases b3 with ⟨⟨v, q1, -, q3, -⟩, L9, ⟨f1, f2, f3⟩, hfree⟩ | ⟨q, -, E9, ce, L9, ⟨hx9, -⟩, -⟩
    · cases v with
      | none => exact q3.elim
      | some v =>
        have q3 : v = .int (Int32.ofNat 1) := q3
        subst q3
        exact ⟨q1, f1, f2, f3.weaken (fun y hy hlt => absurd hlt (Nat.not_lt.mpr (hfree y hy))) (Nat.le_trans (Nat.sub_le _ _) hc1) (Nat.le_trans (Nat.sub_le _ _) hc2)⟩
    · cases hx9
  obtain ⟨out, hrun, h9, hc1, hc2⟩ := xpre_some xprefix
  have hob : old 0 < s.heap.size := by rw [ho]; exact hb
  have h0 : xHyp p l e room_1 s m #[Value.ref b] below meth c 7 s 19 old D 0 0 (lw_Z below #[Value.ref b] s) xK9 out := by
    intro pc loc stk hp h
    obtain ⟨rfl, rfl, rfl, rfl, -⟩ := xK9_some h
    intro H locs cells slots ls lv st hlv hl hs1 hx hlo hc hsl
    obtain ⟨sc, g1, g2⟩ := xscript_ex (S := s) (o := 19) (old := old) (D := D) hL hX (by decide) ho
    exact K2 sc g1 H locs cells slots ls lv st hlv hl hs1 (hx.script (by decide) hob g2) hlo hc hsl
  have h0m : xMK xK9 out := by
    intro pc loc stk hp h
    obtain ⟨rfl, rfl, rfl, rfl, rfl⟩ := xK9_some h
    exact ⟨Nat.le_refl _, Nat.le_refl _⟩
  have hG := xrunK_ok (e := e) (K0 := xK9) (d := 11) (c0 := 0) (s0 := 0) (rk := 4) (hs := []) (Q := lw_Z below #[Value.ref b] s) F G hl9 hT trivial hrk (ini := false) (fun h => nomatch h) hS0 (Or.inl h9) hR ⟨hc1, hc2⟩ HC hi h0 h0m 13 0 [(0, .inr (.inr (.inl 0)))] [] (xheap0 none) hrun
  have e0 : xad 19 s.heap.size old 0 = b := ho
  have hlv := lv_entry ([Value.ref b] : List Value) (n := 7) (by show 1 ≤ 7; decide)
  rw [lg_entry_eq]
  exact hG s.heap [] 0 0 _ (lv_args 0 [Value.ref b]) [] hlv ⟨rfl, by rw [← e0]; rfl, trivial⟩ trivial hx0 (fun z hz => by cases hz) rfl rfl
set_option maxHeartbeats 4000000 in
theorem lw_walk (l : Launch) (hflags : l.flags = flags0) (b : Addr) (xs : List Int32) : MetFree l x (headSpec (Jvm.Cond.code x code maxLocals ret :: tables_1) room_1) (lw_P b xs) (fun _ _ _ _ _ => True) lw_Q := by
  refine MetFree.of_bodyS (code := code) (maxLocals := maxLocals) (ret := ret) (by decide) ?_ ?_
  · intro args s m h hn
    obtain ⟨meth, c, h1, h2, h3, h4, h5, h6, -, -⟩ := Cond.code_spec hn (atoms_spec (ws := Jvm.Cond.code x code maxLocals ret :: tables_1) h _ List.mem_cons_self)
    exact ⟨meth, c, h1, h2, h3, h4, h5, h6⟩
  · intro p e s m args below meth c s₁ B hml0 hP _
    obtain ⟨rfl, hx, hbd, hgv⟩ := hP
    obtain ⟨scr, harrAt, hlist, hof, hsmall⟩ := hx
    obtain ⟨hcb, hkn, -, -⟩ := State.arrayAt?_spec harrAt
    have hown : s.vm.findClass R_law = some m.cls := findClass_of_methodNamed B.named
    have hts0 : ∀ c ∈ (Jvm.Cond.code x code maxLocals ret :: tables_1), c.before #[Value.ref b] s = true := atoms_spec (ws := Jvm.Cond.code x code maxLocals ret :: tables_1) B.pre
    have hts : ∀ w ∈ lw_tbl, w.before #[Value.ref b] s = true := k2_hts_sels lw_privs (fun w hw => hts0 w (List.mem_cons_of_mem _ hw)) lw_privs_ok
    have hml : c.maxLocals = 7 := B.maxLocals_eq (hts0 _ List.mem_cons_self)
    have X₀ : Stand p l e room_1 s m #[Value.ref b] below meth c s₁ [] 0 0 := Stand.of_body B
    have hh0 : s₁.heap = s.heap := by rw [B.state]; rfl
    have hsz : scr.slots.size = xs.length := by rw [← Array.length_toList, hlist, List.length_map]
    have hval : ∀ j : Nat, j < xs.length → scr.slots[j]? = some (.int (xs.getD j 0)) := fun j hj => by
      rw [← Array.getElem?_toList, hlist]
      simp [hj]
    have hbl : b < s.heap.size := (Array.getElem?_eq_some_iff.mp hcb).1
    have ht9 : c.exceptionTable.toList = tableOf [] := by
      obtain ⟨meth9, c9, h1, h2, -, -, -, -, h7, -⟩ := Cond.code_spec B.named (hts0 _ List.mem_cons_self)
      cases Option.some.inj (h1.symm.trans B.method)
      cases Option.some.inj (h2.symm.trans X₀.code)
      rw [Array.isEmpty_iff.mp h7]
      rfl
    have hX : va_X b xs.length (fun j => xs.getD j 0) s s.heap := ⟨scr, hcb, hof, hkn, hsz, hval⟩
    have K : W p l e room_1 s m #[Value.ref b] below meth c s₁.heap [] 0 0 (lw_Z below #[Value.ref b] s) (entryFrame m ([Value.ref b] : List Value).toArray 7) := by
      rw [hh0]
      exact whole_start l hflags hbd ht9 ⟨B.exec, B.bytes, B.returns, hml, hown, hts, hX, hbl, B.notSynchronized, hgv⟩
    obtain ⟨t, a1, o, b1, b2, b3⟩ := K s₁ rfl X₀
    exact ⟨t, o, a1, b1, b2, b3⟩
theorem lw_pre_spec {args : Array Value} {s : State} (h : (Jvm.Cond.and given_1 narrow_1).before args s = true) (hr : rest_1_c.before args s = true) : ∃ (b : Addr) (xs : List Int32), lw_P b xs args s := by
  have hs := flat_of_before _ h
  have hq := flat_of_before _ hr
  have hc : (Cond.count 1).before args s = true := hs _ (by decide +kernel)
  have harr : (Cond.arrayOf (.arg 0) .int).before args s = true := hs _ (by decide +kernel)
  have hle : (Cond.le (.length (.arg 0)) (.int 6)).before args s = true := hs _ (by decide +kernel)
  have hlen : (Cond.isInt (.length (.arg 0))).before args s = true := hq _ (by decide +kernel)
  have hall : (Cond.all (.arg 0) (.isInt (.elem (.arg 0) (.index 0)))).before args s = true := hq _ (by decide +kernel)
  obtain ⟨b, xs, hb, hx⟩ := State.ints_of_pre rfl harr hlen hall
  have hsm : xs.length < 2 ^ 31 := hx.choose_spec.2.2.2
  have hev : (Term.length (.arg 0)).eval args s none [] s = some (.int xs.length.toInt32) := hx.length_eval hb
  have hv := Cond.le_ints hev (show (Term.int 6).eval args s none [] s = some (.int 6) from rfl)
  have hd : xs.length.toInt32 ≤ 6 := by
    simpa [Cond.before, Cond.holds, hv] using hle
  have hN : xs.length ≤ 6 := (Int32.ofNat_le_ofNat hsm (by decide)).mp (show Int32.ofNat xs.length ≤ Int32.ofNat 6 from hd)
  exact ⟨b, xs, Cond.one_arg hc (show args[0]? = some (.ref b) from hb), hx, hN, h⟩
theorem lw_comes (l : Launch) (hflags : l.flags = flags0) : Comes l x (Jvm.Cond.code x code maxLocals ret :: tables_1) room_1 (fun tb e args s => Calls_1 tb e args s ∧ rest_1 tb e args s ∧ Pre_1 tb e args s)
    (fun _ _ args s o t => lw_Q args s o t) := by
  intro p e ha hc hk s m args below hf hfit hheap happ hpre
  obtain ⟨b, xs, hP⟩ := lw_pre_spec hpre.2.2 hpre.2.1
  obtain ⟨k, o, h1, h2, h3, hQ⟩ := lw_walk l hflags b xs p e ha hc hk s m args below hf ((Spec.applies_iff_loose hf).mp happ).1 hP trivial
  exact ⟨k, o, h1, h2, h3, hQ⟩
theorem lw_frame {s t : State} {o : Outcome} {args : Array Value} (h : Framed s o t [] 600002 7302232) :
    Framed s o t (fieldLocs frame_1_writes args s ++ arrayLocs frame_1_arrays args s ++ staticLocs frame_1_statics s) 600002 7302232 := h
theorem lw_limb (L : Cond) (hL : ∀ (args : Array Value) (s t : State), L.after args s (.returned (some (.int 1))) t = true) :
    ArmFor flags0 classFile x code maxLocals ret World_1 tables_1 room_1 Calls_1 rest_1 Pre_1
      (fun tb e a s o t => postC L tb e a s o t ∧ Framed s o t (fieldLocs frame_1_writes a s ++ arrayLocs frame_1_arrays a s ++ staticLocs frame_1_statics s) 600002 7302232) := by
  intro l hflags _ _ p e ha hc hk s m args below hf hfit hheap happ hpre
  obtain ⟨k, o, h1, h2, h3, rfl, hF⟩ := lw_comes l hflags p e ha hc hk s m args below hf hfit hheap happ hpre
  exact ⟨k, _, h1, h2, h3, hL args s _, lw_frame hF⟩
theorem i_vc : Claimed_1_1 ∧ Claimed_1_2 := ⟨lw_limb limb_1_1 (fun args s t => by simp [limb_1_1, Cond.after, Cond.holds, Cond.value]), lw_limb limb_1_2 (fun args s t => Cond.after_iff.mpr (by
  first | (rw [show limb_1_2 = Cond.eq .result (.int 1) from rfl, Cond.eq_ints (x := 1) (y := 1) rfl rfl]; simp; done) | (simp [limb_1_2, Cond.value, Term.eval]; done)))⟩
