/-! Instructions decode as the tables say (by program: wip/p44/gen_tab.py). -/
theorem dk_L_law_0 : jm_dck code 0 ((jmI_L_law).getD 0 []) = true := by decide +kernel
theorem dk_L_law_1 : jm_dck code 32 ((jmI_L_law).getD 1 []) = true := by decide +kernel
theorem dk_L_law_2 : jm_dck code 64 ((jmI_L_law).getD 2 []) = true := by decide +kernel
theorem dk_L_law_3 : jm_dck code 96 ((jmI_L_law).getD 3 []) = true := by decide +kernel
theorem dk_L_law : jm_dcs (jm_mC jmM_L_law) 0 (jm_mI jmM_L_law) := And.intro dk_L_law_0 (And.intro dk_L_law_1 (And.intro dk_L_law_2 (And.intro dk_L_law_3 (trivial))))
theorem dk_L_init_0 : jm_dck method_1_code 0 ((jmI_L_init).getD 0 []) = true := by decide +kernel
theorem dk_L_init : jm_dcs (jm_mC jmM_L_init) 0 (jm_mI jmM_L_init) := And.intro dk_L_init_0 (trivial)
theorem dk_L_feeds_0 : jm_dck method_2_code 0 ((jmI_L_feeds).getD 0 []) = true := by decide +kernel
theorem dk_L_feeds_1 : jm_dck method_2_code 32 ((jmI_L_feeds).getD 1 []) = true := by decide +kernel
theorem dk_L_feeds_2 : jm_dck method_2_code 64 ((jmI_L_feeds).getD 2 []) = true := by decide +kernel
theorem dk_L_feeds_3 : jm_dck method_2_code 96 ((jmI_L_feeds).getD 3 []) = true := by decide +kernel
theorem dk_L_feeds_4 : jm_dck method_2_code 128 ((jmI_L_feeds).getD 4 []) = true := by decide +kernel
theorem dk_L_feeds : jm_dcs (jm_mC jmM_L_feeds) 0 (jm_mI jmM_L_feeds) := And.intro dk_L_feeds_0 (And.intro dk_L_feeds_1 (And.intro dk_L_feeds_2 (And.intro dk_L_feeds_3 (And.intro dk_L_feeds_4 (trivial)))))
theorem dk_L_draw_0 : jm_dck method_3_code 0 ((jmI_L_draw).getD 0 []) = true := by decide +kernel
theorem dk_L_draw : jm_dcs (jm_mC jmM_L_draw) 0 (jm_mI jmM_L_draw) := And.intro dk_L_draw_0 (trivial)
theorem dk_L_paper_0 : jm_dck method_4_code 0 ((jmI_L_paper).getD 0 []) = true := by decide +kernel
theorem dk_L_paper_1 : jm_dck method_4_code 32 ((jmI_L_paper).getD 1 []) = true := by decide +kernel
theorem dk_L_paper_2 : jm_dck method_4_code 64 ((jmI_L_paper).getD 2 []) = true := by decide +kernel
theorem dk_L_paper : jm_dcs (jm_mC jmM_L_paper) 0 (jm_mI jmM_L_paper) := And.intro dk_L_paper_0 (And.intro dk_L_paper_1 (And.intro dk_L_paper_2 (trivial)))
theorem dk_L_nearest_0 : jm_dck method_5_code 0 ((jmI_L_nearest).getD 0 []) = true := by decide +kernel
theorem dk_L_nearest_1 : jm_dck method_5_code 32 ((jmI_L_nearest).getD 1 []) = true := by decide +kernel
theorem dk_L_nearest_2 : jm_dck method_5_code 64 ((jmI_L_nearest).getD 2 []) = true := by decide +kernel
theorem dk_L_nearest_3 : jm_dck method_5_code 96 ((jmI_L_nearest).getD 3 []) = true := by decide +kernel
theorem dk_L_nearest : jm_dcs (jm_mC jmM_L_nearest) 0 (jm_mI jmM_L_nearest) := And.intro dk_L_nearest_0 (And.intro dk_L_nearest_1 (And.intro dk_L_nearest_2 (And.intro dk_L_nearest_3 (trivial))))
theorem dk_L_fitting_0 : jm_dck method_6_code 0 ((jmI_L_fitting).getD 0 []) = true := by decide +kernel
theorem dk_L_fitting_1 : jm_dck method_6_code 32 ((jmI_L_fitting).getD 1 []) = true := by decide +kernel
theorem dk_L_fitting_2 : jm_dck method_6_code 64 ((jmI_L_fitting).getD 2 []) = true := by decide +kernel
theorem dk_L_fitting : jm_dcs (jm_mC jmM_L_fitting) 0 (jm_mI jmM_L_fitting) := And.intro dk_L_fitting_0 (And.intro dk_L_fitting_1 (And.intro dk_L_fitting_2 (trivial)))
theorem dk_L_cutsOne_0 : jm_dck method_7_code 0 ((jmI_L_cutsOne).getD 0 []) = true := by decide +kernel
theorem dk_L_cutsOne_1 : jm_dck method_7_code 32 ((jmI_L_cutsOne).getD 1 []) = true := by decide +kernel
theorem dk_L_cutsOne_2 : jm_dck method_7_code 64 ((jmI_L_cutsOne).getD 2 []) = true := by decide +kernel
theorem dk_L_cutsOne : jm_dcs (jm_mC jmM_L_cutsOne) 0 (jm_mI jmM_L_cutsOne) := And.intro dk_L_cutsOne_0 (And.intro dk_L_cutsOne_1 (And.intro dk_L_cutsOne_2 (trivial)))
theorem dk_L_orders_0 : jm_dck method_8_code 0 ((jmI_L_orders).getD 0 []) = true := by decide +kernel
theorem dk_L_orders_1 : jm_dck method_8_code 32 ((jmI_L_orders).getD 1 []) = true := by decide +kernel
theorem dk_L_orders_2 : jm_dck method_8_code 64 ((jmI_L_orders).getD 2 []) = true := by decide +kernel
theorem dk_L_orders_3 : jm_dck method_8_code 96 ((jmI_L_orders).getD 3 []) = true := by decide +kernel
theorem dk_L_orders_4 : jm_dck method_8_code 128 ((jmI_L_orders).getD 4 []) = true := by decide +kernel
theorem dk_L_orders_5 : jm_dck method_8_code 160 ((jmI_L_orders).getD 5 []) = true := by decide +kernel
theorem dk_L_orders : jm_dcs (jm_mC jmM_L_orders) 0 (jm_mI jmM_L_orders) := And.intro dk_L_orders_0 (And.intro dk_L_orders_1 (And.intro dk_L_orders_2 (And.intro dk_L_orders_3 (And.intro dk_L_orders_4 (And.intro dk_L_orders_5 (trivial))))))
theorem dk_L_buys_0 : jm_dck method_9_code 0 ((jmI_L_buys).getD 0 []) = true := by decide +kernel
theorem dk_L_buys_1 : jm_dck method_9_code 32 ((jmI_L_buys).getD 1 []) = true := by decide +kernel
theorem dk_L_buys_2 : jm_dck method_9_code 64 ((jmI_L_buys).getD 2 []) = true := by decide +kernel
theorem dk_L_buys : jm_dcs (jm_mC jmM_L_buys) 0 (jm_mI jmM_L_buys) := And.intro dk_L_buys_0 (And.intro dk_L_buys_1 (And.intro dk_L_buys_2 (trivial)))
theorem dk_L_cuts_0 : jm_dck method_10_code 0 ((jmI_L_cuts).getD 0 []) = true := by decide +kernel
theorem dk_L_cuts_1 : jm_dck method_10_code 32 ((jmI_L_cuts).getD 1 []) = true := by decide +kernel
theorem dk_L_cuts_2 : jm_dck method_10_code 64 ((jmI_L_cuts).getD 2 []) = true := by decide +kernel
theorem dk_L_cuts : jm_dcs (jm_mC jmM_L_cuts) 0 (jm_mI jmM_L_cuts) := And.intro dk_L_cuts_0 (And.intro dk_L_cuts_1 (And.intro dk_L_cuts_2 (trivial)))
theorem dk_L_side_0 : jm_dck method_12_code 0 ((jmI_L_side).getD 0 []) = true := by decide +kernel
theorem dk_L_side : jm_dcs (jm_mC jmM_L_side) 0 (jm_mI jmM_L_side) := And.intro dk_L_side_0 (trivial)
theorem dk_L_begins_0 : jm_dck method_13_code 0 ((jmI_L_begins).getD 0 []) = true := by decide +kernel
theorem dk_L_begins_1 : jm_dck method_13_code 32 ((jmI_L_begins).getD 1 []) = true := by decide +kernel
theorem dk_L_begins_2 : jm_dck method_13_code 64 ((jmI_L_begins).getD 2 []) = true := by decide +kernel
theorem dk_L_begins_3 : jm_dck method_13_code 96 ((jmI_L_begins).getD 3 []) = true := by decide +kernel
theorem dk_L_begins_4 : jm_dck method_13_code 128 ((jmI_L_begins).getD 4 []) = true := by decide +kernel
theorem dk_L_begins_5 : jm_dck method_13_code 160 ((jmI_L_begins).getD 5 []) = true := by decide +kernel
theorem dk_L_begins_6 : jm_dck method_13_code 192 ((jmI_L_begins).getD 6 []) = true := by decide +kernel
theorem dk_L_begins_7 : jm_dck method_13_code 224 ((jmI_L_begins).getD 7 []) = true := by decide +kernel
theorem dk_L_begins_8 : jm_dck method_13_code 256 ((jmI_L_begins).getD 8 []) = true := by decide +kernel
theorem dk_L_begins_9 : jm_dck method_13_code 288 ((jmI_L_begins).getD 9 []) = true := by decide +kernel
theorem dk_L_begins : jm_dcs (jm_mC jmM_L_begins) 0 (jm_mI jmM_L_begins) := And.intro dk_L_begins_0 (And.intro dk_L_begins_1 (And.intro dk_L_begins_2 (And.intro dk_L_begins_3 (And.intro dk_L_begins_4 (And.intro dk_L_begins_5 (And.intro dk_L_begins_6 (And.intro dk_L_begins_7 (And.intro dk_L_begins_8 (And.intro dk_L_begins_9 (trivial))))))))))
theorem dk_L_leaves_0 : jm_dck method_14_code 0 ((jmI_L_leaves).getD 0 []) = true := by decide +kernel
theorem dk_L_leaves_1 : jm_dck method_14_code 32 ((jmI_L_leaves).getD 1 []) = true := by decide +kernel
theorem dk_L_leaves_2 : jm_dck method_14_code 64 ((jmI_L_leaves).getD 2 []) = true := by decide +kernel
theorem dk_L_leaves_3 : jm_dck method_14_code 96 ((jmI_L_leaves).getD 3 []) = true := by decide +kernel
theorem dk_L_leaves_4 : jm_dck method_14_code 128 ((jmI_L_leaves).getD 4 []) = true := by decide +kernel
theorem dk_L_leaves_5 : jm_dck method_14_code 160 ((jmI_L_leaves).getD 5 []) = true := by decide +kernel
theorem dk_L_leaves_6 : jm_dck method_14_code 192 ((jmI_L_leaves).getD 6 []) = true := by decide +kernel
theorem dk_L_leaves_7 : jm_dck method_14_code 224 ((jmI_L_leaves).getD 7 []) = true := by decide +kernel
theorem dk_L_leaves_8 : jm_dck method_14_code 256 ((jmI_L_leaves).getD 8 []) = true := by decide +kernel
theorem dk_L_leaves_9 : jm_dck method_14_code 288 ((jmI_L_leaves).getD 9 []) = true := by decide +kernel
theorem dk_L_leaves_10 : jm_dck method_14_code 320 ((jmI_L_leaves).getD 10 []) = true := by decide +kernel
theorem dk_L_leaves_11 : jm_dck method_14_code 352 ((jmI_L_leaves).getD 11 []) = true := by decide +kernel
theorem dk_L_leaves_12 : jm_dck method_14_code 384 ((jmI_L_leaves).getD 12 []) = true := by decide +kernel
theorem dk_L_leaves : jm_dcs (jm_mC jmM_L_leaves) 0 (jm_mI jmM_L_leaves) := And.intro dk_L_leaves_0 (And.intro dk_L_leaves_1 (And.intro dk_L_leaves_2 (And.intro dk_L_leaves_3 (And.intro dk_L_leaves_4 (And.intro dk_L_leaves_5 (And.intro dk_L_leaves_6 (And.intro dk_L_leaves_7 (And.intro dk_L_leaves_8 (And.intro dk_L_leaves_9 (And.intro dk_L_leaves_10 (And.intro dk_L_leaves_11 (And.intro dk_L_leaves_12 (trivial)))))))))))))
theorem dk_L_isFolded_0 : jm_dck method_15_code 0 ((jmI_L_isFolded).getD 0 []) = true := by decide +kernel
theorem dk_L_isFolded_1 : jm_dck method_15_code 32 ((jmI_L_isFolded).getD 1 []) = true := by decide +kernel
theorem dk_L_isFolded_2 : jm_dck method_15_code 64 ((jmI_L_isFolded).getD 2 []) = true := by decide +kernel
theorem dk_L_isFolded_3 : jm_dck method_15_code 96 ((jmI_L_isFolded).getD 3 []) = true := by decide +kernel
theorem dk_L_isFolded_4 : jm_dck method_15_code 128 ((jmI_L_isFolded).getD 4 []) = true := by decide +kernel
theorem dk_L_isFolded_5 : jm_dck method_15_code 160 ((jmI_L_isFolded).getD 5 []) = true := by decide +kernel
theorem dk_L_isFolded : jm_dcs (jm_mC jmM_L_isFolded) 0 (jm_mI jmM_L_isFolded) := And.intro dk_L_isFolded_0 (And.intro dk_L_isFolded_1 (And.intro dk_L_isFolded_2 (And.intro dk_L_isFolded_3 (And.intro dk_L_isFolded_4 (And.intro dk_L_isFolded_5 (trivial))))))
theorem dk_L_isSeries_0 : jm_dck method_16_code 0 ((jmI_L_isSeries).getD 0 []) = true := by decide +kernel
theorem dk_L_isSeries_1 : jm_dck method_16_code 32 ((jmI_L_isSeries).getD 1 []) = true := by decide +kernel
theorem dk_L_isSeries_2 : jm_dck method_16_code 64 ((jmI_L_isSeries).getD 2 []) = true := by decide +kernel
theorem dk_L_isSeries_3 : jm_dck method_16_code 96 ((jmI_L_isSeries).getD 3 []) = true := by decide +kernel
theorem dk_L_isSeries : jm_dcs (jm_mC jmM_L_isSeries) 0 (jm_mI jmM_L_isSeries) := And.intro dk_L_isSeries_0 (And.intro dk_L_isSeries_1 (And.intro dk_L_isSeries_2 (And.intro dk_L_isSeries_3 (trivial))))
theorem dk_L_still_0 : jm_dck method_17_code 0 ((jmI_L_still).getD 0 []) = true := by decide +kernel
theorem dk_L_still_1 : jm_dck method_17_code 32 ((jmI_L_still).getD 1 []) = true := by decide +kernel
theorem dk_L_still_2 : jm_dck method_17_code 64 ((jmI_L_still).getD 2 []) = true := by decide +kernel
theorem dk_L_still_3 : jm_dck method_17_code 96 ((jmI_L_still).getD 3 []) = true := by decide +kernel
theorem dk_L_still_4 : jm_dck method_17_code 128 ((jmI_L_still).getD 4 []) = true := by decide +kernel
theorem dk_L_still_5 : jm_dck method_17_code 160 ((jmI_L_still).getD 5 []) = true := by decide +kernel
theorem dk_L_still_6 : jm_dck method_17_code 192 ((jmI_L_still).getD 6 []) = true := by decide +kernel
theorem dk_L_still_7 : jm_dck method_17_code 224 ((jmI_L_still).getD 7 []) = true := by decide +kernel
theorem dk_L_still : jm_dcs (jm_mC jmM_L_still) 0 (jm_mI jmM_L_still) := And.intro dk_L_still_0 (And.intro dk_L_still_1 (And.intro dk_L_still_2 (And.intro dk_L_still_3 (And.intro dk_L_still_4 (And.intro dk_L_still_5 (And.intro dk_L_still_6 (And.intro dk_L_still_7 (trivial))))))))
theorem dk_L_act_0 : jm_dck method_18_code 0 ((jmI_L_act).getD 0 []) = true := by decide +kernel
theorem dk_L_act_1 : jm_dck method_18_code 32 ((jmI_L_act).getD 1 []) = true := by decide +kernel
theorem dk_L_act_2 : jm_dck method_18_code 64 ((jmI_L_act).getD 2 []) = true := by decide +kernel
theorem dk_L_act_3 : jm_dck method_18_code 96 ((jmI_L_act).getD 3 []) = true := by decide +kernel
theorem dk_L_act_4 : jm_dck method_18_code 128 ((jmI_L_act).getD 4 []) = true := by decide +kernel
theorem dk_L_act_5 : jm_dck method_18_code 160 ((jmI_L_act).getD 5 []) = true := by decide +kernel
theorem dk_L_act_6 : jm_dck method_18_code 192 ((jmI_L_act).getD 6 []) = true := by decide +kernel
theorem dk_L_act_7 : jm_dck method_18_code 224 ((jmI_L_act).getD 7 []) = true := by decide +kernel
theorem dk_L_act : jm_dcs (jm_mC jmM_L_act) 0 (jm_mI jmM_L_act) := And.intro dk_L_act_0 (And.intro dk_L_act_1 (And.intro dk_L_act_2 (And.intro dk_L_act_3 (And.intro dk_L_act_4 (And.intro dk_L_act_5 (And.intro dk_L_act_6 (And.intro dk_L_act_7 (trivial))))))))
theorem dk_X0_init_0 : jm_dck prog_2_method_1_code 0 ((jmI_X0_init).getD 0 []) = true := by decide +kernel
theorem dk_X0_init : jm_dcs (jm_mC jmM_X0_init) 0 (jm_mI jmM_X0_init) := And.intro dk_X0_init_0 (trivial)
theorem dk_X0_hasRoom_0 : jm_dck prog_2_method_2_code 0 ((jmI_X0_hasRoom).getD 0 []) = true := by decide +kernel
theorem dk_X0_hasRoom : jm_dcs (jm_mC jmM_X0_hasRoom) 0 (jm_mI jmM_X0_hasRoom) := And.intro dk_X0_hasRoom_0 (trivial)
theorem dk_X0_put_0 : jm_dck prog_2_method_3_code 0 ((jmI_X0_put).getD 0 []) = true := by decide +kernel
theorem dk_X0_put : jm_dcs (jm_mC jmM_X0_put) 0 (jm_mI jmM_X0_put) := And.intro dk_X0_put_0 (trivial)
theorem dk_X0_putFour_0 : jm_dck prog_2_method_4_code 0 ((jmI_X0_putFour).getD 0 []) = true := by decide +kernel
theorem dk_X0_putFour_1 : jm_dck prog_2_method_4_code 32 ((jmI_X0_putFour).getD 1 []) = true := by decide +kernel
theorem dk_X0_putFour : jm_dcs (jm_mC jmM_X0_putFour) 0 (jm_mI jmM_X0_putFour) := And.intro dk_X0_putFour_0 (And.intro dk_X0_putFour_1 (trivial))
theorem dk_X0_shorten_0 : jm_dck prog_2_method_6_code 0 ((jmI_X0_shorten).getD 0 []) = true := by decide +kernel
theorem dk_X0_shorten : jm_dcs (jm_mC jmM_X0_shorten) 0 (jm_mI jmM_X0_shorten) := And.intro dk_X0_shorten_0 (trivial)
theorem dk_X0_byteAt_0 : jm_dck prog_2_method_7_code 0 ((jmI_X0_byteAt).getD 0 []) = true := by decide +kernel
theorem dk_X0_byteAt : jm_dcs (jm_mC jmM_X0_byteAt) 0 (jm_mI jmM_X0_byteAt) := And.intro dk_X0_byteAt_0 (trivial)
theorem dk_X1_init_0 : jm_dck prog_3_method_1_code 0 ((jmI_X1_init).getD 0 []) = true := by decide +kernel
theorem dk_X1_init : jm_dcs (jm_mC jmM_X1_init) 0 (jm_mI jmM_X1_init) := And.intro dk_X1_init_0 (trivial)
theorem dk_X1_make_0 : jm_dck prog_3_method_2_code 0 ((jmI_X1_make).getD 0 []) = true := by decide +kernel
theorem dk_X1_make_1 : jm_dck prog_3_method_2_code 32 ((jmI_X1_make).getD 1 []) = true := by decide +kernel
theorem dk_X1_make_2 : jm_dck prog_3_method_2_code 64 ((jmI_X1_make).getD 2 []) = true := by decide +kernel
theorem dk_X1_make_3 : jm_dck prog_3_method_2_code 96 ((jmI_X1_make).getD 3 []) = true := by decide +kernel
theorem dk_X1_make : jm_dcs (jm_mC jmM_X1_make) 0 (jm_mI jmM_X1_make) := And.intro dk_X1_make_0 (And.intro dk_X1_make_1 (And.intro dk_X1_make_2 (And.intro dk_X1_make_3 (trivial))))
theorem dk_X1_halvesOf_0 : jm_dck prog_3_method_3_code 0 ((jmI_X1_halvesOf).getD 0 []) = true := by decide +kernel
theorem dk_X1_halvesOf : jm_dcs (jm_mC jmM_X1_halvesOf) 0 (jm_mI jmM_X1_halvesOf) := And.intro dk_X1_halvesOf_0 (trivial)
theorem dk_X1_doWith_0 : jm_dck prog_3_method_4_code 0 ((jmI_X1_doWith).getD 0 []) = true := by decide +kernel
theorem dk_X1_doWith : jm_dcs (jm_mC jmM_X1_doWith) 0 (jm_mI jmM_X1_doWith) := And.intro dk_X1_doWith_0 (trivial)
theorem dk_X2_init_0 : jm_dck prog_4_method_1_code 0 ((jmI_X2_init).getD 0 []) = true := by decide +kernel
theorem dk_X2_init_1 : jm_dck prog_4_method_1_code 32 ((jmI_X2_init).getD 1 []) = true := by decide +kernel
theorem dk_X2_init : jm_dcs (jm_mC jmM_X2_init) 0 (jm_mI jmM_X2_init) := And.intro dk_X2_init_0 (And.intro dk_X2_init_1 (trivial))
theorem dk_X2_foldUp_0 : jm_dck prog_4_method_2_code 0 ((jmI_X2_foldUp).getD 0 []) = true := by decide +kernel
theorem dk_X2_foldUp_1 : jm_dck prog_4_method_2_code 32 ((jmI_X2_foldUp).getD 1 []) = true := by decide +kernel
theorem dk_X2_foldUp_2 : jm_dck prog_4_method_2_code 64 ((jmI_X2_foldUp).getD 2 []) = true := by decide +kernel
theorem dk_X2_foldUp_3 : jm_dck prog_4_method_2_code 96 ((jmI_X2_foldUp).getD 3 []) = true := by decide +kernel
theorem dk_X2_foldUp : jm_dcs (jm_mC jmM_X2_foldUp) 0 (jm_mI jmM_X2_foldUp) := And.intro dk_X2_foldUp_0 (And.intro dk_X2_foldUp_1 (And.intro dk_X2_foldUp_2 (And.intro dk_X2_foldUp_3 (trivial))))
theorem dk_X2_pileUp_0 : jm_dck prog_4_method_3_code 0 ((jmI_X2_pileUp).getD 0 []) = true := by decide +kernel
theorem dk_X2_pileUp_1 : jm_dck prog_4_method_3_code 32 ((jmI_X2_pileUp).getD 1 []) = true := by decide +kernel
theorem dk_X2_pileUp_2 : jm_dck prog_4_method_3_code 64 ((jmI_X2_pileUp).getD 2 []) = true := by decide +kernel
theorem dk_X2_pileUp_3 : jm_dck prog_4_method_3_code 96 ((jmI_X2_pileUp).getD 3 []) = true := by decide +kernel
theorem dk_X2_pileUp_4 : jm_dck prog_4_method_3_code 128 ((jmI_X2_pileUp).getD 4 []) = true := by decide +kernel
theorem dk_X2_pileUp : jm_dcs (jm_mC jmM_X2_pileUp) 0 (jm_mI jmM_X2_pileUp) := And.intro dk_X2_pileUp_0 (And.intro dk_X2_pileUp_1 (And.intro dk_X2_pileUp_2 (And.intro dk_X2_pileUp_3 (And.intro dk_X2_pileUp_4 (trivial)))))
theorem dk_X2_layPlace_0 : jm_dck prog_4_method_4_code 0 ((jmI_X2_layPlace).getD 0 []) = true := by decide +kernel
theorem dk_X2_layPlace_1 : jm_dck prog_4_method_4_code 32 ((jmI_X2_layPlace).getD 1 []) = true := by decide +kernel
theorem dk_X2_layPlace_2 : jm_dck prog_4_method_4_code 64 ((jmI_X2_layPlace).getD 2 []) = true := by decide +kernel
theorem dk_X2_layPlace_3 : jm_dck prog_4_method_4_code 96 ((jmI_X2_layPlace).getD 3 []) = true := by decide +kernel
theorem dk_X2_layPlace_4 : jm_dck prog_4_method_4_code 128 ((jmI_X2_layPlace).getD 4 []) = true := by decide +kernel
theorem dk_X2_layPlace : jm_dcs (jm_mC jmM_X2_layPlace) 0 (jm_mI jmM_X2_layPlace) := And.intro dk_X2_layPlace_0 (And.intro dk_X2_layPlace_1 (And.intro dk_X2_layPlace_2 (And.intro dk_X2_layPlace_3 (And.intro dk_X2_layPlace_4 (trivial)))))
theorem dk_X2_numberPages_0 : jm_dck prog_4_method_5_code 0 ((jmI_X2_numberPages).getD 0 []) = true := by decide +kernel
theorem dk_X2_numberPages_1 : jm_dck prog_4_method_5_code 32 ((jmI_X2_numberPages).getD 1 []) = true := by decide +kernel
theorem dk_X2_numberPages : jm_dcs (jm_mC jmM_X2_numberPages) 0 (jm_mI jmM_X2_numberPages) := And.intro dk_X2_numberPages_0 (And.intro dk_X2_numberPages_1 (trivial))
theorem dk_X2_hasCell_0 : jm_dck prog_4_method_6_code 0 ((jmI_X2_hasCell).getD 0 []) = true := by decide +kernel
theorem dk_X2_hasCell : jm_dcs (jm_mC jmM_X2_hasCell) 0 (jm_mI jmM_X2_hasCell) := And.intro dk_X2_hasCell_0 (trivial)
theorem dk_X2_pageAt_0 : jm_dck prog_4_method_7_code 0 ((jmI_X2_pageAt).getD 0 []) = true := by decide +kernel
theorem dk_X2_pageAt : jm_dcs (jm_mC jmM_X2_pageAt) 0 (jm_mI jmM_X2_pageAt) := And.intro dk_X2_pageAt_0 (trivial)
theorem dk_X2_cellsWithOtherPages_0 : jm_dck prog_4_method_9_code 0 ((jmI_X2_cellsWithOtherPages).getD 0 []) = true := by decide +kernel
theorem dk_X2_cellsWithOtherPages_1 : jm_dck prog_4_method_9_code 32 ((jmI_X2_cellsWithOtherPages).getD 1 []) = true := by decide +kernel
theorem dk_X2_cellsWithOtherPages_2 : jm_dck prog_4_method_9_code 64 ((jmI_X2_cellsWithOtherPages).getD 2 []) = true := by decide +kernel
theorem dk_X2_cellsWithOtherPages : jm_dcs (jm_mC jmM_X2_cellsWithOtherPages) 0 (jm_mI jmM_X2_cellsWithOtherPages) := And.intro dk_X2_cellsWithOtherPages_0 (And.intro dk_X2_cellsWithOtherPages_1 (And.intro dk_X2_cellsWithOtherPages_2 (trivial)))
theorem dk_X2_frontPageByItself_0 : jm_dck prog_4_method_10_code 0 ((jmI_X2_frontPageByItself).getD 0 []) = true := by decide +kernel
theorem dk_X2_frontPageByItself_1 : jm_dck prog_4_method_10_code 32 ((jmI_X2_frontPageByItself).getD 1 []) = true := by decide +kernel
theorem dk_X2_frontPageByItself_2 : jm_dck prog_4_method_10_code 64 ((jmI_X2_frontPageByItself).getD 2 []) = true := by decide +kernel
theorem dk_X2_frontPageByItself_3 : jm_dck prog_4_method_10_code 96 ((jmI_X2_frontPageByItself).getD 3 []) = true := by decide +kernel
theorem dk_X2_frontPageByItself_4 : jm_dck prog_4_method_10_code 128 ((jmI_X2_frontPageByItself).getD 4 []) = true := by decide +kernel
theorem dk_X2_frontPageByItself_5 : jm_dck prog_4_method_10_code 160 ((jmI_X2_frontPageByItself).getD 5 []) = true := by decide +kernel
theorem dk_X2_frontPageByItself_6 : jm_dck prog_4_method_10_code 192 ((jmI_X2_frontPageByItself).getD 6 []) = true := by decide +kernel
theorem dk_X2_frontPageByItself : jm_dcs (jm_mC jmM_X2_frontPageByItself) 0 (jm_mI jmM_X2_frontPageByItself) := And.intro dk_X2_frontPageByItself_0 (And.intro dk_X2_frontPageByItself_1 (And.intro dk_X2_frontPageByItself_2 (And.intro dk_X2_frontPageByItself_3 (And.intro dk_X2_frontPageByItself_4 (And.intro dk_X2_frontPageByItself_5 (And.intro dk_X2_frontPageByItself_6 (trivial)))))))
theorem dk_X3_init_0 : jm_dck prog_5_method_1_code 0 ((jmI_X3_init).getD 0 []) = true := by decide +kernel
theorem dk_X3_init_1 : jm_dck prog_5_method_1_code 32 ((jmI_X3_init).getD 1 []) = true := by decide +kernel
theorem dk_X3_init : jm_dcs (jm_mC jmM_X3_init) 0 (jm_mI jmM_X3_init) := And.intro dk_X3_init_0 (And.intro dk_X3_init_1 (trivial))
theorem dk_X3_keep_0 : jm_dck prog_5_method_2_code 0 ((jmI_X3_keep).getD 0 []) = true := by decide +kernel
theorem dk_X3_keep_1 : jm_dck prog_5_method_2_code 32 ((jmI_X3_keep).getD 1 []) = true := by decide +kernel
theorem dk_X3_keep : jm_dcs (jm_mC jmM_X3_keep) 0 (jm_mI jmM_X3_keep) := And.intro dk_X3_keep_0 (And.intro dk_X3_keep_1 (trivial))
theorem dk_X3_forget_0 : jm_dck prog_5_method_4_code 0 ((jmI_X3_forget).getD 0 []) = true := by decide +kernel
theorem dk_X3_forget : jm_dcs (jm_mC jmM_X3_forget) 0 (jm_mI jmM_X3_forget) := And.intro dk_X3_forget_0 (trivial)
theorem dk_X4_init_0 : jm_dck prog_6_method_1_code 0 ((jmI_X4_init).getD 0 []) = true := by decide +kernel
theorem dk_X4_init_1 : jm_dck prog_6_method_1_code 32 ((jmI_X4_init).getD 1 []) = true := by decide +kernel
theorem dk_X4_init : jm_dcs (jm_mC jmM_X4_init) 0 (jm_mI jmM_X4_init) := And.intro dk_X4_init_0 (And.intro dk_X4_init_1 (trivial))
theorem dk_X4_copyFrom_0 : jm_dck prog_6_method_2_code 0 ((jmI_X4_copyFrom).getD 0 []) = true := by decide +kernel
theorem dk_X4_copyFrom_1 : jm_dck prog_6_method_2_code 32 ((jmI_X4_copyFrom).getD 1 []) = true := by decide +kernel
theorem dk_X4_copyFrom_2 : jm_dck prog_6_method_2_code 64 ((jmI_X4_copyFrom).getD 2 []) = true := by decide +kernel
theorem dk_X4_copyFrom : jm_dcs (jm_mC jmM_X4_copyFrom) 0 (jm_mI jmM_X4_copyFrom) := And.intro dk_X4_copyFrom_0 (And.intro dk_X4_copyFrom_1 (And.intro dk_X4_copyFrom_2 (trivial)))
theorem dk_X4_begin_0 : jm_dck prog_6_method_3_code 0 ((jmI_X4_begin).getD 0 []) = true := by decide +kernel
theorem dk_X4_begin_1 : jm_dck prog_6_method_3_code 32 ((jmI_X4_begin).getD 1 []) = true := by decide +kernel
theorem dk_X4_begin : jm_dcs (jm_mC jmM_X4_begin) 0 (jm_mI jmM_X4_begin) := And.intro dk_X4_begin_0 (And.intro dk_X4_begin_1 (trivial))
theorem dk_X4_hasSeries_0 : jm_dck prog_6_method_4_code 0 ((jmI_X4_hasSeries).getD 0 []) = true := by decide +kernel
theorem dk_X4_hasSeries : jm_dcs (jm_mC jmM_X4_hasSeries) 0 (jm_mI jmM_X4_hasSeries) := And.intro dk_X4_hasSeries_0 (trivial)
theorem dk_X4_seriesNamed_0 : jm_dck prog_6_method_5_code 0 ((jmI_X4_seriesNamed).getD 0 []) = true := by decide +kernel
theorem dk_X4_seriesNamed_1 : jm_dck prog_6_method_5_code 32 ((jmI_X4_seriesNamed).getD 1 []) = true := by decide +kernel
theorem dk_X4_seriesNamed : jm_dcs (jm_mC jmM_X4_seriesNamed) 0 (jm_mI jmM_X4_seriesNamed) := And.intro dk_X4_seriesNamed_0 (And.intro dk_X4_seriesNamed_1 (trivial))
theorem dk_X4_addSeries_0 : jm_dck prog_6_method_6_code 0 ((jmI_X4_addSeries).getD 0 []) = true := by decide +kernel
theorem dk_X4_addSeries_1 : jm_dck prog_6_method_6_code 32 ((jmI_X4_addSeries).getD 1 []) = true := by decide +kernel
theorem dk_X4_addSeries : jm_dcs (jm_mC jmM_X4_addSeries) 0 (jm_mI jmM_X4_addSeries) := And.intro dk_X4_addSeries_0 (And.intro dk_X4_addSeries_1 (trivial))
theorem dk_X4_sheetsInAll_0 : jm_dck prog_6_method_7_code 0 ((jmI_X4_sheetsInAll).getD 0 []) = true := by decide +kernel
theorem dk_X4_sheetsInAll_1 : jm_dck prog_6_method_7_code 32 ((jmI_X4_sheetsInAll).getD 1 []) = true := by decide +kernel
theorem dk_X4_sheetsInAll : jm_dcs (jm_mC jmM_X4_sheetsInAll) 0 (jm_mI jmM_X4_sheetsInAll) := And.intro dk_X4_sheetsInAll_0 (And.intro dk_X4_sheetsInAll_1 (trivial))
theorem dk_X4_stacksInAll_0 : jm_dck prog_6_method_8_code 0 ((jmI_X4_stacksInAll).getD 0 []) = true := by decide +kernel
theorem dk_X4_stacksInAll_1 : jm_dck prog_6_method_8_code 32 ((jmI_X4_stacksInAll).getD 1 []) = true := by decide +kernel
theorem dk_X4_stacksInAll : jm_dcs (jm_mC jmM_X4_stacksInAll) 0 (jm_mI jmM_X4_stacksInAll) := And.intro dk_X4_stacksInAll_0 (And.intro dk_X4_stacksInAll_1 (trivial))
theorem dk_X4_areaInAll_0 : jm_dck prog_6_method_9_code 0 ((jmI_X4_areaInAll).getD 0 []) = true := by decide +kernel
theorem dk_X4_areaInAll_1 : jm_dck prog_6_method_9_code 32 ((jmI_X4_areaInAll).getD 1 []) = true := by decide +kernel
theorem dk_X4_areaInAll_2 : jm_dck prog_6_method_9_code 64 ((jmI_X4_areaInAll).getD 2 []) = true := by decide +kernel
theorem dk_X4_areaInAll : jm_dcs (jm_mC jmM_X4_areaInAll) 0 (jm_mI jmM_X4_areaInAll) := And.intro dk_X4_areaInAll_0 (And.intro dk_X4_areaInAll_1 (And.intro dk_X4_areaInAll_2 (trivial)))
theorem dk_X4_refusalToBuy_0 : jm_dck prog_6_method_11_code 0 ((jmI_X4_refusalToBuy).getD 0 []) = true := by decide +kernel
theorem dk_X4_refusalToBuy_1 : jm_dck prog_6_method_11_code 32 ((jmI_X4_refusalToBuy).getD 1 []) = true := by decide +kernel
theorem dk_X4_refusalToBuy : jm_dcs (jm_mC jmM_X4_refusalToBuy) 0 (jm_mI jmM_X4_refusalToBuy) := And.intro dk_X4_refusalToBuy_0 (And.intro dk_X4_refusalToBuy_1 (trivial))
theorem dk_X4_takeIn_0 : jm_dck prog_6_method_12_code 0 ((jmI_X4_takeIn).getD 0 []) = true := by decide +kernel
theorem dk_X4_takeIn_1 : jm_dck prog_6_method_12_code 32 ((jmI_X4_takeIn).getD 1 []) = true := by decide +kernel
theorem dk_X4_takeIn : jm_dcs (jm_mC jmM_X4_takeIn) 0 (jm_mI jmM_X4_takeIn) := And.intro dk_X4_takeIn_0 (And.intro dk_X4_takeIn_1 (trivial))
theorem dk_X4_refusalToCut_0 : jm_dck prog_6_method_13_code 0 ((jmI_X4_refusalToCut).getD 0 []) = true := by decide +kernel
theorem dk_X4_refusalToCut_1 : jm_dck prog_6_method_13_code 32 ((jmI_X4_refusalToCut).getD 1 []) = true := by decide +kernel
theorem dk_X4_refusalToCut : jm_dcs (jm_mC jmM_X4_refusalToCut) 0 (jm_mI jmM_X4_refusalToCut) := And.intro dk_X4_refusalToCut_0 (And.intro dk_X4_refusalToCut_1 (trivial))
theorem dk_X4_cutUp_0 : jm_dck prog_6_method_14_code 0 ((jmI_X4_cutUp).getD 0 []) = true := by decide +kernel
theorem dk_X4_cutUp_1 : jm_dck prog_6_method_14_code 32 ((jmI_X4_cutUp).getD 1 []) = true := by decide +kernel
theorem dk_X4_cutUp_2 : jm_dck prog_6_method_14_code 64 ((jmI_X4_cutUp).getD 2 []) = true := by decide +kernel
theorem dk_X4_cutUp : jm_dcs (jm_mC jmM_X4_cutUp) 0 (jm_mI jmM_X4_cutUp) := And.intro dk_X4_cutUp_0 (And.intro dk_X4_cutUp_1 (And.intro dk_X4_cutUp_2 (trivial)))
theorem dk_X4_fill_0 : jm_dck prog_6_method_15_code 0 ((jmI_X4_fill).getD 0 []) = true := by decide +kernel
theorem dk_X4_fill_1 : jm_dck prog_6_method_15_code 32 ((jmI_X4_fill).getD 1 []) = true := by decide +kernel
theorem dk_X4_fill_2 : jm_dck prog_6_method_15_code 64 ((jmI_X4_fill).getD 2 []) = true := by decide +kernel
theorem dk_X4_fill_3 : jm_dck prog_6_method_15_code 96 ((jmI_X4_fill).getD 3 []) = true := by decide +kernel
theorem dk_X4_fill_4 : jm_dck prog_6_method_15_code 128 ((jmI_X4_fill).getD 4 []) = true := by decide +kernel
theorem dk_X4_fill : jm_dcs (jm_mC jmM_X4_fill) 0 (jm_mI jmM_X4_fill) := And.intro dk_X4_fill_0 (And.intro dk_X4_fill_1 (And.intro dk_X4_fill_2 (And.intro dk_X4_fill_3 (And.intro dk_X4_fill_4 (trivial)))))
theorem dk_X5_init_0 : jm_dck prog_7_method_1_code 0 ((jmI_X5_init).getD 0 []) = true := by decide +kernel
theorem dk_X5_init : jm_dcs (jm_mC jmM_X5_init) 0 (jm_mI jmM_X5_init) := And.intro dk_X5_init_0 (trivial)
theorem dk_X5_make_0 : jm_dck prog_7_method_2_code 0 ((jmI_X5_make).getD 0 []) = true := by decide +kernel
theorem dk_X5_make_1 : jm_dck prog_7_method_2_code 32 ((jmI_X5_make).getD 1 []) = true := by decide +kernel
theorem dk_X5_make_2 : jm_dck prog_7_method_2_code 64 ((jmI_X5_make).getD 2 []) = true := by decide +kernel
theorem dk_X5_make_3 : jm_dck prog_7_method_2_code 96 ((jmI_X5_make).getD 3 []) = true := by decide +kernel
theorem dk_X5_make_4 : jm_dck prog_7_method_2_code 128 ((jmI_X5_make).getD 4 []) = true := by decide +kernel
theorem dk_X5_make : jm_dcs (jm_mC jmM_X5_make) 0 (jm_mI jmM_X5_make) := And.intro dk_X5_make_0 (And.intro dk_X5_make_1 (And.intro dk_X5_make_2 (And.intro dk_X5_make_3 (And.intro dk_X5_make_4 (trivial)))))
theorem dk_X5_weighSeries_0 : jm_dck prog_7_method_3_code 0 ((jmI_X5_weighSeries).getD 0 []) = true := by decide +kernel
theorem dk_X5_weighSeries_1 : jm_dck prog_7_method_3_code 32 ((jmI_X5_weighSeries).getD 1 []) = true := by decide +kernel
theorem dk_X5_weighSeries_2 : jm_dck prog_7_method_3_code 64 ((jmI_X5_weighSeries).getD 2 []) = true := by decide +kernel
theorem dk_X5_weighSeries_3 : jm_dck prog_7_method_3_code 96 ((jmI_X5_weighSeries).getD 3 []) = true := by decide +kernel
theorem dk_X5_weighSeries : jm_dcs (jm_mC jmM_X5_weighSeries) 0 (jm_mI jmM_X5_weighSeries) := And.intro dk_X5_weighSeries_0 (And.intro dk_X5_weighSeries_1 (And.intro dk_X5_weighSeries_2 (And.intro dk_X5_weighSeries_3 (trivial))))
theorem dk_X5_isNearer_0 : jm_dck prog_7_method_4_code 0 ((jmI_X5_isNearer).getD 0 []) = true := by decide +kernel
theorem dk_X5_isNearer_1 : jm_dck prog_7_method_4_code 32 ((jmI_X5_isNearer).getD 1 []) = true := by decide +kernel
theorem dk_X5_isNearer : jm_dcs (jm_mC jmM_X5_isNearer) 0 (jm_mI jmM_X5_isNearer) := And.intro dk_X5_isNearer_0 (And.intro dk_X5_isNearer_1 (trivial))
theorem dk_X5_told_0 : jm_dck prog_7_method_5_code 0 ((jmI_X5_told).getD 0 []) = true := by decide +kernel
theorem dk_X5_told : jm_dcs (jm_mC jmM_X5_told) 0 (jm_mI jmM_X5_told) := And.intro dk_X5_told_0 (trivial)
theorem dk_X6_init_0 : jm_dck prog_8_method_1_code 0 ((jmI_X6_init).getD 0 []) = true := by decide +kernel
theorem dk_X6_init : jm_dcs (jm_mC jmM_X6_init) 0 (jm_mI jmM_X6_init) := And.intro dk_X6_init_0 (trivial)
theorem dk_X6_copyFrom_0 : jm_dck prog_8_method_2_code 0 ((jmI_X6_copyFrom).getD 0 []) = true := by decide +kernel
theorem dk_X6_copyFrom_1 : jm_dck prog_8_method_2_code 32 ((jmI_X6_copyFrom).getD 1 []) = true := by decide +kernel
theorem dk_X6_copyFrom : jm_dcs (jm_mC jmM_X6_copyFrom) 0 (jm_mI jmM_X6_copyFrom) := And.intro dk_X6_copyFrom_0 (And.intro dk_X6_copyFrom_1 (trivial))
theorem dk_X6_forget_0 : jm_dck prog_8_method_3_code 0 ((jmI_X6_forget).getD 0 []) = true := by decide +kernel
theorem dk_X6_forget : jm_dcs (jm_mC jmM_X6_forget) 0 (jm_mI jmM_X6_forget) := And.intro dk_X6_forget_0 (trivial)
theorem dk_X6_placeOf_0 : jm_dck prog_8_method_4_code 0 ((jmI_X6_placeOf).getD 0 []) = true := by decide +kernel
theorem dk_X6_placeOf_1 : jm_dck prog_8_method_4_code 32 ((jmI_X6_placeOf).getD 1 []) = true := by decide +kernel
theorem dk_X6_placeOf : jm_dcs (jm_mC jmM_X6_placeOf) 0 (jm_mI jmM_X6_placeOf) := And.intro dk_X6_placeOf_0 (And.intro dk_X6_placeOf_1 (trivial))
theorem dk_X6_note_0 : jm_dck prog_8_method_7_code 0 ((jmI_X6_note).getD 0 []) = true := by decide +kernel
theorem dk_X6_note_1 : jm_dck prog_8_method_7_code 32 ((jmI_X6_note).getD 1 []) = true := by decide +kernel
theorem dk_X6_note_2 : jm_dck prog_8_method_7_code 64 ((jmI_X6_note).getD 2 []) = true := by decide +kernel
theorem dk_X6_note : jm_dcs (jm_mC jmM_X6_note) 0 (jm_mI jmM_X6_note) := And.intro dk_X6_note_0 (And.intro dk_X6_note_1 (And.intro dk_X6_note_2 (trivial)))
theorem dk_X7_init_0 : jm_dck prog_9_method_1_code 0 ((jmI_X7_init).getD 0 []) = true := by decide +kernel
theorem dk_X7_init : jm_dcs (jm_mC jmM_X7_init) 0 (jm_mI jmM_X7_init) := And.intro dk_X7_init_0 (trivial)
theorem dk_X7_begin_0 : jm_dck prog_9_method_2_code 0 ((jmI_X7_begin).getD 0 []) = true := by decide +kernel
theorem dk_X7_begin : jm_dcs (jm_mC jmM_X7_begin) 0 (jm_mI jmM_X7_begin) := And.intro dk_X7_begin_0 (trivial)
theorem dk_X7_advance_0 : jm_dck prog_9_method_3_code 0 ((jmI_X7_advance).getD 0 []) = true := by decide +kernel
theorem dk_X7_advance_1 : jm_dck prog_9_method_3_code 32 ((jmI_X7_advance).getD 1 []) = true := by decide +kernel
theorem dk_X7_advance_2 : jm_dck prog_9_method_3_code 64 ((jmI_X7_advance).getD 2 []) = true := by decide +kernel
theorem dk_X7_advance_3 : jm_dck prog_9_method_3_code 96 ((jmI_X7_advance).getD 3 []) = true := by decide +kernel
theorem dk_X7_advance_4 : jm_dck prog_9_method_3_code 128 ((jmI_X7_advance).getD 4 []) = true := by decide +kernel
theorem dk_X7_advance_5 : jm_dck prog_9_method_3_code 160 ((jmI_X7_advance).getD 5 []) = true := by decide +kernel
theorem dk_X7_advance_6 : jm_dck prog_9_method_3_code 192 ((jmI_X7_advance).getD 6 []) = true := by decide +kernel
theorem dk_X7_advance_7 : jm_dck prog_9_method_3_code 224 ((jmI_X7_advance).getD 7 []) = true := by decide +kernel
theorem dk_X7_advance : jm_dcs (jm_mC jmM_X7_advance) 0 (jm_mI jmM_X7_advance) := And.intro dk_X7_advance_0 (And.intro dk_X7_advance_1 (And.intro dk_X7_advance_2 (And.intro dk_X7_advance_3 (And.intro dk_X7_advance_4 (And.intro dk_X7_advance_5 (And.intro dk_X7_advance_6 (And.intro dk_X7_advance_7 (trivial))))))))
theorem dk_X7_fail_0 : jm_dck prog_9_method_4_code 0 ((jmI_X7_fail).getD 0 []) = true := by decide +kernel
theorem dk_X7_fail : jm_dcs (jm_mC jmM_X7_fail) 0 (jm_mI jmM_X7_fail) := And.intro dk_X7_fail_0 (trivial)
theorem dk_X7_isWord_0 : jm_dck prog_9_method_5_code 0 ((jmI_X7_isWord).getD 0 []) = true := by decide +kernel
theorem dk_X7_isWord_1 : jm_dck prog_9_method_5_code 32 ((jmI_X7_isWord).getD 1 []) = true := by decide +kernel
theorem dk_X7_isWord_2 : jm_dck prog_9_method_5_code 64 ((jmI_X7_isWord).getD 2 []) = true := by decide +kernel
theorem dk_X7_isWord : jm_dcs (jm_mC jmM_X7_isWord) 0 (jm_mI jmM_X7_isWord) := And.intro dk_X7_isWord_0 (And.intro dk_X7_isWord_1 (And.intro dk_X7_isWord_2 (trivial)))
theorem dk_X7_isSign_0 : jm_dck prog_9_method_6_code 0 ((jmI_X7_isSign).getD 0 []) = true := by decide +kernel
theorem dk_X7_isSign : jm_dcs (jm_mC jmM_X7_isSign) 0 (jm_mI jmM_X7_isSign) := And.intro dk_X7_isSign_0 (trivial)
theorem dk_X7_takeSign_0 : jm_dck prog_9_method_7_code 0 ((jmI_X7_takeSign).getD 0 []) = true := by decide +kernel
theorem dk_X7_takeSign : jm_dcs (jm_mC jmM_X7_takeSign) 0 (jm_mI jmM_X7_takeSign) := And.intro dk_X7_takeSign_0 (trivial)
theorem dk_X7_seesName_0 : jm_dck prog_9_method_8_code 0 ((jmI_X7_seesName).getD 0 []) = true := by decide +kernel
theorem dk_X7_seesName_1 : jm_dck prog_9_method_8_code 32 ((jmI_X7_seesName).getD 1 []) = true := by decide +kernel
theorem dk_X7_seesName : jm_dcs (jm_mC jmM_X7_seesName) 0 (jm_mI jmM_X7_seesName) := And.intro dk_X7_seesName_0 (And.intro dk_X7_seesName_1 (trivial))
theorem dk_X7_seesNumber_0 : jm_dck prog_9_method_9_code 0 ((jmI_X7_seesNumber).getD 0 []) = true := by decide +kernel
theorem dk_X7_seesNumber_1 : jm_dck prog_9_method_9_code 32 ((jmI_X7_seesNumber).getD 1 []) = true := by decide +kernel
theorem dk_X7_seesNumber : jm_dcs (jm_mC jmM_X7_seesNumber) 0 (jm_mI jmM_X7_seesNumber) := And.intro dk_X7_seesNumber_0 (And.intro dk_X7_seesNumber_1 (trivial))
theorem dk_X8_init_0 : jm_dck prog_10_method_1_code 0 ((jmI_X8_init).getD 0 []) = true := by decide +kernel
theorem dk_X8_init_1 : jm_dck prog_10_method_1_code 32 ((jmI_X8_init).getD 1 []) = true := by decide +kernel
theorem dk_X8_init : jm_dcs (jm_mC jmM_X8_init) 0 (jm_mI jmM_X8_init) := And.intro dk_X8_init_0 (And.intro dk_X8_init_1 (trivial))
theorem dk_X9_init_0 : jm_dck prog_11_method_1_code 0 ((jmI_X9_init).getD 0 []) = true := by decide +kernel
theorem dk_X9_init_1 : jm_dck prog_11_method_1_code 32 ((jmI_X9_init).getD 1 []) = true := by decide +kernel
theorem dk_X9_init : jm_dcs (jm_mC jmM_X9_init) 0 (jm_mI jmM_X9_init) := And.intro dk_X9_init_0 (And.intro dk_X9_init_1 (trivial))
theorem dk_X9_copyFrom_0 : jm_dck prog_11_method_2_code 0 ((jmI_X9_copyFrom).getD 0 []) = true := by decide +kernel
theorem dk_X9_copyFrom_1 : jm_dck prog_11_method_2_code 32 ((jmI_X9_copyFrom).getD 1 []) = true := by decide +kernel
theorem dk_X9_copyFrom_2 : jm_dck prog_11_method_2_code 64 ((jmI_X9_copyFrom).getD 2 []) = true := by decide +kernel
theorem dk_X9_copyFrom : jm_dcs (jm_mC jmM_X9_copyFrom) 0 (jm_mI jmM_X9_copyFrom) := And.intro dk_X9_copyFrom_0 (And.intro dk_X9_copyFrom_1 (And.intro dk_X9_copyFrom_2 (trivial)))
theorem dk_X9_setName_0 : jm_dck prog_11_method_3_code 0 ((jmI_X9_setName).getD 0 []) = true := by decide +kernel
theorem dk_X9_setName_1 : jm_dck prog_11_method_3_code 32 ((jmI_X9_setName).getD 1 []) = true := by decide +kernel
theorem dk_X9_setName : jm_dcs (jm_mC jmM_X9_setName) 0 (jm_mI jmM_X9_setName) := And.intro dk_X9_setName_0 (And.intro dk_X9_setName_1 (trivial))
theorem dk_X9_hasName_0 : jm_dck prog_11_method_4_code 0 ((jmI_X9_hasName).getD 0 []) = true := by decide +kernel
theorem dk_X9_hasName_1 : jm_dck prog_11_method_4_code 32 ((jmI_X9_hasName).getD 1 []) = true := by decide +kernel
theorem dk_X9_hasName : jm_dcs (jm_mC jmM_X9_hasName) 0 (jm_mI jmM_X9_hasName) := And.intro dk_X9_hasName_0 (And.intro dk_X9_hasName_1 (trivial))
theorem dk_X9_setSides_0 : jm_dck prog_11_method_6_code 0 ((jmI_X9_setSides).getD 0 []) = true := by decide +kernel
theorem dk_X9_setSides_1 : jm_dck prog_11_method_6_code 32 ((jmI_X9_setSides).getD 1 []) = true := by decide +kernel
theorem dk_X9_setSides_2 : jm_dck prog_11_method_6_code 64 ((jmI_X9_setSides).getD 2 []) = true := by decide +kernel
theorem dk_X9_setSides : jm_dcs (jm_mC jmM_X9_setSides) 0 (jm_mI jmM_X9_setSides) := And.intro dk_X9_setSides_0 (And.intro dk_X9_setSides_1 (And.intro dk_X9_setSides_2 (trivial)))
theorem dk_X9_isVoid_0 : jm_dck prog_11_method_7_code 0 ((jmI_X9_isVoid).getD 0 []) = true := by decide +kernel
theorem dk_X9_isVoid : jm_dcs (jm_mC jmM_X9_isVoid) 0 (jm_mI jmM_X9_isVoid) := And.intro dk_X9_isVoid_0 (trivial)
theorem dk_X9_wideAt_0 : jm_dck prog_11_method_8_code 0 ((jmI_X9_wideAt).getD 0 []) = true := by decide +kernel
theorem dk_X9_wideAt : jm_dcs (jm_mC jmM_X9_wideAt) 0 (jm_mI jmM_X9_wideAt) := And.intro dk_X9_wideAt_0 (trivial)
theorem dk_X9_highAt_0 : jm_dck prog_11_method_9_code 0 ((jmI_X9_highAt).getD 0 []) = true := by decide +kernel
theorem dk_X9_highAt : jm_dcs (jm_mC jmM_X9_highAt) 0 (jm_mI jmM_X9_highAt) := And.intro dk_X9_highAt_0 (trivial)
theorem dk_X9_areaAt_0 : jm_dck prog_11_method_12_code 0 ((jmI_X9_areaAt).getD 0 []) = true := by decide +kernel
theorem dk_X9_areaAt : jm_dcs (jm_mC jmM_X9_areaAt) 0 (jm_mI jmM_X9_areaAt) := And.intro dk_X9_areaAt_0 (trivial)
theorem dk_X9_sheetsAt_0 : jm_dck prog_11_method_13_code 0 ((jmI_X9_sheetsAt).getD 0 []) = true := by decide +kernel
theorem dk_X9_sheetsAt : jm_dcs (jm_mC jmM_X9_sheetsAt) 0 (jm_mI jmM_X9_sheetsAt) := And.intro dk_X9_sheetsAt_0 (trivial)
theorem dk_X9_addSheets_0 : jm_dck prog_11_method_14_code 0 ((jmI_X9_addSheets).getD 0 []) = true := by decide +kernel
theorem dk_X9_addSheets : jm_dcs (jm_mC jmM_X9_addSheets) 0 (jm_mI jmM_X9_addSheets) := And.intro dk_X9_addSheets_0 (trivial)
theorem dk_X9_stripAt_0 : jm_dck prog_11_method_15_code 0 ((jmI_X9_stripAt).getD 0 []) = true := by decide +kernel
theorem dk_X9_stripAt : jm_dcs (jm_mC jmM_X9_stripAt) 0 (jm_mI jmM_X9_stripAt) := And.intro dk_X9_stripAt_0 (trivial)
theorem dk_X9_supplyAt_0 : jm_dck prog_11_method_16_code 0 ((jmI_X9_supplyAt).getD 0 []) = true := by decide +kernel
theorem dk_X9_supplyAt_1 : jm_dck prog_11_method_16_code 32 ((jmI_X9_supplyAt).getD 1 []) = true := by decide +kernel
theorem dk_X9_supplyAt : jm_dcs (jm_mC jmM_X9_supplyAt) 0 (jm_mI jmM_X9_supplyAt) := And.intro dk_X9_supplyAt_0 (And.intro dk_X9_supplyAt_1 (trivial))
theorem dk_X9_foldsAt_0 : jm_dck prog_11_method_17_code 0 ((jmI_X9_foldsAt).getD 0 []) = true := by decide +kernel
theorem dk_X9_foldsAt_1 : jm_dck prog_11_method_17_code 32 ((jmI_X9_foldsAt).getD 1 []) = true := by decide +kernel
theorem dk_X9_foldsAt : jm_dcs (jm_mC jmM_X9_foldsAt) 0 (jm_mI jmM_X9_foldsAt) := And.intro dk_X9_foldsAt_0 (And.intro dk_X9_foldsAt_1 (trivial))
theorem dk_X9_fits_0 : jm_dck prog_11_method_18_code 0 ((jmI_X9_fits).getD 0 []) = true := by decide +kernel
theorem dk_X9_fits_1 : jm_dck prog_11_method_18_code 32 ((jmI_X9_fits).getD 1 []) = true := by decide +kernel
theorem dk_X9_fits : jm_dcs (jm_mC jmM_X9_fits) 0 (jm_mI jmM_X9_fits) := And.intro dk_X9_fits_0 (And.intro dk_X9_fits_1 (trivial))
theorem dk_X10_init_0 : jm_dck prog_12_method_1_code 0 ((jmI_X10_init).getD 0 []) = true := by decide +kernel
theorem dk_X10_init : jm_dcs (jm_mC jmM_X10_init) 0 (jm_mI jmM_X10_init) := And.intro dk_X10_init_0 (trivial)
theorem dk_X10_readInto_0 : jm_dck prog_12_method_2_code 0 ((jmI_X10_readInto).getD 0 []) = true := by decide +kernel
theorem dk_X10_readInto_1 : jm_dck prog_12_method_2_code 32 ((jmI_X10_readInto).getD 1 []) = true := by decide +kernel
theorem dk_X10_readInto_2 : jm_dck prog_12_method_2_code 64 ((jmI_X10_readInto).getD 2 []) = true := by decide +kernel
theorem dk_X10_readInto : jm_dcs (jm_mC jmM_X10_readInto) 0 (jm_mI jmM_X10_readInto) := And.intro dk_X10_readInto_0 (And.intro dk_X10_readInto_1 (And.intro dk_X10_readInto_2 (trivial)))
theorem dk_X10_readHead_0 : jm_dck prog_12_method_3_code 0 ((jmI_X10_readHead).getD 0 []) = true := by decide +kernel
theorem dk_X10_readHead_1 : jm_dck prog_12_method_3_code 32 ((jmI_X10_readHead).getD 1 []) = true := by decide +kernel
theorem dk_X10_readHead_2 : jm_dck prog_12_method_3_code 64 ((jmI_X10_readHead).getD 2 []) = true := by decide +kernel
theorem dk_X10_readHead_3 : jm_dck prog_12_method_3_code 96 ((jmI_X10_readHead).getD 3 []) = true := by decide +kernel
theorem dk_X10_readHead : jm_dcs (jm_mC jmM_X10_readHead) 0 (jm_mI jmM_X10_readHead) := And.intro dk_X10_readHead_0 (And.intro dk_X10_readHead_1 (And.intro dk_X10_readHead_2 (And.intro dk_X10_readHead_3 (trivial))))
theorem dk_X10_readSeries_0 : jm_dck prog_12_method_4_code 0 ((jmI_X10_readSeries).getD 0 []) = true := by decide +kernel
theorem dk_X10_readSeries_1 : jm_dck prog_12_method_4_code 32 ((jmI_X10_readSeries).getD 1 []) = true := by decide +kernel
theorem dk_X10_readSeries_2 : jm_dck prog_12_method_4_code 64 ((jmI_X10_readSeries).getD 2 []) = true := by decide +kernel
theorem dk_X10_readSeries_3 : jm_dck prog_12_method_4_code 96 ((jmI_X10_readSeries).getD 3 []) = true := by decide +kernel
theorem dk_X10_readSeries_4 : jm_dck prog_12_method_4_code 128 ((jmI_X10_readSeries).getD 4 []) = true := by decide +kernel
theorem dk_X10_readSeries_5 : jm_dck prog_12_method_4_code 160 ((jmI_X10_readSeries).getD 5 []) = true := by decide +kernel
theorem dk_X10_readSeries_6 : jm_dck prog_12_method_4_code 192 ((jmI_X10_readSeries).getD 6 []) = true := by decide +kernel
theorem dk_X10_readSeries : jm_dcs (jm_mC jmM_X10_readSeries) 0 (jm_mI jmM_X10_readSeries) := And.intro dk_X10_readSeries_0 (And.intro dk_X10_readSeries_1 (And.intro dk_X10_readSeries_2 (And.intro dk_X10_readSeries_3 (And.intro dk_X10_readSeries_4 (And.intro dk_X10_readSeries_5 (And.intro dk_X10_readSeries_6 (trivial)))))))
theorem dk_X10_readSizes_0 : jm_dck prog_12_method_5_code 0 ((jmI_X10_readSizes).getD 0 []) = true := by decide +kernel
theorem dk_X10_readSizes_1 : jm_dck prog_12_method_5_code 32 ((jmI_X10_readSizes).getD 1 []) = true := by decide +kernel
theorem dk_X10_readSizes_2 : jm_dck prog_12_method_5_code 64 ((jmI_X10_readSizes).getD 2 []) = true := by decide +kernel
theorem dk_X10_readSizes : jm_dcs (jm_mC jmM_X10_readSizes) 0 (jm_mI jmM_X10_readSizes) := And.intro dk_X10_readSizes_0 (And.intro dk_X10_readSizes_1 (And.intro dk_X10_readSizes_2 (trivial)))
theorem dk_X10_readStack_0 : jm_dck prog_12_method_6_code 0 ((jmI_X10_readStack).getD 0 []) = true := by decide +kernel
theorem dk_X10_readStack_1 : jm_dck prog_12_method_6_code 32 ((jmI_X10_readStack).getD 1 []) = true := by decide +kernel
theorem dk_X10_readStack_2 : jm_dck prog_12_method_6_code 64 ((jmI_X10_readStack).getD 2 []) = true := by decide +kernel
theorem dk_X10_readStack_3 : jm_dck prog_12_method_6_code 96 ((jmI_X10_readStack).getD 3 []) = true := by decide +kernel
theorem dk_X10_readStack : jm_dcs (jm_mC jmM_X10_readStack) 0 (jm_mI jmM_X10_readStack) := And.intro dk_X10_readStack_0 (And.intro dk_X10_readStack_1 (And.intro dk_X10_readStack_2 (And.intro dk_X10_readStack_3 (trivial))))
theorem dk_X11_init_0 : jm_dck prog_1_method_1_code 0 ((jmI_X11_init).getD 0 []) = true := by decide +kernel
theorem dk_X11_init_1 : jm_dck prog_1_method_1_code 32 ((jmI_X11_init).getD 1 []) = true := by decide +kernel
theorem dk_X11_init_2 : jm_dck prog_1_method_1_code 64 ((jmI_X11_init).getD 2 []) = true := by decide +kernel
theorem dk_X11_init_3 : jm_dck prog_1_method_1_code 96 ((jmI_X11_init).getD 3 []) = true := by decide +kernel
theorem dk_X11_init_4 : jm_dck prog_1_method_1_code 128 ((jmI_X11_init).getD 4 []) = true := by decide +kernel
theorem dk_X11_init_5 : jm_dck prog_1_method_1_code 160 ((jmI_X11_init).getD 5 []) = true := by decide +kernel
theorem dk_X11_init_6 : jm_dck prog_1_method_1_code 192 ((jmI_X11_init).getD 6 []) = true := by decide +kernel
theorem dk_X11_init : jm_dcs (jm_mC jmM_X11_init) 0 (jm_mI jmM_X11_init) := And.intro dk_X11_init_0 (And.intro dk_X11_init_1 (And.intro dk_X11_init_2 (And.intro dk_X11_init_3 (And.intro dk_X11_init_4 (And.intro dk_X11_init_5 (And.intro dk_X11_init_6 (trivial)))))))
theorem dk_X11_append_0 : jm_dck prog_1_method_2_code 0 ((jmI_X11_append).getD 0 []) = true := by decide +kernel
theorem dk_X11_append_1 : jm_dck prog_1_method_2_code 32 ((jmI_X11_append).getD 1 []) = true := by decide +kernel
theorem dk_X11_append_2 : jm_dck prog_1_method_2_code 64 ((jmI_X11_append).getD 2 []) = true := by decide +kernel
theorem dk_X11_append : jm_dcs (jm_mC jmM_X11_append) 0 (jm_mI jmM_X11_append) := And.intro dk_X11_append_0 (And.intro dk_X11_append_1 (And.intro dk_X11_append_2 (trivial)))
theorem dk_X11_truncate_0 : jm_dck prog_1_method_3_code 0 ((jmI_X11_truncate).getD 0 []) = true := by decide +kernel
theorem dk_X11_truncate_1 : jm_dck prog_1_method_3_code 32 ((jmI_X11_truncate).getD 1 []) = true := by decide +kernel
theorem dk_X11_truncate : jm_dcs (jm_mC jmM_X11_truncate) 0 (jm_mI jmM_X11_truncate) := And.intro dk_X11_truncate_0 (And.intro dk_X11_truncate_1 (trivial))
theorem dk_X11_load_0 : jm_dck prog_1_method_4_code 0 ((jmI_X11_load).getD 0 []) = true := by decide +kernel
theorem dk_X11_load : jm_dcs (jm_mC jmM_X11_load) 0 (jm_mI jmM_X11_load) := And.intro dk_X11_load_0 (trivial)
theorem dk_X11_errorCode_0 : jm_dck prog_1_method_6_code 0 ((jmI_X11_errorCode).getD 0 []) = true := by decide +kernel
theorem dk_X11_errorCode : jm_dcs (jm_mC jmM_X11_errorCode) 0 (jm_mI jmM_X11_errorCode) := And.intro dk_X11_errorCode_0 (trivial)
theorem dk_X11_readSetup_0 : jm_dck prog_1_method_8_code 0 ((jmI_X11_readSetup).getD 0 []) = true := by decide +kernel
theorem dk_X11_readSetup_1 : jm_dck prog_1_method_8_code 32 ((jmI_X11_readSetup).getD 1 []) = true := by decide +kernel
theorem dk_X11_readSetup : jm_dcs (jm_mC jmM_X11_readSetup) 0 (jm_mI jmM_X11_readSetup) := And.intro dk_X11_readSetup_0 (And.intro dk_X11_readSetup_1 (trivial))
theorem dk_X11_forgetSlotsAndRefusals_0 : jm_dck prog_1_method_9_code 0 ((jmI_X11_forgetSlotsAndRefusals).getD 0 []) = true := by decide +kernel
theorem dk_X11_forgetSlotsAndRefusals_1 : jm_dck prog_1_method_9_code 32 ((jmI_X11_forgetSlotsAndRefusals).getD 1 []) = true := by decide +kernel
theorem dk_X11_forgetSlotsAndRefusals : jm_dcs (jm_mC jmM_X11_forgetSlotsAndRefusals) 0 (jm_mI jmM_X11_forgetSlotsAndRefusals) := And.intro dk_X11_forgetSlotsAndRefusals_0 (And.intro dk_X11_forgetSlotsAndRefusals_1 (trivial))
theorem dk_X11_count_0 : jm_dck prog_1_method_13_code 0 ((jmI_X11_count).getD 0 []) = true := by decide +kernel
theorem dk_X11_count_1 : jm_dck prog_1_method_13_code 32 ((jmI_X11_count).getD 1 []) = true := by decide +kernel
theorem dk_X11_count_2 : jm_dck prog_1_method_13_code 64 ((jmI_X11_count).getD 2 []) = true := by decide +kernel
theorem dk_X11_count_3 : jm_dck prog_1_method_13_code 96 ((jmI_X11_count).getD 3 []) = true := by decide +kernel
theorem dk_X11_count : jm_dcs (jm_mC jmM_X11_count) 0 (jm_mI jmM_X11_count) := And.intro dk_X11_count_0 (And.intro dk_X11_count_1 (And.intro dk_X11_count_2 (And.intro dk_X11_count_3 (trivial))))
theorem dk_X11_size_0 : jm_dck prog_1_method_15_code 0 ((jmI_X11_size).getD 0 []) = true := by decide +kernel
theorem dk_X11_size_1 : jm_dck prog_1_method_15_code 32 ((jmI_X11_size).getD 1 []) = true := by decide +kernel
theorem dk_X11_size_2 : jm_dck prog_1_method_15_code 64 ((jmI_X11_size).getD 2 []) = true := by decide +kernel
theorem dk_X11_size_3 : jm_dck prog_1_method_15_code 96 ((jmI_X11_size).getD 3 []) = true := by decide +kernel
theorem dk_X11_size_4 : jm_dck prog_1_method_15_code 128 ((jmI_X11_size).getD 4 []) = true := by decide +kernel
theorem dk_X11_size_5 : jm_dck prog_1_method_15_code 160 ((jmI_X11_size).getD 5 []) = true := by decide +kernel
theorem dk_X11_size_6 : jm_dck prog_1_method_15_code 192 ((jmI_X11_size).getD 6 []) = true := by decide +kernel
theorem dk_X11_size : jm_dcs (jm_mC jmM_X11_size) 0 (jm_mI jmM_X11_size) := And.intro dk_X11_size_0 (And.intro dk_X11_size_1 (And.intro dk_X11_size_2 (And.intro dk_X11_size_3 (And.intro dk_X11_size_4 (And.intro dk_X11_size_5 (And.intro dk_X11_size_6 (trivial)))))))
theorem dk_X11_account_0 : jm_dck prog_1_method_21_code 0 ((jmI_X11_account).getD 0 []) = true := by decide +kernel
theorem dk_X11_account : jm_dcs (jm_mC jmM_X11_account) 0 (jm_mI jmM_X11_account) := And.intro dk_X11_account_0 (trivial)
theorem dk_X11_gap_0 : jm_dck prog_1_method_23_code 0 ((jmI_X11_gap).getD 0 []) = true := by decide +kernel
theorem dk_X11_gap_1 : jm_dck prog_1_method_23_code 32 ((jmI_X11_gap).getD 1 []) = true := by decide +kernel
theorem dk_X11_gap : jm_dcs (jm_mC jmM_X11_gap) 0 (jm_mI jmM_X11_gap) := And.intro dk_X11_gap_0 (And.intro dk_X11_gap_1 (trivial))
theorem dk_X11_mostFolds_0 : jm_dck prog_1_method_26_code 0 ((jmI_X11_mostFolds).getD 0 []) = true := by decide +kernel
theorem dk_X11_mostFolds : jm_dcs (jm_mC jmM_X11_mostFolds) 0 (jm_mI jmM_X11_mostFolds) := And.intro dk_X11_mostFolds_0 (trivial)
theorem dk_X11_grid_0 : jm_dck prog_1_method_27_code 0 ((jmI_X11_grid).getD 0 []) = true := by decide +kernel
theorem dk_X11_grid : jm_dcs (jm_mC jmM_X11_grid) 0 (jm_mI jmM_X11_grid) := And.intro dk_X11_grid_0 (trivial)
theorem dk_X11_page_0 : jm_dck prog_1_method_28_code 0 ((jmI_X11_page).getD 0 []) = true := by decide +kernel
theorem dk_X11_page_1 : jm_dck prog_1_method_28_code 32 ((jmI_X11_page).getD 1 []) = true := by decide +kernel
theorem dk_X11_page : jm_dcs (jm_mC jmM_X11_page) 0 (jm_mI jmM_X11_page) := And.intro dk_X11_page_0 (And.intro dk_X11_page_1 (trivial))
theorem dk_X11_pageGap_0 : jm_dck prog_1_method_30_code 0 ((jmI_X11_pageGap).getD 0 []) = true := by decide +kernel
theorem dk_X11_pageGap : jm_dcs (jm_mC jmM_X11_pageGap) 0 (jm_mI jmM_X11_pageGap) := And.intro dk_X11_pageGap_0 (trivial)
theorem dk_X11_foldSheet_0 : jm_dck prog_1_method_31_code 0 ((jmI_X11_foldSheet).getD 0 []) = true := by decide +kernel
theorem dk_X11_foldSheet_1 : jm_dck prog_1_method_31_code 32 ((jmI_X11_foldSheet).getD 1 []) = true := by decide +kernel
theorem dk_X11_foldSheet : jm_dcs (jm_mC jmM_X11_foldSheet) 0 (jm_mI jmM_X11_foldSheet) := And.intro dk_X11_foldSheet_0 (And.intro dk_X11_foldSheet_1 (trivial))
theorem dk_X11_fitting_0 : jm_dck prog_1_method_32_code 0 ((jmI_X11_fitting).getD 0 []) = true := by decide +kernel
theorem dk_X11_fitting_1 : jm_dck prog_1_method_32_code 32 ((jmI_X11_fitting).getD 1 []) = true := by decide +kernel
theorem dk_X11_fitting : jm_dcs (jm_mC jmM_X11_fitting) 0 (jm_mI jmM_X11_fitting) := And.intro dk_X11_fitting_0 (And.intro dk_X11_fitting_1 (trivial))
theorem dk_X11_nearest_0 : jm_dck prog_1_method_33_code 0 ((jmI_X11_nearest).getD 0 []) = true := by decide +kernel
theorem dk_X11_nearest_1 : jm_dck prog_1_method_33_code 32 ((jmI_X11_nearest).getD 1 []) = true := by decide +kernel
theorem dk_X11_nearest : jm_dcs (jm_mC jmM_X11_nearest) 0 (jm_mI jmM_X11_nearest) := And.intro dk_X11_nearest_0 (And.intro dk_X11_nearest_1 (trivial))
theorem dk_X11_buy_0 : jm_dck prog_1_method_39_code 0 ((jmI_X11_buy).getD 0 []) = true := by decide +kernel
theorem dk_X11_buy_1 : jm_dck prog_1_method_39_code 32 ((jmI_X11_buy).getD 1 []) = true := by decide +kernel
theorem dk_X11_buy : jm_dcs (jm_mC jmM_X11_buy) 0 (jm_mI jmM_X11_buy) := And.intro dk_X11_buy_0 (And.intro dk_X11_buy_1 (trivial))
theorem dk_X11_cut_0 : jm_dck prog_1_method_40_code 0 ((jmI_X11_cut).getD 0 []) = true := by decide +kernel
theorem dk_X11_cut_1 : jm_dck prog_1_method_40_code 32 ((jmI_X11_cut).getD 1 []) = true := by decide +kernel
theorem dk_X11_cut : jm_dcs (jm_mC jmM_X11_cut) 0 (jm_mI jmM_X11_cut) := And.intro dk_X11_cut_0 (And.intro dk_X11_cut_1 (trivial))
theorem dk_X11_order_0 : jm_dck prog_1_method_41_code 0 ((jmI_X11_order).getD 0 []) = true := by decide +kernel
theorem dk_X11_order : jm_dcs (jm_mC jmM_X11_order) 0 (jm_mI jmM_X11_order) := And.intro dk_X11_order_0 (trivial)
theorem dk_X11_setEdge_0 : jm_dck prog_1_method_42_code 0 ((jmI_X11_setEdge).getD 0 []) = true := by decide +kernel
theorem dk_X11_setEdge : jm_dcs (jm_mC jmM_X11_setEdge) 0 (jm_mI jmM_X11_setEdge) := And.intro dk_X11_setEdge_0 (trivial)
theorem dk_X11_doBuy_0 : jm_dck prog_1_method_44_code 0 ((jmI_X11_doBuy).getD 0 []) = true := by decide +kernel
theorem dk_X11_doBuy_1 : jm_dck prog_1_method_44_code 32 ((jmI_X11_doBuy).getD 1 []) = true := by decide +kernel
theorem dk_X11_doBuy : jm_dcs (jm_mC jmM_X11_doBuy) 0 (jm_mI jmM_X11_doBuy) := And.intro dk_X11_doBuy_0 (And.intro dk_X11_doBuy_1 (trivial))
theorem dk_X11_doCut_0 : jm_dck prog_1_method_45_code 0 ((jmI_X11_doCut).getD 0 []) = true := by decide +kernel
theorem dk_X11_doCut_1 : jm_dck prog_1_method_45_code 32 ((jmI_X11_doCut).getD 1 []) = true := by decide +kernel
theorem dk_X11_doCut : jm_dcs (jm_mC jmM_X11_doCut) 0 (jm_mI jmM_X11_doCut) := And.intro dk_X11_doCut_0 (And.intro dk_X11_doCut_1 (trivial))
theorem dk_X11_doPrintOrder_0 : jm_dck prog_1_method_46_code 0 ((jmI_X11_doPrintOrder).getD 0 []) = true := by decide +kernel
theorem dk_X11_doPrintOrder_1 : jm_dck prog_1_method_46_code 32 ((jmI_X11_doPrintOrder).getD 1 []) = true := by decide +kernel
theorem dk_X11_doPrintOrder_2 : jm_dck prog_1_method_46_code 64 ((jmI_X11_doPrintOrder).getD 2 []) = true := by decide +kernel
theorem dk_X11_doPrintOrder : jm_dcs (jm_mC jmM_X11_doPrintOrder) 0 (jm_mI jmM_X11_doPrintOrder) := And.intro dk_X11_doPrintOrder_0 (And.intro dk_X11_doPrintOrder_1 (And.intro dk_X11_doPrintOrder_2 (trivial)))
theorem dk_X11_doSetEdge_0 : jm_dck prog_1_method_47_code 0 ((jmI_X11_doSetEdge).getD 0 []) = true := by decide +kernel
theorem dk_X11_doSetEdge_1 : jm_dck prog_1_method_47_code 32 ((jmI_X11_doSetEdge).getD 1 []) = true := by decide +kernel
theorem dk_X11_doSetEdge : jm_dcs (jm_mC jmM_X11_doSetEdge) 0 (jm_mI jmM_X11_doSetEdge) := And.intro dk_X11_doSetEdge_0 (And.intro dk_X11_doSetEdge_1 (trivial))
theorem dk_X11_refuse_0 : jm_dck prog_1_method_49_code 0 ((jmI_X11_refuse).getD 0 []) = true := by decide +kernel
theorem dk_X11_refuse : jm_dcs (jm_mC jmM_X11_refuse) 0 (jm_mI jmM_X11_refuse) := And.intro dk_X11_refuse_0 (trivial)
theorem dk_X11_require_0 : jm_dck prog_1_method_56_code 0 ((jmI_X11_require).getD 0 []) = true := by decide +kernel
theorem dk_X11_require : jm_dcs (jm_mC jmM_X11_require) 0 (jm_mI jmM_X11_require) := And.intro dk_X11_require_0 (trivial)
theorem dk_X11_requireOrder_0 : jm_dck prog_1_method_57_code 0 ((jmI_X11_requireOrder).getD 0 []) = true := by decide +kernel
theorem dk_X11_requireOrder_1 : jm_dck prog_1_method_57_code 32 ((jmI_X11_requireOrder).getD 1 []) = true := by decide +kernel
theorem dk_X11_requireOrder : jm_dcs (jm_mC jmM_X11_requireOrder) 0 (jm_mI jmM_X11_requireOrder) := And.intro dk_X11_requireOrder_0 (And.intro dk_X11_requireOrder_1 (trivial))
theorem dk_X11_requireSize_0 : jm_dck prog_1_method_59_code 0 ((jmI_X11_requireSize).getD 0 []) = true := by decide +kernel
theorem dk_X11_requireSize_1 : jm_dck prog_1_method_59_code 32 ((jmI_X11_requireSize).getD 1 []) = true := by decide +kernel
theorem dk_X11_requireSize : jm_dcs (jm_mC jmM_X11_requireSize) 0 (jm_mI jmM_X11_requireSize) := And.intro dk_X11_requireSize_0 (And.intro dk_X11_requireSize_1 (trivial))
theorem dk_X11_isSide_0 : jm_dck prog_1_method_61_code 0 ((jmI_X11_isSide).getD 0 []) = true := by decide +kernel
theorem dk_X11_isSide : jm_dcs (jm_mC jmM_X11_isSide) 0 (jm_mI jmM_X11_isSide) := And.intro dk_X11_isSide_0 (trivial)
theorem dk_X11_usable_0 : jm_dck prog_1_method_62_code 0 ((jmI_X11_usable).getD 0 []) = true := by decide +kernel
theorem dk_X11_usable : jm_dcs (jm_mC jmM_X11_usable) 0 (jm_mI jmM_X11_usable) := And.intro dk_X11_usable_0 (trivial)
theorem dk_X11_capped_0 : jm_dck prog_1_method_63_code 0 ((jmI_X11_capped).getD 0 []) = true := by decide +kernel
theorem dk_X11_capped : jm_dcs (jm_mC jmM_X11_capped) 0 (jm_mI jmM_X11_capped) := And.intro dk_X11_capped_0 (trivial)
theorem dk_X11_isLetter_0 : jm_dck prog_1_method_64_code 0 ((jmI_X11_isLetter).getD 0 []) = true := by decide +kernel
theorem dk_X11_isLetter : jm_dcs (jm_mC jmM_X11_isLetter) 0 (jm_mI jmM_X11_isLetter) := And.intro dk_X11_isLetter_0 (trivial)
theorem dk_X11_isDigit_0 : jm_dck prog_1_method_65_code 0 ((jmI_X11_isDigit).getD 0 []) = true := by decide +kernel
theorem dk_X11_isDigit : jm_dcs (jm_mC jmM_X11_isDigit) 0 (jm_mI jmM_X11_isDigit) := And.intro dk_X11_isDigit_0 (trivial)
theorem dk_X11_isBlank_0 : jm_dck prog_1_method_66_code 0 ((jmI_X11_isBlank).getD 0 []) = true := by decide +kernel
theorem dk_X11_isBlank : jm_dcs (jm_mC jmM_X11_isBlank) 0 (jm_mI jmM_X11_isBlank) := And.intro dk_X11_isBlank_0 (trivial)
theorem dk_X11_valueAt_0 : jm_dck prog_1_method_67_code 0 ((jmI_X11_valueAt).getD 0 []) = true := by decide +kernel
theorem dk_X11_valueAt : jm_dcs (jm_mC jmM_X11_valueAt) 0 (jm_mI jmM_X11_valueAt) := And.intro dk_X11_valueAt_0 (trivial)
theorem dk_X11_setAt_0 : jm_dck prog_1_method_68_code 0 ((jmI_X11_setAt).getD 0 []) = true := by decide +kernel
theorem dk_X11_setAt : jm_dcs (jm_mC jmM_X11_setAt) 0 (jm_mI jmM_X11_setAt) := And.intro dk_X11_setAt_0 (trivial)
theorem dk_X12_init_0 : jm_dck prog_14_method_1_code 0 ((jmI_X12_init).getD 0 []) = true := by decide +kernel
theorem dk_X12_init_1 : jm_dck prog_14_method_1_code 32 ((jmI_X12_init).getD 1 []) = true := by decide +kernel
theorem dk_X12_init_2 : jm_dck prog_14_method_1_code 64 ((jmI_X12_init).getD 2 []) = true := by decide +kernel
theorem dk_X12_init_3 : jm_dck prog_14_method_1_code 96 ((jmI_X12_init).getD 3 []) = true := by decide +kernel
theorem dk_X12_init_4 : jm_dck prog_14_method_1_code 128 ((jmI_X12_init).getD 4 []) = true := by decide +kernel
theorem dk_X12_init_5 : jm_dck prog_14_method_1_code 160 ((jmI_X12_init).getD 5 []) = true := by decide +kernel
theorem dk_X12_init : jm_dcs (jm_mC jmM_X12_init) 0 (jm_mI jmM_X12_init) := And.intro dk_X12_init_0 (And.intro dk_X12_init_1 (And.intro dk_X12_init_2 (And.intro dk_X12_init_3 (And.intro dk_X12_init_4 (And.intro dk_X12_init_5 (trivial))))))
theorem dk_X12_area_0 : jm_dck prog_14_method_2_code 0 ((jmI_X12_area).getD 0 []) = true := by decide +kernel
theorem dk_X12_area : jm_dcs (jm_mC jmM_X12_area) 0 (jm_mI jmM_X12_area) := And.intro dk_X12_area_0 (trivial)
theorem dk_X12_canBeCut_0 : jm_dck prog_14_method_3_code 0 ((jmI_X12_canBeCut).getD 0 []) = true := by decide +kernel
theorem dk_X12_canBeCut : jm_dcs (jm_mC jmM_X12_canBeCut) 0 (jm_mI jmM_X12_canBeCut) := And.intro dk_X12_canBeCut_0 (trivial)
theorem dk_X12_supply_0 : jm_dck prog_14_method_4_code 0 ((jmI_X12_supply).getD 0 []) = true := by decide +kernel
theorem dk_X12_supply_1 : jm_dck prog_14_method_4_code 32 ((jmI_X12_supply).getD 1 []) = true := by decide +kernel
theorem dk_X12_supply : jm_dcs (jm_mC jmM_X12_supply) 0 (jm_mI jmM_X12_supply) := And.intro dk_X12_supply_0 (And.intro dk_X12_supply_1 (trivial))
theorem dk_X12_fits_0 : jm_dck prog_14_method_5_code 0 ((jmI_X12_fits).getD 0 []) = true := by decide +kernel
theorem dk_X12_fits_1 : jm_dck prog_14_method_5_code 32 ((jmI_X12_fits).getD 1 []) = true := by decide +kernel
theorem dk_X12_fits_2 : jm_dck prog_14_method_5_code 64 ((jmI_X12_fits).getD 2 []) = true := by decide +kernel
theorem dk_X12_fits : jm_dcs (jm_mC jmM_X12_fits) 0 (jm_mI jmM_X12_fits) := And.intro dk_X12_fits_0 (And.intro dk_X12_fits_1 (And.intro dk_X12_fits_2 (trivial)))
theorem dk_J5_init_a7421_0 : jm_dck prog_17_method_3_code 0 ((jmI_J5_init_a7421).getD 0 []) = true := by decide +kernel
theorem dk_J5_init_a7421_1 : jm_dck prog_17_method_3_code 32 ((jmI_J5_init_a7421).getD 1 []) = true := by decide +kernel
theorem dk_J5_init_a7421 : jm_dcs (jm_mC jmM_J5_init_a7421) 0 (jm_mI jmM_J5_init_a7421) := And.intro dk_J5_init_a7421_0 (And.intro dk_J5_init_a7421_1 (trivial))
theorem dk_J5_length_8abf5_0 : jm_dck prog_17_method_6_code 0 ((jmI_J5_length_8abf5).getD 0 []) = true := by decide +kernel
theorem dk_J5_length_8abf5 : jm_dcs (jm_mC jmM_J5_length_8abf5) 0 (jm_mI jmM_J5_length_8abf5) := And.intro dk_J5_length_8abf5_0 (trivial)
theorem dk_J5_ensureCapacityInternal_d00df_0 : jm_dck prog_17_method_9_code 0 ((jmI_J5_ensureCapacityInternal_d00df).getD 0 []) = true := by decide +kernel
theorem dk_J5_ensureCapacityInternal_d00df_1 : jm_dck prog_17_method_9_code 32 ((jmI_J5_ensureCapacityInternal_d00df).getD 1 []) = true := by decide +kernel
theorem dk_J5_ensureCapacityInternal_d00df : jm_dcs (jm_mC jmM_J5_ensureCapacityInternal_d00df) 0 (jm_mI jmM_J5_ensureCapacityInternal_d00df) := And.intro dk_J5_ensureCapacityInternal_d00df_0 (And.intro dk_J5_ensureCapacityInternal_d00df_1 (trivial))
theorem dk_J5_newCapacity_0f7a4_0 : jm_dck prog_17_method_10_code 0 ((jmI_J5_newCapacity_0f7a4).getD 0 []) = true := by decide +kernel
theorem dk_J5_newCapacity_0f7a4_1 : jm_dck prog_17_method_10_code 32 ((jmI_J5_newCapacity_0f7a4).getD 1 []) = true := by decide +kernel
theorem dk_J5_newCapacity_0f7a4 : jm_dcs (jm_mC jmM_J5_newCapacity_0f7a4) 0 (jm_mI jmM_J5_newCapacity_0f7a4) := And.intro dk_J5_newCapacity_0f7a4_0 (And.intro dk_J5_newCapacity_0f7a4_1 (trivial))
theorem dk_J5_append_cf1ce_0 : jm_dck prog_17_method_22_code 0 ((jmI_J5_append_cf1ce).getD 0 []) = true := by decide +kernel
theorem dk_J5_append_cf1ce_1 : jm_dck prog_17_method_22_code 32 ((jmI_J5_append_cf1ce).getD 1 []) = true := by decide +kernel
theorem dk_J5_append_cf1ce : jm_dcs (jm_mC jmM_J5_append_cf1ce) 0 (jm_mI jmM_J5_append_cf1ce) := And.intro dk_J5_append_cf1ce_0 (And.intro dk_J5_append_cf1ce_1 (trivial))
theorem dk_J5_append_3fe6f_0 : jm_dck prog_17_method_31_code 0 ((jmI_J5_append_3fe6f).getD 0 []) = true := by decide +kernel
theorem dk_J5_append_3fe6f_1 : jm_dck prog_17_method_31_code 32 ((jmI_J5_append_3fe6f).getD 1 []) = true := by decide +kernel
theorem dk_J5_append_3fe6f_2 : jm_dck prog_17_method_31_code 64 ((jmI_J5_append_3fe6f).getD 2 []) = true := by decide +kernel
theorem dk_J5_append_3fe6f : jm_dcs (jm_mC jmM_J5_append_3fe6f) 0 (jm_mI jmM_J5_append_3fe6f) := And.intro dk_J5_append_3fe6f_0 (And.intro dk_J5_append_3fe6f_1 (And.intro dk_J5_append_3fe6f_2 (trivial)))
theorem dk_J5_append_c97b9_0 : jm_dck prog_17_method_32_code 0 ((jmI_J5_append_c97b9).getD 0 []) = true := by decide +kernel
theorem dk_J5_append_c97b9_1 : jm_dck prog_17_method_32_code 32 ((jmI_J5_append_c97b9).getD 1 []) = true := by decide +kernel
theorem dk_J5_append_c97b9 : jm_dcs (jm_mC jmM_J5_append_c97b9) 0 (jm_mI jmM_J5_append_c97b9) := And.intro dk_J5_append_c97b9_0 (And.intro dk_J5_append_c97b9_1 (trivial))
theorem dk_J5_getValue_6d5f1_0 : jm_dck prog_17_method_64_code 0 ((jmI_J5_getValue_6d5f1).getD 0 []) = true := by decide +kernel
theorem dk_J5_getValue_6d5f1 : jm_dcs (jm_mC jmM_J5_getValue_6d5f1) 0 (jm_mI jmM_J5_getValue_6d5f1) := And.intro dk_J5_getValue_6d5f1_0 (trivial)
theorem dk_J5_isLatin1_aae02_0 : jm_dck prog_17_method_68_code 0 ((jmI_J5_isLatin1_aae02).getD 0 []) = true := by decide +kernel
theorem dk_J5_isLatin1_aae02 : jm_dcs (jm_mC jmM_J5_isLatin1_aae02) 0 (jm_mI jmM_J5_isLatin1_aae02) := And.intro dk_J5_isLatin1_aae02_0 (trivial)
theorem dk_J5_inflateIfNeededFor_a7421_0 : jm_dck prog_17_method_71_code 0 ((jmI_J5_inflateIfNeededFor_a7421).getD 0 []) = true := by decide +kernel
theorem dk_J5_inflateIfNeededFor_a7421 : jm_dcs (jm_mC jmM_J5_inflateIfNeededFor_a7421) 0 (jm_mI jmM_J5_inflateIfNeededFor_a7421) := And.intro dk_J5_inflateIfNeededFor_a7421_0 (trivial)
theorem dk_J5_putStringAt_47b60_0 : jm_dck prog_17_method_73_code 0 ((jmI_J5_putStringAt_47b60).getD 0 []) = true := by decide +kernel
theorem dk_J5_putStringAt_47b60 : jm_dcs (jm_mC jmM_J5_putStringAt_47b60) 0 (jm_mI jmM_J5_putStringAt_47b60) := And.intro dk_J5_putStringAt_47b60_0 (trivial)
theorem dk_J6_getChars_ba4f3_0 : jm_dck prog_26_method_12_code 0 ((jmI_J6_getChars_ba4f3).getD 0 []) = true := by decide +kernel
theorem dk_J6_getChars_ba4f3_1 : jm_dck prog_26_method_12_code 32 ((jmI_J6_getChars_ba4f3).getD 1 []) = true := by decide +kernel
theorem dk_J6_getChars_ba4f3_2 : jm_dck prog_26_method_12_code 64 ((jmI_J6_getChars_ba4f3).getD 2 []) = true := by decide +kernel
theorem dk_J6_getChars_ba4f3_3 : jm_dck prog_26_method_12_code 96 ((jmI_J6_getChars_ba4f3).getD 3 []) = true := by decide +kernel
theorem dk_J6_getChars_ba4f3 : jm_dcs (jm_mC jmM_J6_getChars_ba4f3) 0 (jm_mI jmM_J6_getChars_ba4f3) := And.intro dk_J6_getChars_ba4f3_0 (And.intro dk_J6_getChars_ba4f3_1 (And.intro dk_J6_getChars_ba4f3_2 (And.intro dk_J6_getChars_ba4f3_3 (trivial))))
theorem dk_J6_stringSize_0f7a4_0 : jm_dck prog_26_method_13_code 0 ((jmI_J6_stringSize_0f7a4).getD 0 []) = true := by decide +kernel
theorem dk_J6_stringSize_0f7a4_1 : jm_dck prog_26_method_13_code 32 ((jmI_J6_stringSize_0f7a4).getD 1 []) = true := by decide +kernel
theorem dk_J6_stringSize_0f7a4 : jm_dcs (jm_mC jmM_J6_stringSize_0f7a4) 0 (jm_mI jmM_J6_stringSize_0f7a4) := And.intro dk_J6_stringSize_0f7a4_0 (And.intro dk_J6_stringSize_0f7a4_1 (trivial))
theorem dk_J0_init_81219_0 : jm_dck prog_32_method_53_code 0 ((jmI_J0_init_81219).getD 0 []) = true := by decide +kernel
theorem dk_J0_init_81219 : jm_dcs (jm_mC jmM_J0_init_81219) 0 (jm_mI jmM_J0_init_81219) := And.intro dk_J0_init_81219_0 (trivial)
theorem dk_J0_length_8abf5_0 : jm_dck prog_32_method_54_code 0 ((jmI_J0_length_8abf5).getD 0 []) = true := by decide +kernel
theorem dk_J0_length_8abf5 : jm_dcs (jm_mC jmM_J0_length_8abf5) 0 (jm_mI jmM_J0_length_8abf5) := And.intro dk_J0_length_8abf5_0 (trivial)
theorem dk_J0_charAt_5068e_0 : jm_dck prog_32_method_56_code 0 ((jmI_J0_charAt_5068e).getD 0 []) = true := by decide +kernel
theorem dk_J0_charAt_5068e : jm_dcs (jm_mC jmM_J0_charAt_5068e) 0 (jm_mI jmM_J0_charAt_5068e) := And.intro dk_J0_charAt_5068e_0 (trivial)
theorem dk_J0_init_db425_0 : jm_dck prog_32_method_150_code 0 ((jmI_J0_init_db425).getD 0 []) = true := by decide +kernel
theorem dk_J0_init_db425_1 : jm_dck prog_32_method_150_code 32 ((jmI_J0_init_db425).getD 1 []) = true := by decide +kernel
theorem dk_J0_init_db425_2 : jm_dck prog_32_method_150_code 64 ((jmI_J0_init_db425).getD 2 []) = true := by decide +kernel
theorem dk_J0_init_db425_3 : jm_dck prog_32_method_150_code 96 ((jmI_J0_init_db425).getD 3 []) = true := by decide +kernel
theorem dk_J0_init_db425 : jm_dcs (jm_mC jmM_J0_init_db425) 0 (jm_mI jmM_J0_init_db425) := And.intro dk_J0_init_db425_0 (And.intro dk_J0_init_db425_1 (And.intro dk_J0_init_db425_2 (And.intro dk_J0_init_db425_3 (trivial))))
theorem dk_J0_coder_7d493_0 : jm_dck prog_32_method_152_code 0 ((jmI_J0_coder_7d493).getD 0 []) = true := by decide +kernel
theorem dk_J0_coder_7d493 : jm_dcs (jm_mC jmM_J0_coder_7d493) 0 (jm_mI jmM_J0_coder_7d493) := And.intro dk_J0_coder_7d493_0 (trivial)
theorem dk_J0_isLatin1_aae02_0 : jm_dck prog_32_method_154_code 0 ((jmI_J0_isLatin1_aae02).getD 0 []) = true := by decide +kernel
theorem dk_J0_isLatin1_aae02 : jm_dcs (jm_mC jmM_J0_isLatin1_aae02) 0 (jm_mI jmM_J0_isLatin1_aae02) := And.intro dk_J0_isLatin1_aae02_0 (trivial)
theorem dk_J4_init_a7421_0 : jm_dck prog_33_method_3_code 0 ((jmI_J4_init_a7421).getD 0 []) = true := by decide +kernel
theorem dk_J4_init_a7421 : jm_dcs (jm_mC jmM_J4_init_a7421) 0 (jm_mI jmM_J4_init_a7421) := And.intro dk_J4_init_a7421_0 (trivial)
theorem dk_J4_append_15ec4_0 : jm_dck prog_33_method_7_code 0 ((jmI_J4_append_15ec4).getD 0 []) = true := by decide +kernel
theorem dk_J4_append_15ec4 : jm_dcs (jm_mC jmM_J4_append_15ec4) 0 (jm_mI jmM_J4_append_15ec4) := And.intro dk_J4_append_15ec4_0 (trivial)
theorem dk_J4_append_cf468_0 : jm_dck prog_33_method_14_code 0 ((jmI_J4_append_cf468).getD 0 []) = true := by decide +kernel
theorem dk_J4_append_cf468 : jm_dcs (jm_mC jmM_J4_append_cf468) 0 (jm_mI jmM_J4_append_cf468) := And.intro dk_J4_append_cf468_0 (trivial)
theorem dk_J4_append_bf812_0 : jm_dck prog_33_method_15_code 0 ((jmI_J4_append_bf812).getD 0 []) = true := by decide +kernel
theorem dk_J4_append_bf812 : jm_dcs (jm_mC jmM_J4_append_bf812) 0 (jm_mI jmM_J4_append_bf812) := And.intro dk_J4_append_bf812_0 (trivial)
theorem dk_J4_toString_0e30d_0 : jm_dck prog_33_method_42_code 0 ((jmI_J4_toString_0e30d).getD 0 []) = true := by decide +kernel
theorem dk_J4_toString_0e30d : jm_dcs (jm_mC jmM_J4_toString_0e30d) 0 (jm_mI jmM_J4_toString_0e30d) := And.intro dk_J4_toString_0e30d_0 (trivial)
theorem dk_J4_append_cf1ce_0 : jm_dck prog_33_method_80_code 0 ((jmI_J4_append_cf1ce).getD 0 []) = true := by decide +kernel
theorem dk_J4_append_cf1ce : jm_dcs (jm_mC jmM_J4_append_cf1ce) 0 (jm_mI jmM_J4_append_cf1ce) := And.intro dk_J4_append_cf1ce_0 (trivial)
theorem dk_J4_length_8abf5_0 : jm_dck prog_33_method_93_code 0 ((jmI_J4_length_8abf5).getD 0 []) = true := by decide +kernel
theorem dk_J4_length_8abf5 : jm_dcs (jm_mC jmM_J4_length_8abf5) 0 (jm_mI jmM_J4_length_8abf5) := And.intro dk_J4_length_8abf5_0 (trivial)
theorem dk_J1_charAt_3b067_0 : jm_dck prog_34_method_2_code 0 ((jmI_J1_charAt_3b067).getD 0 []) = true := by decide +kernel
theorem dk_J1_charAt_3b067 : jm_dcs (jm_mC jmM_J1_charAt_3b067) 0 (jm_mI jmM_J1_charAt_3b067) := And.intro dk_J1_charAt_3b067_0 (trivial)
theorem dk_J1_canEncode_fc78d_0 : jm_dck prog_34_method_3_code 0 ((jmI_J1_canEncode_fc78d).getD 0 []) = true := by decide +kernel
theorem dk_J1_canEncode_fc78d : jm_dcs (jm_mC jmM_J1_canEncode_fc78d) 0 (jm_mI jmM_J1_canEncode_fc78d) := And.intro dk_J1_canEncode_fc78d_0 (trivial)
theorem dk_Jxa1e45_init_da8c8_0 : jm_dck prog_40_method_1_code 0 ((jmI_Jxa1e45_init_da8c8).getD 0 []) = true := by decide +kernel
theorem dk_Jxa1e45_init_da8c8 : jm_dcs (jm_mC jmM_Jxa1e45_init_da8c8) 0 (jm_mI jmM_Jxa1e45_init_da8c8) := And.intro dk_Jxa1e45_init_da8c8_0 (trivial)
theorem dk_Jxc12de_init_da8c8_0 : jm_dck prog_41_method_1_code 0 ((jmI_Jxc12de_init_da8c8).getD 0 []) = true := by decide +kernel
theorem dk_Jxc12de_init_da8c8 : jm_dcs (jm_mC jmM_Jxc12de_init_da8c8) 0 (jm_mI jmM_Jxc12de_init_da8c8) := And.intro dk_Jxc12de_init_da8c8_0 (trivial)
theorem dk_Jx4a65c_init_da8c8_0 : jm_dck prog_42_method_2_code 0 ((jmI_Jx4a65c_init_da8c8).getD 0 []) = true := by decide +kernel
theorem dk_Jx4a65c_init_da8c8 : jm_dcs (jm_mC jmM_Jx4a65c_init_da8c8) 0 (jm_mI jmM_Jx4a65c_init_da8c8) := And.intro dk_Jx4a65c_init_da8c8_0 (trivial)
theorem dk_Jx4a65c_grow_92f84_0 : jm_dck prog_42_method_6_code 0 ((jmI_Jx4a65c_grow_92f84).getD 0 []) = true := by decide +kernel
theorem dk_Jx4a65c_grow_92f84_1 : jm_dck prog_42_method_6_code 32 ((jmI_Jx4a65c_grow_92f84).getD 1 []) = true := by decide +kernel
theorem dk_Jx4a65c_grow_92f84 : jm_dcs (jm_mC jmM_Jx4a65c_grow_92f84) 0 (jm_mI jmM_Jx4a65c_grow_92f84) := And.intro dk_Jx4a65c_grow_92f84_0 (And.intro dk_Jx4a65c_grow_92f84_1 (trivial))
theorem dk_Jx4a65c_grow_d5877_0 : jm_dck prog_42_method_7_code 0 ((jmI_Jx4a65c_grow_d5877).getD 0 []) = true := by decide +kernel
theorem dk_Jx4a65c_grow_d5877 : jm_dcs (jm_mC jmM_Jx4a65c_grow_d5877) 0 (jm_mI jmM_Jx4a65c_grow_d5877) := And.intro dk_Jx4a65c_grow_d5877_0 (trivial)
theorem dk_Jx4a65c_size_8abf5_0 : jm_dck prog_42_method_8_code 0 ((jmI_Jx4a65c_size_8abf5).getD 0 []) = true := by decide +kernel
theorem dk_Jx4a65c_size_8abf5 : jm_dcs (jm_mC jmM_Jx4a65c_size_8abf5) 0 (jm_mI jmM_Jx4a65c_size_8abf5) := And.intro dk_Jx4a65c_size_8abf5_0 (trivial)
theorem dk_Jx4a65c_elementData_915e3_0 : jm_dck prog_42_method_18_code 0 ((jmI_Jx4a65c_elementData_915e3).getD 0 []) = true := by decide +kernel
theorem dk_Jx4a65c_elementData_915e3 : jm_dcs (jm_mC jmM_Jx4a65c_elementData_915e3) 0 (jm_mI jmM_Jx4a65c_elementData_915e3) := And.intro dk_Jx4a65c_elementData_915e3_0 (trivial)
theorem dk_Jx4a65c_get_915e3_0 : jm_dck prog_42_method_20_code 0 ((jmI_Jx4a65c_get_915e3).getD 0 []) = true := by decide +kernel
theorem dk_Jx4a65c_get_915e3 : jm_dcs (jm_mC jmM_Jx4a65c_get_915e3) 0 (jm_mI jmM_Jx4a65c_get_915e3) := And.intro dk_Jx4a65c_get_915e3_0 (trivial)
theorem dk_Jx4a65c_add_72be8_0 : jm_dck prog_42_method_24_code 0 ((jmI_Jx4a65c_add_72be8).getD 0 []) = true := by decide +kernel
theorem dk_Jx4a65c_add_72be8 : jm_dcs (jm_mC jmM_Jx4a65c_add_72be8) 0 (jm_mI jmM_Jx4a65c_add_72be8) := And.intro dk_Jx4a65c_add_72be8_0 (trivial)
theorem dk_Jx4a65c_add_9ea2d_0 : jm_dck prog_42_method_25_code 0 ((jmI_Jx4a65c_add_9ea2d).getD 0 []) = true := by decide +kernel
theorem dk_Jx4a65c_add_9ea2d : jm_dcs (jm_mC jmM_Jx4a65c_add_9ea2d) 0 (jm_mI jmM_Jx4a65c_add_9ea2d) := And.intro dk_Jx4a65c_add_9ea2d_0 (trivial)
theorem dk_J7_copyOf_9075b_0 : jm_dck prog_43_method_121_code 0 ((jmI_J7_copyOf_9075b).getD 0 []) = true := by decide +kernel
theorem dk_J7_copyOf_9075b_1 : jm_dck prog_43_method_121_code 32 ((jmI_J7_copyOf_9075b).getD 1 []) = true := by decide +kernel
theorem dk_J7_copyOf_9075b : jm_dcs (jm_mC jmM_J7_copyOf_9075b) 0 (jm_mI jmM_J7_copyOf_9075b) := And.intro dk_J7_copyOf_9075b_0 (And.intro dk_J7_copyOf_9075b_1 (trivial))
theorem dk_J7_checkLength_df160_0 : jm_dck prog_43_method_131_code 0 ((jmI_J7_checkLength_df160).getD 0 []) = true := by decide +kernel
theorem dk_J7_checkLength_df160_1 : jm_dck prog_43_method_131_code 32 ((jmI_J7_checkLength_df160).getD 1 []) = true := by decide +kernel
theorem dk_J7_checkLength_df160 : jm_dcs (jm_mC jmM_J7_checkLength_df160) 0 (jm_mI jmM_J7_checkLength_df160) := And.intro dk_J7_checkLength_df160_0 (And.intro dk_J7_checkLength_df160_1 (trivial))
theorem dk_J7_copyOfRange_39247_0 : jm_dck prog_43_method_132_code 0 ((jmI_J7_copyOfRange_39247).getD 0 []) = true := by decide +kernel
theorem dk_J7_copyOfRange_39247 : jm_dcs (jm_mC jmM_J7_copyOfRange_39247) 0 (jm_mI jmM_J7_copyOfRange_39247) := And.intro dk_J7_copyOfRange_39247_0 (trivial)
theorem dk_J7_copyOfRangeByte_39247_0 : jm_dck prog_43_method_133_code 0 ((jmI_J7_copyOfRangeByte_39247).getD 0 []) = true := by decide +kernel
theorem dk_J7_copyOfRangeByte_39247_1 : jm_dck prog_43_method_133_code 32 ((jmI_J7_copyOfRangeByte_39247).getD 1 []) = true := by decide +kernel
theorem dk_J7_copyOfRangeByte_39247 : jm_dcs (jm_mC jmM_J7_copyOfRangeByte_39247) 0 (jm_mI jmM_J7_copyOfRangeByte_39247) := And.intro dk_J7_copyOfRangeByte_39247_0 (And.intro dk_J7_copyOfRangeByte_39247_1 (trivial))
theorem dk_J8_newLength_cabcc_0 : jm_dck prog_49_method_27_code 0 ((jmI_J8_newLength_cabcc).getD 0 []) = true := by decide +kernel
theorem dk_J8_newLength_cabcc : jm_dcs (jm_mC jmM_J8_newLength_cabcc) 0 (jm_mI jmM_J8_newLength_cabcc) := And.intro dk_J8_newLength_cabcc_0 (trivial)
/-! Every method is decoded. -/
theorem dq_0 : jm_al (fun M => jm_dcs (jm_mC M) 0 (jm_mI M)) jm_Ms0 := And.intro dk_L_law (And.intro dk_L_init (And.intro dk_L_feeds (And.intro dk_L_draw (And.intro dk_L_paper (And.intro dk_L_nearest (And.intro dk_L_fitting (And.intro dk_L_cutsOne (And.intro dk_L_orders (And.intro dk_L_buys (And.intro dk_L_cuts (And.intro dk_L_side (And.intro dk_L_begins (And.intro dk_L_leaves (And.intro dk_L_isFolded (And.intro dk_L_isSeries (And.intro dk_L_still (And.intro dk_L_act (And.intro dk_X0_init (And.intro dk_X0_hasRoom (trivial))))))))))))))))))))
theorem dq_1 : jm_al (fun M => jm_dcs (jm_mC M) 0 (jm_mI M)) jm_Ms1 := And.intro dk_X0_put (And.intro dk_X0_putFour (And.intro dk_X0_shorten (And.intro dk_X0_byteAt (And.intro dk_X1_init (And.intro dk_X1_make (And.intro dk_X1_halvesOf (And.intro dk_X1_doWith (And.intro dk_X2_init (And.intro dk_X2_foldUp (And.intro dk_X2_pileUp (And.intro dk_X2_layPlace (And.intro dk_X2_numberPages (And.intro dk_X2_hasCell (And.intro dk_X2_pageAt (And.intro dk_X2_cellsWithOtherPages (And.intro dk_X2_frontPageByItself (And.intro dk_X3_init (And.intro dk_X3_keep (And.intro dk_X3_forget (trivial))))))))))))))))))))
theorem dq_2 : jm_al (fun M => jm_dcs (jm_mC M) 0 (jm_mI M)) jm_Ms2 := And.intro dk_X4_init (And.intro dk_X4_copyFrom (And.intro dk_X4_begin (And.intro dk_X4_hasSeries (And.intro dk_X4_seriesNamed (And.intro dk_X4_addSeries (And.intro dk_X4_sheetsInAll (And.intro dk_X4_stacksInAll (And.intro dk_X4_areaInAll (And.intro dk_X4_refusalToBuy (And.intro dk_X4_takeIn (And.intro dk_X4_refusalToCut (And.intro dk_X4_cutUp (And.intro dk_X4_fill (And.intro dk_X5_init (And.intro dk_X5_make (And.intro dk_X5_weighSeries (And.intro dk_X5_isNearer (And.intro dk_X5_told (And.intro dk_X6_init (trivial))))))))))))))))))))
theorem dq_3 : jm_al (fun M => jm_dcs (jm_mC M) 0 (jm_mI M)) jm_Ms3 := And.intro dk_X6_copyFrom (And.intro dk_X6_forget (And.intro dk_X6_placeOf (And.intro dk_X6_note (And.intro dk_X7_init (And.intro dk_X7_begin (And.intro dk_X7_advance (And.intro dk_X7_fail (And.intro dk_X7_isWord (And.intro dk_X7_isSign (And.intro dk_X7_takeSign (And.intro dk_X7_seesName (And.intro dk_X7_seesNumber (And.intro dk_X8_init (And.intro dk_X9_init (And.intro dk_X9_copyFrom (And.intro dk_X9_setName (And.intro dk_X9_hasName (And.intro dk_X9_setSides (And.intro dk_X9_isVoid (trivial))))))))))))))))))))
theorem dq_4 : jm_al (fun M => jm_dcs (jm_mC M) 0 (jm_mI M)) jm_Ms4 := And.intro dk_X9_wideAt (And.intro dk_X9_highAt (And.intro dk_X9_areaAt (And.intro dk_X9_sheetsAt (And.intro dk_X9_addSheets (And.intro dk_X9_stripAt (And.intro dk_X9_supplyAt (And.intro dk_X9_foldsAt (And.intro dk_X9_fits (And.intro dk_X10_init (And.intro dk_X10_readInto (And.intro dk_X10_readHead (And.intro dk_X10_readSeries (And.intro dk_X10_readSizes (And.intro dk_X10_readStack (And.intro dk_X11_init (And.intro dk_X11_append (And.intro dk_X11_truncate (And.intro dk_X11_load (And.intro dk_X11_errorCode (trivial))))))))))))))))))))
theorem dq_5 : jm_al (fun M => jm_dcs (jm_mC M) 0 (jm_mI M)) jm_Ms5 := And.intro dk_X11_readSetup (And.intro dk_X11_forgetSlotsAndRefusals (And.intro dk_X11_count (And.intro dk_X11_size (And.intro dk_X11_account (And.intro dk_X11_gap (And.intro dk_X11_mostFolds (And.intro dk_X11_grid (And.intro dk_X11_page (And.intro dk_X11_pageGap (And.intro dk_X11_foldSheet (And.intro dk_X11_fitting (And.intro dk_X11_nearest (And.intro dk_X11_buy (And.intro dk_X11_cut (And.intro dk_X11_order (And.intro dk_X11_setEdge (And.intro dk_X11_doBuy (And.intro dk_X11_doCut (And.intro dk_X11_doPrintOrder (trivial))))))))))))))))))))
theorem dq_6 : jm_al (fun M => jm_dcs (jm_mC M) 0 (jm_mI M)) jm_Ms6 := And.intro dk_X11_doSetEdge (And.intro dk_X11_refuse (And.intro dk_X11_require (And.intro dk_X11_requireOrder (And.intro dk_X11_requireSize (And.intro dk_X11_isSide (And.intro dk_X11_usable (And.intro dk_X11_capped (And.intro dk_X11_isLetter (And.intro dk_X11_isDigit (And.intro dk_X11_isBlank (And.intro dk_X11_valueAt (And.intro dk_X11_setAt (And.intro dk_X12_init (And.intro dk_X12_area (And.intro dk_X12_canBeCut (And.intro dk_X12_supply (And.intro dk_X12_fits (And.intro dk_J5_init_a7421 (And.intro dk_J5_length_8abf5 (trivial))))))))))))))))))))
theorem dq_7 : jm_al (fun M => jm_dcs (jm_mC M) 0 (jm_mI M)) jm_Ms7 := And.intro dk_J5_ensureCapacityInternal_d00df (And.intro dk_J5_newCapacity_0f7a4 (And.intro dk_J5_append_cf1ce (And.intro dk_J5_append_3fe6f (And.intro dk_J5_append_c97b9 (And.intro dk_J5_getValue_6d5f1 (And.intro dk_J5_isLatin1_aae02 (And.intro dk_J5_inflateIfNeededFor_a7421 (And.intro dk_J5_putStringAt_47b60 (And.intro dk_J6_getChars_ba4f3 (And.intro dk_J6_stringSize_0f7a4 (And.intro dk_J0_init_81219 (And.intro dk_J0_length_8abf5 (And.intro dk_J0_charAt_5068e (And.intro dk_J0_init_db425 (And.intro dk_J0_coder_7d493 (And.intro dk_J0_isLatin1_aae02 (And.intro dk_J4_init_a7421 (And.intro dk_J4_append_15ec4 (And.intro dk_J4_append_cf468 (trivial))))))))))))))))))))
theorem dq_8 : jm_al (fun M => jm_dcs (jm_mC M) 0 (jm_mI M)) jm_Ms8 := And.intro dk_J4_append_bf812 (And.intro dk_J4_toString_0e30d (And.intro dk_J4_append_cf1ce (And.intro dk_J4_length_8abf5 (And.intro dk_J1_charAt_3b067 (And.intro dk_J1_canEncode_fc78d (And.intro dk_Jxa1e45_init_da8c8 (And.intro dk_Jxc12de_init_da8c8 (And.intro dk_Jx4a65c_init_da8c8 (And.intro dk_Jx4a65c_grow_92f84 (And.intro dk_Jx4a65c_grow_d5877 (And.intro dk_Jx4a65c_size_8abf5 (And.intro dk_Jx4a65c_elementData_915e3 (And.intro dk_Jx4a65c_get_915e3 (And.intro dk_Jx4a65c_add_72be8 (And.intro dk_Jx4a65c_add_9ea2d (And.intro dk_J7_copyOf_9075b (And.intro dk_J7_checkLength_df160 (And.intro dk_J7_copyOfRange_39247 (And.intro dk_J7_copyOfRangeByte_39247 (trivial))))))))))))))))))))
theorem dq_9 : jm_al (fun M => jm_dcs (jm_mC M) 0 (jm_mI M)) jm_Ms9 := And.intro dk_J8_newLength_cabcc (trivial)
theorem dq_all : jm_al (fun g => jm_al (fun M => jm_dcs (jm_mC M) 0 (jm_mI M)) g) jm_Mss := And.intro dq_0 (And.intro dq_1 (And.intro dq_2 (And.intro dq_3 (And.intro dq_4 (And.intro dq_5 (And.intro dq_6 (And.intro dq_7 (And.intro dq_8 (And.intro dq_9 (trivial))))))))))
theorem dq_dec : ∀ k M, jm_M k = some M → jm_dcs (jm_mC M) 0 (jm_mI M) := by
  intro k M h
  unfold jm_M at h
  cases hq : jm_Mss[k / 20]? with
  | none => rw [List.getD, hq] at h; simp at h
  | some g =>
    rw [List.getD, hq] at h
    exact jm_al_mem (jm_al_mem dq_all g (List.mem_of_getElem? hq)) M (List.mem_of_getElem? h)
