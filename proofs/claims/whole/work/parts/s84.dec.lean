/-! Instructions decode as the tables say (by program: wip/whole/gen_tab.py). -/
theorem dk_L_law_0 : jm_dck code 0 ((jmI_L_law).getD 0 []) = true := by decide +kernel
theorem dk_L_law_1 : jm_dck code 32 ((jmI_L_law).getD 1 []) = true := by decide +kernel
theorem dk_L_law_2 : jm_dck code 64 ((jmI_L_law).getD 2 []) = true := by decide +kernel
theorem dk_L_law_3 : jm_dck code 96 ((jmI_L_law).getD 3 []) = true := by decide +kernel
theorem dk_L_law_4 : jm_dck code 128 ((jmI_L_law).getD 4 []) = true := by decide +kernel
theorem dk_L_law_5 : jm_dck code 160 ((jmI_L_law).getD 5 []) = true := by decide +kernel
theorem dk_L_law_6 : jm_dck code 192 ((jmI_L_law).getD 6 []) = true := by decide +kernel
theorem dk_L_law_7 : jm_dck code 224 ((jmI_L_law).getD 7 []) = true := by decide +kernel
theorem dk_L_law_8 : jm_dck code 256 ((jmI_L_law).getD 8 []) = true := by decide +kernel
theorem dk_L_law_9 : jm_dck code 288 ((jmI_L_law).getD 9 []) = true := by decide +kernel
theorem dk_L_law_10 : jm_dck code 320 ((jmI_L_law).getD 10 []) = true := by decide +kernel
theorem dk_L_law_11 : jm_dck code 352 ((jmI_L_law).getD 11 []) = true := by decide +kernel
theorem dk_L_law_12 : jm_dck code 384 ((jmI_L_law).getD 12 []) = true := by decide +kernel
theorem dk_L_law_13 : jm_dck code 416 ((jmI_L_law).getD 13 []) = true := by decide +kernel
theorem dk_L_law_14 : jm_dck code 448 ((jmI_L_law).getD 14 []) = true := by decide +kernel
theorem dk_L_law_15 : jm_dck code 480 ((jmI_L_law).getD 15 []) = true := by decide +kernel
theorem dk_L_law_16 : jm_dck code 512 ((jmI_L_law).getD 16 []) = true := by decide +kernel
theorem dk_L_law_17 : jm_dck code 544 ((jmI_L_law).getD 17 []) = true := by decide +kernel
theorem dk_L_law_18 : jm_dck code 576 ((jmI_L_law).getD 18 []) = true := by decide +kernel
theorem dk_L_law_19 : jm_dck code 608 ((jmI_L_law).getD 19 []) = true := by decide +kernel
theorem dk_L_law_20 : jm_dck code 640 ((jmI_L_law).getD 20 []) = true := by decide +kernel
theorem dk_L_law_21 : jm_dck code 672 ((jmI_L_law).getD 21 []) = true := by decide +kernel
theorem dk_L_law_22 : jm_dck code 704 ((jmI_L_law).getD 22 []) = true := by decide +kernel
theorem dk_L_law_23 : jm_dck code 736 ((jmI_L_law).getD 23 []) = true := by decide +kernel
theorem dk_L_law_24 : jm_dck code 768 ((jmI_L_law).getD 24 []) = true := by decide +kernel
theorem dk_L_law_25 : jm_dck code 800 ((jmI_L_law).getD 25 []) = true := by decide +kernel
theorem dk_L_law_26 : jm_dck code 832 ((jmI_L_law).getD 26 []) = true := by decide +kernel
theorem dk_L_law_27 : jm_dck code 864 ((jmI_L_law).getD 27 []) = true := by decide +kernel
theorem dk_L_law_28 : jm_dck code 896 ((jmI_L_law).getD 28 []) = true := by decide +kernel
theorem dk_L_law_29 : jm_dck code 928 ((jmI_L_law).getD 29 []) = true := by decide +kernel
theorem dk_L_law_30 : jm_dck code 960 ((jmI_L_law).getD 30 []) = true := by decide +kernel
theorem dk_L_law_31 : jm_dck code 992 ((jmI_L_law).getD 31 []) = true := by decide +kernel
theorem dk_L_law_32 : jm_dck code 1024 ((jmI_L_law).getD 32 []) = true := by decide +kernel
theorem dk_L_law_33 : jm_dck code 1056 ((jmI_L_law).getD 33 []) = true := by decide +kernel
theorem dk_L_law_34 : jm_dck code 1088 ((jmI_L_law).getD 34 []) = true := by decide +kernel
theorem dk_L_law_35 : jm_dck code 1120 ((jmI_L_law).getD 35 []) = true := by decide +kernel
theorem dk_L_law_36 : jm_dck code 1152 ((jmI_L_law).getD 36 []) = true := by decide +kernel
theorem dk_L_law_37 : jm_dck code 1184 ((jmI_L_law).getD 37 []) = true := by decide +kernel
theorem dk_L_law_38 : jm_dck code 1216 ((jmI_L_law).getD 38 []) = true := by decide +kernel
theorem dk_L_law_39 : jm_dck code 1248 ((jmI_L_law).getD 39 []) = true := by decide +kernel
theorem dk_L_law_40 : jm_dck code 1280 ((jmI_L_law).getD 40 []) = true := by decide +kernel
theorem dk_L_law_41 : jm_dck code 1312 ((jmI_L_law).getD 41 []) = true := by decide +kernel
theorem dk_L_law_42 : jm_dck code 1344 ((jmI_L_law).getD 42 []) = true := by decide +kernel
theorem dk_L_law_43 : jm_dck code 1376 ((jmI_L_law).getD 43 []) = true := by decide +kernel
theorem dk_L_law_44 : jm_dck code 1408 ((jmI_L_law).getD 44 []) = true := by decide +kernel
theorem dk_L_law_45 : jm_dck code 1440 ((jmI_L_law).getD 45 []) = true := by decide +kernel
theorem dk_L_law_46 : jm_dck code 1472 ((jmI_L_law).getD 46 []) = true := by decide +kernel
theorem dk_L_law_47 : jm_dck code 1504 ((jmI_L_law).getD 47 []) = true := by decide +kernel
theorem dk_L_law_48 : jm_dck code 1536 ((jmI_L_law).getD 48 []) = true := by decide +kernel
theorem dk_L_law_49 : jm_dck code 1568 ((jmI_L_law).getD 49 []) = true := by decide +kernel
theorem dk_L_law_50 : jm_dck code 1600 ((jmI_L_law).getD 50 []) = true := by decide +kernel
theorem dk_L_law_51 : jm_dck code 1632 ((jmI_L_law).getD 51 []) = true := by decide +kernel
theorem dk_L_law_52 : jm_dck code 1664 ((jmI_L_law).getD 52 []) = true := by decide +kernel
theorem dk_L_law_53 : jm_dck code 1696 ((jmI_L_law).getD 53 []) = true := by decide +kernel
theorem dk_L_law_54 : jm_dck code 1728 ((jmI_L_law).getD 54 []) = true := by decide +kernel
theorem dk_L_law_55 : jm_dck code 1760 ((jmI_L_law).getD 55 []) = true := by decide +kernel
theorem dk_L_law_56 : jm_dck code 1792 ((jmI_L_law).getD 56 []) = true := by decide +kernel
theorem dk_L_law_57 : jm_dck code 1824 ((jmI_L_law).getD 57 []) = true := by decide +kernel
theorem dk_L_law_58 : jm_dck code 1856 ((jmI_L_law).getD 58 []) = true := by decide +kernel
theorem dk_L_law_59 : jm_dck code 1888 ((jmI_L_law).getD 59 []) = true := by decide +kernel
theorem dk_L_law_60 : jm_dck code 1920 ((jmI_L_law).getD 60 []) = true := by decide +kernel
theorem dk_L_law_61 : jm_dck code 1952 ((jmI_L_law).getD 61 []) = true := by decide +kernel
theorem dk_L_law_62 : jm_dck code 1984 ((jmI_L_law).getD 62 []) = true := by decide +kernel
theorem dk_L_law_63 : jm_dck code 2016 ((jmI_L_law).getD 63 []) = true := by decide +kernel
theorem dk_L_law_64 : jm_dck code 2048 ((jmI_L_law).getD 64 []) = true := by decide +kernel
theorem dk_L_law_65 : jm_dck code 2080 ((jmI_L_law).getD 65 []) = true := by decide +kernel
theorem dk_L_law_66 : jm_dck code 2112 ((jmI_L_law).getD 66 []) = true := by decide +kernel
theorem dk_L_law_67 : jm_dck code 2144 ((jmI_L_law).getD 67 []) = true := by decide +kernel
theorem dk_L_law_68 : jm_dck code 2176 ((jmI_L_law).getD 68 []) = true := by decide +kernel
theorem dk_L_law_69 : jm_dck code 2208 ((jmI_L_law).getD 69 []) = true := by decide +kernel
theorem dk_L_law_70 : jm_dck code 2240 ((jmI_L_law).getD 70 []) = true := by decide +kernel
theorem dk_L_law_71 : jm_dck code 2272 ((jmI_L_law).getD 71 []) = true := by decide +kernel
theorem dk_L_law_72 : jm_dck code 2304 ((jmI_L_law).getD 72 []) = true := by decide +kernel
theorem dk_L_law_73 : jm_dck code 2336 ((jmI_L_law).getD 73 []) = true := by decide +kernel
theorem dk_L_law_74 : jm_dck code 2368 ((jmI_L_law).getD 74 []) = true := by decide +kernel
theorem dk_L_law_75 : jm_dck code 2400 ((jmI_L_law).getD 75 []) = true := by decide +kernel
theorem dk_L_law_76 : jm_dck code 2432 ((jmI_L_law).getD 76 []) = true := by decide +kernel
theorem dk_L_law_77 : jm_dck code 2464 ((jmI_L_law).getD 77 []) = true := by decide +kernel
theorem dk_L_law_78 : jm_dck code 2496 ((jmI_L_law).getD 78 []) = true := by decide +kernel
theorem dk_L_law_79 : jm_dck code 2528 ((jmI_L_law).getD 79 []) = true := by decide +kernel
theorem dk_L_law_80 : jm_dck code 2560 ((jmI_L_law).getD 80 []) = true := by decide +kernel
theorem dk_L_law_81 : jm_dck code 2592 ((jmI_L_law).getD 81 []) = true := by decide +kernel
theorem dk_L_law_82 : jm_dck code 2624 ((jmI_L_law).getD 82 []) = true := by decide +kernel
theorem dk_L_law_83 : jm_dck code 2656 ((jmI_L_law).getD 83 []) = true := by decide +kernel
theorem dk_L_law_84 : jm_dck code 2688 ((jmI_L_law).getD 84 []) = true := by decide +kernel
theorem dk_L_law_85 : jm_dck code 2720 ((jmI_L_law).getD 85 []) = true := by decide +kernel
theorem dk_L_law_86 : jm_dck code 2752 ((jmI_L_law).getD 86 []) = true := by decide +kernel
theorem dk_L_law_87 : jm_dck code 2784 ((jmI_L_law).getD 87 []) = true := by decide +kernel
theorem dk_L_law_88 : jm_dck code 2816 ((jmI_L_law).getD 88 []) = true := by decide +kernel
theorem dk_L_law : jm_dcs (jm_mC jmM_L_law) 0 (jm_mI jmM_L_law) := And.intro dk_L_law_0 (And.intro dk_L_law_1 (And.intro dk_L_law_2 (And.intro dk_L_law_3 (And.intro dk_L_law_4 (And.intro dk_L_law_5 (And.intro dk_L_law_6 (And.intro dk_L_law_7 (And.intro dk_L_law_8 (And.intro dk_L_law_9 (And.intro dk_L_law_10 (And.intro dk_L_law_11 (And.intro dk_L_law_12 (And.intro dk_L_law_13 (And.intro dk_L_law_14 (And.intro dk_L_law_15 (And.intro dk_L_law_16 (And.intro dk_L_law_17 (And.intro dk_L_law_18 (And.intro dk_L_law_19 (And.intro dk_L_law_20 (And.intro dk_L_law_21 (And.intro dk_L_law_22 (And.intro dk_L_law_23 (And.intro dk_L_law_24 (And.intro dk_L_law_25 (And.intro dk_L_law_26 (And.intro dk_L_law_27 (And.intro dk_L_law_28 (And.intro dk_L_law_29 (And.intro dk_L_law_30 (And.intro dk_L_law_31 (And.intro dk_L_law_32 (And.intro dk_L_law_33 (And.intro dk_L_law_34 (And.intro dk_L_law_35 (And.intro dk_L_law_36 (And.intro dk_L_law_37 (And.intro dk_L_law_38 (And.intro dk_L_law_39 (And.intro dk_L_law_40 (And.intro dk_L_law_41 (And.intro dk_L_law_42 (And.intro dk_L_law_43 (And.intro dk_L_law_44 (And.intro dk_L_law_45 (And.intro dk_L_law_46 (And.intro dk_L_law_47 (And.intro dk_L_law_48 (And.intro dk_L_law_49 (And.intro dk_L_law_50 (And.intro dk_L_law_51 (And.intro dk_L_law_52 (And.intro dk_L_law_53 (And.intro dk_L_law_54 (And.intro dk_L_law_55 (And.intro dk_L_law_56 (And.intro dk_L_law_57 (And.intro dk_L_law_58 (And.intro dk_L_law_59 (And.intro dk_L_law_60 (And.intro dk_L_law_61 (And.intro dk_L_law_62 (And.intro dk_L_law_63 (And.intro dk_L_law_64 (And.intro dk_L_law_65 (And.intro dk_L_law_66 (And.intro dk_L_law_67 (And.intro dk_L_law_68 (And.intro dk_L_law_69 (And.intro dk_L_law_70 (And.intro dk_L_law_71 (And.intro dk_L_law_72 (And.intro dk_L_law_73 (And.intro dk_L_law_74 (And.intro dk_L_law_75 (And.intro dk_L_law_76 (And.intro dk_L_law_77 (And.intro dk_L_law_78 (And.intro dk_L_law_79 (And.intro dk_L_law_80 (And.intro dk_L_law_81 (And.intro dk_L_law_82 (And.intro dk_L_law_83 (And.intro dk_L_law_84 (And.intro dk_L_law_85 (And.intro dk_L_law_86 (And.intro dk_L_law_87 (And.intro dk_L_law_88 (trivial)))))))))))))))))))))))))))))))))))))))))))))))))))))))))))))))))))))))))))))))))))))))))
theorem dk_L_append_0 : jm_dck method_3_code 0 ((jmI_L_append).getD 0 []) = true := by decide +kernel
theorem dk_L_append : jm_dcs (jm_mC jmM_L_append) 0 (jm_mI jmM_L_append) := And.intro dk_L_append_0 (trivial)
theorem dk_L_truncate_0 : jm_dck method_4_code 0 ((jmI_L_truncate).getD 0 []) = true := by decide +kernel
theorem dk_L_truncate : jm_dcs (jm_mC jmM_L_truncate) 0 (jm_mI jmM_L_truncate) := And.intro dk_L_truncate_0 (trivial)
theorem dk_L_count_0 : jm_dck method_5_code 0 ((jmI_L_count).getD 0 []) = true := by decide +kernel
theorem dk_L_count : jm_dcs (jm_mC jmM_L_count) 0 (jm_mI jmM_L_count) := And.intro dk_L_count_0 (trivial)
theorem dk_L_letter_0 : jm_dck method_6_code 0 ((jmI_L_letter).getD 0 []) = true := by decide +kernel
theorem dk_L_letter : jm_dcs (jm_mC jmM_L_letter) 0 (jm_mI jmM_L_letter) := And.intro dk_L_letter_0 (trivial)
theorem dk_L_size_0 : jm_dck method_7_code 0 ((jmI_L_size).getD 0 []) = true := by decide +kernel
theorem dk_L_size : jm_dcs (jm_mC jmM_L_size) 0 (jm_mI jmM_L_size) := And.intro dk_L_size_0 (trivial)
theorem dk_L_sizes_0 : jm_dck method_8_code 0 ((jmI_L_sizes).getD 0 []) = true := by decide +kernel
theorem dk_L_sizes : jm_dcs (jm_mC jmM_L_sizes) 0 (jm_mI jmM_L_sizes) := And.intro dk_L_sizes_0 (trivial)
theorem dk_L_isAlike_0 : jm_dck method_9_code 0 ((jmI_L_isAlike).getD 0 []) = true := by decide +kernel
theorem dk_L_isAlike : jm_dcs (jm_mC jmM_L_isAlike) 0 (jm_mI jmM_L_isAlike) := And.intro dk_L_isAlike_0 (trivial)
theorem dk_L_ratio_0 : jm_dck method_10_code 0 ((jmI_L_ratio).getD 0 []) = true := by decide +kernel
theorem dk_L_ratio : jm_dcs (jm_mC jmM_L_ratio) 0 (jm_mI jmM_L_ratio) := And.intro dk_L_ratio_0 (trivial)
theorem dk_L_ordered_0 : jm_dck method_11_code 0 ((jmI_L_ordered).getD 0 []) = true := by decide +kernel
theorem dk_L_ordered : jm_dcs (jm_mC jmM_L_ordered) 0 (jm_mI jmM_L_ordered) := And.intro dk_L_ordered_0 (trivial)
theorem dk_L_print_0 : jm_dck method_12_code 0 ((jmI_L_print).getD 0 []) = true := by decide +kernel
theorem dk_L_print : jm_dcs (jm_mC jmM_L_print) 0 (jm_mI jmM_L_print) := And.intro dk_L_print_0 (trivial)
theorem dk_L_account_0 : jm_dck method_13_code 0 ((jmI_L_account).getD 0 []) = true := by decide +kernel
theorem dk_L_account : jm_dcs (jm_mC jmM_L_account) 0 (jm_mI jmM_L_account) := And.intro dk_L_account_0 (trivial)
theorem dk_L_refused_0 : jm_dck method_14_code 0 ((jmI_L_refused).getD 0 []) = true := by decide +kernel
theorem dk_L_refused : jm_dcs (jm_mC jmM_L_refused) 0 (jm_mI jmM_L_refused) := And.intro dk_L_refused_0 (trivial)
theorem dk_L_mostFolds_0 : jm_dck method_15_code 0 ((jmI_L_mostFolds).getD 0 []) = true := by decide +kernel
theorem dk_L_mostFolds : jm_dcs (jm_mC jmM_L_mostFolds) 0 (jm_mI jmM_L_mostFolds) := And.intro dk_L_mostFolds_0 (trivial)
theorem dk_L_grid_0 : jm_dck method_16_code 0 ((jmI_L_grid).getD 0 []) = true := by decide +kernel
theorem dk_L_grid : jm_dcs (jm_mC jmM_L_grid) 0 (jm_mI jmM_L_grid) := And.intro dk_L_grid_0 (trivial)
theorem dk_L_page_0 : jm_dck method_17_code 0 ((jmI_L_page).getD 0 []) = true := by decide +kernel
theorem dk_L_page : jm_dcs (jm_mC jmM_L_page) 0 (jm_mI jmM_L_page) := And.intro dk_L_page_0 (trivial)
theorem dk_L_cellOf_0 : jm_dck method_18_code 0 ((jmI_L_cellOf).getD 0 []) = true := by decide +kernel
theorem dk_L_cellOf : jm_dcs (jm_mC jmM_L_cellOf) 0 (jm_mI jmM_L_cellOf) := And.intro dk_L_cellOf_0 (trivial)
theorem dk_L_pageGap_0 : jm_dck method_19_code 0 ((jmI_L_pageGap).getD 0 []) = true := by decide +kernel
theorem dk_L_pageGap : jm_dcs (jm_mC jmM_L_pageGap) 0 (jm_mI jmM_L_pageGap) := And.intro dk_L_pageGap_0 (trivial)
theorem dk_L_fitting_0 : jm_dck method_20_code 0 ((jmI_L_fitting).getD 0 []) = true := by decide +kernel
theorem dk_L_fitting : jm_dcs (jm_mC jmM_L_fitting) 0 (jm_mI jmM_L_fitting) := And.intro dk_L_fitting_0 (trivial)
theorem dk_L_nearest_0 : jm_dck method_21_code 0 ((jmI_L_nearest).getD 0 []) = true := by decide +kernel
theorem dk_L_nearest : jm_dcs (jm_mC jmM_L_nearest) 0 (jm_mI jmM_L_nearest) := And.intro dk_L_nearest_0 (trivial)
theorem dk_L_whyNot_0 : jm_dck method_22_code 0 ((jmI_L_whyNot).getD 0 []) = true := by decide +kernel
theorem dk_L_whyNot : jm_dcs (jm_mC jmM_L_whyNot) 0 (jm_mI jmM_L_whyNot) := And.intro dk_L_whyNot_0 (trivial)
theorem dk_L_ifOrder_0 : jm_dck method_23_code 0 ((jmI_L_ifOrder).getD 0 []) = true := by decide +kernel
theorem dk_L_ifOrder : jm_dcs (jm_mC jmM_L_ifOrder) 0 (jm_mI jmM_L_ifOrder) := And.intro dk_L_ifOrder_0 (trivial)
theorem dk_L_mostOf_0 : jm_dck method_24_code 0 ((jmI_L_mostOf).getD 0 []) = true := by decide +kernel
theorem dk_L_mostOf : jm_dcs (jm_mC jmM_L_mostOf) 0 (jm_mI jmM_L_mostOf) := And.intro dk_L_mostOf_0 (trivial)
theorem dk_L_cutsFor_0 : jm_dck method_25_code 0 ((jmI_L_cutsFor).getD 0 []) = true := by decide +kernel
theorem dk_L_cutsFor : jm_dcs (jm_mC jmM_L_cutsFor) 0 (jm_mI jmM_L_cutsFor) := And.intro dk_L_cutsFor_0 (trivial)
theorem dk_L_found_0 : jm_dck method_26_code 0 ((jmI_L_found).getD 0 []) = true := by decide +kernel
theorem dk_L_found : jm_dcs (jm_mC jmM_L_found) 0 (jm_mI jmM_L_found) := And.intro dk_L_found_0 (trivial)
theorem dk_L_buy_0 : jm_dck method_27_code 0 ((jmI_L_buy).getD 0 []) = true := by decide +kernel
theorem dk_L_buy : jm_dcs (jm_mC jmM_L_buy) 0 (jm_mI jmM_L_buy) := And.intro dk_L_buy_0 (trivial)
theorem dk_L_cut_0 : jm_dck method_28_code 0 ((jmI_L_cut).getD 0 []) = true := by decide +kernel
theorem dk_L_cut : jm_dcs (jm_mC jmM_L_cut) 0 (jm_mI jmM_L_cut) := And.intro dk_L_cut_0 (trivial)
theorem dk_L_order_0 : jm_dck method_29_code 0 ((jmI_L_order).getD 0 []) = true := by decide +kernel
theorem dk_L_order : jm_dcs (jm_mC jmM_L_order) 0 (jm_mI jmM_L_order) := And.intro dk_L_order_0 (trivial)
theorem dk_L_setEdge_0 : jm_dck method_30_code 0 ((jmI_L_setEdge).getD 0 []) = true := by decide +kernel
theorem dk_L_setEdge : jm_dcs (jm_mC jmM_L_setEdge) 0 (jm_mI jmM_L_setEdge) := And.intro dk_L_setEdge_0 (trivial)
theorem dk_L_setReam_0 : jm_dck method_31_code 0 ((jmI_L_setReam).getD 0 []) = true := by decide +kernel
theorem dk_L_setReam : jm_dcs (jm_mC jmM_L_setReam) 0 (jm_mI jmM_L_setReam) := And.intro dk_L_setReam_0 (trivial)
theorem dk_L_writeSheet_0 : jm_dck method_32_code 0 ((jmI_L_writeSheet).getD 0 []) = true := by decide +kernel
theorem dk_L_writeSheet : jm_dcs (jm_mC jmM_L_writeSheet) 0 (jm_mI jmM_L_writeSheet) := And.intro dk_L_writeSheet_0 (trivial)
theorem dk_L_save_0 : jm_dck method_33_code 0 ((jmI_L_save).getD 0 []) = true := by decide +kernel
theorem dk_L_save : jm_dcs (jm_mC jmM_L_save) 0 (jm_mI jmM_L_save) := And.intro dk_L_save_0 (trivial)
theorem dk_L_restore_0 : jm_dck method_34_code 0 ((jmI_L_restore).getD 0 []) = true := by decide +kernel
theorem dk_L_restore : jm_dcs (jm_mC jmM_L_restore) 0 (jm_mI jmM_L_restore) := And.intro dk_L_restore_0 (trivial)
theorem dk_X0_init_0 : jm_dck prog_2_method_1_code 0 ((jmI_X0_init).getD 0 []) = true := by decide +kernel
theorem dk_X0_init : jm_dcs (jm_mC jmM_X0_init) 0 (jm_mI jmM_X0_init) := And.intro dk_X0_init_0 (trivial)
theorem dk_X0_hasRoom_0 : jm_dck prog_2_method_2_code 0 ((jmI_X0_hasRoom).getD 0 []) = true := by decide +kernel
theorem dk_X0_hasRoom : jm_dcs (jm_mC jmM_X0_hasRoom) 0 (jm_mI jmM_X0_hasRoom) := And.intro dk_X0_hasRoom_0 (trivial)
theorem dk_X0_put_0 : jm_dck prog_2_method_3_code 0 ((jmI_X0_put).getD 0 []) = true := by decide +kernel
theorem dk_X0_put : jm_dcs (jm_mC jmM_X0_put) 0 (jm_mI jmM_X0_put) := And.intro dk_X0_put_0 (trivial)
theorem dk_X0_putFour_0 : jm_dck prog_2_method_4_code 0 ((jmI_X0_putFour).getD 0 []) = true := by decide +kernel
theorem dk_X0_putFour_1 : jm_dck prog_2_method_4_code 32 ((jmI_X0_putFour).getD 1 []) = true := by decide +kernel
theorem dk_X0_putFour : jm_dcs (jm_mC jmM_X0_putFour) 0 (jm_mI jmM_X0_putFour) := And.intro dk_X0_putFour_0 (And.intro dk_X0_putFour_1 (trivial))
theorem dk_X0_putNumber_0 : jm_dck prog_2_method_5_code 0 ((jmI_X0_putNumber).getD 0 []) = true := by decide +kernel
theorem dk_X0_putNumber_1 : jm_dck prog_2_method_5_code 32 ((jmI_X0_putNumber).getD 1 []) = true := by decide +kernel
theorem dk_X0_putNumber : jm_dcs (jm_mC jmM_X0_putNumber) 0 (jm_mI jmM_X0_putNumber) := And.intro dk_X0_putNumber_0 (And.intro dk_X0_putNumber_1 (trivial))
theorem dk_X0_shorten_0 : jm_dck prog_2_method_6_code 0 ((jmI_X0_shorten).getD 0 []) = true := by decide +kernel
theorem dk_X0_shorten : jm_dcs (jm_mC jmM_X0_shorten) 0 (jm_mI jmM_X0_shorten) := And.intro dk_X0_shorten_0 (trivial)
theorem dk_X0_byteAt_0 : jm_dck prog_2_method_7_code 0 ((jmI_X0_byteAt).getD 0 []) = true := by decide +kernel
theorem dk_X0_byteAt : jm_dcs (jm_mC jmM_X0_byteAt) 0 (jm_mI jmM_X0_byteAt) := And.intro dk_X0_byteAt_0 (trivial)
theorem dk_X0_isName_0 : jm_dck prog_2_method_8_code 0 ((jmI_X0_isName).getD 0 []) = true := by decide +kernel
theorem dk_X0_isName_1 : jm_dck prog_2_method_8_code 32 ((jmI_X0_isName).getD 1 []) = true := by decide +kernel
theorem dk_X0_isName : jm_dcs (jm_mC jmM_X0_isName) 0 (jm_mI jmM_X0_isName) := And.intro dk_X0_isName_0 (And.intro dk_X0_isName_1 (trivial))
theorem dk_X1_init_0 : jm_dck prog_3_method_1_code 0 ((jmI_X1_init).getD 0 []) = true := by decide +kernel
theorem dk_X1_init : jm_dcs (jm_mC jmM_X1_init) 0 (jm_mI jmM_X1_init) := And.intro dk_X1_init_0 (trivial)
theorem dk_X1_make_0 : jm_dck prog_3_method_2_code 0 ((jmI_X1_make).getD 0 []) = true := by decide +kernel
theorem dk_X1_make_1 : jm_dck prog_3_method_2_code 32 ((jmI_X1_make).getD 1 []) = true := by decide +kernel
theorem dk_X1_make_2 : jm_dck prog_3_method_2_code 64 ((jmI_X1_make).getD 2 []) = true := by decide +kernel
theorem dk_X1_make_3 : jm_dck prog_3_method_2_code 96 ((jmI_X1_make).getD 3 []) = true := by decide +kernel
theorem dk_X1_make : jm_dcs (jm_mC jmM_X1_make) 0 (jm_mI jmM_X1_make) := And.intro dk_X1_make_0 (And.intro dk_X1_make_1 (And.intro dk_X1_make_2 (And.intro dk_X1_make_3 (trivial))))
theorem dk_X1_halvesOf_0 : jm_dck prog_3_method_3_code 0 ((jmI_X1_halvesOf).getD 0 []) = true := by decide +kernel
theorem dk_X1_halvesOf : jm_dcs (jm_mC jmM_X1_halvesOf) 0 (jm_mI jmM_X1_halvesOf) := And.intro dk_X1_halvesOf_0 (trivial)
theorem dk_X1_doWith_0 : jm_dck prog_3_method_4_code 0 ((jmI_X1_doWith).getD 0 []) = true := by decide +kernel
theorem dk_X1_doWith : jm_dcs (jm_mC jmM_X1_doWith) 0 (jm_mI jmM_X1_doWith) := And.intro dk_X1_doWith_0 (trivial)
theorem dk_X2_init_0 : jm_dck prog_4_method_1_code 0 ((jmI_X2_init).getD 0 []) = true := by decide +kernel
theorem dk_X2_init_1 : jm_dck prog_4_method_1_code 32 ((jmI_X2_init).getD 1 []) = true := by decide +kernel
theorem dk_X2_init : jm_dcs (jm_mC jmM_X2_init) 0 (jm_mI jmM_X2_init) := And.intro dk_X2_init_0 (And.intro dk_X2_init_1 (trivial))
theorem dk_X2_foldUp_0 : jm_dck prog_4_method_2_code 0 ((jmI_X2_foldUp).getD 0 []) = true := by decide +kernel
theorem dk_X2_foldUp_1 : jm_dck prog_4_method_2_code 32 ((jmI_X2_foldUp).getD 1 []) = true := by decide +kernel
theorem dk_X2_foldUp_2 : jm_dck prog_4_method_2_code 64 ((jmI_X2_foldUp).getD 2 []) = true := by decide +kernel
theorem dk_X2_foldUp_3 : jm_dck prog_4_method_2_code 96 ((jmI_X2_foldUp).getD 3 []) = true := by decide +kernel
theorem dk_X2_foldUp : jm_dcs (jm_mC jmM_X2_foldUp) 0 (jm_mI jmM_X2_foldUp) := And.intro dk_X2_foldUp_0 (And.intro dk_X2_foldUp_1 (And.intro dk_X2_foldUp_2 (And.intro dk_X2_foldUp_3 (trivial))))
theorem dk_X2_pileUp_0 : jm_dck prog_4_method_3_code 0 ((jmI_X2_pileUp).getD 0 []) = true := by decide +kernel
theorem dk_X2_pileUp_1 : jm_dck prog_4_method_3_code 32 ((jmI_X2_pileUp).getD 1 []) = true := by decide +kernel
theorem dk_X2_pileUp_2 : jm_dck prog_4_method_3_code 64 ((jmI_X2_pileUp).getD 2 []) = true := by decide +kernel
theorem dk_X2_pileUp_3 : jm_dck prog_4_method_3_code 96 ((jmI_X2_pileUp).getD 3 []) = true := by decide +kernel
theorem dk_X2_pileUp_4 : jm_dck prog_4_method_3_code 128 ((jmI_X2_pileUp).getD 4 []) = true := by decide +kernel
theorem dk_X2_pileUp : jm_dcs (jm_mC jmM_X2_pileUp) 0 (jm_mI jmM_X2_pileUp) := And.intro dk_X2_pileUp_0 (And.intro dk_X2_pileUp_1 (And.intro dk_X2_pileUp_2 (And.intro dk_X2_pileUp_3 (And.intro dk_X2_pileUp_4 (trivial)))))
theorem dk_X2_layPlace_0 : jm_dck prog_4_method_4_code 0 ((jmI_X2_layPlace).getD 0 []) = true := by decide +kernel
theorem dk_X2_layPlace_1 : jm_dck prog_4_method_4_code 32 ((jmI_X2_layPlace).getD 1 []) = true := by decide +kernel
theorem dk_X2_layPlace_2 : jm_dck prog_4_method_4_code 64 ((jmI_X2_layPlace).getD 2 []) = true := by decide +kernel
theorem dk_X2_layPlace_3 : jm_dck prog_4_method_4_code 96 ((jmI_X2_layPlace).getD 3 []) = true := by decide +kernel
theorem dk_X2_layPlace_4 : jm_dck prog_4_method_4_code 128 ((jmI_X2_layPlace).getD 4 []) = true := by decide +kernel
theorem dk_X2_layPlace : jm_dcs (jm_mC jmM_X2_layPlace) 0 (jm_mI jmM_X2_layPlace) := And.intro dk_X2_layPlace_0 (And.intro dk_X2_layPlace_1 (And.intro dk_X2_layPlace_2 (And.intro dk_X2_layPlace_3 (And.intro dk_X2_layPlace_4 (trivial)))))
theorem dk_X2_numberPages_0 : jm_dck prog_4_method_5_code 0 ((jmI_X2_numberPages).getD 0 []) = true := by decide +kernel
theorem dk_X2_numberPages_1 : jm_dck prog_4_method_5_code 32 ((jmI_X2_numberPages).getD 1 []) = true := by decide +kernel
theorem dk_X2_numberPages : jm_dcs (jm_mC jmM_X2_numberPages) 0 (jm_mI jmM_X2_numberPages) := And.intro dk_X2_numberPages_0 (And.intro dk_X2_numberPages_1 (trivial))
theorem dk_X2_hasCell_0 : jm_dck prog_4_method_6_code 0 ((jmI_X2_hasCell).getD 0 []) = true := by decide +kernel
theorem dk_X2_hasCell : jm_dcs (jm_mC jmM_X2_hasCell) 0 (jm_mI jmM_X2_hasCell) := And.intro dk_X2_hasCell_0 (trivial)
theorem dk_X2_pageAt_0 : jm_dck prog_4_method_7_code 0 ((jmI_X2_pageAt).getD 0 []) = true := by decide +kernel
theorem dk_X2_pageAt : jm_dcs (jm_mC jmM_X2_pageAt) 0 (jm_mI jmM_X2_pageAt) := And.intro dk_X2_pageAt_0 (trivial)
theorem dk_X2_cellWith_0 : jm_dck prog_4_method_8_code 0 ((jmI_X2_cellWith).getD 0 []) = true := by decide +kernel
theorem dk_X2_cellWith_1 : jm_dck prog_4_method_8_code 32 ((jmI_X2_cellWith).getD 1 []) = true := by decide +kernel
theorem dk_X2_cellWith_2 : jm_dck prog_4_method_8_code 64 ((jmI_X2_cellWith).getD 2 []) = true := by decide +kernel
theorem dk_X2_cellWith : jm_dcs (jm_mC jmM_X2_cellWith) 0 (jm_mI jmM_X2_cellWith) := And.intro dk_X2_cellWith_0 (And.intro dk_X2_cellWith_1 (And.intro dk_X2_cellWith_2 (trivial)))
theorem dk_X2_cellsWithOtherPages_0 : jm_dck prog_4_method_9_code 0 ((jmI_X2_cellsWithOtherPages).getD 0 []) = true := by decide +kernel
theorem dk_X2_cellsWithOtherPages_1 : jm_dck prog_4_method_9_code 32 ((jmI_X2_cellsWithOtherPages).getD 1 []) = true := by decide +kernel
theorem dk_X2_cellsWithOtherPages_2 : jm_dck prog_4_method_9_code 64 ((jmI_X2_cellsWithOtherPages).getD 2 []) = true := by decide +kernel
theorem dk_X2_cellsWithOtherPages : jm_dcs (jm_mC jmM_X2_cellsWithOtherPages) 0 (jm_mI jmM_X2_cellsWithOtherPages) := And.intro dk_X2_cellsWithOtherPages_0 (And.intro dk_X2_cellsWithOtherPages_1 (And.intro dk_X2_cellsWithOtherPages_2 (trivial)))
theorem dk_X2_frontPageByItself_0 : jm_dck prog_4_method_10_code 0 ((jmI_X2_frontPageByItself).getD 0 []) = true := by decide +kernel
theorem dk_X2_frontPageByItself_1 : jm_dck prog_4_method_10_code 32 ((jmI_X2_frontPageByItself).getD 1 []) = true := by decide +kernel
theorem dk_X2_frontPageByItself_2 : jm_dck prog_4_method_10_code 64 ((jmI_X2_frontPageByItself).getD 2 []) = true := by decide +kernel
theorem dk_X2_frontPageByItself_3 : jm_dck prog_4_method_10_code 96 ((jmI_X2_frontPageByItself).getD 3 []) = true := by decide +kernel
theorem dk_X2_frontPageByItself_4 : jm_dck prog_4_method_10_code 128 ((jmI_X2_frontPageByItself).getD 4 []) = true := by decide +kernel
theorem dk_X2_frontPageByItself_5 : jm_dck prog_4_method_10_code 160 ((jmI_X2_frontPageByItself).getD 5 []) = true := by decide +kernel
theorem dk_X2_frontPageByItself_6 : jm_dck prog_4_method_10_code 192 ((jmI_X2_frontPageByItself).getD 6 []) = true := by decide +kernel
theorem dk_X2_frontPageByItself : jm_dcs (jm_mC jmM_X2_frontPageByItself) 0 (jm_mI jmM_X2_frontPageByItself) := And.intro dk_X2_frontPageByItself_0 (And.intro dk_X2_frontPageByItself_1 (And.intro dk_X2_frontPageByItself_2 (And.intro dk_X2_frontPageByItself_3 (And.intro dk_X2_frontPageByItself_4 (And.intro dk_X2_frontPageByItself_5 (And.intro dk_X2_frontPageByItself_6 (trivial)))))))
theorem dk_X3_init_0 : jm_dck prog_5_method_1_code 0 ((jmI_X3_init).getD 0 []) = true := by decide +kernel
theorem dk_X3_init_1 : jm_dck prog_5_method_1_code 32 ((jmI_X3_init).getD 1 []) = true := by decide +kernel
theorem dk_X3_init : jm_dcs (jm_mC jmM_X3_init) 0 (jm_mI jmM_X3_init) := And.intro dk_X3_init_0 (And.intro dk_X3_init_1 (trivial))
theorem dk_X3_keep_0 : jm_dck prog_5_method_2_code 0 ((jmI_X3_keep).getD 0 []) = true := by decide +kernel
theorem dk_X3_keep_1 : jm_dck prog_5_method_2_code 32 ((jmI_X3_keep).getD 1 []) = true := by decide +kernel
theorem dk_X3_keep : jm_dcs (jm_mC jmM_X3_keep) 0 (jm_mI jmM_X3_keep) := And.intro dk_X3_keep_0 (And.intro dk_X3_keep_1 (trivial))
theorem dk_X3_giveBack_0 : jm_dck prog_5_method_3_code 0 ((jmI_X3_giveBack).getD 0 []) = true := by decide +kernel
theorem dk_X3_giveBack_1 : jm_dck prog_5_method_3_code 32 ((jmI_X3_giveBack).getD 1 []) = true := by decide +kernel
theorem dk_X3_giveBack : jm_dcs (jm_mC jmM_X3_giveBack) 0 (jm_mI jmM_X3_giveBack) := And.intro dk_X3_giveBack_0 (And.intro dk_X3_giveBack_1 (trivial))
theorem dk_X3_forget_0 : jm_dck prog_5_method_4_code 0 ((jmI_X3_forget).getD 0 []) = true := by decide +kernel
theorem dk_X3_forget : jm_dcs (jm_mC jmM_X3_forget) 0 (jm_mI jmM_X3_forget) := And.intro dk_X3_forget_0 (trivial)
theorem dk_X4_init_0 : jm_dck prog_6_method_1_code 0 ((jmI_X4_init).getD 0 []) = true := by decide +kernel
theorem dk_X4_init_1 : jm_dck prog_6_method_1_code 32 ((jmI_X4_init).getD 1 []) = true := by decide +kernel
theorem dk_X4_init : jm_dcs (jm_mC jmM_X4_init) 0 (jm_mI jmM_X4_init) := And.intro dk_X4_init_0 (And.intro dk_X4_init_1 (trivial))
theorem dk_X4_copyFrom_0 : jm_dck prog_6_method_2_code 0 ((jmI_X4_copyFrom).getD 0 []) = true := by decide +kernel
theorem dk_X4_copyFrom_1 : jm_dck prog_6_method_2_code 32 ((jmI_X4_copyFrom).getD 1 []) = true := by decide +kernel
theorem dk_X4_copyFrom_2 : jm_dck prog_6_method_2_code 64 ((jmI_X4_copyFrom).getD 2 []) = true := by decide +kernel
theorem dk_X4_copyFrom : jm_dcs (jm_mC jmM_X4_copyFrom) 0 (jm_mI jmM_X4_copyFrom) := And.intro dk_X4_copyFrom_0 (And.intro dk_X4_copyFrom_1 (And.intro dk_X4_copyFrom_2 (trivial)))
theorem dk_X4_begin_0 : jm_dck prog_6_method_3_code 0 ((jmI_X4_begin).getD 0 []) = true := by decide +kernel
theorem dk_X4_begin_1 : jm_dck prog_6_method_3_code 32 ((jmI_X4_begin).getD 1 []) = true := by decide +kernel
theorem dk_X4_begin : jm_dcs (jm_mC jmM_X4_begin) 0 (jm_mI jmM_X4_begin) := And.intro dk_X4_begin_0 (And.intro dk_X4_begin_1 (trivial))
theorem dk_X4_hasSeries_0 : jm_dck prog_6_method_4_code 0 ((jmI_X4_hasSeries).getD 0 []) = true := by decide +kernel
theorem dk_X4_hasSeries : jm_dcs (jm_mC jmM_X4_hasSeries) 0 (jm_mI jmM_X4_hasSeries) := And.intro dk_X4_hasSeries_0 (trivial)
theorem dk_X4_seriesNamed_0 : jm_dck prog_6_method_5_code 0 ((jmI_X4_seriesNamed).getD 0 []) = true := by decide +kernel
theorem dk_X4_seriesNamed_1 : jm_dck prog_6_method_5_code 32 ((jmI_X4_seriesNamed).getD 1 []) = true := by decide +kernel
theorem dk_X4_seriesNamed : jm_dcs (jm_mC jmM_X4_seriesNamed) 0 (jm_mI jmM_X4_seriesNamed) := And.intro dk_X4_seriesNamed_0 (And.intro dk_X4_seriesNamed_1 (trivial))
theorem dk_X4_addSeries_0 : jm_dck prog_6_method_6_code 0 ((jmI_X4_addSeries).getD 0 []) = true := by decide +kernel
theorem dk_X4_addSeries_1 : jm_dck prog_6_method_6_code 32 ((jmI_X4_addSeries).getD 1 []) = true := by decide +kernel
theorem dk_X4_addSeries : jm_dcs (jm_mC jmM_X4_addSeries) 0 (jm_mI jmM_X4_addSeries) := And.intro dk_X4_addSeries_0 (And.intro dk_X4_addSeries_1 (trivial))
theorem dk_X4_sheetsInAll_0 : jm_dck prog_6_method_7_code 0 ((jmI_X4_sheetsInAll).getD 0 []) = true := by decide +kernel
theorem dk_X4_sheetsInAll_1 : jm_dck prog_6_method_7_code 32 ((jmI_X4_sheetsInAll).getD 1 []) = true := by decide +kernel
theorem dk_X4_sheetsInAll : jm_dcs (jm_mC jmM_X4_sheetsInAll) 0 (jm_mI jmM_X4_sheetsInAll) := And.intro dk_X4_sheetsInAll_0 (And.intro dk_X4_sheetsInAll_1 (trivial))
theorem dk_X4_stacksInAll_0 : jm_dck prog_6_method_8_code 0 ((jmI_X4_stacksInAll).getD 0 []) = true := by decide +kernel
theorem dk_X4_stacksInAll_1 : jm_dck prog_6_method_8_code 32 ((jmI_X4_stacksInAll).getD 1 []) = true := by decide +kernel
theorem dk_X4_stacksInAll : jm_dcs (jm_mC jmM_X4_stacksInAll) 0 (jm_mI jmM_X4_stacksInAll) := And.intro dk_X4_stacksInAll_0 (And.intro dk_X4_stacksInAll_1 (trivial))
theorem dk_X4_areaInAll_0 : jm_dck prog_6_method_9_code 0 ((jmI_X4_areaInAll).getD 0 []) = true := by decide +kernel
theorem dk_X4_areaInAll_1 : jm_dck prog_6_method_9_code 32 ((jmI_X4_areaInAll).getD 1 []) = true := by decide +kernel
theorem dk_X4_areaInAll_2 : jm_dck prog_6_method_9_code 64 ((jmI_X4_areaInAll).getD 2 []) = true := by decide +kernel
theorem dk_X4_areaInAll : jm_dcs (jm_mC jmM_X4_areaInAll) 0 (jm_mI jmM_X4_areaInAll) := And.intro dk_X4_areaInAll_0 (And.intro dk_X4_areaInAll_1 (And.intro dk_X4_areaInAll_2 (trivial)))
theorem dk_X4_greatestEdge_0 : jm_dck prog_6_method_10_code 0 ((jmI_X4_greatestEdge).getD 0 []) = true := by decide +kernel
theorem dk_X4_greatestEdge_1 : jm_dck prog_6_method_10_code 32 ((jmI_X4_greatestEdge).getD 1 []) = true := by decide +kernel
theorem dk_X4_greatestEdge : jm_dcs (jm_mC jmM_X4_greatestEdge) 0 (jm_mI jmM_X4_greatestEdge) := And.intro dk_X4_greatestEdge_0 (And.intro dk_X4_greatestEdge_1 (trivial))
theorem dk_X4_refusalToBuy_0 : jm_dck prog_6_method_11_code 0 ((jmI_X4_refusalToBuy).getD 0 []) = true := by decide +kernel
theorem dk_X4_refusalToBuy_1 : jm_dck prog_6_method_11_code 32 ((jmI_X4_refusalToBuy).getD 1 []) = true := by decide +kernel
theorem dk_X4_refusalToBuy : jm_dcs (jm_mC jmM_X4_refusalToBuy) 0 (jm_mI jmM_X4_refusalToBuy) := And.intro dk_X4_refusalToBuy_0 (And.intro dk_X4_refusalToBuy_1 (trivial))
theorem dk_X4_takeIn_0 : jm_dck prog_6_method_12_code 0 ((jmI_X4_takeIn).getD 0 []) = true := by decide +kernel
theorem dk_X4_takeIn_1 : jm_dck prog_6_method_12_code 32 ((jmI_X4_takeIn).getD 1 []) = true := by decide +kernel
theorem dk_X4_takeIn : jm_dcs (jm_mC jmM_X4_takeIn) 0 (jm_mI jmM_X4_takeIn) := And.intro dk_X4_takeIn_0 (And.intro dk_X4_takeIn_1 (trivial))
theorem dk_X4_refusalToCut_0 : jm_dck prog_6_method_13_code 0 ((jmI_X4_refusalToCut).getD 0 []) = true := by decide +kernel
theorem dk_X4_refusalToCut_1 : jm_dck prog_6_method_13_code 32 ((jmI_X4_refusalToCut).getD 1 []) = true := by decide +kernel
theorem dk_X4_refusalToCut : jm_dcs (jm_mC jmM_X4_refusalToCut) 0 (jm_mI jmM_X4_refusalToCut) := And.intro dk_X4_refusalToCut_0 (And.intro dk_X4_refusalToCut_1 (trivial))
theorem dk_X4_cutUp_0 : jm_dck prog_6_method_14_code 0 ((jmI_X4_cutUp).getD 0 []) = true := by decide +kernel
theorem dk_X4_cutUp_1 : jm_dck prog_6_method_14_code 32 ((jmI_X4_cutUp).getD 1 []) = true := by decide +kernel
theorem dk_X4_cutUp_2 : jm_dck prog_6_method_14_code 64 ((jmI_X4_cutUp).getD 2 []) = true := by decide +kernel
theorem dk_X4_cutUp : jm_dcs (jm_mC jmM_X4_cutUp) 0 (jm_mI jmM_X4_cutUp) := And.intro dk_X4_cutUp_0 (And.intro dk_X4_cutUp_1 (And.intro dk_X4_cutUp_2 (trivial)))
theorem dk_X4_fill_0 : jm_dck prog_6_method_15_code 0 ((jmI_X4_fill).getD 0 []) = true := by decide +kernel
theorem dk_X4_fill_1 : jm_dck prog_6_method_15_code 32 ((jmI_X4_fill).getD 1 []) = true := by decide +kernel
theorem dk_X4_fill_2 : jm_dck prog_6_method_15_code 64 ((jmI_X4_fill).getD 2 []) = true := by decide +kernel
theorem dk_X4_fill_3 : jm_dck prog_6_method_15_code 96 ((jmI_X4_fill).getD 3 []) = true := by decide +kernel
theorem dk_X4_fill_4 : jm_dck prog_6_method_15_code 128 ((jmI_X4_fill).getD 4 []) = true := by decide +kernel
theorem dk_X4_fill : jm_dcs (jm_mC jmM_X4_fill) 0 (jm_mI jmM_X4_fill) := And.intro dk_X4_fill_0 (And.intro dk_X4_fill_1 (And.intro dk_X4_fill_2 (And.intro dk_X4_fill_3 (And.intro dk_X4_fill_4 (trivial)))))
theorem dk_X5_init_0 : jm_dck prog_7_method_1_code 0 ((jmI_X5_init).getD 0 []) = true := by decide +kernel
theorem dk_X5_init : jm_dcs (jm_mC jmM_X5_init) 0 (jm_mI jmM_X5_init) := And.intro dk_X5_init_0 (trivial)
theorem dk_X5_make_0 : jm_dck prog_7_method_2_code 0 ((jmI_X5_make).getD 0 []) = true := by decide +kernel
theorem dk_X5_make_1 : jm_dck prog_7_method_2_code 32 ((jmI_X5_make).getD 1 []) = true := by decide +kernel
theorem dk_X5_make_2 : jm_dck prog_7_method_2_code 64 ((jmI_X5_make).getD 2 []) = true := by decide +kernel
theorem dk_X5_make_3 : jm_dck prog_7_method_2_code 96 ((jmI_X5_make).getD 3 []) = true := by decide +kernel
theorem dk_X5_make_4 : jm_dck prog_7_method_2_code 128 ((jmI_X5_make).getD 4 []) = true := by decide +kernel
theorem dk_X5_make : jm_dcs (jm_mC jmM_X5_make) 0 (jm_mI jmM_X5_make) := And.intro dk_X5_make_0 (And.intro dk_X5_make_1 (And.intro dk_X5_make_2 (And.intro dk_X5_make_3 (And.intro dk_X5_make_4 (trivial)))))
theorem dk_X5_weighSeries_0 : jm_dck prog_7_method_3_code 0 ((jmI_X5_weighSeries).getD 0 []) = true := by decide +kernel
theorem dk_X5_weighSeries_1 : jm_dck prog_7_method_3_code 32 ((jmI_X5_weighSeries).getD 1 []) = true := by decide +kernel
theorem dk_X5_weighSeries_2 : jm_dck prog_7_method_3_code 64 ((jmI_X5_weighSeries).getD 2 []) = true := by decide +kernel
theorem dk_X5_weighSeries_3 : jm_dck prog_7_method_3_code 96 ((jmI_X5_weighSeries).getD 3 []) = true := by decide +kernel
theorem dk_X5_weighSeries : jm_dcs (jm_mC jmM_X5_weighSeries) 0 (jm_mI jmM_X5_weighSeries) := And.intro dk_X5_weighSeries_0 (And.intro dk_X5_weighSeries_1 (And.intro dk_X5_weighSeries_2 (And.intro dk_X5_weighSeries_3 (trivial))))
theorem dk_X5_isNearer_0 : jm_dck prog_7_method_4_code 0 ((jmI_X5_isNearer).getD 0 []) = true := by decide +kernel
theorem dk_X5_isNearer_1 : jm_dck prog_7_method_4_code 32 ((jmI_X5_isNearer).getD 1 []) = true := by decide +kernel
theorem dk_X5_isNearer : jm_dcs (jm_mC jmM_X5_isNearer) 0 (jm_mI jmM_X5_isNearer) := And.intro dk_X5_isNearer_0 (And.intro dk_X5_isNearer_1 (trivial))
theorem dk_X5_told_0 : jm_dck prog_7_method_5_code 0 ((jmI_X5_told).getD 0 []) = true := by decide +kernel
theorem dk_X5_told : jm_dcs (jm_mC jmM_X5_told) 0 (jm_mI jmM_X5_told) := And.intro dk_X5_told_0 (trivial)
theorem dk_X6_init_0 : jm_dck prog_8_method_1_code 0 ((jmI_X6_init).getD 0 []) = true := by decide +kernel
theorem dk_X6_init : jm_dcs (jm_mC jmM_X6_init) 0 (jm_mI jmM_X6_init) := And.intro dk_X6_init_0 (trivial)
theorem dk_X6_copyFrom_0 : jm_dck prog_8_method_2_code 0 ((jmI_X6_copyFrom).getD 0 []) = true := by decide +kernel
theorem dk_X6_copyFrom_1 : jm_dck prog_8_method_2_code 32 ((jmI_X6_copyFrom).getD 1 []) = true := by decide +kernel
theorem dk_X6_copyFrom : jm_dcs (jm_mC jmM_X6_copyFrom) 0 (jm_mI jmM_X6_copyFrom) := And.intro dk_X6_copyFrom_0 (And.intro dk_X6_copyFrom_1 (trivial))
theorem dk_X6_forget_0 : jm_dck prog_8_method_3_code 0 ((jmI_X6_forget).getD 0 []) = true := by decide +kernel
theorem dk_X6_forget : jm_dcs (jm_mC jmM_X6_forget) 0 (jm_mI jmM_X6_forget) := And.intro dk_X6_forget_0 (trivial)
theorem dk_X6_placeOf_0 : jm_dck prog_8_method_4_code 0 ((jmI_X6_placeOf).getD 0 []) = true := by decide +kernel
theorem dk_X6_placeOf_1 : jm_dck prog_8_method_4_code 32 ((jmI_X6_placeOf).getD 1 []) = true := by decide +kernel
theorem dk_X6_placeOf : jm_dcs (jm_mC jmM_X6_placeOf) 0 (jm_mI jmM_X6_placeOf) := And.intro dk_X6_placeOf_0 (And.intro dk_X6_placeOf_1 (trivial))
theorem dk_X6_numberOf_0 : jm_dck prog_8_method_5_code 0 ((jmI_X6_numberOf).getD 0 []) = true := by decide +kernel
theorem dk_X6_numberOf : jm_dcs (jm_mC jmM_X6_numberOf) 0 (jm_mI jmM_X6_numberOf) := And.intro dk_X6_numberOf_0 (trivial)
theorem dk_X6_tell_0 : jm_dck prog_8_method_6_code 0 ((jmI_X6_tell).getD 0 []) = true := by decide +kernel
theorem dk_X6_tell_1 : jm_dck prog_8_method_6_code 32 ((jmI_X6_tell).getD 1 []) = true := by decide +kernel
theorem dk_X6_tell : jm_dcs (jm_mC jmM_X6_tell) 0 (jm_mI jmM_X6_tell) := And.intro dk_X6_tell_0 (And.intro dk_X6_tell_1 (trivial))
theorem dk_X6_note_0 : jm_dck prog_8_method_7_code 0 ((jmI_X6_note).getD 0 []) = true := by decide +kernel
theorem dk_X6_note_1 : jm_dck prog_8_method_7_code 32 ((jmI_X6_note).getD 1 []) = true := by decide +kernel
theorem dk_X6_note_2 : jm_dck prog_8_method_7_code 64 ((jmI_X6_note).getD 2 []) = true := by decide +kernel
theorem dk_X6_note : jm_dcs (jm_mC jmM_X6_note) 0 (jm_mI jmM_X6_note) := And.intro dk_X6_note_0 (And.intro dk_X6_note_1 (And.intro dk_X6_note_2 (trivial)))
theorem dk_X7_init_0 : jm_dck prog_9_method_1_code 0 ((jmI_X7_init).getD 0 []) = true := by decide +kernel
theorem dk_X7_init : jm_dcs (jm_mC jmM_X7_init) 0 (jm_mI jmM_X7_init) := And.intro dk_X7_init_0 (trivial)
theorem dk_X7_begin_0 : jm_dck prog_9_method_2_code 0 ((jmI_X7_begin).getD 0 []) = true := by decide +kernel
theorem dk_X7_begin : jm_dcs (jm_mC jmM_X7_begin) 0 (jm_mI jmM_X7_begin) := And.intro dk_X7_begin_0 (trivial)
theorem dk_X7_advance_0 : jm_dck prog_9_method_3_code 0 ((jmI_X7_advance).getD 0 []) = true := by decide +kernel
theorem dk_X7_advance_1 : jm_dck prog_9_method_3_code 32 ((jmI_X7_advance).getD 1 []) = true := by decide +kernel
theorem dk_X7_advance_2 : jm_dck prog_9_method_3_code 64 ((jmI_X7_advance).getD 2 []) = true := by decide +kernel
theorem dk_X7_advance_3 : jm_dck prog_9_method_3_code 96 ((jmI_X7_advance).getD 3 []) = true := by decide +kernel
theorem dk_X7_advance_4 : jm_dck prog_9_method_3_code 128 ((jmI_X7_advance).getD 4 []) = true := by decide +kernel
theorem dk_X7_advance_5 : jm_dck prog_9_method_3_code 160 ((jmI_X7_advance).getD 5 []) = true := by decide +kernel
theorem dk_X7_advance_6 : jm_dck prog_9_method_3_code 192 ((jmI_X7_advance).getD 6 []) = true := by decide +kernel
theorem dk_X7_advance_7 : jm_dck prog_9_method_3_code 224 ((jmI_X7_advance).getD 7 []) = true := by decide +kernel
theorem dk_X7_advance : jm_dcs (jm_mC jmM_X7_advance) 0 (jm_mI jmM_X7_advance) := And.intro dk_X7_advance_0 (And.intro dk_X7_advance_1 (And.intro dk_X7_advance_2 (And.intro dk_X7_advance_3 (And.intro dk_X7_advance_4 (And.intro dk_X7_advance_5 (And.intro dk_X7_advance_6 (And.intro dk_X7_advance_7 (trivial))))))))
theorem dk_X7_fail_0 : jm_dck prog_9_method_4_code 0 ((jmI_X7_fail).getD 0 []) = true := by decide +kernel
theorem dk_X7_fail : jm_dcs (jm_mC jmM_X7_fail) 0 (jm_mI jmM_X7_fail) := And.intro dk_X7_fail_0 (trivial)
theorem dk_X7_isWord_0 : jm_dck prog_9_method_5_code 0 ((jmI_X7_isWord).getD 0 []) = true := by decide +kernel
theorem dk_X7_isWord_1 : jm_dck prog_9_method_5_code 32 ((jmI_X7_isWord).getD 1 []) = true := by decide +kernel
theorem dk_X7_isWord_2 : jm_dck prog_9_method_5_code 64 ((jmI_X7_isWord).getD 2 []) = true := by decide +kernel
theorem dk_X7_isWord : jm_dcs (jm_mC jmM_X7_isWord) 0 (jm_mI jmM_X7_isWord) := And.intro dk_X7_isWord_0 (And.intro dk_X7_isWord_1 (And.intro dk_X7_isWord_2 (trivial)))
theorem dk_X7_isSign_0 : jm_dck prog_9_method_6_code 0 ((jmI_X7_isSign).getD 0 []) = true := by decide +kernel
theorem dk_X7_isSign : jm_dcs (jm_mC jmM_X7_isSign) 0 (jm_mI jmM_X7_isSign) := And.intro dk_X7_isSign_0 (trivial)
theorem dk_X7_takeSign_0 : jm_dck prog_9_method_7_code 0 ((jmI_X7_takeSign).getD 0 []) = true := by decide +kernel
theorem dk_X7_takeSign : jm_dcs (jm_mC jmM_X7_takeSign) 0 (jm_mI jmM_X7_takeSign) := And.intro dk_X7_takeSign_0 (trivial)
theorem dk_X7_seesName_0 : jm_dck prog_9_method_8_code 0 ((jmI_X7_seesName).getD 0 []) = true := by decide +kernel
theorem dk_X7_seesName_1 : jm_dck prog_9_method_8_code 32 ((jmI_X7_seesName).getD 1 []) = true := by decide +kernel
theorem dk_X7_seesName : jm_dcs (jm_mC jmM_X7_seesName) 0 (jm_mI jmM_X7_seesName) := And.intro dk_X7_seesName_0 (And.intro dk_X7_seesName_1 (trivial))
theorem dk_X7_seesNumber_0 : jm_dck prog_9_method_9_code 0 ((jmI_X7_seesNumber).getD 0 []) = true := by decide +kernel
theorem dk_X7_seesNumber_1 : jm_dck prog_9_method_9_code 32 ((jmI_X7_seesNumber).getD 1 []) = true := by decide +kernel
theorem dk_X7_seesNumber : jm_dcs (jm_mC jmM_X7_seesNumber) 0 (jm_mI jmM_X7_seesNumber) := And.intro dk_X7_seesNumber_0 (And.intro dk_X7_seesNumber_1 (trivial))
theorem dk_X8_init_0 : jm_dck prog_10_method_1_code 0 ((jmI_X8_init).getD 0 []) = true := by decide +kernel
theorem dk_X8_init_1 : jm_dck prog_10_method_1_code 32 ((jmI_X8_init).getD 1 []) = true := by decide +kernel
theorem dk_X8_init : jm_dcs (jm_mC jmM_X8_init) 0 (jm_mI jmM_X8_init) := And.intro dk_X8_init_0 (And.intro dk_X8_init_1 (trivial))
theorem dk_X8_isPlace_0 : jm_dck prog_10_method_2_code 0 ((jmI_X8_isPlace).getD 0 []) = true := by decide +kernel
theorem dk_X8_isPlace : jm_dcs (jm_mC jmM_X8_isPlace) 0 (jm_mI jmM_X8_isPlace) := And.intro dk_X8_isPlace_0 (trivial)
theorem dk_X8_kindAt_0 : jm_dck prog_10_method_3_code 0 ((jmI_X8_kindAt).getD 0 []) = true := by decide +kernel
theorem dk_X8_kindAt : jm_dcs (jm_mC jmM_X8_kindAt) 0 (jm_mI jmM_X8_kindAt) := And.intro dk_X8_kindAt_0 (trivial)
theorem dk_X8_firstAt_0 : jm_dck prog_10_method_4_code 0 ((jmI_X8_firstAt).getD 0 []) = true := by decide +kernel
theorem dk_X8_firstAt : jm_dcs (jm_mC jmM_X8_firstAt) 0 (jm_mI jmM_X8_firstAt) := And.intro dk_X8_firstAt_0 (trivial)
theorem dk_X8_secondAt_0 : jm_dck prog_10_method_5_code 0 ((jmI_X8_secondAt).getD 0 []) = true := by decide +kernel
theorem dk_X8_secondAt : jm_dcs (jm_mC jmM_X8_secondAt) 0 (jm_mI jmM_X8_secondAt) := And.intro dk_X8_secondAt_0 (trivial)
theorem dk_X8_thirdAt_0 : jm_dck prog_10_method_6_code 0 ((jmI_X8_thirdAt).getD 0 []) = true := by decide +kernel
theorem dk_X8_thirdAt : jm_dcs (jm_mC jmM_X8_thirdAt) 0 (jm_mI jmM_X8_thirdAt) := And.intro dk_X8_thirdAt_0 (trivial)
theorem dk_X8_endAt_0 : jm_dck prog_10_method_7_code 0 ((jmI_X8_endAt).getD 0 []) = true := by decide +kernel
theorem dk_X8_endAt : jm_dcs (jm_mC jmM_X8_endAt) 0 (jm_mI jmM_X8_endAt) := And.intro dk_X8_endAt_0 (trivial)
theorem dk_X8_isIdleAt_0 : jm_dck prog_10_method_8_code 0 ((jmI_X8_isIdleAt).getD 0 []) = true := by decide +kernel
theorem dk_X8_isIdleAt : jm_dcs (jm_mC jmM_X8_isIdleAt) 0 (jm_mI jmM_X8_isIdleAt) := And.intro dk_X8_isIdleAt_0 (trivial)
theorem dk_X8_readFrom_0 : jm_dck prog_10_method_9_code 0 ((jmI_X8_readFrom).getD 0 []) = true := by decide +kernel
theorem dk_X8_readFrom : jm_dcs (jm_mC jmM_X8_readFrom) 0 (jm_mI jmM_X8_readFrom) := And.intro dk_X8_readFrom_0 (trivial)
theorem dk_X8_readOrders_0 : jm_dck prog_10_method_10_code 0 ((jmI_X8_readOrders).getD 0 []) = true := by decide +kernel
theorem dk_X8_readOrders_1 : jm_dck prog_10_method_10_code 32 ((jmI_X8_readOrders).getD 1 []) = true := by decide +kernel
theorem dk_X8_readOrders_2 : jm_dck prog_10_method_10_code 64 ((jmI_X8_readOrders).getD 2 []) = true := by decide +kernel
theorem dk_X8_readOrders : jm_dcs (jm_mC jmM_X8_readOrders) 0 (jm_mI jmM_X8_readOrders) := And.intro dk_X8_readOrders_0 (And.intro dk_X8_readOrders_1 (And.intro dk_X8_readOrders_2 (trivial)))
theorem dk_X8_readOrder_0 : jm_dck prog_10_method_11_code 0 ((jmI_X8_readOrder).getD 0 []) = true := by decide +kernel
theorem dk_X8_readOrder_1 : jm_dck prog_10_method_11_code 32 ((jmI_X8_readOrder).getD 1 []) = true := by decide +kernel
theorem dk_X8_readOrder_2 : jm_dck prog_10_method_11_code 64 ((jmI_X8_readOrder).getD 2 []) = true := by decide +kernel
theorem dk_X8_readOrder_3 : jm_dck prog_10_method_11_code 96 ((jmI_X8_readOrder).getD 3 []) = true := by decide +kernel
theorem dk_X8_readOrder_4 : jm_dck prog_10_method_11_code 128 ((jmI_X8_readOrder).getD 4 []) = true := by decide +kernel
theorem dk_X8_readOrder_5 : jm_dck prog_10_method_11_code 160 ((jmI_X8_readOrder).getD 5 []) = true := by decide +kernel
theorem dk_X8_readOrder_6 : jm_dck prog_10_method_11_code 192 ((jmI_X8_readOrder).getD 6 []) = true := by decide +kernel
theorem dk_X8_readOrder_7 : jm_dck prog_10_method_11_code 224 ((jmI_X8_readOrder).getD 7 []) = true := by decide +kernel
theorem dk_X8_readOrder_8 : jm_dck prog_10_method_11_code 256 ((jmI_X8_readOrder).getD 8 []) = true := by decide +kernel
theorem dk_X8_readOrder : jm_dcs (jm_mC jmM_X8_readOrder) 0 (jm_mI jmM_X8_readOrder) := And.intro dk_X8_readOrder_0 (And.intro dk_X8_readOrder_1 (And.intro dk_X8_readOrder_2 (And.intro dk_X8_readOrder_3 (And.intro dk_X8_readOrder_4 (And.intro dk_X8_readOrder_5 (And.intro dk_X8_readOrder_6 (And.intro dk_X8_readOrder_7 (And.intro dk_X8_readOrder_8 (trivial)))))))))
theorem dk_X8_kindOfWord_0 : jm_dck prog_10_method_12_code 0 ((jmI_X8_kindOfWord).getD 0 []) = true := by decide +kernel
theorem dk_X8_kindOfWord_1 : jm_dck prog_10_method_12_code 32 ((jmI_X8_kindOfWord).getD 1 []) = true := by decide +kernel
theorem dk_X8_kindOfWord_2 : jm_dck prog_10_method_12_code 64 ((jmI_X8_kindOfWord).getD 2 []) = true := by decide +kernel
theorem dk_X8_kindOfWord : jm_dcs (jm_mC jmM_X8_kindOfWord) 0 (jm_mI jmM_X8_kindOfWord) := And.intro dk_X8_kindOfWord_0 (And.intro dk_X8_kindOfWord_1 (And.intro dk_X8_kindOfWord_2 (trivial)))
theorem dk_X8_readStackOrder_0 : jm_dck prog_10_method_13_code 0 ((jmI_X8_readStackOrder).getD 0 []) = true := by decide +kernel
theorem dk_X8_readStackOrder_1 : jm_dck prog_10_method_13_code 32 ((jmI_X8_readStackOrder).getD 1 []) = true := by decide +kernel
theorem dk_X8_readStackOrder_2 : jm_dck prog_10_method_13_code 64 ((jmI_X8_readStackOrder).getD 2 []) = true := by decide +kernel
theorem dk_X8_readStackOrder : jm_dcs (jm_mC jmM_X8_readStackOrder) 0 (jm_mI jmM_X8_readStackOrder) := And.intro dk_X8_readStackOrder_0 (And.intro dk_X8_readStackOrder_1 (And.intro dk_X8_readStackOrder_2 (trivial)))
theorem dk_X8_readAgain_0 : jm_dck prog_10_method_14_code 0 ((jmI_X8_readAgain).getD 0 []) = true := by decide +kernel
theorem dk_X8_readAgain_1 : jm_dck prog_10_method_14_code 32 ((jmI_X8_readAgain).getD 1 []) = true := by decide +kernel
theorem dk_X8_readAgain : jm_dcs (jm_mC jmM_X8_readAgain) 0 (jm_mI jmM_X8_readAgain) := And.intro dk_X8_readAgain_0 (And.intro dk_X8_readAgain_1 (trivial))
theorem dk_X8_readNumber_0 : jm_dck prog_10_method_15_code 0 ((jmI_X8_readNumber).getD 0 []) = true := by decide +kernel
theorem dk_X8_readNumber : jm_dcs (jm_mC jmM_X8_readNumber) 0 (jm_mI jmM_X8_readNumber) := And.intro dk_X8_readNumber_0 (trivial)
theorem dk_X9_init_0 : jm_dck prog_11_method_1_code 0 ((jmI_X9_init).getD 0 []) = true := by decide +kernel
theorem dk_X9_init_1 : jm_dck prog_11_method_1_code 32 ((jmI_X9_init).getD 1 []) = true := by decide +kernel
theorem dk_X9_init : jm_dcs (jm_mC jmM_X9_init) 0 (jm_mI jmM_X9_init) := And.intro dk_X9_init_0 (And.intro dk_X9_init_1 (trivial))
theorem dk_X9_copyFrom_0 : jm_dck prog_11_method_2_code 0 ((jmI_X9_copyFrom).getD 0 []) = true := by decide +kernel
theorem dk_X9_copyFrom_1 : jm_dck prog_11_method_2_code 32 ((jmI_X9_copyFrom).getD 1 []) = true := by decide +kernel
theorem dk_X9_copyFrom_2 : jm_dck prog_11_method_2_code 64 ((jmI_X9_copyFrom).getD 2 []) = true := by decide +kernel
theorem dk_X9_copyFrom : jm_dcs (jm_mC jmM_X9_copyFrom) 0 (jm_mI jmM_X9_copyFrom) := And.intro dk_X9_copyFrom_0 (And.intro dk_X9_copyFrom_1 (And.intro dk_X9_copyFrom_2 (trivial)))
theorem dk_X9_setName_0 : jm_dck prog_11_method_3_code 0 ((jmI_X9_setName).getD 0 []) = true := by decide +kernel
theorem dk_X9_setName_1 : jm_dck prog_11_method_3_code 32 ((jmI_X9_setName).getD 1 []) = true := by decide +kernel
theorem dk_X9_setName : jm_dcs (jm_mC jmM_X9_setName) 0 (jm_mI jmM_X9_setName) := And.intro dk_X9_setName_0 (And.intro dk_X9_setName_1 (trivial))
theorem dk_X9_hasName_0 : jm_dck prog_11_method_4_code 0 ((jmI_X9_hasName).getD 0 []) = true := by decide +kernel
theorem dk_X9_hasName_1 : jm_dck prog_11_method_4_code 32 ((jmI_X9_hasName).getD 1 []) = true := by decide +kernel
theorem dk_X9_hasName : jm_dcs (jm_mC jmM_X9_hasName) 0 (jm_mI jmM_X9_hasName) := And.intro dk_X9_hasName_0 (And.intro dk_X9_hasName_1 (trivial))
theorem dk_X9_letterAt_0 : jm_dck prog_11_method_5_code 0 ((jmI_X9_letterAt).getD 0 []) = true := by decide +kernel
theorem dk_X9_letterAt : jm_dcs (jm_mC jmM_X9_letterAt) 0 (jm_mI jmM_X9_letterAt) := And.intro dk_X9_letterAt_0 (trivial)
theorem dk_X9_setSides_0 : jm_dck prog_11_method_6_code 0 ((jmI_X9_setSides).getD 0 []) = true := by decide +kernel
theorem dk_X9_setSides_1 : jm_dck prog_11_method_6_code 32 ((jmI_X9_setSides).getD 1 []) = true := by decide +kernel
theorem dk_X9_setSides_2 : jm_dck prog_11_method_6_code 64 ((jmI_X9_setSides).getD 2 []) = true := by decide +kernel
theorem dk_X9_setSides : jm_dcs (jm_mC jmM_X9_setSides) 0 (jm_mI jmM_X9_setSides) := And.intro dk_X9_setSides_0 (And.intro dk_X9_setSides_1 (And.intro dk_X9_setSides_2 (trivial)))
theorem dk_X9_isVoid_0 : jm_dck prog_11_method_7_code 0 ((jmI_X9_isVoid).getD 0 []) = true := by decide +kernel
theorem dk_X9_isVoid : jm_dcs (jm_mC jmM_X9_isVoid) 0 (jm_mI jmM_X9_isVoid) := And.intro dk_X9_isVoid_0 (trivial)
theorem dk_X9_wideAt_0 : jm_dck prog_11_method_8_code 0 ((jmI_X9_wideAt).getD 0 []) = true := by decide +kernel
theorem dk_X9_wideAt : jm_dcs (jm_mC jmM_X9_wideAt) 0 (jm_mI jmM_X9_wideAt) := And.intro dk_X9_wideAt_0 (trivial)
theorem dk_X9_highAt_0 : jm_dck prog_11_method_9_code 0 ((jmI_X9_highAt).getD 0 []) = true := by decide +kernel
theorem dk_X9_highAt : jm_dcs (jm_mC jmM_X9_highAt) 0 (jm_mI jmM_X9_highAt) := And.intro dk_X9_highAt_0 (trivial)
theorem dk_X9_longerAt_0 : jm_dck prog_11_method_10_code 0 ((jmI_X9_longerAt).getD 0 []) = true := by decide +kernel
theorem dk_X9_longerAt : jm_dcs (jm_mC jmM_X9_longerAt) 0 (jm_mI jmM_X9_longerAt) := And.intro dk_X9_longerAt_0 (trivial)
theorem dk_X9_shorterAt_0 : jm_dck prog_11_method_11_code 0 ((jmI_X9_shorterAt).getD 0 []) = true := by decide +kernel
theorem dk_X9_shorterAt : jm_dcs (jm_mC jmM_X9_shorterAt) 0 (jm_mI jmM_X9_shorterAt) := And.intro dk_X9_shorterAt_0 (trivial)
theorem dk_X9_areaAt_0 : jm_dck prog_11_method_12_code 0 ((jmI_X9_areaAt).getD 0 []) = true := by decide +kernel
theorem dk_X9_areaAt : jm_dcs (jm_mC jmM_X9_areaAt) 0 (jm_mI jmM_X9_areaAt) := And.intro dk_X9_areaAt_0 (trivial)
theorem dk_X9_sheetsAt_0 : jm_dck prog_11_method_13_code 0 ((jmI_X9_sheetsAt).getD 0 []) = true := by decide +kernel
theorem dk_X9_sheetsAt : jm_dcs (jm_mC jmM_X9_sheetsAt) 0 (jm_mI jmM_X9_sheetsAt) := And.intro dk_X9_sheetsAt_0 (trivial)
theorem dk_X9_addSheets_0 : jm_dck prog_11_method_14_code 0 ((jmI_X9_addSheets).getD 0 []) = true := by decide +kernel
theorem dk_X9_addSheets : jm_dcs (jm_mC jmM_X9_addSheets) 0 (jm_mI jmM_X9_addSheets) := And.intro dk_X9_addSheets_0 (trivial)
theorem dk_X9_stripAt_0 : jm_dck prog_11_method_15_code 0 ((jmI_X9_stripAt).getD 0 []) = true := by decide +kernel
theorem dk_X9_stripAt : jm_dcs (jm_mC jmM_X9_stripAt) 0 (jm_mI jmM_X9_stripAt) := And.intro dk_X9_stripAt_0 (trivial)
theorem dk_X9_supplyAt_0 : jm_dck prog_11_method_16_code 0 ((jmI_X9_supplyAt).getD 0 []) = true := by decide +kernel
theorem dk_X9_supplyAt_1 : jm_dck prog_11_method_16_code 32 ((jmI_X9_supplyAt).getD 1 []) = true := by decide +kernel
theorem dk_X9_supplyAt : jm_dcs (jm_mC jmM_X9_supplyAt) 0 (jm_mI jmM_X9_supplyAt) := And.intro dk_X9_supplyAt_0 (And.intro dk_X9_supplyAt_1 (trivial))
theorem dk_X9_foldsAt_0 : jm_dck prog_11_method_17_code 0 ((jmI_X9_foldsAt).getD 0 []) = true := by decide +kernel
theorem dk_X9_foldsAt_1 : jm_dck prog_11_method_17_code 32 ((jmI_X9_foldsAt).getD 1 []) = true := by decide +kernel
theorem dk_X9_foldsAt : jm_dcs (jm_mC jmM_X9_foldsAt) 0 (jm_mI jmM_X9_foldsAt) := And.intro dk_X9_foldsAt_0 (And.intro dk_X9_foldsAt_1 (trivial))
theorem dk_X9_fits_0 : jm_dck prog_11_method_18_code 0 ((jmI_X9_fits).getD 0 []) = true := by decide +kernel
theorem dk_X9_fits_1 : jm_dck prog_11_method_18_code 32 ((jmI_X9_fits).getD 1 []) = true := by decide +kernel
theorem dk_X9_fits : jm_dcs (jm_mC jmM_X9_fits) 0 (jm_mI jmM_X9_fits) := And.intro dk_X9_fits_0 (And.intro dk_X9_fits_1 (trivial))
theorem dk_X9_greatestEdgeAt_0 : jm_dck prog_11_method_19_code 0 ((jmI_X9_greatestEdgeAt).getD 0 []) = true := by decide +kernel
theorem dk_X9_greatestEdgeAt_1 : jm_dck prog_11_method_19_code 32 ((jmI_X9_greatestEdgeAt).getD 1 []) = true := by decide +kernel
theorem dk_X9_greatestEdgeAt : jm_dcs (jm_mC jmM_X9_greatestEdgeAt) 0 (jm_mI jmM_X9_greatestEdgeAt) := And.intro dk_X9_greatestEdgeAt_0 (And.intro dk_X9_greatestEdgeAt_1 (trivial))
theorem dk_X9_writeTo_0 : jm_dck prog_11_method_20_code 0 ((jmI_X9_writeTo).getD 0 []) = true := by decide +kernel
theorem dk_X9_writeTo_1 : jm_dck prog_11_method_20_code 32 ((jmI_X9_writeTo).getD 1 []) = true := by decide +kernel
theorem dk_X9_writeTo_2 : jm_dck prog_11_method_20_code 64 ((jmI_X9_writeTo).getD 2 []) = true := by decide +kernel
theorem dk_X9_writeTo : jm_dcs (jm_mC jmM_X9_writeTo) 0 (jm_mI jmM_X9_writeTo) := And.intro dk_X9_writeTo_0 (And.intro dk_X9_writeTo_1 (And.intro dk_X9_writeTo_2 (trivial)))
theorem dk_X10_init_0 : jm_dck prog_12_method_1_code 0 ((jmI_X10_init).getD 0 []) = true := by decide +kernel
theorem dk_X10_init : jm_dcs (jm_mC jmM_X10_init) 0 (jm_mI jmM_X10_init) := And.intro dk_X10_init_0 (trivial)
theorem dk_X10_readInto_0 : jm_dck prog_12_method_2_code 0 ((jmI_X10_readInto).getD 0 []) = true := by decide +kernel
theorem dk_X10_readInto_1 : jm_dck prog_12_method_2_code 32 ((jmI_X10_readInto).getD 1 []) = true := by decide +kernel
theorem dk_X10_readInto_2 : jm_dck prog_12_method_2_code 64 ((jmI_X10_readInto).getD 2 []) = true := by decide +kernel
theorem dk_X10_readInto : jm_dcs (jm_mC jmM_X10_readInto) 0 (jm_mI jmM_X10_readInto) := And.intro dk_X10_readInto_0 (And.intro dk_X10_readInto_1 (And.intro dk_X10_readInto_2 (trivial)))
theorem dk_X10_readHead_0 : jm_dck prog_12_method_3_code 0 ((jmI_X10_readHead).getD 0 []) = true := by decide +kernel
theorem dk_X10_readHead_1 : jm_dck prog_12_method_3_code 32 ((jmI_X10_readHead).getD 1 []) = true := by decide +kernel
theorem dk_X10_readHead_2 : jm_dck prog_12_method_3_code 64 ((jmI_X10_readHead).getD 2 []) = true := by decide +kernel
theorem dk_X10_readHead_3 : jm_dck prog_12_method_3_code 96 ((jmI_X10_readHead).getD 3 []) = true := by decide +kernel
theorem dk_X10_readHead : jm_dcs (jm_mC jmM_X10_readHead) 0 (jm_mI jmM_X10_readHead) := And.intro dk_X10_readHead_0 (And.intro dk_X10_readHead_1 (And.intro dk_X10_readHead_2 (And.intro dk_X10_readHead_3 (trivial))))
theorem dk_X10_readSeries_0 : jm_dck prog_12_method_4_code 0 ((jmI_X10_readSeries).getD 0 []) = true := by decide +kernel
theorem dk_X10_readSeries_1 : jm_dck prog_12_method_4_code 32 ((jmI_X10_readSeries).getD 1 []) = true := by decide +kernel
theorem dk_X10_readSeries_2 : jm_dck prog_12_method_4_code 64 ((jmI_X10_readSeries).getD 2 []) = true := by decide +kernel
theorem dk_X10_readSeries_3 : jm_dck prog_12_method_4_code 96 ((jmI_X10_readSeries).getD 3 []) = true := by decide +kernel
theorem dk_X10_readSeries_4 : jm_dck prog_12_method_4_code 128 ((jmI_X10_readSeries).getD 4 []) = true := by decide +kernel
theorem dk_X10_readSeries_5 : jm_dck prog_12_method_4_code 160 ((jmI_X10_readSeries).getD 5 []) = true := by decide +kernel
theorem dk_X10_readSeries_6 : jm_dck prog_12_method_4_code 192 ((jmI_X10_readSeries).getD 6 []) = true := by decide +kernel
theorem dk_X10_readSeries : jm_dcs (jm_mC jmM_X10_readSeries) 0 (jm_mI jmM_X10_readSeries) := And.intro dk_X10_readSeries_0 (And.intro dk_X10_readSeries_1 (And.intro dk_X10_readSeries_2 (And.intro dk_X10_readSeries_3 (And.intro dk_X10_readSeries_4 (And.intro dk_X10_readSeries_5 (And.intro dk_X10_readSeries_6 (trivial)))))))
theorem dk_X10_readSizes_0 : jm_dck prog_12_method_5_code 0 ((jmI_X10_readSizes).getD 0 []) = true := by decide +kernel
theorem dk_X10_readSizes_1 : jm_dck prog_12_method_5_code 32 ((jmI_X10_readSizes).getD 1 []) = true := by decide +kernel
theorem dk_X10_readSizes_2 : jm_dck prog_12_method_5_code 64 ((jmI_X10_readSizes).getD 2 []) = true := by decide +kernel
theorem dk_X10_readSizes : jm_dcs (jm_mC jmM_X10_readSizes) 0 (jm_mI jmM_X10_readSizes) := And.intro dk_X10_readSizes_0 (And.intro dk_X10_readSizes_1 (And.intro dk_X10_readSizes_2 (trivial)))
theorem dk_X10_readStack_0 : jm_dck prog_12_method_6_code 0 ((jmI_X10_readStack).getD 0 []) = true := by decide +kernel
theorem dk_X10_readStack_1 : jm_dck prog_12_method_6_code 32 ((jmI_X10_readStack).getD 1 []) = true := by decide +kernel
theorem dk_X10_readStack_2 : jm_dck prog_12_method_6_code 64 ((jmI_X10_readStack).getD 2 []) = true := by decide +kernel
theorem dk_X10_readStack_3 : jm_dck prog_12_method_6_code 96 ((jmI_X10_readStack).getD 3 []) = true := by decide +kernel
theorem dk_X10_readStack : jm_dcs (jm_mC jmM_X10_readStack) 0 (jm_mI jmM_X10_readStack) := And.intro dk_X10_readStack_0 (And.intro dk_X10_readStack_1 (And.intro dk_X10_readStack_2 (And.intro dk_X10_readStack_3 (trivial))))
theorem dk_X11_init_0 : jm_dck prog_1_method_1_code 0 ((jmI_X11_init).getD 0 []) = true := by decide +kernel
theorem dk_X11_init_1 : jm_dck prog_1_method_1_code 32 ((jmI_X11_init).getD 1 []) = true := by decide +kernel
theorem dk_X11_init_2 : jm_dck prog_1_method_1_code 64 ((jmI_X11_init).getD 2 []) = true := by decide +kernel
theorem dk_X11_init_3 : jm_dck prog_1_method_1_code 96 ((jmI_X11_init).getD 3 []) = true := by decide +kernel
theorem dk_X11_init_4 : jm_dck prog_1_method_1_code 128 ((jmI_X11_init).getD 4 []) = true := by decide +kernel
theorem dk_X11_init_5 : jm_dck prog_1_method_1_code 160 ((jmI_X11_init).getD 5 []) = true := by decide +kernel
theorem dk_X11_init_6 : jm_dck prog_1_method_1_code 192 ((jmI_X11_init).getD 6 []) = true := by decide +kernel
theorem dk_X11_init : jm_dcs (jm_mC jmM_X11_init) 0 (jm_mI jmM_X11_init) := And.intro dk_X11_init_0 (And.intro dk_X11_init_1 (And.intro dk_X11_init_2 (And.intro dk_X11_init_3 (And.intro dk_X11_init_4 (And.intro dk_X11_init_5 (And.intro dk_X11_init_6 (trivial)))))))
theorem dk_X11_append_0 : jm_dck prog_1_method_2_code 0 ((jmI_X11_append).getD 0 []) = true := by decide +kernel
theorem dk_X11_append_1 : jm_dck prog_1_method_2_code 32 ((jmI_X11_append).getD 1 []) = true := by decide +kernel
theorem dk_X11_append_2 : jm_dck prog_1_method_2_code 64 ((jmI_X11_append).getD 2 []) = true := by decide +kernel
theorem dk_X11_append : jm_dcs (jm_mC jmM_X11_append) 0 (jm_mI jmM_X11_append) := And.intro dk_X11_append_0 (And.intro dk_X11_append_1 (And.intro dk_X11_append_2 (trivial)))
theorem dk_X11_truncate_0 : jm_dck prog_1_method_3_code 0 ((jmI_X11_truncate).getD 0 []) = true := by decide +kernel
theorem dk_X11_truncate_1 : jm_dck prog_1_method_3_code 32 ((jmI_X11_truncate).getD 1 []) = true := by decide +kernel
theorem dk_X11_truncate : jm_dcs (jm_mC jmM_X11_truncate) 0 (jm_mI jmM_X11_truncate) := And.intro dk_X11_truncate_0 (And.intro dk_X11_truncate_1 (trivial))
theorem dk_X11_load_0 : jm_dck prog_1_method_4_code 0 ((jmI_X11_load).getD 0 []) = true := by decide +kernel
theorem dk_X11_load : jm_dcs (jm_mC jmM_X11_load) 0 (jm_mI jmM_X11_load) := And.intro dk_X11_load_0 (trivial)
theorem dk_X11_play_0 : jm_dck prog_1_method_5_code 0 ((jmI_X11_play).getD 0 []) = true := by decide +kernel
theorem dk_X11_play_1 : jm_dck prog_1_method_5_code 32 ((jmI_X11_play).getD 1 []) = true := by decide +kernel
theorem dk_X11_play_2 : jm_dck prog_1_method_5_code 64 ((jmI_X11_play).getD 2 []) = true := by decide +kernel
theorem dk_X11_play : jm_dcs (jm_mC jmM_X11_play) 0 (jm_mI jmM_X11_play) := And.intro dk_X11_play_0 (And.intro dk_X11_play_1 (And.intro dk_X11_play_2 (trivial)))
theorem dk_X11_errorCode_0 : jm_dck prog_1_method_6_code 0 ((jmI_X11_errorCode).getD 0 []) = true := by decide +kernel
theorem dk_X11_errorCode : jm_dcs (jm_mC jmM_X11_errorCode) 0 (jm_mI jmM_X11_errorCode) := And.intro dk_X11_errorCode_0 (trivial)
theorem dk_X11_errorPosition_0 : jm_dck prog_1_method_7_code 0 ((jmI_X11_errorPosition).getD 0 []) = true := by decide +kernel
theorem dk_X11_errorPosition : jm_dcs (jm_mC jmM_X11_errorPosition) 0 (jm_mI jmM_X11_errorPosition) := And.intro dk_X11_errorPosition_0 (trivial)
theorem dk_X11_readSetup_0 : jm_dck prog_1_method_8_code 0 ((jmI_X11_readSetup).getD 0 []) = true := by decide +kernel
theorem dk_X11_readSetup_1 : jm_dck prog_1_method_8_code 32 ((jmI_X11_readSetup).getD 1 []) = true := by decide +kernel
theorem dk_X11_readSetup : jm_dcs (jm_mC jmM_X11_readSetup) 0 (jm_mI jmM_X11_readSetup) := And.intro dk_X11_readSetup_0 (And.intro dk_X11_readSetup_1 (trivial))
theorem dk_X11_forgetSlotsAndRefusals_0 : jm_dck prog_1_method_9_code 0 ((jmI_X11_forgetSlotsAndRefusals).getD 0 []) = true := by decide +kernel
theorem dk_X11_forgetSlotsAndRefusals_1 : jm_dck prog_1_method_9_code 32 ((jmI_X11_forgetSlotsAndRefusals).getD 1 []) = true := by decide +kernel
theorem dk_X11_forgetSlotsAndRefusals : jm_dcs (jm_mC jmM_X11_forgetSlotsAndRefusals) 0 (jm_mI jmM_X11_forgetSlotsAndRefusals) := And.intro dk_X11_forgetSlotsAndRefusals_0 (And.intro dk_X11_forgetSlotsAndRefusals_1 (trivial))
theorem dk_X11_runOrders_0 : jm_dck prog_1_method_10_code 0 ((jmI_X11_runOrders).getD 0 []) = true := by decide +kernel
theorem dk_X11_runOrders_1 : jm_dck prog_1_method_10_code 32 ((jmI_X11_runOrders).getD 1 []) = true := by decide +kernel
theorem dk_X11_runOrders_2 : jm_dck prog_1_method_10_code 64 ((jmI_X11_runOrders).getD 2 []) = true := by decide +kernel
theorem dk_X11_runOrders : jm_dcs (jm_mC jmM_X11_runOrders) 0 (jm_mI jmM_X11_runOrders) := And.intro dk_X11_runOrders_0 (And.intro dk_X11_runOrders_1 (And.intro dk_X11_runOrders_2 (trivial)))
theorem dk_X11_runAgain_0 : jm_dck prog_1_method_11_code 0 ((jmI_X11_runAgain).getD 0 []) = true := by decide +kernel
theorem dk_X11_runAgain_1 : jm_dck prog_1_method_11_code 32 ((jmI_X11_runAgain).getD 1 []) = true := by decide +kernel
theorem dk_X11_runAgain_2 : jm_dck prog_1_method_11_code 64 ((jmI_X11_runAgain).getD 2 []) = true := by decide +kernel
theorem dk_X11_runAgain : jm_dcs (jm_mC jmM_X11_runAgain) 0 (jm_mI jmM_X11_runAgain) := And.intro dk_X11_runAgain_0 (And.intro dk_X11_runAgain_1 (And.intro dk_X11_runAgain_2 (trivial)))
theorem dk_X11_doOrder_0 : jm_dck prog_1_method_12_code 0 ((jmI_X11_doOrder).getD 0 []) = true := by decide +kernel
theorem dk_X11_doOrder_1 : jm_dck prog_1_method_12_code 32 ((jmI_X11_doOrder).getD 1 []) = true := by decide +kernel
theorem dk_X11_doOrder_2 : jm_dck prog_1_method_12_code 64 ((jmI_X11_doOrder).getD 2 []) = true := by decide +kernel
theorem dk_X11_doOrder_3 : jm_dck prog_1_method_12_code 96 ((jmI_X11_doOrder).getD 3 []) = true := by decide +kernel
theorem dk_X11_doOrder_4 : jm_dck prog_1_method_12_code 128 ((jmI_X11_doOrder).getD 4 []) = true := by decide +kernel
theorem dk_X11_doOrder : jm_dcs (jm_mC jmM_X11_doOrder) 0 (jm_mI jmM_X11_doOrder) := And.intro dk_X11_doOrder_0 (And.intro dk_X11_doOrder_1 (And.intro dk_X11_doOrder_2 (And.intro dk_X11_doOrder_3 (And.intro dk_X11_doOrder_4 (trivial)))))
theorem dk_X11_count_0 : jm_dck prog_1_method_13_code 0 ((jmI_X11_count).getD 0 []) = true := by decide +kernel
theorem dk_X11_count_1 : jm_dck prog_1_method_13_code 32 ((jmI_X11_count).getD 1 []) = true := by decide +kernel
theorem dk_X11_count_2 : jm_dck prog_1_method_13_code 64 ((jmI_X11_count).getD 2 []) = true := by decide +kernel
theorem dk_X11_count_3 : jm_dck prog_1_method_13_code 96 ((jmI_X11_count).getD 3 []) = true := by decide +kernel
theorem dk_X11_count : jm_dcs (jm_mC jmM_X11_count) 0 (jm_mI jmM_X11_count) := And.intro dk_X11_count_0 (And.intro dk_X11_count_1 (And.intro dk_X11_count_2 (And.intro dk_X11_count_3 (trivial))))
theorem dk_X11_letter_0 : jm_dck prog_1_method_14_code 0 ((jmI_X11_letter).getD 0 []) = true := by decide +kernel
theorem dk_X11_letter : jm_dcs (jm_mC jmM_X11_letter) 0 (jm_mI jmM_X11_letter) := And.intro dk_X11_letter_0 (trivial)
theorem dk_X11_size_0 : jm_dck prog_1_method_15_code 0 ((jmI_X11_size).getD 0 []) = true := by decide +kernel
theorem dk_X11_size_1 : jm_dck prog_1_method_15_code 32 ((jmI_X11_size).getD 1 []) = true := by decide +kernel
theorem dk_X11_size_2 : jm_dck prog_1_method_15_code 64 ((jmI_X11_size).getD 2 []) = true := by decide +kernel
theorem dk_X11_size_3 : jm_dck prog_1_method_15_code 96 ((jmI_X11_size).getD 3 []) = true := by decide +kernel
theorem dk_X11_size_4 : jm_dck prog_1_method_15_code 128 ((jmI_X11_size).getD 4 []) = true := by decide +kernel
theorem dk_X11_size_5 : jm_dck prog_1_method_15_code 160 ((jmI_X11_size).getD 5 []) = true := by decide +kernel
theorem dk_X11_size_6 : jm_dck prog_1_method_15_code 192 ((jmI_X11_size).getD 6 []) = true := by decide +kernel
theorem dk_X11_size : jm_dcs (jm_mC jmM_X11_size) 0 (jm_mI jmM_X11_size) := And.intro dk_X11_size_0 (And.intro dk_X11_size_1 (And.intro dk_X11_size_2 (And.intro dk_X11_size_3 (And.intro dk_X11_size_4 (And.intro dk_X11_size_5 (And.intro dk_X11_size_6 (trivial)))))))
theorem dk_X11_sizes_0 : jm_dck prog_1_method_16_code 0 ((jmI_X11_sizes).getD 0 []) = true := by decide +kernel
theorem dk_X11_sizes_1 : jm_dck prog_1_method_16_code 32 ((jmI_X11_sizes).getD 1 []) = true := by decide +kernel
theorem dk_X11_sizes : jm_dcs (jm_mC jmM_X11_sizes) 0 (jm_mI jmM_X11_sizes) := And.intro dk_X11_sizes_0 (And.intro dk_X11_sizes_1 (trivial))
theorem dk_X11_isAlike_0 : jm_dck prog_1_method_17_code 0 ((jmI_X11_isAlike).getD 0 []) = true := by decide +kernel
theorem dk_X11_isAlike_1 : jm_dck prog_1_method_17_code 32 ((jmI_X11_isAlike).getD 1 []) = true := by decide +kernel
theorem dk_X11_isAlike_2 : jm_dck prog_1_method_17_code 64 ((jmI_X11_isAlike).getD 2 []) = true := by decide +kernel
theorem dk_X11_isAlike : jm_dcs (jm_mC jmM_X11_isAlike) 0 (jm_mI jmM_X11_isAlike) := And.intro dk_X11_isAlike_0 (And.intro dk_X11_isAlike_1 (And.intro dk_X11_isAlike_2 (trivial)))
theorem dk_X11_ratio_0 : jm_dck prog_1_method_18_code 0 ((jmI_X11_ratio).getD 0 []) = true := by decide +kernel
theorem dk_X11_ratio_1 : jm_dck prog_1_method_18_code 32 ((jmI_X11_ratio).getD 1 []) = true := by decide +kernel
theorem dk_X11_ratio : jm_dcs (jm_mC jmM_X11_ratio) 0 (jm_mI jmM_X11_ratio) := And.intro dk_X11_ratio_0 (And.intro dk_X11_ratio_1 (trivial))
theorem dk_X11_ordered_0 : jm_dck prog_1_method_19_code 0 ((jmI_X11_ordered).getD 0 []) = true := by decide +kernel
theorem dk_X11_ordered_1 : jm_dck prog_1_method_19_code 32 ((jmI_X11_ordered).getD 1 []) = true := by decide +kernel
theorem dk_X11_ordered : jm_dcs (jm_mC jmM_X11_ordered) 0 (jm_mI jmM_X11_ordered) := And.intro dk_X11_ordered_0 (And.intro dk_X11_ordered_1 (trivial))
theorem dk_X11_print_0 : jm_dck prog_1_method_20_code 0 ((jmI_X11_print).getD 0 []) = true := by decide +kernel
theorem dk_X11_print : jm_dcs (jm_mC jmM_X11_print) 0 (jm_mI jmM_X11_print) := And.intro dk_X11_print_0 (trivial)
theorem dk_X11_account_0 : jm_dck prog_1_method_21_code 0 ((jmI_X11_account).getD 0 []) = true := by decide +kernel
theorem dk_X11_account : jm_dcs (jm_mC jmM_X11_account) 0 (jm_mI jmM_X11_account) := And.intro dk_X11_account_0 (trivial)
theorem dk_X11_refused_0 : jm_dck prog_1_method_22_code 0 ((jmI_X11_refused).getD 0 []) = true := by decide +kernel
theorem dk_X11_refused_1 : jm_dck prog_1_method_22_code 32 ((jmI_X11_refused).getD 1 []) = true := by decide +kernel
theorem dk_X11_refused : jm_dcs (jm_mC jmM_X11_refused) 0 (jm_mI jmM_X11_refused) := And.intro dk_X11_refused_0 (And.intro dk_X11_refused_1 (trivial))
theorem dk_X11_gap_0 : jm_dck prog_1_method_23_code 0 ((jmI_X11_gap).getD 0 []) = true := by decide +kernel
theorem dk_X11_gap_1 : jm_dck prog_1_method_23_code 32 ((jmI_X11_gap).getD 1 []) = true := by decide +kernel
theorem dk_X11_gap : jm_dcs (jm_mC jmM_X11_gap) 0 (jm_mI jmM_X11_gap) := And.intro dk_X11_gap_0 (And.intro dk_X11_gap_1 (trivial))
theorem dk_X11_lostBits_0 : jm_dck prog_1_method_24_code 0 ((jmI_X11_lostBits).getD 0 []) = true := by decide +kernel
theorem dk_X11_lostBits_1 : jm_dck prog_1_method_24_code 32 ((jmI_X11_lostBits).getD 1 []) = true := by decide +kernel
theorem dk_X11_lostBits : jm_dcs (jm_mC jmM_X11_lostBits) 0 (jm_mI jmM_X11_lostBits) := And.intro dk_X11_lostBits_0 (And.intro dk_X11_lostBits_1 (trivial))
theorem dk_X11_bitsOfShare_0 : jm_dck prog_1_method_25_code 0 ((jmI_X11_bitsOfShare).getD 0 []) = true := by decide +kernel
theorem dk_X11_bitsOfShare_1 : jm_dck prog_1_method_25_code 32 ((jmI_X11_bitsOfShare).getD 1 []) = true := by decide +kernel
theorem dk_X11_bitsOfShare : jm_dcs (jm_mC jmM_X11_bitsOfShare) 0 (jm_mI jmM_X11_bitsOfShare) := And.intro dk_X11_bitsOfShare_0 (And.intro dk_X11_bitsOfShare_1 (trivial))
theorem dk_X11_mostFolds_0 : jm_dck prog_1_method_26_code 0 ((jmI_X11_mostFolds).getD 0 []) = true := by decide +kernel
theorem dk_X11_mostFolds : jm_dcs (jm_mC jmM_X11_mostFolds) 0 (jm_mI jmM_X11_mostFolds) := And.intro dk_X11_mostFolds_0 (trivial)
theorem dk_X11_grid_0 : jm_dck prog_1_method_27_code 0 ((jmI_X11_grid).getD 0 []) = true := by decide +kernel
theorem dk_X11_grid : jm_dcs (jm_mC jmM_X11_grid) 0 (jm_mI jmM_X11_grid) := And.intro dk_X11_grid_0 (trivial)
theorem dk_X11_page_0 : jm_dck prog_1_method_28_code 0 ((jmI_X11_page).getD 0 []) = true := by decide +kernel
theorem dk_X11_page_1 : jm_dck prog_1_method_28_code 32 ((jmI_X11_page).getD 1 []) = true := by decide +kernel
theorem dk_X11_page : jm_dcs (jm_mC jmM_X11_page) 0 (jm_mI jmM_X11_page) := And.intro dk_X11_page_0 (And.intro dk_X11_page_1 (trivial))
theorem dk_X11_cellOf_0 : jm_dck prog_1_method_29_code 0 ((jmI_X11_cellOf).getD 0 []) = true := by decide +kernel
theorem dk_X11_cellOf_1 : jm_dck prog_1_method_29_code 32 ((jmI_X11_cellOf).getD 1 []) = true := by decide +kernel
theorem dk_X11_cellOf : jm_dcs (jm_mC jmM_X11_cellOf) 0 (jm_mI jmM_X11_cellOf) := And.intro dk_X11_cellOf_0 (And.intro dk_X11_cellOf_1 (trivial))
theorem dk_X11_pageGap_0 : jm_dck prog_1_method_30_code 0 ((jmI_X11_pageGap).getD 0 []) = true := by decide +kernel
theorem dk_X11_pageGap : jm_dcs (jm_mC jmM_X11_pageGap) 0 (jm_mI jmM_X11_pageGap) := And.intro dk_X11_pageGap_0 (trivial)
theorem dk_X11_foldSheet_0 : jm_dck prog_1_method_31_code 0 ((jmI_X11_foldSheet).getD 0 []) = true := by decide +kernel
theorem dk_X11_foldSheet_1 : jm_dck prog_1_method_31_code 32 ((jmI_X11_foldSheet).getD 1 []) = true := by decide +kernel
theorem dk_X11_foldSheet : jm_dcs (jm_mC jmM_X11_foldSheet) 0 (jm_mI jmM_X11_foldSheet) := And.intro dk_X11_foldSheet_0 (And.intro dk_X11_foldSheet_1 (trivial))
theorem dk_X11_fitting_0 : jm_dck prog_1_method_32_code 0 ((jmI_X11_fitting).getD 0 []) = true := by decide +kernel
theorem dk_X11_fitting_1 : jm_dck prog_1_method_32_code 32 ((jmI_X11_fitting).getD 1 []) = true := by decide +kernel
theorem dk_X11_fitting : jm_dcs (jm_mC jmM_X11_fitting) 0 (jm_mI jmM_X11_fitting) := And.intro dk_X11_fitting_0 (And.intro dk_X11_fitting_1 (trivial))
theorem dk_X11_nearest_0 : jm_dck prog_1_method_33_code 0 ((jmI_X11_nearest).getD 0 []) = true := by decide +kernel
theorem dk_X11_nearest_1 : jm_dck prog_1_method_33_code 32 ((jmI_X11_nearest).getD 1 []) = true := by decide +kernel
theorem dk_X11_nearest : jm_dcs (jm_mC jmM_X11_nearest) 0 (jm_mI jmM_X11_nearest) := And.intro dk_X11_nearest_0 (And.intro dk_X11_nearest_1 (trivial))
theorem dk_X11_whyNot_0 : jm_dck prog_1_method_34_code 0 ((jmI_X11_whyNot).getD 0 []) = true := by decide +kernel
theorem dk_X11_whyNot_1 : jm_dck prog_1_method_34_code 32 ((jmI_X11_whyNot).getD 1 []) = true := by decide +kernel
theorem dk_X11_whyNot_2 : jm_dck prog_1_method_34_code 64 ((jmI_X11_whyNot).getD 2 []) = true := by decide +kernel
theorem dk_X11_whyNot : jm_dcs (jm_mC jmM_X11_whyNot) 0 (jm_mI jmM_X11_whyNot) := And.intro dk_X11_whyNot_0 (And.intro dk_X11_whyNot_1 (And.intro dk_X11_whyNot_2 (trivial)))
theorem dk_X11_ifOrder_0 : jm_dck prog_1_method_35_code 0 ((jmI_X11_ifOrder).getD 0 []) = true := by decide +kernel
theorem dk_X11_ifOrder_1 : jm_dck prog_1_method_35_code 32 ((jmI_X11_ifOrder).getD 1 []) = true := by decide +kernel
theorem dk_X11_ifOrder_2 : jm_dck prog_1_method_35_code 64 ((jmI_X11_ifOrder).getD 2 []) = true := by decide +kernel
theorem dk_X11_ifOrder_3 : jm_dck prog_1_method_35_code 96 ((jmI_X11_ifOrder).getD 3 []) = true := by decide +kernel
theorem dk_X11_ifOrder_4 : jm_dck prog_1_method_35_code 128 ((jmI_X11_ifOrder).getD 4 []) = true := by decide +kernel
theorem dk_X11_ifOrder_5 : jm_dck prog_1_method_35_code 160 ((jmI_X11_ifOrder).getD 5 []) = true := by decide +kernel
theorem dk_X11_ifOrder : jm_dcs (jm_mC jmM_X11_ifOrder) 0 (jm_mI jmM_X11_ifOrder) := And.intro dk_X11_ifOrder_0 (And.intro dk_X11_ifOrder_1 (And.intro dk_X11_ifOrder_2 (And.intro dk_X11_ifOrder_3 (And.intro dk_X11_ifOrder_4 (And.intro dk_X11_ifOrder_5 (trivial))))))
theorem dk_X11_mostOf_0 : jm_dck prog_1_method_36_code 0 ((jmI_X11_mostOf).getD 0 []) = true := by decide +kernel
theorem dk_X11_mostOf_1 : jm_dck prog_1_method_36_code 32 ((jmI_X11_mostOf).getD 1 []) = true := by decide +kernel
theorem dk_X11_mostOf : jm_dcs (jm_mC jmM_X11_mostOf) 0 (jm_mI jmM_X11_mostOf) := And.intro dk_X11_mostOf_0 (And.intro dk_X11_mostOf_1 (trivial))
theorem dk_X11_cutsFor_0 : jm_dck prog_1_method_37_code 0 ((jmI_X11_cutsFor).getD 0 []) = true := by decide +kernel
theorem dk_X11_cutsFor_1 : jm_dck prog_1_method_37_code 32 ((jmI_X11_cutsFor).getD 1 []) = true := by decide +kernel
theorem dk_X11_cutsFor_2 : jm_dck prog_1_method_37_code 64 ((jmI_X11_cutsFor).getD 2 []) = true := by decide +kernel
theorem dk_X11_cutsFor : jm_dcs (jm_mC jmM_X11_cutsFor) 0 (jm_mI jmM_X11_cutsFor) := And.intro dk_X11_cutsFor_0 (And.intro dk_X11_cutsFor_1 (And.intro dk_X11_cutsFor_2 (trivial)))
theorem dk_X11_found_0 : jm_dck prog_1_method_38_code 0 ((jmI_X11_found).getD 0 []) = true := by decide +kernel
theorem dk_X11_found_1 : jm_dck prog_1_method_38_code 32 ((jmI_X11_found).getD 1 []) = true := by decide +kernel
theorem dk_X11_found_2 : jm_dck prog_1_method_38_code 64 ((jmI_X11_found).getD 2 []) = true := by decide +kernel
theorem dk_X11_found_3 : jm_dck prog_1_method_38_code 96 ((jmI_X11_found).getD 3 []) = true := by decide +kernel
theorem dk_X11_found : jm_dcs (jm_mC jmM_X11_found) 0 (jm_mI jmM_X11_found) := And.intro dk_X11_found_0 (And.intro dk_X11_found_1 (And.intro dk_X11_found_2 (And.intro dk_X11_found_3 (trivial))))
theorem dk_X11_buy_0 : jm_dck prog_1_method_39_code 0 ((jmI_X11_buy).getD 0 []) = true := by decide +kernel
theorem dk_X11_buy_1 : jm_dck prog_1_method_39_code 32 ((jmI_X11_buy).getD 1 []) = true := by decide +kernel
theorem dk_X11_buy : jm_dcs (jm_mC jmM_X11_buy) 0 (jm_mI jmM_X11_buy) := And.intro dk_X11_buy_0 (And.intro dk_X11_buy_1 (trivial))
theorem dk_X11_cut_0 : jm_dck prog_1_method_40_code 0 ((jmI_X11_cut).getD 0 []) = true := by decide +kernel
theorem dk_X11_cut_1 : jm_dck prog_1_method_40_code 32 ((jmI_X11_cut).getD 1 []) = true := by decide +kernel
theorem dk_X11_cut : jm_dcs (jm_mC jmM_X11_cut) 0 (jm_mI jmM_X11_cut) := And.intro dk_X11_cut_0 (And.intro dk_X11_cut_1 (trivial))
theorem dk_X11_order_0 : jm_dck prog_1_method_41_code 0 ((jmI_X11_order).getD 0 []) = true := by decide +kernel
theorem dk_X11_order : jm_dcs (jm_mC jmM_X11_order) 0 (jm_mI jmM_X11_order) := And.intro dk_X11_order_0 (trivial)
theorem dk_X11_setEdge_0 : jm_dck prog_1_method_42_code 0 ((jmI_X11_setEdge).getD 0 []) = true := by decide +kernel
theorem dk_X11_setEdge : jm_dcs (jm_mC jmM_X11_setEdge) 0 (jm_mI jmM_X11_setEdge) := And.intro dk_X11_setEdge_0 (trivial)
theorem dk_X11_setReam_0 : jm_dck prog_1_method_43_code 0 ((jmI_X11_setReam).getD 0 []) = true := by decide +kernel
theorem dk_X11_setReam : jm_dcs (jm_mC jmM_X11_setReam) 0 (jm_mI jmM_X11_setReam) := And.intro dk_X11_setReam_0 (trivial)
theorem dk_X11_doBuy_0 : jm_dck prog_1_method_44_code 0 ((jmI_X11_doBuy).getD 0 []) = true := by decide +kernel
theorem dk_X11_doBuy_1 : jm_dck prog_1_method_44_code 32 ((jmI_X11_doBuy).getD 1 []) = true := by decide +kernel
theorem dk_X11_doBuy : jm_dcs (jm_mC jmM_X11_doBuy) 0 (jm_mI jmM_X11_doBuy) := And.intro dk_X11_doBuy_0 (And.intro dk_X11_doBuy_1 (trivial))
theorem dk_X11_doCut_0 : jm_dck prog_1_method_45_code 0 ((jmI_X11_doCut).getD 0 []) = true := by decide +kernel
theorem dk_X11_doCut_1 : jm_dck prog_1_method_45_code 32 ((jmI_X11_doCut).getD 1 []) = true := by decide +kernel
theorem dk_X11_doCut : jm_dcs (jm_mC jmM_X11_doCut) 0 (jm_mI jmM_X11_doCut) := And.intro dk_X11_doCut_0 (And.intro dk_X11_doCut_1 (trivial))
theorem dk_X11_doPrintOrder_0 : jm_dck prog_1_method_46_code 0 ((jmI_X11_doPrintOrder).getD 0 []) = true := by decide +kernel
theorem dk_X11_doPrintOrder_1 : jm_dck prog_1_method_46_code 32 ((jmI_X11_doPrintOrder).getD 1 []) = true := by decide +kernel
theorem dk_X11_doPrintOrder_2 : jm_dck prog_1_method_46_code 64 ((jmI_X11_doPrintOrder).getD 2 []) = true := by decide +kernel
theorem dk_X11_doPrintOrder : jm_dcs (jm_mC jmM_X11_doPrintOrder) 0 (jm_mI jmM_X11_doPrintOrder) := And.intro dk_X11_doPrintOrder_0 (And.intro dk_X11_doPrintOrder_1 (And.intro dk_X11_doPrintOrder_2 (trivial)))
theorem dk_X11_doSetEdge_0 : jm_dck prog_1_method_47_code 0 ((jmI_X11_doSetEdge).getD 0 []) = true := by decide +kernel
theorem dk_X11_doSetEdge_1 : jm_dck prog_1_method_47_code 32 ((jmI_X11_doSetEdge).getD 1 []) = true := by decide +kernel
theorem dk_X11_doSetEdge : jm_dcs (jm_mC jmM_X11_doSetEdge) 0 (jm_mI jmM_X11_doSetEdge) := And.intro dk_X11_doSetEdge_0 (And.intro dk_X11_doSetEdge_1 (trivial))
theorem dk_X11_doSetReam_0 : jm_dck prog_1_method_48_code 0 ((jmI_X11_doSetReam).getD 0 []) = true := by decide +kernel
theorem dk_X11_doSetReam_1 : jm_dck prog_1_method_48_code 32 ((jmI_X11_doSetReam).getD 1 []) = true := by decide +kernel
theorem dk_X11_doSetReam : jm_dcs (jm_mC jmM_X11_doSetReam) 0 (jm_mI jmM_X11_doSetReam) := And.intro dk_X11_doSetReam_0 (And.intro dk_X11_doSetReam_1 (trivial))
theorem dk_X11_refuse_0 : jm_dck prog_1_method_49_code 0 ((jmI_X11_refuse).getD 0 []) = true := by decide +kernel
theorem dk_X11_refuse : jm_dcs (jm_mC jmM_X11_refuse) 0 (jm_mI jmM_X11_refuse) := And.intro dk_X11_refuse_0 (trivial)
theorem dk_X11_writeStacks_0 : jm_dck prog_1_method_50_code 0 ((jmI_X11_writeStacks).getD 0 []) = true := by decide +kernel
theorem dk_X11_writeStacks_1 : jm_dck prog_1_method_50_code 32 ((jmI_X11_writeStacks).getD 1 []) = true := by decide +kernel
theorem dk_X11_writeStacks : jm_dcs (jm_mC jmM_X11_writeStacks) 0 (jm_mI jmM_X11_writeStacks) := And.intro dk_X11_writeStacks_0 (And.intro dk_X11_writeStacks_1 (trivial))
theorem dk_X11_writeSheet_0 : jm_dck prog_1_method_51_code 0 ((jmI_X11_writeSheet).getD 0 []) = true := by decide +kernel
theorem dk_X11_writeSheet_1 : jm_dck prog_1_method_51_code 32 ((jmI_X11_writeSheet).getD 1 []) = true := by decide +kernel
theorem dk_X11_writeSheet_2 : jm_dck prog_1_method_51_code 64 ((jmI_X11_writeSheet).getD 2 []) = true := by decide +kernel
theorem dk_X11_writeSheet_3 : jm_dck prog_1_method_51_code 96 ((jmI_X11_writeSheet).getD 3 []) = true := by decide +kernel
theorem dk_X11_writeSheet : jm_dcs (jm_mC jmM_X11_writeSheet) 0 (jm_mI jmM_X11_writeSheet) := And.intro dk_X11_writeSheet_0 (And.intro dk_X11_writeSheet_1 (And.intro dk_X11_writeSheet_2 (And.intro dk_X11_writeSheet_3 (trivial))))
theorem dk_X11_outputByte_0 : jm_dck prog_1_method_52_code 0 ((jmI_X11_outputByte).getD 0 []) = true := by decide +kernel
theorem dk_X11_outputByte : jm_dcs (jm_mC jmM_X11_outputByte) 0 (jm_mI jmM_X11_outputByte) := And.intro dk_X11_outputByte_0 (trivial)
theorem dk_X11_undo_0 : jm_dck prog_1_method_53_code 0 ((jmI_X11_undo).getD 0 []) = true := by decide +kernel
theorem dk_X11_undo : jm_dcs (jm_mC jmM_X11_undo) 0 (jm_mI jmM_X11_undo) := And.intro dk_X11_undo_0 (trivial)
theorem dk_X11_save_0 : jm_dck prog_1_method_54_code 0 ((jmI_X11_save).getD 0 []) = true := by decide +kernel
theorem dk_X11_save : jm_dcs (jm_mC jmM_X11_save) 0 (jm_mI jmM_X11_save) := And.intro dk_X11_save_0 (trivial)
theorem dk_X11_restore_0 : jm_dck prog_1_method_55_code 0 ((jmI_X11_restore).getD 0 []) = true := by decide +kernel
theorem dk_X11_restore_1 : jm_dck prog_1_method_55_code 32 ((jmI_X11_restore).getD 1 []) = true := by decide +kernel
theorem dk_X11_restore : jm_dcs (jm_mC jmM_X11_restore) 0 (jm_mI jmM_X11_restore) := And.intro dk_X11_restore_0 (And.intro dk_X11_restore_1 (trivial))
theorem dk_X11_require_0 : jm_dck prog_1_method_56_code 0 ((jmI_X11_require).getD 0 []) = true := by decide +kernel
theorem dk_X11_require : jm_dcs (jm_mC jmM_X11_require) 0 (jm_mI jmM_X11_require) := And.intro dk_X11_require_0 (trivial)
theorem dk_X11_requireOrder_0 : jm_dck prog_1_method_57_code 0 ((jmI_X11_requireOrder).getD 0 []) = true := by decide +kernel
theorem dk_X11_requireOrder_1 : jm_dck prog_1_method_57_code 32 ((jmI_X11_requireOrder).getD 1 []) = true := by decide +kernel
theorem dk_X11_requireOrder : jm_dcs (jm_mC jmM_X11_requireOrder) 0 (jm_mI jmM_X11_requireOrder) := And.intro dk_X11_requireOrder_0 (And.intro dk_X11_requireOrder_1 (trivial))
theorem dk_X11_requireSeries_0 : jm_dck prog_1_method_58_code 0 ((jmI_X11_requireSeries).getD 0 []) = true := by decide +kernel
theorem dk_X11_requireSeries : jm_dcs (jm_mC jmM_X11_requireSeries) 0 (jm_mI jmM_X11_requireSeries) := And.intro dk_X11_requireSeries_0 (trivial)
theorem dk_X11_requireSize_0 : jm_dck prog_1_method_59_code 0 ((jmI_X11_requireSize).getD 0 []) = true := by decide +kernel
theorem dk_X11_requireSize_1 : jm_dck prog_1_method_59_code 32 ((jmI_X11_requireSize).getD 1 []) = true := by decide +kernel
theorem dk_X11_requireSize : jm_dcs (jm_mC jmM_X11_requireSize) 0 (jm_mI jmM_X11_requireSize) := And.intro dk_X11_requireSize_0 (And.intro dk_X11_requireSize_1 (trivial))
theorem dk_X11_requireSlot_0 : jm_dck prog_1_method_60_code 0 ((jmI_X11_requireSlot).getD 0 []) = true := by decide +kernel
theorem dk_X11_requireSlot : jm_dcs (jm_mC jmM_X11_requireSlot) 0 (jm_mI jmM_X11_requireSlot) := And.intro dk_X11_requireSlot_0 (trivial)
theorem dk_X11_isSide_0 : jm_dck prog_1_method_61_code 0 ((jmI_X11_isSide).getD 0 []) = true := by decide +kernel
theorem dk_X11_isSide : jm_dcs (jm_mC jmM_X11_isSide) 0 (jm_mI jmM_X11_isSide) := And.intro dk_X11_isSide_0 (trivial)
theorem dk_X11_usable_0 : jm_dck prog_1_method_62_code 0 ((jmI_X11_usable).getD 0 []) = true := by decide +kernel
theorem dk_X11_usable : jm_dcs (jm_mC jmM_X11_usable) 0 (jm_mI jmM_X11_usable) := And.intro dk_X11_usable_0 (trivial)
theorem dk_X11_capped_0 : jm_dck prog_1_method_63_code 0 ((jmI_X11_capped).getD 0 []) = true := by decide +kernel
theorem dk_X11_capped : jm_dcs (jm_mC jmM_X11_capped) 0 (jm_mI jmM_X11_capped) := And.intro dk_X11_capped_0 (trivial)
theorem dk_X11_isLetter_0 : jm_dck prog_1_method_64_code 0 ((jmI_X11_isLetter).getD 0 []) = true := by decide +kernel
theorem dk_X11_isLetter : jm_dcs (jm_mC jmM_X11_isLetter) 0 (jm_mI jmM_X11_isLetter) := And.intro dk_X11_isLetter_0 (trivial)
theorem dk_X11_isDigit_0 : jm_dck prog_1_method_65_code 0 ((jmI_X11_isDigit).getD 0 []) = true := by decide +kernel
theorem dk_X11_isDigit : jm_dcs (jm_mC jmM_X11_isDigit) 0 (jm_mI jmM_X11_isDigit) := And.intro dk_X11_isDigit_0 (trivial)
theorem dk_X11_isBlank_0 : jm_dck prog_1_method_66_code 0 ((jmI_X11_isBlank).getD 0 []) = true := by decide +kernel
theorem dk_X11_isBlank : jm_dcs (jm_mC jmM_X11_isBlank) 0 (jm_mI jmM_X11_isBlank) := And.intro dk_X11_isBlank_0 (trivial)
theorem dk_X11_valueAt_0 : jm_dck prog_1_method_67_code 0 ((jmI_X11_valueAt).getD 0 []) = true := by decide +kernel
theorem dk_X11_valueAt : jm_dcs (jm_mC jmM_X11_valueAt) 0 (jm_mI jmM_X11_valueAt) := And.intro dk_X11_valueAt_0 (trivial)
theorem dk_X11_setAt_0 : jm_dck prog_1_method_68_code 0 ((jmI_X11_setAt).getD 0 []) = true := by decide +kernel
theorem dk_X11_setAt : jm_dcs (jm_mC jmM_X11_setAt) 0 (jm_mI jmM_X11_setAt) := And.intro dk_X11_setAt_0 (trivial)
theorem dk_X12_init_0 : jm_dck prog_14_method_1_code 0 ((jmI_X12_init).getD 0 []) = true := by decide +kernel
theorem dk_X12_init_1 : jm_dck prog_14_method_1_code 32 ((jmI_X12_init).getD 1 []) = true := by decide +kernel
theorem dk_X12_init_2 : jm_dck prog_14_method_1_code 64 ((jmI_X12_init).getD 2 []) = true := by decide +kernel
theorem dk_X12_init_3 : jm_dck prog_14_method_1_code 96 ((jmI_X12_init).getD 3 []) = true := by decide +kernel
theorem dk_X12_init_4 : jm_dck prog_14_method_1_code 128 ((jmI_X12_init).getD 4 []) = true := by decide +kernel
theorem dk_X12_init_5 : jm_dck prog_14_method_1_code 160 ((jmI_X12_init).getD 5 []) = true := by decide +kernel
theorem dk_X12_init_6 : jm_dck prog_14_method_1_code 192 ((jmI_X12_init).getD 6 []) = true := by decide +kernel
theorem dk_X12_init_7 : jm_dck prog_14_method_1_code 224 ((jmI_X12_init).getD 7 []) = true := by decide +kernel
theorem dk_X12_init : jm_dcs (jm_mC jmM_X12_init) 0 (jm_mI jmM_X12_init) := And.intro dk_X12_init_0 (And.intro dk_X12_init_1 (And.intro dk_X12_init_2 (And.intro dk_X12_init_3 (And.intro dk_X12_init_4 (And.intro dk_X12_init_5 (And.intro dk_X12_init_6 (And.intro dk_X12_init_7 (trivial))))))))
theorem dk_X12_thrown_0 : jm_dck prog_14_method_2_code 0 ((jmI_X12_thrown).getD 0 []) = true := by decide +kernel
theorem dk_X12_thrown : jm_dcs (jm_mC jmM_X12_thrown) 0 (jm_mI jmM_X12_thrown) := And.intro dk_X12_thrown_0 (trivial)
theorem dk_X12_in_0 : jm_dck prog_14_method_3_code 0 ((jmI_X12_in).getD 0 []) = true := by decide +kernel
theorem dk_X12_in : jm_dcs (jm_mC jmM_X12_in) 0 (jm_mI jmM_X12_in) := And.intro dk_X12_in_0 (trivial)
theorem dk_X12_flag_0 : jm_dck prog_14_method_4_code 0 ((jmI_X12_flag).getD 0 []) = true := by decide +kernel
theorem dk_X12_flag : jm_dcs (jm_mC jmM_X12_flag) 0 (jm_mI jmM_X12_flag) := And.intro dk_X12_flag_0 (trivial)
theorem dk_X12_bare_0 : jm_dck prog_14_method_5_code 0 ((jmI_X12_bare).getD 0 []) = true := by decide +kernel
theorem dk_X12_bare : jm_dcs (jm_mC jmM_X12_bare) 0 (jm_mI jmM_X12_bare) := And.intro dk_X12_bare_0 (trivial)
theorem dk_X12_lesser_0 : jm_dck prog_14_method_6_code 0 ((jmI_X12_lesser).getD 0 []) = true := by decide +kernel
theorem dk_X12_lesser : jm_dcs (jm_mC jmM_X12_lesser) 0 (jm_mI jmM_X12_lesser) := And.intro dk_X12_lesser_0 (trivial)
theorem dk_X12_greater_0 : jm_dck prog_14_method_7_code 0 ((jmI_X12_greater).getD 0 []) = true := by decide +kernel
theorem dk_X12_greater : jm_dcs (jm_mC jmM_X12_greater) 0 (jm_mI jmM_X12_greater) := And.intro dk_X12_greater_0 (trivial)
theorem dk_X12_stops_0 : jm_dck prog_14_method_8_code 0 ((jmI_X12_stops).getD 0 []) = true := by decide +kernel
theorem dk_X12_stops : jm_dcs (jm_mC jmM_X12_stops) 0 (jm_mI jmM_X12_stops) := And.intro dk_X12_stops_0 (trivial)
theorem dk_X12_copies_0 : jm_dck prog_14_method_9_code 0 ((jmI_X12_copies).getD 0 []) = true := by decide +kernel
theorem dk_X12_copies : jm_dcs (jm_mC jmM_X12_copies) 0 (jm_mI jmM_X12_copies) := And.intro dk_X12_copies_0 (trivial)
theorem dk_X12_seriesAt_0 : jm_dck prog_14_method_10_code 0 ((jmI_X12_seriesAt).getD 0 []) = true := by decide +kernel
theorem dk_X12_seriesAt : jm_dcs (jm_mC jmM_X12_seriesAt) 0 (jm_mI jmM_X12_seriesAt) := And.intro dk_X12_seriesAt_0 (trivial)
theorem dk_X12_stackAt_0 : jm_dck prog_14_method_11_code 0 ((jmI_X12_stackAt).getD 0 []) = true := by decide +kernel
theorem dk_X12_stackAt : jm_dcs (jm_mC jmM_X12_stackAt) 0 (jm_mI jmM_X12_stackAt) := And.intro dk_X12_stackAt_0 (trivial)
theorem dk_X12_comes_0 : jm_dck prog_14_method_12_code 0 ((jmI_X12_comes).getD 0 []) = true := by decide +kernel
theorem dk_X12_comes_1 : jm_dck prog_14_method_12_code 32 ((jmI_X12_comes).getD 1 []) = true := by decide +kernel
theorem dk_X12_comes : jm_dcs (jm_mC jmM_X12_comes) 0 (jm_mI jmM_X12_comes) := And.intro dk_X12_comes_0 (And.intro dk_X12_comes_1 (trivial))
theorem dk_X12_seriesNamed_0 : jm_dck prog_14_method_13_code 0 ((jmI_X12_seriesNamed).getD 0 []) = true := by decide +kernel
theorem dk_X12_seriesNamed_1 : jm_dck prog_14_method_13_code 32 ((jmI_X12_seriesNamed).getD 1 []) = true := by decide +kernel
theorem dk_X12_seriesNamed : jm_dcs (jm_mC jmM_X12_seriesNamed) 0 (jm_mI jmM_X12_seriesNamed) := And.intro dk_X12_seriesNamed_0 (And.intro dk_X12_seriesNamed_1 (trivial))
theorem dk_X12_halves_0 : jm_dck prog_14_method_14_code 0 ((jmI_X12_halves).getD 0 []) = true := by decide +kernel
theorem dk_X12_halves_1 : jm_dck prog_14_method_14_code 32 ((jmI_X12_halves).getD 1 []) = true := by decide +kernel
theorem dk_X12_halves : jm_dcs (jm_mC jmM_X12_halves) 0 (jm_mI jmM_X12_halves) := And.intro dk_X12_halves_0 (And.intro dk_X12_halves_1 (trivial))
theorem dk_X12_finds_0 : jm_dck prog_14_method_15_code 0 ((jmI_X12_finds).getD 0 []) = true := by decide +kernel
theorem dk_X12_finds_1 : jm_dck prog_14_method_15_code 32 ((jmI_X12_finds).getD 1 []) = true := by decide +kernel
theorem dk_X12_finds : jm_dcs (jm_mC jmM_X12_finds) 0 (jm_mI jmM_X12_finds) := And.intro dk_X12_finds_0 (And.intro dk_X12_finds_1 (trivial))
theorem dk_X12_areaOf_0 : jm_dck prog_14_method_16_code 0 ((jmI_X12_areaOf).getD 0 []) = true := by decide +kernel
theorem dk_X12_areaOf : jm_dcs (jm_mC jmM_X12_areaOf) 0 (jm_mI jmM_X12_areaOf) := And.intro dk_X12_areaOf_0 (trivial)
theorem dk_X12_isVoid_0 : jm_dck prog_14_method_17_code 0 ((jmI_X12_isVoid).getD 0 []) = true := by decide +kernel
theorem dk_X12_isVoid : jm_dcs (jm_mC jmM_X12_isVoid) 0 (jm_mI jmM_X12_isVoid) := And.intro dk_X12_isVoid_0 (trivial)
theorem dk_X12_isVoidToCut_0 : jm_dck prog_14_method_18_code 0 ((jmI_X12_isVoidToCut).getD 0 []) = true := by decide +kernel
theorem dk_X12_isVoidToCut : jm_dcs (jm_mC jmM_X12_isVoidToCut) 0 (jm_mI jmM_X12_isVoidToCut) := And.intro dk_X12_isVoidToCut_0 (trivial)
theorem dk_X12_stripOf_0 : jm_dck prog_14_method_19_code 0 ((jmI_X12_stripOf).getD 0 []) = true := by decide +kernel
theorem dk_X12_stripOf : jm_dcs (jm_mC jmM_X12_stripOf) 0 (jm_mI jmM_X12_stripOf) := And.intro dk_X12_stripOf_0 (trivial)
theorem dk_X12_areaOfAll_0 : jm_dck prog_14_method_20_code 0 ((jmI_X12_areaOfAll).getD 0 []) = true := by decide +kernel
theorem dk_X12_areaOfAll_1 : jm_dck prog_14_method_20_code 32 ((jmI_X12_areaOfAll).getD 1 []) = true := by decide +kernel
theorem dk_X12_areaOfAll : jm_dcs (jm_mC jmM_X12_areaOfAll) 0 (jm_mI jmM_X12_areaOfAll) := And.intro dk_X12_areaOfAll_0 (And.intro dk_X12_areaOfAll_1 (trivial))
theorem dk_X12_usable_0 : jm_dck prog_14_method_21_code 0 ((jmI_X12_usable).getD 0 []) = true := by decide +kernel
theorem dk_X12_usable : jm_dcs (jm_mC jmM_X12_usable) 0 (jm_mI jmM_X12_usable) := And.intro dk_X12_usable_0 (trivial)
theorem dk_X12_supplyOf_0 : jm_dck prog_14_method_22_code 0 ((jmI_X12_supplyOf).getD 0 []) = true := by decide +kernel
theorem dk_X12_supplyOf_1 : jm_dck prog_14_method_22_code 32 ((jmI_X12_supplyOf).getD 1 []) = true := by decide +kernel
theorem dk_X12_supplyOf : jm_dcs (jm_mC jmM_X12_supplyOf) 0 (jm_mI jmM_X12_supplyOf) := And.intro dk_X12_supplyOf_0 (And.intro dk_X12_supplyOf_1 (trivial))
theorem dk_X12_fits_0 : jm_dck prog_14_method_23_code 0 ((jmI_X12_fits).getD 0 []) = true := by decide +kernel
theorem dk_X12_fits_1 : jm_dck prog_14_method_23_code 32 ((jmI_X12_fits).getD 1 []) = true := by decide +kernel
theorem dk_X12_fits : jm_dcs (jm_mC jmM_X12_fits) 0 (jm_mI jmM_X12_fits) := And.intro dk_X12_fits_0 (And.intro dk_X12_fits_1 (trivial))
theorem dk_X12_isNearer_0 : jm_dck prog_14_method_24_code 0 ((jmI_X12_isNearer).getD 0 []) = true := by decide +kernel
theorem dk_X12_isNearer_1 : jm_dck prog_14_method_24_code 32 ((jmI_X12_isNearer).getD 1 []) = true := by decide +kernel
theorem dk_X12_isNearer : jm_dcs (jm_mC jmM_X12_isNearer) 0 (jm_mI jmM_X12_isNearer) := And.intro dk_X12_isNearer_0 (And.intro dk_X12_isNearer_1 (trivial))
theorem dk_X12_seeks_0 : jm_dck prog_14_method_25_code 0 ((jmI_X12_seeks).getD 0 []) = true := by decide +kernel
theorem dk_X12_seeks_1 : jm_dck prog_14_method_25_code 32 ((jmI_X12_seeks).getD 1 []) = true := by decide +kernel
theorem dk_X12_seeks_2 : jm_dck prog_14_method_25_code 64 ((jmI_X12_seeks).getD 2 []) = true := by decide +kernel
theorem dk_X12_seeks_3 : jm_dck prog_14_method_25_code 96 ((jmI_X12_seeks).getD 3 []) = true := by decide +kernel
theorem dk_X12_seeks : jm_dcs (jm_mC jmM_X12_seeks) 0 (jm_mI jmM_X12_seeks) := And.intro dk_X12_seeks_0 (And.intro dk_X12_seeks_1 (And.intro dk_X12_seeks_2 (And.intro dk_X12_seeks_3 (trivial))))
theorem dk_X12_cutsOf_0 : jm_dck prog_14_method_26_code 0 ((jmI_X12_cutsOf).getD 0 []) = true := by decide +kernel
theorem dk_X12_cutsOf_1 : jm_dck prog_14_method_26_code 32 ((jmI_X12_cutsOf).getD 1 []) = true := by decide +kernel
theorem dk_X12_cutsOf_2 : jm_dck prog_14_method_26_code 64 ((jmI_X12_cutsOf).getD 2 []) = true := by decide +kernel
theorem dk_X12_cutsOf_3 : jm_dck prog_14_method_26_code 96 ((jmI_X12_cutsOf).getD 3 []) = true := by decide +kernel
theorem dk_X12_cutsOf : jm_dcs (jm_mC jmM_X12_cutsOf) 0 (jm_mI jmM_X12_cutsOf) := And.intro dk_X12_cutsOf_0 (And.intro dk_X12_cutsOf_1 (And.intro dk_X12_cutsOf_2 (And.intro dk_X12_cutsOf_3 (trivial))))
theorem dk_X12_stripsOf_0 : jm_dck prog_14_method_27_code 0 ((jmI_X12_stripsOf).getD 0 []) = true := by decide +kernel
theorem dk_X12_stripsOf_1 : jm_dck prog_14_method_27_code 32 ((jmI_X12_stripsOf).getD 1 []) = true := by decide +kernel
theorem dk_X12_stripsOf : jm_dcs (jm_mC jmM_X12_stripsOf) 0 (jm_mI jmM_X12_stripsOf) := And.intro dk_X12_stripsOf_0 (And.intro dk_X12_stripsOf_1 (trivial))
theorem dk_X12_fittingOf_0 : jm_dck prog_14_method_28_code 0 ((jmI_X12_fittingOf).getD 0 []) = true := by decide +kernel
theorem dk_X12_fittingOf_1 : jm_dck prog_14_method_28_code 32 ((jmI_X12_fittingOf).getD 1 []) = true := by decide +kernel
theorem dk_X12_fittingOf : jm_dcs (jm_mC jmM_X12_fittingOf) 0 (jm_mI jmM_X12_fittingOf) := And.intro dk_X12_fittingOf_0 (And.intro dk_X12_fittingOf_1 (trivial))
theorem dk_X12_mostSupply_0 : jm_dck prog_14_method_29_code 0 ((jmI_X12_mostSupply).getD 0 []) = true := by decide +kernel
theorem dk_X12_mostSupply_1 : jm_dck prog_14_method_29_code 32 ((jmI_X12_mostSupply).getD 1 []) = true := by decide +kernel
theorem dk_X12_mostSupply_2 : jm_dck prog_14_method_29_code 64 ((jmI_X12_mostSupply).getD 2 []) = true := by decide +kernel
theorem dk_X12_mostSupply : jm_dcs (jm_mC jmM_X12_mostSupply) 0 (jm_mI jmM_X12_mostSupply) := And.intro dk_X12_mostSupply_0 (And.intro dk_X12_mostSupply_1 (And.intro dk_X12_mostSupply_2 (trivial)))
theorem dk_X12_printOf_0 : jm_dck prog_14_method_30_code 0 ((jmI_X12_printOf).getD 0 []) = true := by decide +kernel
theorem dk_X12_printOf_1 : jm_dck prog_14_method_30_code 32 ((jmI_X12_printOf).getD 1 []) = true := by decide +kernel
theorem dk_X12_printOf : jm_dcs (jm_mC jmM_X12_printOf) 0 (jm_mI jmM_X12_printOf) := And.intro dk_X12_printOf_0 (And.intro dk_X12_printOf_1 (trivial))
theorem dk_X12_keeps_0 : jm_dck prog_14_method_31_code 0 ((jmI_X12_keeps).getD 0 []) = true := by decide +kernel
theorem dk_X12_keeps_1 : jm_dck prog_14_method_31_code 32 ((jmI_X12_keeps).getD 1 []) = true := by decide +kernel
theorem dk_X12_keeps_2 : jm_dck prog_14_method_31_code 64 ((jmI_X12_keeps).getD 2 []) = true := by decide +kernel
theorem dk_X12_keeps_3 : jm_dck prog_14_method_31_code 96 ((jmI_X12_keeps).getD 3 []) = true := by decide +kernel
theorem dk_X12_keeps : jm_dcs (jm_mC jmM_X12_keeps) 0 (jm_mI jmM_X12_keeps) := And.intro dk_X12_keeps_0 (And.intro dk_X12_keeps_1 (And.intro dk_X12_keeps_2 (And.intro dk_X12_keeps_3 (trivial))))
theorem dk_X12_fills_0 : jm_dck prog_14_method_32_code 0 ((jmI_X12_fills).getD 0 []) = true := by decide +kernel
theorem dk_X12_fills_1 : jm_dck prog_14_method_32_code 32 ((jmI_X12_fills).getD 1 []) = true := by decide +kernel
theorem dk_X12_fills_2 : jm_dck prog_14_method_32_code 64 ((jmI_X12_fills).getD 2 []) = true := by decide +kernel
theorem dk_X12_fills_3 : jm_dck prog_14_method_32_code 96 ((jmI_X12_fills).getD 3 []) = true := by decide +kernel
theorem dk_X12_fills_4 : jm_dck prog_14_method_32_code 128 ((jmI_X12_fills).getD 4 []) = true := by decide +kernel
theorem dk_X12_fills_5 : jm_dck prog_14_method_32_code 160 ((jmI_X12_fills).getD 5 []) = true := by decide +kernel
theorem dk_X12_fills_6 : jm_dck prog_14_method_32_code 192 ((jmI_X12_fills).getD 6 []) = true := by decide +kernel
theorem dk_X12_fills_7 : jm_dck prog_14_method_32_code 224 ((jmI_X12_fills).getD 7 []) = true := by decide +kernel
theorem dk_X12_fills_8 : jm_dck prog_14_method_32_code 256 ((jmI_X12_fills).getD 8 []) = true := by decide +kernel
theorem dk_X12_fills : jm_dcs (jm_mC jmM_X12_fills) 0 (jm_mI jmM_X12_fills) := And.intro dk_X12_fills_0 (And.intro dk_X12_fills_1 (And.intro dk_X12_fills_2 (And.intro dk_X12_fills_3 (And.intro dk_X12_fills_4 (And.intro dk_X12_fills_5 (And.intro dk_X12_fills_6 (And.intro dk_X12_fills_7 (And.intro dk_X12_fills_8 (trivial)))))))))
theorem dk_X12_buys_0 : jm_dck prog_14_method_33_code 0 ((jmI_X12_buys).getD 0 []) = true := by decide +kernel
theorem dk_X12_buys_1 : jm_dck prog_14_method_33_code 32 ((jmI_X12_buys).getD 1 []) = true := by decide +kernel
theorem dk_X12_buys_2 : jm_dck prog_14_method_33_code 64 ((jmI_X12_buys).getD 2 []) = true := by decide +kernel
theorem dk_X12_buys_3 : jm_dck prog_14_method_33_code 96 ((jmI_X12_buys).getD 3 []) = true := by decide +kernel
theorem dk_X12_buys : jm_dcs (jm_mC jmM_X12_buys) 0 (jm_mI jmM_X12_buys) := And.intro dk_X12_buys_0 (And.intro dk_X12_buys_1 (And.intro dk_X12_buys_2 (And.intro dk_X12_buys_3 (trivial))))
theorem dk_X12_cuts_0 : jm_dck prog_14_method_34_code 0 ((jmI_X12_cuts).getD 0 []) = true := by decide +kernel
theorem dk_X12_cuts_1 : jm_dck prog_14_method_34_code 32 ((jmI_X12_cuts).getD 1 []) = true := by decide +kernel
theorem dk_X12_cuts_2 : jm_dck prog_14_method_34_code 64 ((jmI_X12_cuts).getD 2 []) = true := by decide +kernel
theorem dk_X12_cuts_3 : jm_dck prog_14_method_34_code 96 ((jmI_X12_cuts).getD 3 []) = true := by decide +kernel
theorem dk_X12_cuts_4 : jm_dck prog_14_method_34_code 128 ((jmI_X12_cuts).getD 4 []) = true := by decide +kernel
theorem dk_X12_cuts : jm_dcs (jm_mC jmM_X12_cuts) 0 (jm_mI jmM_X12_cuts) := And.intro dk_X12_cuts_0 (And.intro dk_X12_cuts_1 (And.intro dk_X12_cuts_2 (And.intro dk_X12_cuts_3 (And.intro dk_X12_cuts_4 (trivial)))))
theorem dk_X12_sets_0 : jm_dck prog_14_method_35_code 0 ((jmI_X12_sets).getD 0 []) = true := by decide +kernel
theorem dk_X12_sets : jm_dcs (jm_mC jmM_X12_sets) 0 (jm_mI jmM_X12_sets) := And.intro dk_X12_sets_0 (trivial)
theorem dk_X12_four_0 : jm_dck prog_14_method_36_code 0 ((jmI_X12_four).getD 0 []) = true := by decide +kernel
theorem dk_X12_four_1 : jm_dck prog_14_method_36_code 32 ((jmI_X12_four).getD 1 []) = true := by decide +kernel
theorem dk_X12_four : jm_dcs (jm_mC jmM_X12_four) 0 (jm_mI jmM_X12_four) := And.intro dk_X12_four_0 (And.intro dk_X12_four_1 (trivial))
theorem dk_X12_append_0 : jm_dck prog_14_method_37_code 0 ((jmI_X12_append).getD 0 []) = true := by decide +kernel
theorem dk_X12_append_1 : jm_dck prog_14_method_37_code 32 ((jmI_X12_append).getD 1 []) = true := by decide +kernel
theorem dk_X12_append_2 : jm_dck prog_14_method_37_code 64 ((jmI_X12_append).getD 2 []) = true := by decide +kernel
theorem dk_X12_append : jm_dcs (jm_mC jmM_X12_append) 0 (jm_mI jmM_X12_append) := And.intro dk_X12_append_0 (And.intro dk_X12_append_1 (And.intro dk_X12_append_2 (trivial)))
theorem dk_X12_truncate_0 : jm_dck prog_14_method_38_code 0 ((jmI_X12_truncate).getD 0 []) = true := by decide +kernel
theorem dk_X12_truncate_1 : jm_dck prog_14_method_38_code 32 ((jmI_X12_truncate).getD 1 []) = true := by decide +kernel
theorem dk_X12_truncate : jm_dcs (jm_mC jmM_X12_truncate) 0 (jm_mI jmM_X12_truncate) := And.intro dk_X12_truncate_0 (And.intro dk_X12_truncate_1 (trivial))
theorem dk_X12_see_0 : jm_dck prog_14_method_39_code 0 ((jmI_X12_see).getD 0 []) = true := by decide +kernel
theorem dk_X12_see : jm_dcs (jm_mC jmM_X12_see) 0 (jm_mI jmM_X12_see) := And.intro dk_X12_see_0 (trivial)
theorem dk_X12_isSmall_0 : jm_dck prog_14_method_40_code 0 ((jmI_X12_isSmall).getD 0 []) = true := by decide +kernel
theorem dk_X12_isSmall : jm_dcs (jm_mC jmM_X12_isSmall) 0 (jm_mI jmM_X12_isSmall) := And.intro dk_X12_isSmall_0 (trivial)
theorem dk_X12_isDigit_0 : jm_dck prog_14_method_41_code 0 ((jmI_X12_isDigit).getD 0 []) = true := by decide +kernel
theorem dk_X12_isDigit : jm_dcs (jm_mC jmM_X12_isDigit) 0 (jm_mI jmM_X12_isDigit) := And.intro dk_X12_isDigit_0 (trivial)
theorem dk_X12_scan_0 : jm_dck prog_14_method_42_code 0 ((jmI_X12_scan).getD 0 []) = true := by decide +kernel
theorem dk_X12_scan_1 : jm_dck prog_14_method_42_code 32 ((jmI_X12_scan).getD 1 []) = true := by decide +kernel
theorem dk_X12_scan_2 : jm_dck prog_14_method_42_code 64 ((jmI_X12_scan).getD 2 []) = true := by decide +kernel
theorem dk_X12_scan_3 : jm_dck prog_14_method_42_code 96 ((jmI_X12_scan).getD 3 []) = true := by decide +kernel
theorem dk_X12_scan_4 : jm_dck prog_14_method_42_code 128 ((jmI_X12_scan).getD 4 []) = true := by decide +kernel
theorem dk_X12_scan_5 : jm_dck prog_14_method_42_code 160 ((jmI_X12_scan).getD 5 []) = true := by decide +kernel
theorem dk_X12_scan_6 : jm_dck prog_14_method_42_code 192 ((jmI_X12_scan).getD 6 []) = true := by decide +kernel
theorem dk_X12_scan_7 : jm_dck prog_14_method_42_code 224 ((jmI_X12_scan).getD 7 []) = true := by decide +kernel
theorem dk_X12_scan_8 : jm_dck prog_14_method_42_code 256 ((jmI_X12_scan).getD 8 []) = true := by decide +kernel
theorem dk_X12_scan : jm_dcs (jm_mC jmM_X12_scan) 0 (jm_mI jmM_X12_scan) := And.intro dk_X12_scan_0 (And.intro dk_X12_scan_1 (And.intro dk_X12_scan_2 (And.intro dk_X12_scan_3 (And.intro dk_X12_scan_4 (And.intro dk_X12_scan_5 (And.intro dk_X12_scan_6 (And.intro dk_X12_scan_7 (And.intro dk_X12_scan_8 (trivial)))))))))
theorem dk_X12_isGood_0 : jm_dck prog_14_method_43_code 0 ((jmI_X12_isGood).getD 0 []) = true := by decide +kernel
theorem dk_X12_isGood : jm_dcs (jm_mC jmM_X12_isGood) 0 (jm_mI jmM_X12_isGood) := And.intro dk_X12_isGood_0 (trivial)
theorem dk_X12_must_0 : jm_dck prog_14_method_44_code 0 ((jmI_X12_must).getD 0 []) = true := by decide +kernel
theorem dk_X12_must : jm_dcs (jm_mC jmM_X12_must) 0 (jm_mI jmM_X12_must) := And.intro dk_X12_must_0 (trivial)
theorem dk_X12_goesOn_0 : jm_dck prog_14_method_45_code 0 ((jmI_X12_goesOn).getD 0 []) = true := by decide +kernel
theorem dk_X12_goesOn : jm_dcs (jm_mC jmM_X12_goesOn) 0 (jm_mI jmM_X12_goesOn) := And.intro dk_X12_goesOn_0 (trivial)
theorem dk_X12_starts_0 : jm_dck prog_14_method_46_code 0 ((jmI_X12_starts).getD 0 []) = true := by decide +kernel
theorem dk_X12_starts : jm_dcs (jm_mC jmM_X12_starts) 0 (jm_mI jmM_X12_starts) := And.intro dk_X12_starts_0 (trivial)
theorem dk_X12_isWord_0 : jm_dck prog_14_method_47_code 0 ((jmI_X12_isWord).getD 0 []) = true := by decide +kernel
theorem dk_X12_isWord_1 : jm_dck prog_14_method_47_code 32 ((jmI_X12_isWord).getD 1 []) = true := by decide +kernel
theorem dk_X12_isWord : jm_dcs (jm_mC jmM_X12_isWord) 0 (jm_mI jmM_X12_isWord) := And.intro dk_X12_isWord_0 (And.intro dk_X12_isWord_1 (trivial))
theorem dk_X12_isSign_0 : jm_dck prog_14_method_48_code 0 ((jmI_X12_isSign).getD 0 []) = true := by decide +kernel
theorem dk_X12_isSign_1 : jm_dck prog_14_method_48_code 32 ((jmI_X12_isSign).getD 1 []) = true := by decide +kernel
theorem dk_X12_isSign : jm_dcs (jm_mC jmM_X12_isSign) 0 (jm_mI jmM_X12_isSign) := And.intro dk_X12_isSign_0 (And.intro dk_X12_isSign_1 (trivial))
theorem dk_X12_sign_0 : jm_dck prog_14_method_49_code 0 ((jmI_X12_sign).getD 0 []) = true := by decide +kernel
theorem dk_X12_sign : jm_dcs (jm_mC jmM_X12_sign) 0 (jm_mI jmM_X12_sign) := And.intro dk_X12_sign_0 (trivial)
theorem dk_X12_reads_0 : jm_dck prog_14_method_50_code 0 ((jmI_X12_reads).getD 0 []) = true := by decide +kernel
theorem dk_X12_reads_1 : jm_dck prog_14_method_50_code 32 ((jmI_X12_reads).getD 1 []) = true := by decide +kernel
theorem dk_X12_reads : jm_dcs (jm_mC jmM_X12_reads) 0 (jm_mI jmM_X12_reads) := And.intro dk_X12_reads_0 (And.intro dk_X12_reads_1 (trivial))
theorem dk_X12_nameHere_0 : jm_dck prog_14_method_51_code 0 ((jmI_X12_nameHere).getD 0 []) = true := by decide +kernel
theorem dk_X12_nameHere_1 : jm_dck prog_14_method_51_code 32 ((jmI_X12_nameHere).getD 1 []) = true := by decide +kernel
theorem dk_X12_nameHere : jm_dcs (jm_mC jmM_X12_nameHere) 0 (jm_mI jmM_X12_nameHere) := And.intro dk_X12_nameHere_0 (And.intro dk_X12_nameHere_1 (trivial))
theorem dk_X12_name_0 : jm_dck prog_14_method_52_code 0 ((jmI_X12_name).getD 0 []) = true := by decide +kernel
theorem dk_X12_name : jm_dcs (jm_mC jmM_X12_name) 0 (jm_mI jmM_X12_name) := And.intro dk_X12_name_0 (trivial)
theorem dk_X12_stackText_0 : jm_dck prog_14_method_53_code 0 ((jmI_X12_stackText).getD 0 []) = true := by decide +kernel
theorem dk_X12_stackText_1 : jm_dck prog_14_method_53_code 32 ((jmI_X12_stackText).getD 1 []) = true := by decide +kernel
theorem dk_X12_stackText_2 : jm_dck prog_14_method_53_code 64 ((jmI_X12_stackText).getD 2 []) = true := by decide +kernel
theorem dk_X12_stackText_3 : jm_dck prog_14_method_53_code 96 ((jmI_X12_stackText).getD 3 []) = true := by decide +kernel
theorem dk_X12_stackText : jm_dcs (jm_mC jmM_X12_stackText) 0 (jm_mI jmM_X12_stackText) := And.intro dk_X12_stackText_0 (And.intro dk_X12_stackText_1 (And.intro dk_X12_stackText_2 (And.intro dk_X12_stackText_3 (trivial))))
theorem dk_X12_seriesText_0 : jm_dck prog_14_method_54_code 0 ((jmI_X12_seriesText).getD 0 []) = true := by decide +kernel
theorem dk_X12_seriesText_1 : jm_dck prog_14_method_54_code 32 ((jmI_X12_seriesText).getD 1 []) = true := by decide +kernel
theorem dk_X12_seriesText_2 : jm_dck prog_14_method_54_code 64 ((jmI_X12_seriesText).getD 2 []) = true := by decide +kernel
theorem dk_X12_seriesText_3 : jm_dck prog_14_method_54_code 96 ((jmI_X12_seriesText).getD 3 []) = true := by decide +kernel
theorem dk_X12_seriesText_4 : jm_dck prog_14_method_54_code 128 ((jmI_X12_seriesText).getD 4 []) = true := by decide +kernel
theorem dk_X12_seriesText : jm_dcs (jm_mC jmM_X12_seriesText) 0 (jm_mI jmM_X12_seriesText) := And.intro dk_X12_seriesText_0 (And.intro dk_X12_seriesText_1 (And.intro dk_X12_seriesText_2 (And.intro dk_X12_seriesText_3 (And.intro dk_X12_seriesText_4 (trivial)))))
theorem dk_X12_setup_0 : jm_dck prog_14_method_55_code 0 ((jmI_X12_setup).getD 0 []) = true := by decide +kernel
theorem dk_X12_setup_1 : jm_dck prog_14_method_55_code 32 ((jmI_X12_setup).getD 1 []) = true := by decide +kernel
theorem dk_X12_setup_2 : jm_dck prog_14_method_55_code 64 ((jmI_X12_setup).getD 2 []) = true := by decide +kernel
theorem dk_X12_setup_3 : jm_dck prog_14_method_55_code 96 ((jmI_X12_setup).getD 3 []) = true := by decide +kernel
theorem dk_X12_setup : jm_dcs (jm_mC jmM_X12_setup) 0 (jm_mI jmM_X12_setup) := And.intro dk_X12_setup_0 (And.intro dk_X12_setup_1 (And.intro dk_X12_setup_2 (And.intro dk_X12_setup_3 (trivial))))
theorem dk_X12_takesText_0 : jm_dck prog_14_method_56_code 0 ((jmI_X12_takesText).getD 0 []) = true := by decide +kernel
theorem dk_X12_takesText_1 : jm_dck prog_14_method_56_code 32 ((jmI_X12_takesText).getD 1 []) = true := by decide +kernel
theorem dk_X12_takesText : jm_dcs (jm_mC jmM_X12_takesText) 0 (jm_mI jmM_X12_takesText) := And.intro dk_X12_takesText_0 (And.intro dk_X12_takesText_1 (trivial))
theorem dk_X12_tellsError_0 : jm_dck prog_14_method_57_code 0 ((jmI_X12_tellsError).getD 0 []) = true := by decide +kernel
theorem dk_X12_tellsError : jm_dcs (jm_mC jmM_X12_tellsError) 0 (jm_mI jmM_X12_tellsError) := And.intro dk_X12_tellsError_0 (trivial)
theorem dk_X12_load_0 : jm_dck prog_14_method_58_code 0 ((jmI_X12_load).getD 0 []) = true := by decide +kernel
theorem dk_X12_load_1 : jm_dck prog_14_method_58_code 32 ((jmI_X12_load).getD 1 []) = true := by decide +kernel
theorem dk_X12_load_2 : jm_dck prog_14_method_58_code 64 ((jmI_X12_load).getD 2 []) = true := by decide +kernel
theorem dk_X12_load_3 : jm_dck prog_14_method_58_code 96 ((jmI_X12_load).getD 3 []) = true := by decide +kernel
theorem dk_X12_load_4 : jm_dck prog_14_method_58_code 128 ((jmI_X12_load).getD 4 []) = true := by decide +kernel
theorem dk_X12_load : jm_dcs (jm_mC jmM_X12_load) 0 (jm_mI jmM_X12_load) := And.intro dk_X12_load_0 (And.intro dk_X12_load_1 (And.intro dk_X12_load_2 (And.intro dk_X12_load_3 (And.intro dk_X12_load_4 (trivial)))))
theorem dk_X12_isOrder_0 : jm_dck prog_14_method_59_code 0 ((jmI_X12_isOrder).getD 0 []) = true := by decide +kernel
theorem dk_X12_isOrder_1 : jm_dck prog_14_method_59_code 32 ((jmI_X12_isOrder).getD 1 []) = true := by decide +kernel
theorem dk_X12_isOrder_2 : jm_dck prog_14_method_59_code 64 ((jmI_X12_isOrder).getD 2 []) = true := by decide +kernel
theorem dk_X12_isOrder : jm_dcs (jm_mC jmM_X12_isOrder) 0 (jm_mI jmM_X12_isOrder) := And.intro dk_X12_isOrder_0 (And.intro dk_X12_isOrder_1 (And.intro dk_X12_isOrder_2 (trivial)))
theorem dk_X12_isActive_0 : jm_dck prog_14_method_60_code 0 ((jmI_X12_isActive).getD 0 []) = true := by decide +kernel
theorem dk_X12_isActive : jm_dcs (jm_mC jmM_X12_isActive) 0 (jm_mI jmM_X12_isActive) := And.intro dk_X12_isActive_0 (trivial)
theorem dk_X12_came_0 : jm_dck prog_14_method_61_code 0 ((jmI_X12_came).getD 0 []) = true := by decide +kernel
theorem dk_X12_came_1 : jm_dck prog_14_method_61_code 32 ((jmI_X12_came).getD 1 []) = true := by decide +kernel
theorem dk_X12_came : jm_dcs (jm_mC jmM_X12_came) 0 (jm_mI jmM_X12_came) := And.intro dk_X12_came_0 (And.intro dk_X12_came_1 (trivial))
theorem dk_X12_stackOrder_0 : jm_dck prog_14_method_62_code 0 ((jmI_X12_stackOrder).getD 0 []) = true := by decide +kernel
theorem dk_X12_stackOrder_1 : jm_dck prog_14_method_62_code 32 ((jmI_X12_stackOrder).getD 1 []) = true := by decide +kernel
theorem dk_X12_stackOrder_2 : jm_dck prog_14_method_62_code 64 ((jmI_X12_stackOrder).getD 2 []) = true := by decide +kernel
theorem dk_X12_stackOrder : jm_dcs (jm_mC jmM_X12_stackOrder) 0 (jm_mI jmM_X12_stackOrder) := And.intro dk_X12_stackOrder_0 (And.intro dk_X12_stackOrder_1 (And.intro dk_X12_stackOrder_2 (trivial)))
theorem dk_X12_printOrder_0 : jm_dck prog_14_method_63_code 0 ((jmI_X12_printOrder).getD 0 []) = true := by decide +kernel
theorem dk_X12_printOrder_1 : jm_dck prog_14_method_63_code 32 ((jmI_X12_printOrder).getD 1 []) = true := by decide +kernel
theorem dk_X12_printOrder : jm_dcs (jm_mC jmM_X12_printOrder) 0 (jm_mI jmM_X12_printOrder) := And.intro dk_X12_printOrder_0 (And.intro dk_X12_printOrder_1 (trivial))
theorem dk_X12_setOrder_0 : jm_dck prog_14_method_64_code 0 ((jmI_X12_setOrder).getD 0 []) = true := by decide +kernel
theorem dk_X12_setOrder_1 : jm_dck prog_14_method_64_code 32 ((jmI_X12_setOrder).getD 1 []) = true := by decide +kernel
theorem dk_X12_setOrder : jm_dcs (jm_mC jmM_X12_setOrder) 0 (jm_mI jmM_X12_setOrder) := And.intro dk_X12_setOrder_0 (And.intro dk_X12_setOrder_1 (trivial))
theorem dk_X12_againOrder_0 : jm_dck prog_14_method_65_code 0 ((jmI_X12_againOrder).getD 0 []) = true := by decide +kernel
theorem dk_X12_againOrder_1 : jm_dck prog_14_method_65_code 32 ((jmI_X12_againOrder).getD 1 []) = true := by decide +kernel
theorem dk_X12_againOrder_2 : jm_dck prog_14_method_65_code 64 ((jmI_X12_againOrder).getD 2 []) = true := by decide +kernel
theorem dk_X12_againOrder : jm_dcs (jm_mC jmM_X12_againOrder) 0 (jm_mI jmM_X12_againOrder) := And.intro dk_X12_againOrder_0 (And.intro dk_X12_againOrder_1 (And.intro dk_X12_againOrder_2 (trivial)))
theorem dk_X12_closes_0 : jm_dck prog_14_method_66_code 0 ((jmI_X12_closes).getD 0 []) = true := by decide +kernel
theorem dk_X12_closes_1 : jm_dck prog_14_method_66_code 32 ((jmI_X12_closes).getD 1 []) = true := by decide +kernel
theorem dk_X12_closes_2 : jm_dck prog_14_method_66_code 64 ((jmI_X12_closes).getD 2 []) = true := by decide +kernel
theorem dk_X12_closes_3 : jm_dck prog_14_method_66_code 96 ((jmI_X12_closes).getD 3 []) = true := by decide +kernel
theorem dk_X12_closes : jm_dcs (jm_mC jmM_X12_closes) 0 (jm_mI jmM_X12_closes) := And.intro dk_X12_closes_0 (And.intro dk_X12_closes_1 (And.intro dk_X12_closes_2 (And.intro dk_X12_closes_3 (trivial))))
theorem dk_X12_does_0 : jm_dck prog_14_method_67_code 0 ((jmI_X12_does).getD 0 []) = true := by decide +kernel
theorem dk_X12_does_1 : jm_dck prog_14_method_67_code 32 ((jmI_X12_does).getD 1 []) = true := by decide +kernel
theorem dk_X12_does_2 : jm_dck prog_14_method_67_code 64 ((jmI_X12_does).getD 2 []) = true := by decide +kernel
theorem dk_X12_does : jm_dcs (jm_mC jmM_X12_does) 0 (jm_mI jmM_X12_does) := And.intro dk_X12_does_0 (And.intro dk_X12_does_1 (And.intro dk_X12_does_2 (trivial)))
theorem dk_X12_orderText_0 : jm_dck prog_14_method_68_code 0 ((jmI_X12_orderText).getD 0 []) = true := by decide +kernel
theorem dk_X12_orderText_1 : jm_dck prog_14_method_68_code 32 ((jmI_X12_orderText).getD 1 []) = true := by decide +kernel
theorem dk_X12_orderText_2 : jm_dck prog_14_method_68_code 64 ((jmI_X12_orderText).getD 2 []) = true := by decide +kernel
theorem dk_X12_orderText_3 : jm_dck prog_14_method_68_code 96 ((jmI_X12_orderText).getD 3 []) = true := by decide +kernel
theorem dk_X12_orderText : jm_dcs (jm_mC jmM_X12_orderText) 0 (jm_mI jmM_X12_orderText) := And.intro dk_X12_orderText_0 (And.intro dk_X12_orderText_1 (And.intro dk_X12_orderText_2 (And.intro dk_X12_orderText_3 (trivial))))
theorem dk_X12_goesThrough_0 : jm_dck prog_14_method_69_code 0 ((jmI_X12_goesThrough).getD 0 []) = true := by decide +kernel
theorem dk_X12_goesThrough_1 : jm_dck prog_14_method_69_code 32 ((jmI_X12_goesThrough).getD 1 []) = true := by decide +kernel
theorem dk_X12_goesThrough_2 : jm_dck prog_14_method_69_code 64 ((jmI_X12_goesThrough).getD 2 []) = true := by decide +kernel
theorem dk_X12_goesThrough_3 : jm_dck prog_14_method_69_code 96 ((jmI_X12_goesThrough).getD 3 []) = true := by decide +kernel
theorem dk_X12_goesThrough : jm_dcs (jm_mC jmM_X12_goesThrough) 0 (jm_mI jmM_X12_goesThrough) := And.intro dk_X12_goesThrough_0 (And.intro dk_X12_goesThrough_1 (And.intro dk_X12_goesThrough_2 (And.intro dk_X12_goesThrough_3 (trivial))))
theorem dk_X12_play_0 : jm_dck prog_14_method_70_code 0 ((jmI_X12_play).getD 0 []) = true := by decide +kernel
theorem dk_X12_play_1 : jm_dck prog_14_method_70_code 32 ((jmI_X12_play).getD 1 []) = true := by decide +kernel
theorem dk_X12_play : jm_dcs (jm_mC jmM_X12_play) 0 (jm_mI jmM_X12_play) := And.intro dk_X12_play_0 (And.intro dk_X12_play_1 (trivial))
theorem dk_X12_errorCode_0 : jm_dck prog_14_method_71_code 0 ((jmI_X12_errorCode).getD 0 []) = true := by decide +kernel
theorem dk_X12_errorCode : jm_dcs (jm_mC jmM_X12_errorCode) 0 (jm_mI jmM_X12_errorCode) := And.intro dk_X12_errorCode_0 (trivial)
theorem dk_X12_errorPosition_0 : jm_dck prog_14_method_72_code 0 ((jmI_X12_errorPosition).getD 0 []) = true := by decide +kernel
theorem dk_X12_errorPosition : jm_dcs (jm_mC jmM_X12_errorPosition) 0 (jm_mI jmM_X12_errorPosition) := And.intro dk_X12_errorPosition_0 (trivial)
theorem dk_X12_keepsPast_0 : jm_dck prog_14_method_73_code 0 ((jmI_X12_keepsPast).getD 0 []) = true := by decide +kernel
theorem dk_X12_keepsPast_1 : jm_dck prog_14_method_73_code 32 ((jmI_X12_keepsPast).getD 1 []) = true := by decide +kernel
theorem dk_X12_keepsPast_2 : jm_dck prog_14_method_73_code 64 ((jmI_X12_keepsPast).getD 2 []) = true := by decide +kernel
theorem dk_X12_keepsPast : jm_dcs (jm_mC jmM_X12_keepsPast) 0 (jm_mI jmM_X12_keepsPast) := And.intro dk_X12_keepsPast_0 (And.intro dk_X12_keepsPast_1 (And.intro dk_X12_keepsPast_2 (trivial)))
theorem dk_X12_tries_0 : jm_dck prog_14_method_74_code 0 ((jmI_X12_tries).getD 0 []) = true := by decide +kernel
theorem dk_X12_tries : jm_dcs (jm_mC jmM_X12_tries) 0 (jm_mI jmM_X12_tries) := And.intro dk_X12_tries_0 (trivial)
theorem dk_X12_tried_0 : jm_dck prog_14_method_75_code 0 ((jmI_X12_tried).getD 0 []) = true := by decide +kernel
theorem dk_X12_tried : jm_dcs (jm_mC jmM_X12_tried) 0 (jm_mI jmM_X12_tried) := And.intro dk_X12_tried_0 (trivial)
theorem dk_X12_noSeries_0 : jm_dck prog_14_method_76_code 0 ((jmI_X12_noSeries).getD 0 []) = true := by decide +kernel
theorem dk_X12_noSeries : jm_dcs (jm_mC jmM_X12_noSeries) 0 (jm_mI jmM_X12_noSeries) := And.intro dk_X12_noSeries_0 (trivial)
theorem dk_X12_noSize_0 : jm_dck prog_14_method_77_code 0 ((jmI_X12_noSize).getD 0 []) = true := by decide +kernel
theorem dk_X12_noSize_1 : jm_dck prog_14_method_77_code 32 ((jmI_X12_noSize).getD 1 []) = true := by decide +kernel
theorem dk_X12_noSize : jm_dcs (jm_mC jmM_X12_noSize) 0 (jm_mI jmM_X12_noSize) := And.intro dk_X12_noSize_0 (And.intro dk_X12_noSize_1 (trivial))
theorem dk_X12_noSides_0 : jm_dck prog_14_method_78_code 0 ((jmI_X12_noSides).getD 0 []) = true := by decide +kernel
theorem dk_X12_noSides_1 : jm_dck prog_14_method_78_code 32 ((jmI_X12_noSides).getD 1 []) = true := by decide +kernel
theorem dk_X12_noSides : jm_dcs (jm_mC jmM_X12_noSides) 0 (jm_mI jmM_X12_noSides) := And.intro dk_X12_noSides_0 (And.intro dk_X12_noSides_1 (trivial))
theorem dk_X12_wholeName_0 : jm_dck prog_14_method_79_code 0 ((jmI_X12_wholeName).getD 0 []) = true := by decide +kernel
theorem dk_X12_wholeName_1 : jm_dck prog_14_method_79_code 32 ((jmI_X12_wholeName).getD 1 []) = true := by decide +kernel
theorem dk_X12_wholeName : jm_dcs (jm_mC jmM_X12_wholeName) 0 (jm_mI jmM_X12_wholeName) := And.intro dk_X12_wholeName_0 (And.intro dk_X12_wholeName_1 (trivial))
theorem dk_X12_found_0 : jm_dck prog_14_method_80_code 0 ((jmI_X12_found).getD 0 []) = true := by decide +kernel
theorem dk_X12_found_1 : jm_dck prog_14_method_80_code 32 ((jmI_X12_found).getD 1 []) = true := by decide +kernel
theorem dk_X12_found_2 : jm_dck prog_14_method_80_code 64 ((jmI_X12_found).getD 2 []) = true := by decide +kernel
theorem dk_X12_found : jm_dcs (jm_mC jmM_X12_found) 0 (jm_mI jmM_X12_found) := And.intro dk_X12_found_0 (And.intro dk_X12_found_1 (And.intro dk_X12_found_2 (trivial)))
theorem dk_X12_buy_0 : jm_dck prog_14_method_81_code 0 ((jmI_X12_buy).getD 0 []) = true := by decide +kernel
theorem dk_X12_buy_1 : jm_dck prog_14_method_81_code 32 ((jmI_X12_buy).getD 1 []) = true := by decide +kernel
theorem dk_X12_buy : jm_dcs (jm_mC jmM_X12_buy) 0 (jm_mI jmM_X12_buy) := And.intro dk_X12_buy_0 (And.intro dk_X12_buy_1 (trivial))
theorem dk_X12_cut_0 : jm_dck prog_14_method_82_code 0 ((jmI_X12_cut).getD 0 []) = true := by decide +kernel
theorem dk_X12_cut_1 : jm_dck prog_14_method_82_code 32 ((jmI_X12_cut).getD 1 []) = true := by decide +kernel
theorem dk_X12_cut : jm_dcs (jm_mC jmM_X12_cut) 0 (jm_mI jmM_X12_cut) := And.intro dk_X12_cut_0 (And.intro dk_X12_cut_1 (trivial))
theorem dk_X12_noOrder_0 : jm_dck prog_14_method_83_code 0 ((jmI_X12_noOrder).getD 0 []) = true := by decide +kernel
theorem dk_X12_noOrder_1 : jm_dck prog_14_method_83_code 32 ((jmI_X12_noOrder).getD 1 []) = true := by decide +kernel
theorem dk_X12_noOrder : jm_dcs (jm_mC jmM_X12_noOrder) 0 (jm_mI jmM_X12_noOrder) := And.intro dk_X12_noOrder_0 (And.intro dk_X12_noOrder_1 (trivial))
theorem dk_X12_order_0 : jm_dck prog_14_method_84_code 0 ((jmI_X12_order).getD 0 []) = true := by decide +kernel
theorem dk_X12_order_1 : jm_dck prog_14_method_84_code 32 ((jmI_X12_order).getD 1 []) = true := by decide +kernel
theorem dk_X12_order : jm_dcs (jm_mC jmM_X12_order) 0 (jm_mI jmM_X12_order) := And.intro dk_X12_order_0 (And.intro dk_X12_order_1 (trivial))
theorem dk_X12_setEdge_0 : jm_dck prog_14_method_85_code 0 ((jmI_X12_setEdge).getD 0 []) = true := by decide +kernel
theorem dk_X12_setEdge_1 : jm_dck prog_14_method_85_code 32 ((jmI_X12_setEdge).getD 1 []) = true := by decide +kernel
theorem dk_X12_setEdge : jm_dcs (jm_mC jmM_X12_setEdge) 0 (jm_mI jmM_X12_setEdge) := And.intro dk_X12_setEdge_0 (And.intro dk_X12_setEdge_1 (trivial))
theorem dk_X12_setReam_0 : jm_dck prog_14_method_86_code 0 ((jmI_X12_setReam).getD 0 []) = true := by decide +kernel
theorem dk_X12_setReam_1 : jm_dck prog_14_method_86_code 32 ((jmI_X12_setReam).getD 1 []) = true := by decide +kernel
theorem dk_X12_setReam : jm_dcs (jm_mC jmM_X12_setReam) 0 (jm_mI jmM_X12_setReam) := And.intro dk_X12_setReam_0 (And.intro dk_X12_setReam_1 (trivial))
theorem dk_X12_undo_0 : jm_dck prog_14_method_87_code 0 ((jmI_X12_undo).getD 0 []) = true := by decide +kernel
theorem dk_X12_undo_1 : jm_dck prog_14_method_87_code 32 ((jmI_X12_undo).getD 1 []) = true := by decide +kernel
theorem dk_X12_undo : jm_dcs (jm_mC jmM_X12_undo) 0 (jm_mI jmM_X12_undo) := And.intro dk_X12_undo_0 (And.intro dk_X12_undo_1 (trivial))
theorem dk_X12_noSlot_0 : jm_dck prog_14_method_88_code 0 ((jmI_X12_noSlot).getD 0 []) = true := by decide +kernel
theorem dk_X12_noSlot : jm_dcs (jm_mC jmM_X12_noSlot) 0 (jm_mI jmM_X12_noSlot) := And.intro dk_X12_noSlot_0 (trivial)
theorem dk_X12_save_0 : jm_dck prog_14_method_89_code 0 ((jmI_X12_save).getD 0 []) = true := by decide +kernel
theorem dk_X12_save_1 : jm_dck prog_14_method_89_code 32 ((jmI_X12_save).getD 1 []) = true := by decide +kernel
theorem dk_X12_save : jm_dcs (jm_mC jmM_X12_save) 0 (jm_mI jmM_X12_save) := And.intro dk_X12_save_0 (And.intro dk_X12_save_1 (trivial))
theorem dk_X12_restore_0 : jm_dck prog_14_method_90_code 0 ((jmI_X12_restore).getD 0 []) = true := by decide +kernel
theorem dk_X12_restore_1 : jm_dck prog_14_method_90_code 32 ((jmI_X12_restore).getD 1 []) = true := by decide +kernel
theorem dk_X12_restore_2 : jm_dck prog_14_method_90_code 64 ((jmI_X12_restore).getD 2 []) = true := by decide +kernel
theorem dk_X12_restore : jm_dcs (jm_mC jmM_X12_restore) 0 (jm_mI jmM_X12_restore) := And.intro dk_X12_restore_0 (And.intro dk_X12_restore_1 (And.intro dk_X12_restore_2 (trivial)))
theorem dk_X12_sheetsOfAll_0 : jm_dck prog_14_method_91_code 0 ((jmI_X12_sheetsOfAll).getD 0 []) = true := by decide +kernel
theorem dk_X12_sheetsOfAll_1 : jm_dck prog_14_method_91_code 32 ((jmI_X12_sheetsOfAll).getD 1 []) = true := by decide +kernel
theorem dk_X12_sheetsOfAll : jm_dcs (jm_mC jmM_X12_sheetsOfAll) 0 (jm_mI jmM_X12_sheetsOfAll) := And.intro dk_X12_sheetsOfAll_0 (And.intro dk_X12_sheetsOfAll_1 (trivial))
theorem dk_X12_stacks_0 : jm_dck prog_14_method_92_code 0 ((jmI_X12_stacks).getD 0 []) = true := by decide +kernel
theorem dk_X12_stacks_1 : jm_dck prog_14_method_92_code 32 ((jmI_X12_stacks).getD 1 []) = true := by decide +kernel
theorem dk_X12_stacks : jm_dcs (jm_mC jmM_X12_stacks) 0 (jm_mI jmM_X12_stacks) := And.intro dk_X12_stacks_0 (And.intro dk_X12_stacks_1 (trivial))
theorem dk_X12_count_0 : jm_dck prog_14_method_93_code 0 ((jmI_X12_count).getD 0 []) = true := by decide +kernel
theorem dk_X12_count_1 : jm_dck prog_14_method_93_code 32 ((jmI_X12_count).getD 1 []) = true := by decide +kernel
theorem dk_X12_count_2 : jm_dck prog_14_method_93_code 64 ((jmI_X12_count).getD 2 []) = true := by decide +kernel
theorem dk_X12_count_3 : jm_dck prog_14_method_93_code 96 ((jmI_X12_count).getD 3 []) = true := by decide +kernel
theorem dk_X12_count : jm_dcs (jm_mC jmM_X12_count) 0 (jm_mI jmM_X12_count) := And.intro dk_X12_count_0 (And.intro dk_X12_count_1 (And.intro dk_X12_count_2 (And.intro dk_X12_count_3 (trivial))))
theorem dk_X12_lettersOf_0 : jm_dck prog_14_method_94_code 0 ((jmI_X12_lettersOf).getD 0 []) = true := by decide +kernel
theorem dk_X12_lettersOf : jm_dcs (jm_mC jmM_X12_lettersOf) 0 (jm_mI jmM_X12_lettersOf) := And.intro dk_X12_lettersOf_0 (trivial)
theorem dk_X12_letterOf_0 : jm_dck prog_14_method_95_code 0 ((jmI_X12_letterOf).getD 0 []) = true := by decide +kernel
theorem dk_X12_letterOf_1 : jm_dck prog_14_method_95_code 32 ((jmI_X12_letterOf).getD 1 []) = true := by decide +kernel
theorem dk_X12_letterOf : jm_dcs (jm_mC jmM_X12_letterOf) 0 (jm_mI jmM_X12_letterOf) := And.intro dk_X12_letterOf_0 (And.intro dk_X12_letterOf_1 (trivial))
theorem dk_X12_letter_0 : jm_dck prog_14_method_96_code 0 ((jmI_X12_letter).getD 0 []) = true := by decide +kernel
theorem dk_X12_letter_1 : jm_dck prog_14_method_96_code 32 ((jmI_X12_letter).getD 1 []) = true := by decide +kernel
theorem dk_X12_letter : jm_dcs (jm_mC jmM_X12_letter) 0 (jm_mI jmM_X12_letter) := And.intro dk_X12_letter_0 (And.intro dk_X12_letter_1 (trivial))
theorem dk_X12_sizeOf_0 : jm_dck prog_14_method_97_code 0 ((jmI_X12_sizeOf).getD 0 []) = true := by decide +kernel
theorem dk_X12_sizeOf_1 : jm_dck prog_14_method_97_code 32 ((jmI_X12_sizeOf).getD 1 []) = true := by decide +kernel
theorem dk_X12_sizeOf_2 : jm_dck prog_14_method_97_code 64 ((jmI_X12_sizeOf).getD 2 []) = true := by decide +kernel
theorem dk_X12_sizeOf_3 : jm_dck prog_14_method_97_code 96 ((jmI_X12_sizeOf).getD 3 []) = true := by decide +kernel
theorem dk_X12_sizeOf_4 : jm_dck prog_14_method_97_code 128 ((jmI_X12_sizeOf).getD 4 []) = true := by decide +kernel
theorem dk_X12_sizeOf_5 : jm_dck prog_14_method_97_code 160 ((jmI_X12_sizeOf).getD 5 []) = true := by decide +kernel
theorem dk_X12_sizeOf : jm_dcs (jm_mC jmM_X12_sizeOf) 0 (jm_mI jmM_X12_sizeOf) := And.intro dk_X12_sizeOf_0 (And.intro dk_X12_sizeOf_1 (And.intro dk_X12_sizeOf_2 (And.intro dk_X12_sizeOf_3 (And.intro dk_X12_sizeOf_4 (And.intro dk_X12_sizeOf_5 (trivial))))))
theorem dk_X12_size_0 : jm_dck prog_14_method_98_code 0 ((jmI_X12_size).getD 0 []) = true := by decide +kernel
theorem dk_X12_size_1 : jm_dck prog_14_method_98_code 32 ((jmI_X12_size).getD 1 []) = true := by decide +kernel
theorem dk_X12_size : jm_dcs (jm_mC jmM_X12_size) 0 (jm_mI jmM_X12_size) := And.intro dk_X12_size_0 (And.intro dk_X12_size_1 (trivial))
theorem dk_X12_sizes_0 : jm_dck prog_14_method_99_code 0 ((jmI_X12_sizes).getD 0 []) = true := by decide +kernel
theorem dk_X12_sizes_1 : jm_dck prog_14_method_99_code 32 ((jmI_X12_sizes).getD 1 []) = true := by decide +kernel
theorem dk_X12_sizes : jm_dcs (jm_mC jmM_X12_sizes) 0 (jm_mI jmM_X12_sizes) := And.intro dk_X12_sizes_0 (And.intro dk_X12_sizes_1 (trivial))
theorem dk_X12_longer_0 : jm_dck prog_14_method_100_code 0 ((jmI_X12_longer).getD 0 []) = true := by decide +kernel
theorem dk_X12_longer : jm_dcs (jm_mC jmM_X12_longer) 0 (jm_mI jmM_X12_longer) := And.intro dk_X12_longer_0 (trivial)
theorem dk_X12_shorter_0 : jm_dck prog_14_method_101_code 0 ((jmI_X12_shorter).getD 0 []) = true := by decide +kernel
theorem dk_X12_shorter : jm_dcs (jm_mC jmM_X12_shorter) 0 (jm_mI jmM_X12_shorter) := And.intro dk_X12_shorter_0 (trivial)
theorem dk_X12_isAlike_0 : jm_dck prog_14_method_102_code 0 ((jmI_X12_isAlike).getD 0 []) = true := by decide +kernel
theorem dk_X12_isAlike_1 : jm_dck prog_14_method_102_code 32 ((jmI_X12_isAlike).getD 1 []) = true := by decide +kernel
theorem dk_X12_isAlike_2 : jm_dck prog_14_method_102_code 64 ((jmI_X12_isAlike).getD 2 []) = true := by decide +kernel
theorem dk_X12_isAlike : jm_dcs (jm_mC jmM_X12_isAlike) 0 (jm_mI jmM_X12_isAlike) := And.intro dk_X12_isAlike_0 (And.intro dk_X12_isAlike_1 (And.intro dk_X12_isAlike_2 (trivial)))
theorem dk_X12_ratio_0 : jm_dck prog_14_method_103_code 0 ((jmI_X12_ratio).getD 0 []) = true := by decide +kernel
theorem dk_X12_ratio_1 : jm_dck prog_14_method_103_code 32 ((jmI_X12_ratio).getD 1 []) = true := by decide +kernel
theorem dk_X12_ratio : jm_dcs (jm_mC jmM_X12_ratio) 0 (jm_mI jmM_X12_ratio) := And.intro dk_X12_ratio_0 (And.intro dk_X12_ratio_1 (trivial))
theorem dk_X12_ordered_0 : jm_dck prog_14_method_104_code 0 ((jmI_X12_ordered).getD 0 []) = true := by decide +kernel
theorem dk_X12_ordered_1 : jm_dck prog_14_method_104_code 32 ((jmI_X12_ordered).getD 1 []) = true := by decide +kernel
theorem dk_X12_ordered : jm_dcs (jm_mC jmM_X12_ordered) 0 (jm_mI jmM_X12_ordered) := And.intro dk_X12_ordered_0 (And.intro dk_X12_ordered_1 (trivial))
theorem dk_X12_print_0 : jm_dck prog_14_method_105_code 0 ((jmI_X12_print).getD 0 []) = true := by decide +kernel
theorem dk_X12_print_1 : jm_dck prog_14_method_105_code 32 ((jmI_X12_print).getD 1 []) = true := by decide +kernel
theorem dk_X12_print_2 : jm_dck prog_14_method_105_code 64 ((jmI_X12_print).getD 2 []) = true := by decide +kernel
theorem dk_X12_print : jm_dcs (jm_mC jmM_X12_print) 0 (jm_mI jmM_X12_print) := And.intro dk_X12_print_0 (And.intro dk_X12_print_1 (And.intro dk_X12_print_2 (trivial)))
theorem dk_X12_account_0 : jm_dck prog_14_method_106_code 0 ((jmI_X12_account).getD 0 []) = true := by decide +kernel
theorem dk_X12_account_1 : jm_dck prog_14_method_106_code 32 ((jmI_X12_account).getD 1 []) = true := by decide +kernel
theorem dk_X12_account : jm_dcs (jm_mC jmM_X12_account) 0 (jm_mI jmM_X12_account) := And.intro dk_X12_account_0 (And.intro dk_X12_account_1 (trivial))
theorem dk_X12_refused_0 : jm_dck prog_14_method_107_code 0 ((jmI_X12_refused).getD 0 []) = true := by decide +kernel
theorem dk_X12_refused_1 : jm_dck prog_14_method_107_code 32 ((jmI_X12_refused).getD 1 []) = true := by decide +kernel
theorem dk_X12_refused : jm_dcs (jm_mC jmM_X12_refused) 0 (jm_mI jmM_X12_refused) := And.intro dk_X12_refused_0 (And.intro dk_X12_refused_1 (trivial))
theorem dk_X12_gap_0 : jm_dck prog_14_method_108_code 0 ((jmI_X12_gap).getD 0 []) = true := by decide +kernel
theorem dk_X12_gap_1 : jm_dck prog_14_method_108_code 32 ((jmI_X12_gap).getD 1 []) = true := by decide +kernel
theorem dk_X12_gap : jm_dcs (jm_mC jmM_X12_gap) 0 (jm_mI jmM_X12_gap) := And.intro dk_X12_gap_0 (And.intro dk_X12_gap_1 (trivial))
theorem dk_X12_lostBits_0 : jm_dck prog_14_method_109_code 0 ((jmI_X12_lostBits).getD 0 []) = true := by decide +kernel
theorem dk_X12_lostBits_1 : jm_dck prog_14_method_109_code 32 ((jmI_X12_lostBits).getD 1 []) = true := by decide +kernel
theorem dk_X12_lostBits : jm_dcs (jm_mC jmM_X12_lostBits) 0 (jm_mI jmM_X12_lostBits) := And.intro dk_X12_lostBits_0 (And.intro dk_X12_lostBits_1 (trivial))
theorem dk_X12_foldsOf_0 : jm_dck prog_14_method_110_code 0 ((jmI_X12_foldsOf).getD 0 []) = true := by decide +kernel
theorem dk_X12_foldsOf_1 : jm_dck prog_14_method_110_code 32 ((jmI_X12_foldsOf).getD 1 []) = true := by decide +kernel
theorem dk_X12_foldsOf : jm_dcs (jm_mC jmM_X12_foldsOf) 0 (jm_mI jmM_X12_foldsOf) := And.intro dk_X12_foldsOf_0 (And.intro dk_X12_foldsOf_1 (trivial))
theorem dk_X12_mostFolds_0 : jm_dck prog_14_method_111_code 0 ((jmI_X12_mostFolds).getD 0 []) = true := by decide +kernel
theorem dk_X12_mostFolds : jm_dcs (jm_mC jmM_X12_mostFolds) 0 (jm_mI jmM_X12_mostFolds) := And.intro dk_X12_mostFolds_0 (trivial)
theorem dk_X12_noFolds_0 : jm_dck prog_14_method_112_code 0 ((jmI_X12_noFolds).getD 0 []) = true := by decide +kernel
theorem dk_X12_noFolds_1 : jm_dck prog_14_method_112_code 32 ((jmI_X12_noFolds).getD 1 []) = true := by decide +kernel
theorem dk_X12_noFolds : jm_dcs (jm_mC jmM_X12_noFolds) 0 (jm_mI jmM_X12_noFolds) := And.intro dk_X12_noFolds_0 (And.intro dk_X12_noFolds_1 (trivial))
theorem dk_X12_lays_0 : jm_dck prog_14_method_113_code 0 ((jmI_X12_lays).getD 0 []) = true := by decide +kernel
theorem dk_X12_lays_1 : jm_dck prog_14_method_113_code 32 ((jmI_X12_lays).getD 1 []) = true := by decide +kernel
theorem dk_X12_lays_2 : jm_dck prog_14_method_113_code 64 ((jmI_X12_lays).getD 2 []) = true := by decide +kernel
theorem dk_X12_lays : jm_dcs (jm_mC jmM_X12_lays) 0 (jm_mI jmM_X12_lays) := And.intro dk_X12_lays_0 (And.intro dk_X12_lays_1 (And.intro dk_X12_lays_2 (trivial)))
theorem dk_X12_grid_0 : jm_dck prog_14_method_114_code 0 ((jmI_X12_grid).getD 0 []) = true := by decide +kernel
theorem dk_X12_grid_1 : jm_dck prog_14_method_114_code 32 ((jmI_X12_grid).getD 1 []) = true := by decide +kernel
theorem dk_X12_grid : jm_dcs (jm_mC jmM_X12_grid) 0 (jm_mI jmM_X12_grid) := And.intro dk_X12_grid_0 (And.intro dk_X12_grid_1 (trivial))
theorem dk_X12_follows_0 : jm_dck prog_14_method_115_code 0 ((jmI_X12_follows).getD 0 []) = true := by decide +kernel
theorem dk_X12_follows_1 : jm_dck prog_14_method_115_code 32 ((jmI_X12_follows).getD 1 []) = true := by decide +kernel
theorem dk_X12_follows_2 : jm_dck prog_14_method_115_code 64 ((jmI_X12_follows).getD 2 []) = true := by decide +kernel
theorem dk_X12_follows_3 : jm_dck prog_14_method_115_code 96 ((jmI_X12_follows).getD 3 []) = true := by decide +kernel
theorem dk_X12_follows_4 : jm_dck prog_14_method_115_code 128 ((jmI_X12_follows).getD 4 []) = true := by decide +kernel
theorem dk_X12_follows_5 : jm_dck prog_14_method_115_code 160 ((jmI_X12_follows).getD 5 []) = true := by decide +kernel
theorem dk_X12_follows_6 : jm_dck prog_14_method_115_code 192 ((jmI_X12_follows).getD 6 []) = true := by decide +kernel
theorem dk_X12_follows_7 : jm_dck prog_14_method_115_code 224 ((jmI_X12_follows).getD 7 []) = true := by decide +kernel
theorem dk_X12_follows : jm_dcs (jm_mC jmM_X12_follows) 0 (jm_mI jmM_X12_follows) := And.intro dk_X12_follows_0 (And.intro dk_X12_follows_1 (And.intro dk_X12_follows_2 (And.intro dk_X12_follows_3 (And.intro dk_X12_follows_4 (And.intro dk_X12_follows_5 (And.intro dk_X12_follows_6 (And.intro dk_X12_follows_7 (trivial))))))))
theorem dk_X12_pageOf_0 : jm_dck prog_14_method_116_code 0 ((jmI_X12_pageOf).getD 0 []) = true := by decide +kernel
theorem dk_X12_pageOf : jm_dcs (jm_mC jmM_X12_pageOf) 0 (jm_mI jmM_X12_pageOf) := And.intro dk_X12_pageOf_0 (trivial)
theorem dk_X12_page_0 : jm_dck prog_14_method_117_code 0 ((jmI_X12_page).getD 0 []) = true := by decide +kernel
theorem dk_X12_page_1 : jm_dck prog_14_method_117_code 32 ((jmI_X12_page).getD 1 []) = true := by decide +kernel
theorem dk_X12_page_2 : jm_dck prog_14_method_117_code 64 ((jmI_X12_page).getD 2 []) = true := by decide +kernel
theorem dk_X12_page : jm_dcs (jm_mC jmM_X12_page) 0 (jm_mI jmM_X12_page) := And.intro dk_X12_page_0 (And.intro dk_X12_page_1 (And.intro dk_X12_page_2 (trivial)))
theorem dk_X12_cellWith_0 : jm_dck prog_14_method_118_code 0 ((jmI_X12_cellWith).getD 0 []) = true := by decide +kernel
theorem dk_X12_cellWith_1 : jm_dck prog_14_method_118_code 32 ((jmI_X12_cellWith).getD 1 []) = true := by decide +kernel
theorem dk_X12_cellWith_2 : jm_dck prog_14_method_118_code 64 ((jmI_X12_cellWith).getD 2 []) = true := by decide +kernel
theorem dk_X12_cellWith : jm_dcs (jm_mC jmM_X12_cellWith) 0 (jm_mI jmM_X12_cellWith) := And.intro dk_X12_cellWith_0 (And.intro dk_X12_cellWith_1 (And.intro dk_X12_cellWith_2 (trivial)))
theorem dk_X12_cellOf_0 : jm_dck prog_14_method_119_code 0 ((jmI_X12_cellOf).getD 0 []) = true := by decide +kernel
theorem dk_X12_cellOf_1 : jm_dck prog_14_method_119_code 32 ((jmI_X12_cellOf).getD 1 []) = true := by decide +kernel
theorem dk_X12_cellOf_2 : jm_dck prog_14_method_119_code 64 ((jmI_X12_cellOf).getD 2 []) = true := by decide +kernel
theorem dk_X12_cellOf : jm_dcs (jm_mC jmM_X12_cellOf) 0 (jm_mI jmM_X12_cellOf) := And.intro dk_X12_cellOf_0 (And.intro dk_X12_cellOf_1 (And.intro dk_X12_cellOf_2 (trivial)))
theorem dk_X12_foldsOver_0 : jm_dck prog_14_method_120_code 0 ((jmI_X12_foldsOver).getD 0 []) = true := by decide +kernel
theorem dk_X12_foldsOver_1 : jm_dck prog_14_method_120_code 32 ((jmI_X12_foldsOver).getD 1 []) = true := by decide +kernel
theorem dk_X12_foldsOver_2 : jm_dck prog_14_method_120_code 64 ((jmI_X12_foldsOver).getD 2 []) = true := by decide +kernel
theorem dk_X12_foldsOver_3 : jm_dck prog_14_method_120_code 96 ((jmI_X12_foldsOver).getD 3 []) = true := by decide +kernel
theorem dk_X12_foldsOver_4 : jm_dck prog_14_method_120_code 128 ((jmI_X12_foldsOver).getD 4 []) = true := by decide +kernel
theorem dk_X12_foldsOver : jm_dcs (jm_mC jmM_X12_foldsOver) 0 (jm_mI jmM_X12_foldsOver) := And.intro dk_X12_foldsOver_0 (And.intro dk_X12_foldsOver_1 (And.intro dk_X12_foldsOver_2 (And.intro dk_X12_foldsOver_3 (And.intro dk_X12_foldsOver_4 (trivial)))))
theorem dk_X12_foldsAll_0 : jm_dck prog_14_method_121_code 0 ((jmI_X12_foldsAll).getD 0 []) = true := by decide +kernel
theorem dk_X12_foldsAll_1 : jm_dck prog_14_method_121_code 32 ((jmI_X12_foldsAll).getD 1 []) = true := by decide +kernel
theorem dk_X12_foldsAll_2 : jm_dck prog_14_method_121_code 64 ((jmI_X12_foldsAll).getD 2 []) = true := by decide +kernel
theorem dk_X12_foldsAll_3 : jm_dck prog_14_method_121_code 96 ((jmI_X12_foldsAll).getD 3 []) = true := by decide +kernel
theorem dk_X12_foldsAll_4 : jm_dck prog_14_method_121_code 128 ((jmI_X12_foldsAll).getD 4 []) = true := by decide +kernel
theorem dk_X12_foldsAll_5 : jm_dck prog_14_method_121_code 160 ((jmI_X12_foldsAll).getD 5 []) = true := by decide +kernel
theorem dk_X12_foldsAll_6 : jm_dck prog_14_method_121_code 192 ((jmI_X12_foldsAll).getD 6 []) = true := by decide +kernel
theorem dk_X12_foldsAll_7 : jm_dck prog_14_method_121_code 224 ((jmI_X12_foldsAll).getD 7 []) = true := by decide +kernel
theorem dk_X12_foldsAll : jm_dcs (jm_mC jmM_X12_foldsAll) 0 (jm_mI jmM_X12_foldsAll) := And.intro dk_X12_foldsAll_0 (And.intro dk_X12_foldsAll_1 (And.intro dk_X12_foldsAll_2 (And.intro dk_X12_foldsAll_3 (And.intro dk_X12_foldsAll_4 (And.intro dk_X12_foldsAll_5 (And.intro dk_X12_foldsAll_6 (And.intro dk_X12_foldsAll_7 (trivial))))))))
theorem dk_X12_pageGap_0 : jm_dck prog_14_method_122_code 0 ((jmI_X12_pageGap).getD 0 []) = true := by decide +kernel
theorem dk_X12_pageGap_1 : jm_dck prog_14_method_122_code 32 ((jmI_X12_pageGap).getD 1 []) = true := by decide +kernel
theorem dk_X12_pageGap_2 : jm_dck prog_14_method_122_code 64 ((jmI_X12_pageGap).getD 2 []) = true := by decide +kernel
theorem dk_X12_pageGap_3 : jm_dck prog_14_method_122_code 96 ((jmI_X12_pageGap).getD 3 []) = true := by decide +kernel
theorem dk_X12_pageGap : jm_dcs (jm_mC jmM_X12_pageGap) 0 (jm_mI jmM_X12_pageGap) := And.intro dk_X12_pageGap_0 (And.intro dk_X12_pageGap_1 (And.intro dk_X12_pageGap_2 (And.intro dk_X12_pageGap_3 (trivial))))
theorem dk_X12_fitting_0 : jm_dck prog_14_method_123_code 0 ((jmI_X12_fitting).getD 0 []) = true := by decide +kernel
theorem dk_X12_fitting : jm_dcs (jm_mC jmM_X12_fitting) 0 (jm_mI jmM_X12_fitting) := And.intro dk_X12_fitting_0 (trivial)
theorem dk_X12_nearest_0 : jm_dck prog_14_method_124_code 0 ((jmI_X12_nearest).getD 0 []) = true := by decide +kernel
theorem dk_X12_nearest_1 : jm_dck prog_14_method_124_code 32 ((jmI_X12_nearest).getD 1 []) = true := by decide +kernel
theorem dk_X12_nearest : jm_dcs (jm_mC jmM_X12_nearest) 0 (jm_mI jmM_X12_nearest) := And.intro dk_X12_nearest_0 (And.intro dk_X12_nearest_1 (trivial))
theorem dk_X12_bestEdge_0 : jm_dck prog_14_method_125_code 0 ((jmI_X12_bestEdge).getD 0 []) = true := by decide +kernel
theorem dk_X12_bestEdge_1 : jm_dck prog_14_method_125_code 32 ((jmI_X12_bestEdge).getD 1 []) = true := by decide +kernel
theorem dk_X12_bestEdge_2 : jm_dck prog_14_method_125_code 64 ((jmI_X12_bestEdge).getD 2 []) = true := by decide +kernel
theorem dk_X12_bestEdge : jm_dcs (jm_mC jmM_X12_bestEdge) 0 (jm_mI jmM_X12_bestEdge) := And.intro dk_X12_bestEdge_0 (And.intro dk_X12_bestEdge_1 (And.intro dk_X12_bestEdge_2 (trivial)))
theorem dk_X12_whyNot_0 : jm_dck prog_14_method_126_code 0 ((jmI_X12_whyNot).getD 0 []) = true := by decide +kernel
theorem dk_X12_whyNot_1 : jm_dck prog_14_method_126_code 32 ((jmI_X12_whyNot).getD 1 []) = true := by decide +kernel
theorem dk_X12_whyNot_2 : jm_dck prog_14_method_126_code 64 ((jmI_X12_whyNot).getD 2 []) = true := by decide +kernel
theorem dk_X12_whyNot_3 : jm_dck prog_14_method_126_code 96 ((jmI_X12_whyNot).getD 3 []) = true := by decide +kernel
theorem dk_X12_whyNot : jm_dcs (jm_mC jmM_X12_whyNot) 0 (jm_mI jmM_X12_whyNot) := And.intro dk_X12_whyNot_0 (And.intro dk_X12_whyNot_1 (And.intro dk_X12_whyNot_2 (And.intro dk_X12_whyNot_3 (trivial))))
theorem dk_X12_ifFilled_0 : jm_dck prog_14_method_127_code 0 ((jmI_X12_ifFilled).getD 0 []) = true := by decide +kernel
theorem dk_X12_ifFilled_1 : jm_dck prog_14_method_127_code 32 ((jmI_X12_ifFilled).getD 1 []) = true := by decide +kernel
theorem dk_X12_ifFilled_2 : jm_dck prog_14_method_127_code 64 ((jmI_X12_ifFilled).getD 2 []) = true := by decide +kernel
theorem dk_X12_ifFilled_3 : jm_dck prog_14_method_127_code 96 ((jmI_X12_ifFilled).getD 3 []) = true := by decide +kernel
theorem dk_X12_ifFilled : jm_dcs (jm_mC jmM_X12_ifFilled) 0 (jm_mI jmM_X12_ifFilled) := And.intro dk_X12_ifFilled_0 (And.intro dk_X12_ifFilled_1 (And.intro dk_X12_ifFilled_2 (And.intro dk_X12_ifFilled_3 (trivial))))
theorem dk_X12_ifOrder_0 : jm_dck prog_14_method_128_code 0 ((jmI_X12_ifOrder).getD 0 []) = true := by decide +kernel
theorem dk_X12_ifOrder_1 : jm_dck prog_14_method_128_code 32 ((jmI_X12_ifOrder).getD 1 []) = true := by decide +kernel
theorem dk_X12_ifOrder_2 : jm_dck prog_14_method_128_code 64 ((jmI_X12_ifOrder).getD 2 []) = true := by decide +kernel
theorem dk_X12_ifOrder : jm_dcs (jm_mC jmM_X12_ifOrder) 0 (jm_mI jmM_X12_ifOrder) := And.intro dk_X12_ifOrder_0 (And.intro dk_X12_ifOrder_1 (And.intro dk_X12_ifOrder_2 (trivial)))
theorem dk_X12_mostOf_0 : jm_dck prog_14_method_129_code 0 ((jmI_X12_mostOf).getD 0 []) = true := by decide +kernel
theorem dk_X12_mostOf_1 : jm_dck prog_14_method_129_code 32 ((jmI_X12_mostOf).getD 1 []) = true := by decide +kernel
theorem dk_X12_mostOf : jm_dcs (jm_mC jmM_X12_mostOf) 0 (jm_mI jmM_X12_mostOf) := And.intro dk_X12_mostOf_0 (And.intro dk_X12_mostOf_1 (trivial))
theorem dk_X12_cutsFor_0 : jm_dck prog_14_method_130_code 0 ((jmI_X12_cutsFor).getD 0 []) = true := by decide +kernel
theorem dk_X12_cutsFor_1 : jm_dck prog_14_method_130_code 32 ((jmI_X12_cutsFor).getD 1 []) = true := by decide +kernel
theorem dk_X12_cutsFor_2 : jm_dck prog_14_method_130_code 64 ((jmI_X12_cutsFor).getD 2 []) = true := by decide +kernel
theorem dk_X12_cutsFor : jm_dcs (jm_mC jmM_X12_cutsFor) 0 (jm_mI jmM_X12_cutsFor) := And.intro dk_X12_cutsFor_0 (And.intro dk_X12_cutsFor_1 (And.intro dk_X12_cutsFor_2 (trivial)))
theorem dk_X12_writes_0 : jm_dck prog_14_method_131_code 0 ((jmI_X12_writes).getD 0 []) = true := by decide +kernel
theorem dk_X12_writes : jm_dcs (jm_mC jmM_X12_writes) 0 (jm_mI jmM_X12_writes) := And.intro dk_X12_writes_0 (trivial)
theorem dk_X12_writesNumber_0 : jm_dck prog_14_method_132_code 0 ((jmI_X12_writesNumber).getD 0 []) = true := by decide +kernel
theorem dk_X12_writesNumber_1 : jm_dck prog_14_method_132_code 32 ((jmI_X12_writesNumber).getD 1 []) = true := by decide +kernel
theorem dk_X12_writesNumber : jm_dcs (jm_mC jmM_X12_writesNumber) 0 (jm_mI jmM_X12_writesNumber) := And.intro dk_X12_writesNumber_0 (And.intro dk_X12_writesNumber_1 (trivial))
theorem dk_X12_writesStack_0 : jm_dck prog_14_method_133_code 0 ((jmI_X12_writesStack).getD 0 []) = true := by decide +kernel
theorem dk_X12_writesStack_1 : jm_dck prog_14_method_133_code 32 ((jmI_X12_writesStack).getD 1 []) = true := by decide +kernel
theorem dk_X12_writesStack_2 : jm_dck prog_14_method_133_code 64 ((jmI_X12_writesStack).getD 2 []) = true := by decide +kernel
theorem dk_X12_writesStack : jm_dcs (jm_mC jmM_X12_writesStack) 0 (jm_mI jmM_X12_writesStack) := And.intro dk_X12_writesStack_0 (And.intro dk_X12_writesStack_1 (And.intro dk_X12_writesStack_2 (trivial)))
theorem dk_X12_writeStacks_0 : jm_dck prog_14_method_134_code 0 ((jmI_X12_writeStacks).getD 0 []) = true := by decide +kernel
theorem dk_X12_writeStacks_1 : jm_dck prog_14_method_134_code 32 ((jmI_X12_writeStacks).getD 1 []) = true := by decide +kernel
theorem dk_X12_writeStacks : jm_dcs (jm_mC jmM_X12_writeStacks) 0 (jm_mI jmM_X12_writeStacks) := And.intro dk_X12_writeStacks_0 (And.intro dk_X12_writeStacks_1 (trivial))
theorem dk_X12_writeSheet_0 : jm_dck prog_14_method_135_code 0 ((jmI_X12_writeSheet).getD 0 []) = true := by decide +kernel
theorem dk_X12_writeSheet_1 : jm_dck prog_14_method_135_code 32 ((jmI_X12_writeSheet).getD 1 []) = true := by decide +kernel
theorem dk_X12_writeSheet_2 : jm_dck prog_14_method_135_code 64 ((jmI_X12_writeSheet).getD 2 []) = true := by decide +kernel
theorem dk_X12_writeSheet_3 : jm_dck prog_14_method_135_code 96 ((jmI_X12_writeSheet).getD 3 []) = true := by decide +kernel
theorem dk_X12_writeSheet : jm_dcs (jm_mC jmM_X12_writeSheet) 0 (jm_mI jmM_X12_writeSheet) := And.intro dk_X12_writeSheet_0 (And.intro dk_X12_writeSheet_1 (And.intro dk_X12_writeSheet_2 (And.intro dk_X12_writeSheet_3 (trivial))))
theorem dk_X12_outputByte_0 : jm_dck prog_14_method_136_code 0 ((jmI_X12_outputByte).getD 0 []) = true := by decide +kernel
theorem dk_X12_outputByte : jm_dcs (jm_mC jmM_X12_outputByte) 0 (jm_mI jmM_X12_outputByte) := And.intro dk_X12_outputByte_0 (trivial)
/-! Every method is decoded. -/
theorem dq_0 : jm_al (fun M => jm_dcs (jm_mC M) 0 (jm_mI M)) jm_Ms0 := And.intro dk_L_law (And.intro dk_L_append (And.intro dk_L_truncate (And.intro dk_L_count (And.intro dk_L_letter (And.intro dk_L_size (And.intro dk_L_sizes (And.intro dk_L_isAlike (And.intro dk_L_ratio (And.intro dk_L_ordered (And.intro dk_L_print (And.intro dk_L_account (And.intro dk_L_refused (And.intro dk_L_mostFolds (And.intro dk_L_grid (And.intro dk_L_page (And.intro dk_L_cellOf (And.intro dk_L_pageGap (And.intro dk_L_fitting (And.intro dk_L_nearest (trivial))))))))))))))))))))
theorem dq_1 : jm_al (fun M => jm_dcs (jm_mC M) 0 (jm_mI M)) jm_Ms1 := And.intro dk_L_whyNot (And.intro dk_L_ifOrder (And.intro dk_L_mostOf (And.intro dk_L_cutsFor (And.intro dk_L_found (And.intro dk_L_buy (And.intro dk_L_cut (And.intro dk_L_order (And.intro dk_L_setEdge (And.intro dk_L_setReam (And.intro dk_L_writeSheet (And.intro dk_L_save (And.intro dk_L_restore (And.intro dk_X0_init (And.intro dk_X0_hasRoom (And.intro dk_X0_put (And.intro dk_X0_putFour (And.intro dk_X0_putNumber (And.intro dk_X0_shorten (And.intro dk_X0_byteAt (trivial))))))))))))))))))))
theorem dq_2 : jm_al (fun M => jm_dcs (jm_mC M) 0 (jm_mI M)) jm_Ms2 := And.intro dk_X0_isName (And.intro dk_X1_init (And.intro dk_X1_make (And.intro dk_X1_halvesOf (And.intro dk_X1_doWith (And.intro dk_X2_init (And.intro dk_X2_foldUp (And.intro dk_X2_pileUp (And.intro dk_X2_layPlace (And.intro dk_X2_numberPages (And.intro dk_X2_hasCell (And.intro dk_X2_pageAt (And.intro dk_X2_cellWith (And.intro dk_X2_cellsWithOtherPages (And.intro dk_X2_frontPageByItself (And.intro dk_X3_init (And.intro dk_X3_keep (And.intro dk_X3_giveBack (And.intro dk_X3_forget (And.intro dk_X4_init (trivial))))))))))))))))))))
theorem dq_3 : jm_al (fun M => jm_dcs (jm_mC M) 0 (jm_mI M)) jm_Ms3 := And.intro dk_X4_copyFrom (And.intro dk_X4_begin (And.intro dk_X4_hasSeries (And.intro dk_X4_seriesNamed (And.intro dk_X4_addSeries (And.intro dk_X4_sheetsInAll (And.intro dk_X4_stacksInAll (And.intro dk_X4_areaInAll (And.intro dk_X4_greatestEdge (And.intro dk_X4_refusalToBuy (And.intro dk_X4_takeIn (And.intro dk_X4_refusalToCut (And.intro dk_X4_cutUp (And.intro dk_X4_fill (And.intro dk_X5_init (And.intro dk_X5_make (And.intro dk_X5_weighSeries (And.intro dk_X5_isNearer (And.intro dk_X5_told (And.intro dk_X6_init (trivial))))))))))))))))))))
theorem dq_4 : jm_al (fun M => jm_dcs (jm_mC M) 0 (jm_mI M)) jm_Ms4 := And.intro dk_X6_copyFrom (And.intro dk_X6_forget (And.intro dk_X6_placeOf (And.intro dk_X6_numberOf (And.intro dk_X6_tell (And.intro dk_X6_note (And.intro dk_X7_init (And.intro dk_X7_begin (And.intro dk_X7_advance (And.intro dk_X7_fail (And.intro dk_X7_isWord (And.intro dk_X7_isSign (And.intro dk_X7_takeSign (And.intro dk_X7_seesName (And.intro dk_X7_seesNumber (And.intro dk_X8_init (And.intro dk_X8_isPlace (And.intro dk_X8_kindAt (And.intro dk_X8_firstAt (And.intro dk_X8_secondAt (trivial))))))))))))))))))))
theorem dq_5 : jm_al (fun M => jm_dcs (jm_mC M) 0 (jm_mI M)) jm_Ms5 := And.intro dk_X8_thirdAt (And.intro dk_X8_endAt (And.intro dk_X8_isIdleAt (And.intro dk_X8_readFrom (And.intro dk_X8_readOrders (And.intro dk_X8_readOrder (And.intro dk_X8_kindOfWord (And.intro dk_X8_readStackOrder (And.intro dk_X8_readAgain (And.intro dk_X8_readNumber (And.intro dk_X9_init (And.intro dk_X9_copyFrom (And.intro dk_X9_setName (And.intro dk_X9_hasName (And.intro dk_X9_letterAt (And.intro dk_X9_setSides (And.intro dk_X9_isVoid (And.intro dk_X9_wideAt (And.intro dk_X9_highAt (And.intro dk_X9_longerAt (trivial))))))))))))))))))))
theorem dq_6 : jm_al (fun M => jm_dcs (jm_mC M) 0 (jm_mI M)) jm_Ms6 := And.intro dk_X9_shorterAt (And.intro dk_X9_areaAt (And.intro dk_X9_sheetsAt (And.intro dk_X9_addSheets (And.intro dk_X9_stripAt (And.intro dk_X9_supplyAt (And.intro dk_X9_foldsAt (And.intro dk_X9_fits (And.intro dk_X9_greatestEdgeAt (And.intro dk_X9_writeTo (And.intro dk_X10_init (And.intro dk_X10_readInto (And.intro dk_X10_readHead (And.intro dk_X10_readSeries (And.intro dk_X10_readSizes (And.intro dk_X10_readStack (And.intro dk_X11_init (And.intro dk_X11_append (And.intro dk_X11_truncate (And.intro dk_X11_load (trivial))))))))))))))))))))
theorem dq_7 : jm_al (fun M => jm_dcs (jm_mC M) 0 (jm_mI M)) jm_Ms7 := And.intro dk_X11_play (And.intro dk_X11_errorCode (And.intro dk_X11_errorPosition (And.intro dk_X11_readSetup (And.intro dk_X11_forgetSlotsAndRefusals (And.intro dk_X11_runOrders (And.intro dk_X11_runAgain (And.intro dk_X11_doOrder (And.intro dk_X11_count (And.intro dk_X11_letter (And.intro dk_X11_size (And.intro dk_X11_sizes (And.intro dk_X11_isAlike (And.intro dk_X11_ratio (And.intro dk_X11_ordered (And.intro dk_X11_print (And.intro dk_X11_account (And.intro dk_X11_refused (And.intro dk_X11_gap (And.intro dk_X11_lostBits (trivial))))))))))))))))))))
theorem dq_8 : jm_al (fun M => jm_dcs (jm_mC M) 0 (jm_mI M)) jm_Ms8 := And.intro dk_X11_bitsOfShare (And.intro dk_X11_mostFolds (And.intro dk_X11_grid (And.intro dk_X11_page (And.intro dk_X11_cellOf (And.intro dk_X11_pageGap (And.intro dk_X11_foldSheet (And.intro dk_X11_fitting (And.intro dk_X11_nearest (And.intro dk_X11_whyNot (And.intro dk_X11_ifOrder (And.intro dk_X11_mostOf (And.intro dk_X11_cutsFor (And.intro dk_X11_found (And.intro dk_X11_buy (And.intro dk_X11_cut (And.intro dk_X11_order (And.intro dk_X11_setEdge (And.intro dk_X11_setReam (And.intro dk_X11_doBuy (trivial))))))))))))))))))))
theorem dq_9 : jm_al (fun M => jm_dcs (jm_mC M) 0 (jm_mI M)) jm_Ms9 := And.intro dk_X11_doCut (And.intro dk_X11_doPrintOrder (And.intro dk_X11_doSetEdge (And.intro dk_X11_doSetReam (And.intro dk_X11_refuse (And.intro dk_X11_writeStacks (And.intro dk_X11_writeSheet (And.intro dk_X11_outputByte (And.intro dk_X11_undo (And.intro dk_X11_save (And.intro dk_X11_restore (And.intro dk_X11_require (And.intro dk_X11_requireOrder (And.intro dk_X11_requireSeries (And.intro dk_X11_requireSize (And.intro dk_X11_requireSlot (And.intro dk_X11_isSide (And.intro dk_X11_usable (And.intro dk_X11_capped (And.intro dk_X11_isLetter (trivial))))))))))))))))))))
theorem dq_10 : jm_al (fun M => jm_dcs (jm_mC M) 0 (jm_mI M)) jm_Ms10 := And.intro dk_X11_isDigit (And.intro dk_X11_isBlank (And.intro dk_X11_valueAt (And.intro dk_X11_setAt (And.intro dk_X12_init (And.intro dk_X12_thrown (And.intro dk_X12_in (And.intro dk_X12_flag (And.intro dk_X12_bare (And.intro dk_X12_lesser (And.intro dk_X12_greater (And.intro dk_X12_stops (And.intro dk_X12_copies (And.intro dk_X12_seriesAt (And.intro dk_X12_stackAt (And.intro dk_X12_comes (And.intro dk_X12_seriesNamed (And.intro dk_X12_halves (And.intro dk_X12_finds (And.intro dk_X12_areaOf (trivial))))))))))))))))))))
theorem dq_11 : jm_al (fun M => jm_dcs (jm_mC M) 0 (jm_mI M)) jm_Ms11 := And.intro dk_X12_isVoid (And.intro dk_X12_isVoidToCut (And.intro dk_X12_stripOf (And.intro dk_X12_areaOfAll (And.intro dk_X12_usable (And.intro dk_X12_supplyOf (And.intro dk_X12_fits (And.intro dk_X12_isNearer (And.intro dk_X12_seeks (And.intro dk_X12_cutsOf (And.intro dk_X12_stripsOf (And.intro dk_X12_fittingOf (And.intro dk_X12_mostSupply (And.intro dk_X12_printOf (And.intro dk_X12_keeps (And.intro dk_X12_fills (And.intro dk_X12_buys (And.intro dk_X12_cuts (And.intro dk_X12_sets (And.intro dk_X12_four (trivial))))))))))))))))))))
theorem dq_12 : jm_al (fun M => jm_dcs (jm_mC M) 0 (jm_mI M)) jm_Ms12 := And.intro dk_X12_append (And.intro dk_X12_truncate (And.intro dk_X12_see (And.intro dk_X12_isSmall (And.intro dk_X12_isDigit (And.intro dk_X12_scan (And.intro dk_X12_isGood (And.intro dk_X12_must (And.intro dk_X12_goesOn (And.intro dk_X12_starts (And.intro dk_X12_isWord (And.intro dk_X12_isSign (And.intro dk_X12_sign (And.intro dk_X12_reads (And.intro dk_X12_nameHere (And.intro dk_X12_name (And.intro dk_X12_stackText (And.intro dk_X12_seriesText (And.intro dk_X12_setup (And.intro dk_X12_takesText (trivial))))))))))))))))))))
theorem dq_13 : jm_al (fun M => jm_dcs (jm_mC M) 0 (jm_mI M)) jm_Ms13 := And.intro dk_X12_tellsError (And.intro dk_X12_load (And.intro dk_X12_isOrder (And.intro dk_X12_isActive (And.intro dk_X12_came (And.intro dk_X12_stackOrder (And.intro dk_X12_printOrder (And.intro dk_X12_setOrder (And.intro dk_X12_againOrder (And.intro dk_X12_closes (And.intro dk_X12_does (And.intro dk_X12_orderText (And.intro dk_X12_goesThrough (And.intro dk_X12_play (And.intro dk_X12_errorCode (And.intro dk_X12_errorPosition (And.intro dk_X12_keepsPast (And.intro dk_X12_tries (And.intro dk_X12_tried (And.intro dk_X12_noSeries (trivial))))))))))))))))))))
theorem dq_14 : jm_al (fun M => jm_dcs (jm_mC M) 0 (jm_mI M)) jm_Ms14 := And.intro dk_X12_noSize (And.intro dk_X12_noSides (And.intro dk_X12_wholeName (And.intro dk_X12_found (And.intro dk_X12_buy (And.intro dk_X12_cut (And.intro dk_X12_noOrder (And.intro dk_X12_order (And.intro dk_X12_setEdge (And.intro dk_X12_setReam (And.intro dk_X12_undo (And.intro dk_X12_noSlot (And.intro dk_X12_save (And.intro dk_X12_restore (And.intro dk_X12_sheetsOfAll (And.intro dk_X12_stacks (And.intro dk_X12_count (And.intro dk_X12_lettersOf (And.intro dk_X12_letterOf (And.intro dk_X12_letter (trivial))))))))))))))))))))
theorem dq_15 : jm_al (fun M => jm_dcs (jm_mC M) 0 (jm_mI M)) jm_Ms15 := And.intro dk_X12_sizeOf (And.intro dk_X12_size (And.intro dk_X12_sizes (And.intro dk_X12_longer (And.intro dk_X12_shorter (And.intro dk_X12_isAlike (And.intro dk_X12_ratio (And.intro dk_X12_ordered (And.intro dk_X12_print (And.intro dk_X12_account (And.intro dk_X12_refused (And.intro dk_X12_gap (And.intro dk_X12_lostBits (And.intro dk_X12_foldsOf (And.intro dk_X12_mostFolds (And.intro dk_X12_noFolds (And.intro dk_X12_lays (And.intro dk_X12_grid (And.intro dk_X12_follows (And.intro dk_X12_pageOf (trivial))))))))))))))))))))
theorem dq_16 : jm_al (fun M => jm_dcs (jm_mC M) 0 (jm_mI M)) jm_Ms16 := And.intro dk_X12_page (And.intro dk_X12_cellWith (And.intro dk_X12_cellOf (And.intro dk_X12_foldsOver (And.intro dk_X12_foldsAll (And.intro dk_X12_pageGap (And.intro dk_X12_fitting (And.intro dk_X12_nearest (And.intro dk_X12_bestEdge (And.intro dk_X12_whyNot (And.intro dk_X12_ifFilled (And.intro dk_X12_ifOrder (And.intro dk_X12_mostOf (And.intro dk_X12_cutsFor (And.intro dk_X12_writes (And.intro dk_X12_writesNumber (And.intro dk_X12_writesStack (And.intro dk_X12_writeStacks (And.intro dk_X12_writeSheet (And.intro dk_X12_outputByte (trivial))))))))))))))))))))
theorem dq_all : jm_al (fun g => jm_al (fun M => jm_dcs (jm_mC M) 0 (jm_mI M)) g) jm_Mss := And.intro dq_0 (And.intro dq_1 (And.intro dq_2 (And.intro dq_3 (And.intro dq_4 (And.intro dq_5 (And.intro dq_6 (And.intro dq_7 (And.intro dq_8 (And.intro dq_9 (And.intro dq_10 (And.intro dq_11 (And.intro dq_12 (And.intro dq_13 (And.intro dq_14 (And.intro dq_15 (And.intro dq_16 (trivial)))))))))))))))))
theorem dq_dec : ∀ k M, jm_M k = some M → jm_dcs (jm_mC M) 0 (jm_mI M) := by
  intro k M h
  unfold jm_M at h
  cases hq : jm_Mss[k / 20]? with
  | none => rw [List.getD, hq] at h; simp at h
  | some g =>
    rw [List.getD, hq] at h
    exact jm_al_mem (jm_al_mem dq_all g (List.mem_of_getElem? hq)) M (List.mem_of_getElem? h)
