/-! the law: thing, meet, the loop over the script -/
theorem ll_23 : decode code 23 = .ok (.iload 4, 2) := by decide +kernel
theorem ll_25 : decode code 25 = .ok (.aload_n 0, 1) := by decide +kernel
theorem ll_26 : decode code 26 = .ok (.arraylength, 1) := by decide +kernel
theorem ll_27 : decode code 27 = .ok (.bipush 6, 2) := by decide +kernel
theorem ll_29 : decode code 29 = .ok (.isub, 1) := by decide +kernel
theorem ll_30 : decode code 30 = .ok (.if_icmp .gt 1475, 3) := by decide +kernel
theorem ll_33 : decode code 33 = .ok (.aload_n 0, 1) := by decide +kernel
theorem ll_34 : decode code 34 = .ok (.iload 4, 2) := by decide +kernel
theorem ll_36 : decode code 36 = .ok (.iaload, 1) := by decide +kernel
theorem ll_37 : decode code 37 = .ok (.bipush 63, 2) := by decide +kernel
theorem ll_39 : decode code 39 = .ok (.iand, 1) := by decide +kernel
theorem ll_40 : decode code 40 = .ok (.tableswitch 1459 0 38 #[172, 245, 270, 295, 320, 388, 425, 450, 500, 537, 574, 611, 676, 713, 738, 751, 776, 825, 850, 863, 888, 913, 938, 951, 976, 1025, 1050, 1075, 1088, 1125, 1174, 1199, 1248, 1297, 1346, 1395, 1408, 1421, 1434], 172) := by decide +kernel
theorem ll_360 : decode code 360 = .ok (.aload_n 1, 1) := by decide +kernel
theorem ll_373 : decode code 373 = .ok (.aload_n 3, 1) := by decide +kernel
theorem ll_374 : decode code 374 = .ok (.invokestatic 39, 3) := by decide +kernel
theorem ll_377 : decode code 377 = .ok (.istore 5, 2) := by decide +kernel
theorem ll_379 : decode code 379 = .ok (.aload_n 2, 1) := by decide +kernel
theorem ll_392 : decode code 392 = .ok (.invokevirtual 44, 3) := by decide +kernel
theorem ll_395 : decode code 395 = .ok (.istore 6, 2) := by decide +kernel
theorem ll_397 : decode code 397 = .ok (.aload_n 2, 1) := by decide +kernel
theorem ll_398 : decode code 398 = .ok (.invokevirtual 45, 3) := by decide +kernel
theorem ll_401 : decode code 401 = .ok (.iload 5, 2) := by decide +kernel
theorem ll_403 : decode code 403 = .ok (.if_icmp .eq 5, 3) := by decide +kernel
theorem ll_408 : decode code 408 = .ok (.iload 5, 2) := by decide +kernel
theorem ll_410 : decode code 410 = .ok (.ifCond .ne 15, 3) := by decide +kernel
theorem ll_413 : decode code 413 = .ok (.aload_n 3, 1) := by decide +kernel
theorem ll_414 : decode code 414 = .ok (.iconst 0, 1) := by decide +kernel
theorem ll_415 : decode code 415 = .ok (.laload, 1) := by decide +kernel
theorem ll_416 : decode code 416 = .ok (.iload 6, 2) := by decide +kernel
theorem ll_418 : decode code 418 = .ok (.i2l, 1) := by decide +kernel
theorem ll_419 : decode code 419 = .ok (.lcmp, 1) := by decide +kernel
theorem ll_420 : decode code 420 = .ok (.ifCond .eq 5, 3) := by decide +kernel
theorem ll_425 : decode code 425 = .ok (.goto 1074, 3) := by decide +kernel
theorem ll_651 : decode code 651 = .ok (.aload_n 1, 1) := by decide +kernel
theorem ll_678 : decode code 678 = .ok (.invokevirtual 75, 3) := by decide +kernel
theorem ll_681 : decode code 681 = .ok (.aload_n 2, 1) := by decide +kernel
theorem ll_708 : decode code 708 = .ok (.invokevirtual 79, 3) := by decide +kernel
theorem ll_711 : decode code 711 = .ok (.if_icmp .eq 788, 3) := by decide +kernel
theorem ll_1499 : decode code 1499 = .ok (.iinc 4 6, 3) := by decide +kernel
theorem ll_1502 : decode code 1502 = .ok (.goto (-1479), 3) := by decide +kernel
theorem ll_1505 : decode code 1505 = .ok (.iconst 1, 1) := by decide +kernel
theorem ll_1506 : decode code 1506 = .ok (.ireturn, 1) := by decide +kernel
theorem ll_361 : lc_A 361 1 := by decide +kernel
theorem ll_367 : lc_A 367 2 := by decide +kernel
theorem ll_380 : lc_A 380 1 := by decide +kernel
theorem ll_386 : lc_A 386 2 := by decide +kernel
theorem ll_652 : lc_A 652 1 := by decide +kernel
theorem ll_658 : lc_A 658 2 := by decide +kernel
theorem ll_664 : lc_A 664 3 := by decide +kernel
theorem ll_682 : lc_A 682 1 := by decide +kernel
theorem ll_688 : lc_A 688 2 := by decide +kernel
theorem ll_694 : lc_A 694 3 := by decide +kernel
theorem ll_670 : lc_B 670 := by decide +kernel
theorem ll_700 : lc_B 700 := by decide +kernel
theorem lk_0 : lc_K 5 212 21 25 := ⟨by decide +kernel, by decide +kernel, by decide +kernel, by decide +kernel, by decide +kernel, by decide +kernel⟩
theorem lo_280 : decode code 280 = .ok (.if_icmp .eq 1219, 3) := by decide +kernel
theorem lf_0 : (am_ri y_C_feed = 1 ∨ am_ri y_C_feed = 2) ∧ ((21, y_C_feed) ∈ lc_lk ∧ am_st y_C_feed = false ∧ am_na y_C_feed = 6) ∧ ((25, y_M_feed) ∈ lc_lk ∧ am_st y_M_feed = false ∧ am_na y_M_feed = 6) := by decide +kernel
theorem lk_1 : lc_K 1 285 26 30 := ⟨by decide +kernel, by decide +kernel, by decide +kernel, by decide +kernel, by decide +kernel, by decide +kernel⟩
theorem lo_305 : decode code 305 = .ok (.if_icmp .eq 1194, 3) := by decide +kernel
theorem lf_1 : (am_ri y_C_text = 1 ∨ am_ri y_C_text = 2) ∧ ((26, y_C_text) ∈ lc_lk ∧ am_st y_C_text = false ∧ am_na y_C_text = 2) ∧ ((30, y_M_text) ∈ lc_lk ∧ am_st y_M_text = false ∧ am_na y_M_text = 2) := by decide +kernel
theorem lk_2 : lc_K 1 310 31 34 := ⟨by decide +kernel, by decide +kernel, by decide +kernel, by decide +kernel, by decide +kernel, by decide +kernel⟩
theorem lo_330 : decode code 330 = .ok (.if_icmp .eq 1169, 3) := by decide +kernel
theorem lf_2 : (am_ri y_C_fault = 1 ∨ am_ri y_C_fault = 2) ∧ ((31, y_C_fault) ∈ lc_lk ∧ am_st y_C_fault = false ∧ am_na y_C_fault = 2) ∧ ((34, y_M_fault) ∈ lc_lk ∧ am_st y_M_fault = false ∧ am_na y_M_fault = 2) := by decide +kernel
theorem lk_3 : lc_K 1 335 35 38 := ⟨by decide +kernel, by decide +kernel, by decide +kernel, by decide +kernel, by decide +kernel, by decide +kernel⟩
theorem lo_355 : decode code 355 = .ok (.if_icmp .eq 1144, 3) := by decide +kernel
theorem lf_3 : (am_ri y_C_named = 1 ∨ am_ri y_C_named = 2) ∧ ((35, y_C_named) ∈ lc_lk ∧ am_st y_C_named = false ∧ am_na y_C_named = 2) ∧ ((38, y_M_named) ∈ lc_lk ∧ am_st y_M_named = false ∧ am_na y_M_named = 2) := by decide +kernel
theorem lk_5 : lc_K 2 428 49 52 := ⟨by decide +kernel, by decide +kernel, by decide +kernel, by decide +kernel, by decide +kernel, by decide +kernel⟩
theorem lo_460 : decode code 460 = .ok (.if_icmp .eq 1039, 3) := by decide +kernel
theorem lf_5 : (am_ri y_C_lamp = 1 ∨ am_ri y_C_lamp = 2) ∧ ((49, y_C_lamp) ∈ lc_lk ∧ am_st y_C_lamp = false ∧ am_na y_C_lamp = 3) ∧ ((52, y_M_lamp) ∈ lc_lk ∧ am_st y_M_lamp = false ∧ am_na y_M_lamp = 3) := by decide +kernel
theorem lk_6 : lc_K 1 465 53 56 := ⟨by decide +kernel, by decide +kernel, by decide +kernel, by decide +kernel, by decide +kernel, by decide +kernel⟩
theorem lo_485 : decode code 485 = .ok (.if_icmp .eq 1014, 3) := by decide +kernel
theorem lf_6 : (am_ri y_C_wall = 1 ∨ am_ri y_C_wall = 2) ∧ ((53, y_C_wall) ∈ lc_lk ∧ am_st y_C_wall = false ∧ am_na y_C_wall = 2) ∧ ((56, y_M_wall) ∈ lc_lk ∧ am_st y_M_wall = false ∧ am_na y_M_wall = 2) := by decide +kernel
theorem lk_7 : lc_K 3 490 57 61 := ⟨by decide +kernel, by decide +kernel, by decide +kernel, by decide +kernel, by decide +kernel, by decide +kernel⟩
theorem lo_534 : decode code 534 = .ok (.lcmp, 1) := by decide +kernel
theorem lo_535 : decode code 535 = .ok (.ifCond .eq 964, 3) := by decide +kernel
theorem lf_7 : (am_ri y_C_law = 3) ∧ ((57, y_C_law) ∈ lc_lk ∧ am_st y_C_law = false ∧ am_na y_C_law = 4) ∧ ((61, y_M_law) ∈ lc_lk ∧ am_st y_M_law = false ∧ am_na y_M_law = 4) := by decide +kernel
theorem lk_8 : lc_K 2 540 62 66 := ⟨by decide +kernel, by decide +kernel, by decide +kernel, by decide +kernel, by decide +kernel, by decide +kernel⟩
theorem lo_572 : decode code 572 = .ok (.if_icmp .eq 927, 3) := by decide +kernel
theorem lf_8 : (am_ri y_C_hang = 1 ∨ am_ri y_C_hang = 2) ∧ ((62, y_C_hang) ∈ lc_lk ∧ am_st y_C_hang = false ∧ am_na y_C_hang = 3) ∧ ((66, y_M_hang) ∈ lc_lk ∧ am_st y_M_hang = false ∧ am_na y_M_hang = 3) := by decide +kernel
theorem lk_9 : lc_K 2 577 67 70 := ⟨by decide +kernel, by decide +kernel, by decide +kernel, by decide +kernel, by decide +kernel, by decide +kernel⟩
theorem lo_609 : decode code 609 = .ok (.if_icmp .eq 890, 3) := by decide +kernel
theorem lf_9 : (am_ri y_C_turn = 1 ∨ am_ri y_C_turn = 2) ∧ ((67, y_C_turn) ∈ lc_lk ∧ am_st y_C_turn = false ∧ am_na y_C_turn = 3) ∧ ((70, y_M_turn) ∈ lc_lk ∧ am_st y_M_turn = false ∧ am_na y_M_turn = 3) := by decide +kernel
theorem lk_10 : lc_K 2 614 71 74 := ⟨by decide +kernel, by decide +kernel, by decide +kernel, by decide +kernel, by decide +kernel, by decide +kernel⟩
theorem lo_646 : decode code 646 = .ok (.if_icmp .eq 853, 3) := by decide +kernel
theorem lf_10 : (am_ri y_C_trade = 1 ∨ am_ri y_C_trade = 2) ∧ ((71, y_C_trade) ∈ lc_lk ∧ am_st y_C_trade = false ∧ am_na y_C_trade = 3) ∧ ((74, y_M_trade) ∈ lc_lk ∧ am_st y_M_trade = false ∧ am_na y_M_trade = 3) := by decide +kernel
theorem lk_12 : lc_K 2 716 80 83 := ⟨by decide +kernel, by decide +kernel, by decide +kernel, by decide +kernel, by decide +kernel, by decide +kernel⟩
theorem lo_748 : decode code 748 = .ok (.if_icmp .eq 751, 3) := by decide +kernel
theorem lf_12 : (am_ri y_C_meets = 1 ∨ am_ri y_C_meets = 2) ∧ ((80, y_C_meets) ∈ lc_lk ∧ am_st y_C_meets = false ∧ am_na y_C_meets = 3) ∧ ((83, y_M_meets) ∈ lc_lk ∧ am_st y_M_meets = false ∧ am_na y_M_meets = 3) := by decide +kernel
theorem lk_13 : lc_K 1 753 84 87 := ⟨by decide +kernel, by decide +kernel, by decide +kernel, by decide +kernel, by decide +kernel, by decide +kernel⟩
theorem lo_773 : decode code 773 = .ok (.if_icmp .eq 726, 3) := by decide +kernel
theorem lf_13 : (am_ri y_C_days = 1 ∨ am_ri y_C_days = 2) ∧ ((84, y_C_days) ∈ lc_lk ∧ am_st y_C_days = false ∧ am_na y_C_days = 2) ∧ ((87, y_M_days) ∈ lc_lk ∧ am_st y_M_days = false ∧ am_na y_M_days = 2) := by decide +kernel
theorem lk_14 : lc_K 0 778 88 91 := ⟨by decide +kernel, by decide +kernel, by decide +kernel, by decide +kernel, by decide +kernel, by decide +kernel⟩
theorem lo_786 : decode code 786 = .ok (.if_icmp .eq 713, 3) := by decide +kernel
theorem lf_14 : (am_ri y_C_own = 1 ∨ am_ri y_C_own = 2) ∧ ((88, y_C_own) ∈ lc_lk ∧ am_st y_C_own = false ∧ am_na y_C_own = 1) ∧ ((91, y_M_own) ∈ lc_lk ∧ am_st y_M_own = false ∧ am_na y_M_own = 1) := by decide +kernel
theorem lk_15 : lc_K 1 791 92 95 := ⟨by decide +kernel, by decide +kernel, by decide +kernel, by decide +kernel, by decide +kernel, by decide +kernel⟩
theorem lo_811 : decode code 811 = .ok (.if_icmp .eq 688, 3) := by decide +kernel
theorem lf_15 : (am_ri y_C_best = 1 ∨ am_ri y_C_best = 2) ∧ ((92, y_C_best) ∈ lc_lk ∧ am_st y_C_best = false ∧ am_na y_C_best = 2) ∧ ((95, y_M_best) ∈ lc_lk ∧ am_st y_M_best = false ∧ am_na y_M_best = 2) := by decide +kernel
theorem lk_16 : lc_K 3 816 96 100 := ⟨by decide +kernel, by decide +kernel, by decide +kernel, by decide +kernel, by decide +kernel, by decide +kernel⟩
theorem lo_860 : decode code 860 = .ok (.if_icmp .eq 639, 3) := by decide +kernel
theorem lf_16 : (am_ri y_C_gives = 1 ∨ am_ri y_C_gives = 2) ∧ ((96, y_C_gives) ∈ lc_lk ∧ am_st y_C_gives = false ∧ am_na y_C_gives = 4) ∧ ((100, y_M_gives) ∈ lc_lk ∧ am_st y_M_gives = false ∧ am_na y_M_gives = 4) := by decide +kernel
theorem lk_17 : lc_K 1 865 101 104 := ⟨by decide +kernel, by decide +kernel, by decide +kernel, by decide +kernel, by decide +kernel, by decide +kernel⟩
theorem lo_885 : decode code 885 = .ok (.if_icmp .eq 614, 3) := by decide +kernel
theorem lf_17 : (am_ri y_C_hangs = 1 ∨ am_ri y_C_hangs = 2) ∧ ((101, y_C_hangs) ∈ lc_lk ∧ am_st y_C_hangs = false ∧ am_na y_C_hangs = 2) ∧ ((104, y_M_hangs) ∈ lc_lk ∧ am_st y_M_hangs = false ∧ am_na y_M_hangs = 2) := by decide +kernel
theorem lk_18 : lc_K 0 890 105 108 := ⟨by decide +kernel, by decide +kernel, by decide +kernel, by decide +kernel, by decide +kernel, by decide +kernel⟩
theorem lo_898 : decode code 898 = .ok (.if_icmp .eq 601, 3) := by decide +kernel
theorem lf_18 : (am_ri y_C_swaps = 1 ∨ am_ri y_C_swaps = 2) ∧ ((105, y_C_swaps) ∈ lc_lk ∧ am_st y_C_swaps = false ∧ am_na y_C_swaps = 1) ∧ ((108, y_M_swaps) ∈ lc_lk ∧ am_st y_M_swaps = false ∧ am_na y_M_swaps = 1) := by decide +kernel
theorem lk_19 : lc_K 1 903 109 112 := ⟨by decide +kernel, by decide +kernel, by decide +kernel, by decide +kernel, by decide +kernel, by decide +kernel⟩
theorem lo_923 : decode code 923 = .ok (.if_icmp .eq 576, 3) := by decide +kernel
theorem lf_19 : (am_ri y_C_swap = 1 ∨ am_ri y_C_swap = 2) ∧ ((109, y_C_swap) ∈ lc_lk ∧ am_st y_C_swap = false ∧ am_na y_C_swap = 2) ∧ ((112, y_M_swap) ∈ lc_lk ∧ am_st y_M_swap = false ∧ am_na y_M_swap = 2) := by decide +kernel
theorem lk_20 : lc_K 1 928 113 116 := ⟨by decide +kernel, by decide +kernel, by decide +kernel, by decide +kernel, by decide +kernel, by decide +kernel⟩
theorem lo_948 : decode code 948 = .ok (.if_icmp .eq 551, 3) := by decide +kernel
theorem lf_20 : (am_ri y_C_look = 1 ∨ am_ri y_C_look = 2) ∧ ((113, y_C_look) ∈ lc_lk ∧ am_st y_C_look = false ∧ am_na y_C_look = 2) ∧ ((116, y_M_look) ∈ lc_lk ∧ am_st y_M_look = false ∧ am_na y_M_look = 2) := by decide +kernel
theorem lk_21 : lc_K 1 953 117 120 := ⟨by decide +kernel, by decide +kernel, by decide +kernel, by decide +kernel, by decide +kernel, by decide +kernel⟩
theorem lo_973 : decode code 973 = .ok (.if_icmp .eq 526, 3) := by decide +kernel
theorem lf_21 : (am_ri y_C_alike = 1 ∨ am_ri y_C_alike = 2) ∧ ((117, y_C_alike) ∈ lc_lk ∧ am_st y_C_alike = false ∧ am_na y_C_alike = 2) ∧ ((120, y_M_alike) ∈ lc_lk ∧ am_st y_M_alike = false ∧ am_na y_M_alike = 2) := by decide +kernel
theorem lk_22 : lc_K 0 978 121 124 := ⟨by decide +kernel, by decide +kernel, by decide +kernel, by decide +kernel, by decide +kernel, by decide +kernel⟩
theorem lo_986 : decode code 986 = .ok (.if_icmp .eq 513, 3) := by decide +kernel
theorem lf_22 : (am_ri y_C_sorts = 1 ∨ am_ri y_C_sorts = 2) ∧ ((121, y_C_sorts) ∈ lc_lk ∧ am_st y_C_sorts = false ∧ am_na y_C_sorts = 1) ∧ ((124, y_M_sorts) ∈ lc_lk ∧ am_st y_M_sorts = false ∧ am_na y_M_sorts = 1) := by decide +kernel
theorem lk_23 : lc_K 1 991 125 128 := ⟨by decide +kernel, by decide +kernel, by decide +kernel, by decide +kernel, by decide +kernel, by decide +kernel⟩
theorem lo_1011 : decode code 1011 = .ok (.if_icmp .eq 488, 3) := by decide +kernel
theorem lf_23 : (am_ri y_C_whose = 1 ∨ am_ri y_C_whose = 2) ∧ ((125, y_C_whose) ∈ lc_lk ∧ am_st y_C_whose = false ∧ am_na y_C_whose = 2) ∧ ((128, y_M_whose) ∈ lc_lk ∧ am_st y_M_whose = false ∧ am_na y_M_whose = 2) := by decide +kernel
theorem lk_24 : lc_K 3 1016 129 132 := ⟨by decide +kernel, by decide +kernel, by decide +kernel, by decide +kernel, by decide +kernel, by decide +kernel⟩
theorem lo_1060 : decode code 1060 = .ok (.if_icmp .eq 439, 3) := by decide +kernel
theorem lf_24 : (am_ri y_C_see = 1 ∨ am_ri y_C_see = 2) ∧ ((129, y_C_see) ∈ lc_lk ∧ am_st y_C_see = false ∧ am_na y_C_see = 4) ∧ ((132, y_M_see) ∈ lc_lk ∧ am_st y_M_see = false ∧ am_na y_M_see = 4) := by decide +kernel
theorem lk_25 : lc_K 1 1065 133 136 := ⟨by decide +kernel, by decide +kernel, by decide +kernel, by decide +kernel, by decide +kernel, by decide +kernel⟩
theorem lo_1085 : decode code 1085 = .ok (.if_icmp .eq 414, 3) := by decide +kernel
theorem lf_25 : (am_ri y_C_strike = 1 ∨ am_ri y_C_strike = 2) ∧ ((133, y_C_strike) ∈ lc_lk ∧ am_st y_C_strike = false ∧ am_na y_C_strike = 2) ∧ ((136, y_M_strike) ∈ lc_lk ∧ am_st y_M_strike = false ∧ am_na y_M_strike = 2) := by decide +kernel
theorem lk_26 : lc_K 1 1090 137 141 := ⟨by decide +kernel, by decide +kernel, by decide +kernel, by decide +kernel, by decide +kernel, by decide +kernel⟩
theorem lo_1110 : decode code 1110 = .ok (.if_icmp .eq 389, 3) := by decide +kernel
theorem lf_26 : (am_ri y_C_known = 1 ∨ am_ri y_C_known = 2) ∧ ((137, y_C_known) ∈ lc_lk ∧ am_st y_C_known = false ∧ am_na y_C_known = 2) ∧ ((141, y_M_known) ∈ lc_lk ∧ am_st y_M_known = false ∧ am_na y_M_known = 2) := by decide +kernel
theorem lk_27 : lc_K 0 1115 142 145 := ⟨by decide +kernel, by decide +kernel, by decide +kernel, by decide +kernel, by decide +kernel, by decide +kernel⟩
theorem lo_1123 : decode code 1123 = .ok (.if_icmp .eq 376, 3) := by decide +kernel
theorem lf_27 : (am_ri y_C_rules = 1 ∨ am_ri y_C_rules = 2) ∧ ((142, y_C_rules) ∈ lc_lk ∧ am_st y_C_rules = false ∧ am_na y_C_rules = 1) ∧ ((145, y_M_rules) ∈ lc_lk ∧ am_st y_M_rules = false ∧ am_na y_M_rules = 1) := by decide +kernel
theorem lk_28 : lc_K 2 1128 146 149 := ⟨by decide +kernel, by decide +kernel, by decide +kernel, by decide +kernel, by decide +kernel, by decide +kernel⟩
theorem lo_1160 : decode code 1160 = .ok (.if_icmp .eq 339, 3) := by decide +kernel
theorem lf_28 : (am_ri y_C_rests = 1 ∨ am_ri y_C_rests = 2) ∧ ((146, y_C_rests) ∈ lc_lk ∧ am_st y_C_rests = false ∧ am_na y_C_rests = 3) ∧ ((149, y_M_rests) ∈ lc_lk ∧ am_st y_M_rests = false ∧ am_na y_M_rests = 3) := by decide +kernel
theorem lk_29 : lc_K 3 1165 150 153 := ⟨by decide +kernel, by decide +kernel, by decide +kernel, by decide +kernel, by decide +kernel, by decide +kernel⟩
theorem lo_1209 : decode code 1209 = .ok (.if_icmp .eq 290, 3) := by decide +kernel
theorem lf_29 : (am_ri y_C_rest = 1 ∨ am_ri y_C_rest = 2) ∧ ((150, y_C_rest) ∈ lc_lk ∧ am_st y_C_rest = false ∧ am_na y_C_rest = 4) ∧ ((153, y_M_rest) ∈ lc_lk ∧ am_st y_M_rest = false ∧ am_na y_M_rest = 4) := by decide +kernel
theorem lk_30 : lc_K 1 1214 154 157 := ⟨by decide +kernel, by decide +kernel, by decide +kernel, by decide +kernel, by decide +kernel, by decide +kernel⟩
theorem lo_1234 : decode code 1234 = .ok (.if_icmp .eq 265, 3) := by decide +kernel
theorem lf_30 : (am_ri y_C_price = 1 ∨ am_ri y_C_price = 2) ∧ ((154, y_C_price) ∈ lc_lk ∧ am_st y_C_price = false ∧ am_na y_C_price = 2) ∧ ((157, y_M_price) ∈ lc_lk ∧ am_st y_M_price = false ∧ am_na y_M_price = 2) := by decide +kernel
theorem lk_31 : lc_K 3 1239 158 161 := ⟨by decide +kernel, by decide +kernel, by decide +kernel, by decide +kernel, by decide +kernel, by decide +kernel⟩
theorem lo_1283 : decode code 1283 = .ok (.if_icmp .eq 216, 3) := by decide +kernel
theorem lf_31 : (am_ri y_C_season = 1 ∨ am_ri y_C_season = 2) ∧ ((158, y_C_season) ∈ lc_lk ∧ am_st y_C_season = false ∧ am_na y_C_season = 4) ∧ ((161, y_M_season) ∈ lc_lk ∧ am_st y_M_season = false ∧ am_na y_M_season = 4) := by decide +kernel
theorem lk_32 : lc_K 3 1288 162 165 := ⟨by decide +kernel, by decide +kernel, by decide +kernel, by decide +kernel, by decide +kernel, by decide +kernel⟩
theorem lo_1332 : decode code 1332 = .ok (.if_icmp .eq 167, 3) := by decide +kernel
theorem lf_32 : (am_ri y_C_whole = 1 ∨ am_ri y_C_whole = 2) ∧ ((162, y_C_whole) ∈ lc_lk ∧ am_st y_C_whole = false ∧ am_na y_C_whole = 4) ∧ ((165, y_M_whole) ∈ lc_lk ∧ am_st y_M_whole = false ∧ am_na y_M_whole = 4) := by decide +kernel
theorem lk_33 : lc_K 3 1337 166 169 := ⟨by decide +kernel, by decide +kernel, by decide +kernel, by decide +kernel, by decide +kernel, by decide +kernel⟩
theorem lo_1381 : decode code 1381 = .ok (.if_icmp .eq 118, 3) := by decide +kernel
theorem lf_33 : (am_ri y_C_chance = 1 ∨ am_ri y_C_chance = 2) ∧ ((166, y_C_chance) ∈ lc_lk ∧ am_st y_C_chance = false ∧ am_na y_C_chance = 4) ∧ ((169, y_M_chance) ∈ lc_lk ∧ am_st y_M_chance = false ∧ am_na y_M_chance = 4) := by decide +kernel
theorem lk_34 : lc_K 3 1386 170 173 := ⟨by decide +kernel, by decide +kernel, by decide +kernel, by decide +kernel, by decide +kernel, by decide +kernel⟩
theorem lo_1430 : decode code 1430 = .ok (.if_icmp .eq 69, 3) := by decide +kernel
theorem lf_34 : (am_ri y_C_tried = 1 ∨ am_ri y_C_tried = 2) ∧ ((170, y_C_tried) ∈ lc_lk ∧ am_st y_C_tried = false ∧ am_na y_C_tried = 4) ∧ ((173, y_M_tried) ∈ lc_lk ∧ am_st y_M_tried = false ∧ am_na y_M_tried = 4) := by decide +kernel
theorem lk_35 : lc_K 0 1435 174 177 := ⟨by decide +kernel, by decide +kernel, by decide +kernel, by decide +kernel, by decide +kernel, by decide +kernel⟩
theorem lo_1443 : decode code 1443 = .ok (.if_icmp .eq 56, 3) := by decide +kernel
theorem lf_35 : (am_ri y_C_undo = 1 ∨ am_ri y_C_undo = 2) ∧ ((174, y_C_undo) ∈ lc_lk ∧ am_st y_C_undo = false ∧ am_na y_C_undo = 1) ∧ ((177, y_M_undo) ∈ lc_lk ∧ am_st y_M_undo = false ∧ am_na y_M_undo = 1) := by decide +kernel
theorem lk_36 : lc_K 0 1448 178 181 := ⟨by decide +kernel, by decide +kernel, by decide +kernel, by decide +kernel, by decide +kernel, by decide +kernel⟩
theorem lo_1456 : decode code 1456 = .ok (.if_icmp .eq 43, 3) := by decide +kernel
theorem lf_36 : (am_ri y_C_keep = 1 ∨ am_ri y_C_keep = 2) ∧ ((178, y_C_keep) ∈ lc_lk ∧ am_st y_C_keep = false ∧ am_na y_C_keep = 1) ∧ ((181, y_M_keep) ∈ lc_lk ∧ am_st y_M_keep = false ∧ am_na y_M_keep = 1) := by decide +kernel
theorem lk_37 : lc_K 0 1461 182 185 := ⟨by decide +kernel, by decide +kernel, by decide +kernel, by decide +kernel, by decide +kernel, by decide +kernel⟩
theorem lo_1469 : decode code 1469 = .ok (.if_icmp .eq 30, 3) := by decide +kernel
theorem lf_37 : (am_ri y_C_back = 1 ∨ am_ri y_C_back = 2) ∧ ((182, y_C_back) ∈ lc_lk ∧ am_st y_C_back = false ∧ am_na y_C_back = 1) ∧ ((185, y_M_back) ∈ lc_lk ∧ am_st y_M_back = false ∧ am_na y_M_back = 1) := by decide +kernel
theorem lk_38 : lc_K 1 1474 186 189 := ⟨by decide +kernel, by decide +kernel, by decide +kernel, by decide +kernel, by decide +kernel, by decide +kernel⟩
theorem lo_1494 : decode code 1494 = .ok (.if_icmp .eq 5, 3) := by decide +kernel
theorem lf_38 : (am_ri y_C_count = 1 ∨ am_ri y_C_count = 2) ∧ ((186, y_C_count) ∈ lc_lk ∧ am_st y_C_count = false ∧ am_na y_C_count = 2) ∧ ((189, y_M_count) ∈ lc_lk ∧ am_st y_M_count = false ∧ am_na y_M_count = 2) := by decide +kernel
theorem lf_11 : (am_ri y_C_meet = 1 ∨ am_ri y_C_meet = 2) ∧ ((75, y_C_meet) ∈ lc_lk ∧ am_st y_C_meet = false ∧ am_na y_C_meet = 4) ∧ ((79, y_M_meet) ∈ lc_lk ∧ am_st y_M_meet = false ∧ am_na y_M_meet = 4) := by decide +kernel
theorem lf_4 : ((44, y_M_thing) ∈ lc_lk ∧ am_st y_M_thing = false ∧ am_na y_M_thing = 3) ∧ ((45, y_M_thrown) ∈ lc_lk ∧ am_st y_M_thrown = false ∧ am_na y_M_thrown = 1) := by decide +kernel
theorem lt_good : GoodIn lw_tbl (va_wsS "ShadowPoolLaw" 39 th_z lt_ws) := by
  intro w hw
  have h : w ∈ am_TB := by
    rcases List.mem_append.mp hw with h | h
    · simp only [List.mem_cons, List.not_mem_nil, or_false] at h
      rcases h with rfl | rfl | rfl
      · exact th_w_ok _ (List.mem_of_getElem? (i := 12) rfl)
      · exact th_w_ok _ (List.mem_of_getElem? (i := 13) rfl)
      · exact th_w_ok _ (List.mem_of_getElem? (i := 14) rfl)
    · rcases List.mem_cons.mp h with rfl | h
      · exact th_w_ok _ (List.mem_of_getElem? (i := 5) rfl)
      · exact h
  exact ⟨am_TB_in w h, good_of_word (List.mem_filter.mp h).2⟩
theorem th_all (x y : Int32) {mm : am_M} (I : Inv mm) : ∃ (q : Nat) (v bb : Int32) (m2 : am_M), q < 3 ∧ th_ok mm x y q v ∧ am_c 8 y_M_thing [.ref 107, .int x, .int y] mm = some (some (.int bb), m2) ∧ m2.1 107 2 = zn q ∧ (q = 0 → bb = v) ∧ Inv m2 := by
  rcases k_thing x y I with ⟨m2, h1, h2, h3, h4⟩ | ⟨t, k, m2, ht, hx, hk, hy, h1, h2, h3, h4⟩ | ⟨t, m2, ht, hx, hk, h1, h2, h3, h4⟩
  · exact ⟨1, 0, zn 0, m2, by omega, Or.inl ⟨rfl, h1⟩, h2, h3, fun h => by omega, h4⟩
  · exact ⟨0, mm.1 (thc k) t, mm.1 (thc k) t, m2, by omega, Or.inr (Or.inl ⟨rfl, h1, t, k, ht, hx, hk, hy, rfl⟩), h2, h3, fun _ => rfl, h4⟩
  · exact ⟨2, 0, zn 0, m2, by omega, Or.inr (Or.inr ⟨rfl, h1, hk⟩), h2, h3, fun h => by omega, h4⟩
theorem lc_and (x : Int32) : ∃ k : Nat, k < 64 ∧ x &&& 63 = nI k := by
  refine ⟨(x &&& 63).toBitVec.toNat, ?_, ?_⟩
  · have h : (x &&& 63).toBitVec.toNat = x.toBitVec.toNat &&& 63 := by
      rw [Int32.toBitVec_and, BitVec.toNat_and]
      rfl
    rw [h]
    exact Nat.lt_of_le_of_lt Nat.and_le_right (by decide)
  · apply Int32.toBitVec_inj.mp
    show (x &&& 63).toBitVec = BitVec.ofNat 32 (x &&& 63).toBitVec.toNat
    rw [BitVec.ofNat_toNat, BitVec.setWidth_eq]
theorem lc_gt {L i : Nat} (hL : L ≤ 3072) (hi : i ≤ 3078) : (nI L - 6 < nI i) ↔ ¬ i + 6 ≤ L := by
  by_cases h6 : 6 ≤ L
  · have e : nI L - 6 = nI (L - 6) := by
      have := (Int32.ofNat_sub L 6 h6).symm
      exact this
    rw [e, nI_ltI (by omega) (by omega)]
    omega
  · have h0 := nI_pos' (n := i) (by omega)
    have hlt : nI L - 6 < 0 := by
      rcases (show L = 0 ∨ L = 1 ∨ L = 2 ∨ L = 3 ∨ L = 4 ∨ L = 5 by omega) with rfl | rfl | rfl | rfl | rfl | rfl <;> decide
    exact ⟨fun _ => by omega, fun _ => Int32.lt_of_lt_of_le hlt h0⟩
section LCD
variable {p : Program} {l : Launch} {e : Env} {s : State} {mi : MethodId} {below : List Frame} {meth : Method} {c : Code} {b L : Nat} {xs : Nat → Int32} {base sa sb ao : Nat} {dC : Nat → ClassId} {dI : Nat → Nat → Nat} {dA : Nat → ClassId} {H : Heap} {locs : List Loc} {cells slots i : Nat} {Q : State → Prop} {ls : Array Slot}
set_option maxRecDepth 100000 in
set_option maxHeartbeats 4000000 in
theorem lc_meet {mm : am_M} {fo : Nat → Int64} (hC : lc_C p l s mi c b L xs base sa sb ao dC dI dA) (kk : lc_Nx p l e s mi below meth c b base ao dC dI dA Q i cells slots) (hi : i + 6 ≤ L) (hl : lv_has ls 7 (lc_v b base ao i)) (hS : va_S (js_A base) s.heap H locs) (hP : va_P (dC, dI) vwCl (lc_w dA base mm ao fo) H) (I : Inv mm) (hce : cells + 1 ≤ 1183) (hse : slots + 6 ≤ 21603) : W p l e room_1 s mi #[Value.ref b] below meth c H locs cells slots Q (F0 mi 651 ls []) := by
  obtain ⟨hx, hb, -⟩ := id hC
  obtain ⟨r, m1, m2, e1, e2, I2⟩ := k_meet (xs (i + 1)) (xs (i + 2)) (decide (xs (i + 3) ≠ 0)) mm I
  obtain ⟨v, rfl⟩ := am_int lf_11.1 e1
  refine lv_aload_n hx hb ll_651 rfl (lv_at hl 1 rfl) ?_
  refine lc_arg (j := 1) hC ll_652 (by omega) hl hS ?_
  refine lc_arg (j := 2) hC ll_658 (by omega) hl hS ?_
  refine lc_arg (j := 3) hC ll_664 (by omega) hl hS ?_
  refine lc_bool hC ll_670 ?_
  refine lc_call (vs := [.int (xs (i + 1)), .int (xs (i + 2)), .int (zb (decide (xs (i + 3) ≠ 0)))]) (o := 0) (rest := []) (pc := 678) hC hl.1 hS hP lf_11.2.1.1 lf_11.2.1.2.1 lf_11.2.1.2.2 rfl e1 (by show ¬ 8 < 0; omega) (by omega) (by omega) ll_678 (fun H1 locs1 hP1 hS1 => ?_)
  refine lv_aload_n hx hb ll_681 rfl (lv_at hl 2 rfl) ?_
  refine lc_arg (j := 1) hC ll_682 (by omega) hl hS1 ?_
  refine lc_arg (j := 2) hC ll_688 (by omega) hl hS1 ?_
  refine lc_arg (j := 3) hC ll_694 (by omega) hl hS1 ?_
  refine lc_bool hC ll_700 ?_
  refine lc_call (vs := [.int (xs (i + 1)), .int (xs (i + 2)), .int (zb (decide (xs (i + 3) ≠ 0)))]) (o := 107) (rest := [.int v]) (pc := 708) hC hl.1 hS1 hP1 lf_11.2.2.1 lf_11.2.2.2.1 lf_11.2.2.2.2 rfl e2 (by show ¬ 8 < 1; omega) (by omega) (by omega) ll_708 (fun H2 locs2 hP2 hS2 => ?_)
  exact lv_icmp_eq (tgt := 1499) hx hb ll_711 (by decide) (fun _ => W.widen (k := cells + 1) (n := slots + 6) (by omega) (by omega) (kk m2 fo H2 locs2 ls I2 hP2 hS2 hl)) (fun h => absurd rfl h)
set_option maxRecDepth 100000 in
set_option maxHeartbeats 4000000 in
theorem lc_thing {mm : am_M} {fo : Nat → Int64} (hC : lc_C p l s mi c b L xs base sa sb ao dC dI dA) (kk : lc_Nx p l e s mi below meth c b base ao dC dI dA Q i cells slots) (hi : i + 6 ≤ L) (hl : lv_has ls 7 (lc_v b base ao i)) (hS : va_S (js_A base) s.heap H locs) (hP : va_P (dC, dI) vwCl (lc_w dA base mm ao fo) H) (I : Inv mm) (hce : cells + 1 ≤ 1183) (hse : slots + 6 ≤ 21603) : W p l e room_1 s mi #[Value.ref b] below meth c H locs cells slots Q (F0 mi 360 ls []) := by
  obtain ⟨hx, hb, hml, hown, hts, hX, hbl, hK, hNk, hF, hbase, hao, hL, hst⟩ := id hC
  obtain ⟨q, v, bb, m2, hq3, hok, e2, hfl, hbv, I2⟩ := th_all (xs (i + 1)) (xs (i + 2)) I
  refine lv_aload_n hx hb ll_360 rfl (lv_at hl 1 rfl) ?_
  refine lc_arg (j := 1) hC ll_361 (by omega) hl hS ?_
  refine lc_arg (j := 2) hC ll_367 (by omega) hl hS ?_
  refine lv_aload_n hx hb ll_373 rfl (lv_at hl 3 rfl) ?_
  refine vx_calli (vx_runSX (hh := th_hh) (As := [.ref (base + 0), .int (xs (i + 1)), .int (xs (i + 2)), .ref ao]) (rest := []) ⟨hx, hb, hml, hown, hts⟩ (lt_met l hst (base := base) (sa := sa) (sb := sb) (sz := H.size) (ao := ao) (dC := dC) (dI := dI) (dA := dA) (fo := fo) hok) (vx_cwSW 4 hts lt_good rfl rfl rfl (by decide +kernel) ⟨by show 9 + 1 ≤ 10; omega, by show 8 + (5 + 11) + 30 * 9 ≤ 402; omega⟩) ⟨lt_blind, fun U hU hW => ⟨rfl, by rw [hU], by rw [hU]; exact hP, va_K.moved hW.alike hK, hao, fun z hz => va_Nw.warmM hW (hNk z hz), hF.next (fun z hz => by rw [hU]; exact hS.2.1 z (by omega) (fun w => by have : base ≤ z := w; omega)) hW⟩⟩ rfl rfl hl.1 rfl (lv_room (Nat.le_of_ble_eq_true rfl)) ll_374 ⟨hce, hse⟩) hS (fun z _ h => h) (fun z h => h) (fun z _ h => h) (fun E ce q9 u t H1 locs1 _ _ hpx _ _ _ _ _ _ _ => hpx.elim) (fun r u t H1 locs1 ht hvm hw hB hz1 hk1 hS1 => ?_)
  have hP1 : va_P (dC, dI) vwCl (lc_w dA base mm ao u) H1 := by rw [← ht]; exact hB
  refine lv_istore (lv' := (5, .int r) :: lc_v b base ao i) hx hb ll_377 hl (by decide) rfl (fun ls1 hl1 => ?_)
  have hl2 : lv_has ls1 7 (lc_v b base ao i) := lv_sub hl1 [1, 2, 3, 4, 5] rfl
  refine lv_aload_n hx hb ll_379 rfl (lv_at hl2 2 rfl) ?_
  refine lc_arg (j := 1) hC ll_380 (by omega) hl2 hS1 ?_
  refine lc_arg (j := 2) hC ll_386 (by omega) hl2 hS1 ?_
  refine lc_call (vs := [.int (xs (i + 1)), .int (xs (i + 2))]) (o := 107) (rest := []) (pc := 392) hC hl1.1 hS1 hP1 lf_4.1.1 lf_4.1.2.1 lf_4.1.2.2 rfl e2 (by show ¬ 8 < 0; omega) (by omega) (by omega) ll_392 (fun H2 locs2 hP2 hS2 => ?_)
  refine lv_istore (lv' := (6, .int bb) :: (5, .int r) :: lc_v b base ao i) hx hb ll_395 hl1 (by decide) rfl (fun ls2 hl3 => ?_)
  have hl4 : lv_has ls2 7 (lc_v b base ao i) := lv_sub hl3 [2, 3, 4, 5, 6] rfl
  refine lv_aload_n hx hb ll_397 rfl (lv_at hl4 2 rfl) ?_
  refine lc_call (vs := []) (o := 107) (rest := []) (pc := 398) hC hl4.1 hS2 hP2 lf_4.2.1 lf_4.2.2.1 lf_4.2.2.2 rfl (n_M_thrown 7 m2) (by show ¬ 8 < 0; omega) (by omega) (by omega) ll_398 (fun H3 locs3 hP3 hS3 => ?_)
  refine lv_iload hx hb ll_401 (lv_at hl3 1 rfl) ?_
  refine lv_icmp_eq (tgt := 408) hx hb ll_403 (by decide) (fun _ => ?_) (fun h => absurd (by rw [hfl, hw.1]; rfl) h)
  have hend : W p l e room_1 s mi #[Value.ref b] below meth c H3 locs3 (cells + 1) (slots + 6) Q (F0 mi 425 ls2 []) := lv_goto (tgt := 1499) hx hb ll_425 (by decide) (kk m2 u H3 locs3 ls2 I2 hP3 hS3 hl4)
  refine lv_iload hx hb ll_408 (lv_at hl3 1 rfl) ?_
  refine lv_if_ne (tgt := 425) hx hb ll_410 (by decide) (fun _ => hend) (fun h0 => ?_)
  have hq0 : q = 0 := by
    rw [hw.1] at h0
    rcases (show q = 0 ∨ q = 1 ∨ q = 2 by omega) with h | h | h
    · exact h
    · rw [h] at h0
      exact absurd h0 (by decide)
    · rw [h] at h0
      exact absurd h0 (by decide)
  refine lv_aload_n hx hb ll_413 rfl (lv_at hl4 3 rfl) ?_
  refine lv_iconst (v := 0) hx hb ll_414 (by decide) ?_
  refine va_lald hx hb hK hP3 156 3 lc_w_at rfl (by unfold vp_in; decide) ll_415 ?_
  refine lv_iload hx hb ll_416 (lv_at hl3 0 rfl) ?_
  refine lv_i2l (v := bb.toInt64) hx hb ll_418 rfl ?_
  refine W.lcmp hx hb ll_419 ?_
  have e0 : lg_cmp (u (0 : Int32).toNatClampNeg) bb.toInt64 = 0 := by
    have h1 : u (0 : Int32).toNatClampNeg = v.toInt64 := hw.2 hq0
    rw [h1, hbv hq0]
    unfold lg_cmp
    rw [if_neg (fun h => Int64.lt_irrefl h), if_pos rfl]
  rw [e0]
  exact lv_if_eq (tgt := 425) hx hb ll_420 (by decide) (fun _ => hend) (fun h => absurd rfl h)
set_option maxRecDepth 100000 in
set_option maxHeartbeats 4000000 in
/-- which call it is -/
theorem lc_turn {mm : am_M} {fo : Nat → Int64} {k : Nat} (hk : k < 64) (hC : lc_C p l s mi c b L xs base sa sb ao dC dI dA) (kk : lc_Nx p l e s mi below meth c b base ao dC dI dA Q i cells slots) (hi : i + 6 ≤ L) (hl : lv_has ls 7 (lc_v b base ao i)) (hS : va_S (js_A base) s.heap H locs) (hP : va_P (dC, dI) vwCl (lc_w dA base mm ao fo) H) (I : Inv mm) (hce : cells + 1 ≤ 1183) (hse : slots + 6 ≤ 21603) : W p l e room_1 s mi #[Value.ref b] below meth c H locs cells slots Q (F0 mi 40 ls [.int (nI k)]) := by
  obtain ⟨hx, hb, -⟩ := id hC
  have hce' : cells ≤ 1183 := by omega
  have hse' : slots ≤ 21603 := by omega
  rcases (show k = 0 ∨ k = 1 ∨ k = 2 ∨ k = 3 ∨ k = 4 ∨ k = 5 ∨ k = 6 ∨ k = 7 ∨ k = 8 ∨ k = 9 ∨ k = 10 ∨ k = 11 ∨ k = 12 ∨ k = 13 ∨ k = 14 ∨ k = 15 ∨ k = 16 ∨ k = 17 ∨ k = 18 ∨ k = 19 ∨ k = 20 ∨ k = 21 ∨ k = 22 ∨ k = 23 ∨ k = 24 ∨ k = 25 ∨ k = 26 ∨ k = 27 ∨ k = 28 ∨ k = 29 ∨ k = 30 ∨ k = 31 ∨ k = 32 ∨ k = 33 ∨ k = 34 ∨ k = 35 ∨ k = 36 ∨ k = 37 ∨ k = 38 ∨ 39 ≤ k by omega) with rfl | rfl | rfl | rfl | rfl | rfl | rfl | rfl | rfl | rfl | rfl | rfl | rfl | rfl | rfl | rfl | rfl | rfl | rfl | rfl | rfl | rfl | rfl | rfl | rfl | rfl | rfl | rfl | rfl | rfl | rfl | rfl | rfl | rfl | rfl | rfl | rfl | rfl | rfl | hk39
  · refine lv_tableIn (off := 172) (tgt := 212) hx hb ll_40 (by decide) (by decide) (by decide) (by decide) ?_
    exact lc_case (n := 5) (pc := 212) hC kk (show ask y_C_feed y_M_feed (lc_as xs i 5) from k_feed (xs (i + 1)) (xs (i + 2)) (xs (i + 3)) (xs (i + 4)) (xs (i + 5))) lk_0 lo_280 (by decide) lf_0.1 lf_0.2.1 lf_0.2.2 (by omega) hi hl hS hP I hce' hse'
  · refine lv_tableIn (off := 245) (tgt := 285) hx hb ll_40 (by decide) (by decide) (by decide) (by decide) ?_
    exact lc_case (n := 1) (pc := 285) hC kk (show ask y_C_text y_M_text (lc_as xs i 1) from k_text (xs (i + 1))) lk_1 lo_305 (by decide) lf_1.1 lf_1.2.1 lf_1.2.2 (by omega) hi hl hS hP I hce' hse'
  · refine lv_tableIn (off := 270) (tgt := 310) hx hb ll_40 (by decide) (by decide) (by decide) (by decide) ?_
    exact lc_case (n := 1) (pc := 310) hC kk (show ask y_C_fault y_M_fault (lc_as xs i 1) from k_fault (xs (i + 1))) lk_2 lo_330 (by decide) lf_2.1 lf_2.2.1 lf_2.2.2 (by omega) hi hl hS hP I hce' hse'
  · refine lv_tableIn (off := 295) (tgt := 335) hx hb ll_40 (by decide) (by decide) (by decide) (by decide) ?_
    exact lc_case (n := 1) (pc := 335) hC kk (show ask y_C_named y_M_named (lc_as xs i 1) from k_named (xs (i + 1))) lk_3 lo_355 (by decide) lf_3.1 lf_3.2.1 lf_3.2.2 (by omega) hi hl hS hP I hce' hse'
  · refine lv_tableIn (off := 320) (tgt := 360) hx hb ll_40 (by decide) (by decide) (by decide) (by decide) ?_
    exact lc_thing hC kk hi hl hS hP I hce hse
  · refine lv_tableIn (off := 388) (tgt := 428) hx hb ll_40 (by decide) (by decide) (by decide) (by decide) ?_
    exact lc_case (n := 2) (pc := 428) hC kk (show ask y_C_lamp y_M_lamp (lc_as xs i 2) from k_lamp (xs (i + 1)) (xs (i + 2))) lk_5 lo_460 (by decide) lf_5.1 lf_5.2.1 lf_5.2.2 (by omega) hi hl hS hP I hce' hse'
  · refine lv_tableIn (off := 425) (tgt := 465) hx hb ll_40 (by decide) (by decide) (by decide) (by decide) ?_
    exact lc_case (n := 1) (pc := 465) hC kk (show ask y_C_wall y_M_wall (lc_as xs i 1) from k_wall (xs (i + 1))) lk_6 lo_485 (by decide) lf_6.1 lf_6.2.1 lf_6.2.2 (by omega) hi hl hS hP I hce' hse'
  · refine lv_tableIn (off := 450) (tgt := 490) hx hb ll_40 (by decide) (by decide) (by decide) (by decide) ?_
    exact lc_caseL (n := 3) (pc := 490) hC kk (show ask y_C_law y_M_law (lc_as xs i 3) from k_law (xs (i + 1)) (xs (i + 2)) (xs (i + 3))) lk_7 lo_534 lo_535 (by decide) lf_7.1 lf_7.2.1 lf_7.2.2 (by omega) hi hl hS hP I hce' hse'
  · refine lv_tableIn (off := 500) (tgt := 540) hx hb ll_40 (by decide) (by decide) (by decide) (by decide) ?_
    exact lc_case (n := 2) (pc := 540) hC kk (show ask y_C_hang y_M_hang (lc_as xs i 2) from k_hang (xs (i + 1)) (xs (i + 2))) lk_8 lo_572 (by decide) lf_8.1 lf_8.2.1 lf_8.2.2 (by omega) hi hl hS hP I hce' hse'
  · refine lv_tableIn (off := 537) (tgt := 577) hx hb ll_40 (by decide) (by decide) (by decide) (by decide) ?_
    exact lc_case (n := 2) (pc := 577) hC kk (show ask y_C_turn y_M_turn (lc_as xs i 2) from k_turn (xs (i + 1)) (xs (i + 2))) lk_9 lo_609 (by decide) lf_9.1 lf_9.2.1 lf_9.2.2 (by omega) hi hl hS hP I hce' hse'
  · refine lv_tableIn (off := 574) (tgt := 614) hx hb ll_40 (by decide) (by decide) (by decide) (by decide) ?_
    exact lc_case (n := 2) (pc := 614) hC kk (show ask y_C_trade y_M_trade (lc_as xs i 2) from k_trade (xs (i + 1)) (xs (i + 2))) lk_10 lo_646 (by decide) lf_10.1 lf_10.2.1 lf_10.2.2 (by omega) hi hl hS hP I hce' hse'
  · refine lv_tableIn (off := 611) (tgt := 651) hx hb ll_40 (by decide) (by decide) (by decide) (by decide) ?_
    exact lc_meet hC kk hi hl hS hP I hce hse
  · refine lv_tableIn (off := 676) (tgt := 716) hx hb ll_40 (by decide) (by decide) (by decide) (by decide) ?_
    exact lc_case (n := 2) (pc := 716) hC kk (show ask y_C_meets y_M_meets (lc_as xs i 2) from k_meets (xs (i + 1)) (xs (i + 2))) lk_12 lo_748 (by decide) lf_12.1 lf_12.2.1 lf_12.2.2 (by omega) hi hl hS hP I hce' hse'
  · refine lv_tableIn (off := 713) (tgt := 753) hx hb ll_40 (by decide) (by decide) (by decide) (by decide) ?_
    exact lc_case (n := 1) (pc := 753) hC kk (show ask y_C_days y_M_days (lc_as xs i 1) from k_days (xs (i + 1))) lk_13 lo_773 (by decide) lf_13.1 lf_13.2.1 lf_13.2.2 (by omega) hi hl hS hP I hce' hse'
  · refine lv_tableIn (off := 738) (tgt := 778) hx hb ll_40 (by decide) (by decide) (by decide) (by decide) ?_
    exact lc_case (n := 0) (pc := 778) hC kk (show ask y_C_own y_M_own (lc_as xs i 0) from k_own) lk_14 lo_786 (by decide) lf_14.1 lf_14.2.1 lf_14.2.2 (by omega) hi hl hS hP I hce' hse'
  · refine lv_tableIn (off := 751) (tgt := 791) hx hb ll_40 (by decide) (by decide) (by decide) (by decide) ?_
    exact lc_case (n := 1) (pc := 791) hC kk (show ask y_C_best y_M_best (lc_as xs i 1) from k_best (xs (i + 1))) lk_15 lo_811 (by decide) lf_15.1 lf_15.2.1 lf_15.2.2 (by omega) hi hl hS hP I hce' hse'
  · refine lv_tableIn (off := 776) (tgt := 816) hx hb ll_40 (by decide) (by decide) (by decide) (by decide) ?_
    exact lc_case (n := 3) (pc := 816) hC kk (show ask y_C_gives y_M_gives (lc_as xs i 3) from k_gives (xs (i + 1)) (xs (i + 2)) (xs (i + 3))) lk_16 lo_860 (by decide) lf_16.1 lf_16.2.1 lf_16.2.2 (by omega) hi hl hS hP I hce' hse'
  · refine lv_tableIn (off := 825) (tgt := 865) hx hb ll_40 (by decide) (by decide) (by decide) (by decide) ?_
    exact lc_case (n := 1) (pc := 865) hC kk (show ask y_C_hangs y_M_hangs (lc_as xs i 1) from k_hangs (xs (i + 1))) lk_17 lo_885 (by decide) lf_17.1 lf_17.2.1 lf_17.2.2 (by omega) hi hl hS hP I hce' hse'
  · refine lv_tableIn (off := 850) (tgt := 890) hx hb ll_40 (by decide) (by decide) (by decide) (by decide) ?_
    exact lc_case (n := 0) (pc := 890) hC kk (show ask y_C_swaps y_M_swaps (lc_as xs i 0) from k_swaps) lk_18 lo_898 (by decide) lf_18.1 lf_18.2.1 lf_18.2.2 (by omega) hi hl hS hP I hce' hse'
  · refine lv_tableIn (off := 863) (tgt := 903) hx hb ll_40 (by decide) (by decide) (by decide) (by decide) ?_
    exact lc_case (n := 1) (pc := 903) hC kk (show ask y_C_swap y_M_swap (lc_as xs i 1) from k_swap (xs (i + 1))) lk_19 lo_923 (by decide) lf_19.1 lf_19.2.1 lf_19.2.2 (by omega) hi hl hS hP I hce' hse'
  · refine lv_tableIn (off := 888) (tgt := 928) hx hb ll_40 (by decide) (by decide) (by decide) (by decide) ?_
    exact lc_case (n := 1) (pc := 928) hC kk (show ask y_C_look y_M_look (lc_as xs i 1) from k_look (xs (i + 1))) lk_20 lo_948 (by decide) lf_20.1 lf_20.2.1 lf_20.2.2 (by omega) hi hl hS hP I hce' hse'
  · refine lv_tableIn (off := 913) (tgt := 953) hx hb ll_40 (by decide) (by decide) (by decide) (by decide) ?_
    exact lc_case (n := 1) (pc := 953) hC kk (show ask y_C_alike y_M_alike (lc_as xs i 1) from k_alike (xs (i + 1))) lk_21 lo_973 (by decide) lf_21.1 lf_21.2.1 lf_21.2.2 (by omega) hi hl hS hP I hce' hse'
  · refine lv_tableIn (off := 938) (tgt := 978) hx hb ll_40 (by decide) (by decide) (by decide) (by decide) ?_
    exact lc_case (n := 0) (pc := 978) hC kk (show ask y_C_sorts y_M_sorts (lc_as xs i 0) from k_sorts) lk_22 lo_986 (by decide) lf_22.1 lf_22.2.1 lf_22.2.2 (by omega) hi hl hS hP I hce' hse'
  · refine lv_tableIn (off := 951) (tgt := 991) hx hb ll_40 (by decide) (by decide) (by decide) (by decide) ?_
    exact lc_case (n := 1) (pc := 991) hC kk (show ask y_C_whose y_M_whose (lc_as xs i 1) from k_whose (xs (i + 1))) lk_23 lo_1011 (by decide) lf_23.1 lf_23.2.1 lf_23.2.2 (by omega) hi hl hS hP I hce' hse'
  · refine lv_tableIn (off := 976) (tgt := 1016) hx hb ll_40 (by decide) (by decide) (by decide) (by decide) ?_
    exact lc_case (n := 3) (pc := 1016) hC kk (show ask y_C_see y_M_see (lc_as xs i 3) from k_see (xs (i + 1)) (xs (i + 2)) (xs (i + 3))) lk_24 lo_1060 (by decide) lf_24.1 lf_24.2.1 lf_24.2.2 (by omega) hi hl hS hP I hce' hse'
  · refine lv_tableIn (off := 1025) (tgt := 1065) hx hb ll_40 (by decide) (by decide) (by decide) (by decide) ?_
    exact lc_case (n := 1) (pc := 1065) hC kk (show ask y_C_strike y_M_strike (lc_as xs i 1) from k_strike (xs (i + 1))) lk_25 lo_1085 (by decide) lf_25.1 lf_25.2.1 lf_25.2.2 (by omega) hi hl hS hP I hce' hse'
  · refine lv_tableIn (off := 1050) (tgt := 1090) hx hb ll_40 (by decide) (by decide) (by decide) (by decide) ?_
    exact lc_case (n := 1) (pc := 1090) hC kk (show ask y_C_known y_M_known (lc_as xs i 1) from k_known (xs (i + 1))) lk_26 lo_1110 (by decide) lf_26.1 lf_26.2.1 lf_26.2.2 (by omega) hi hl hS hP I hce' hse'
  · refine lv_tableIn (off := 1075) (tgt := 1115) hx hb ll_40 (by decide) (by decide) (by decide) (by decide) ?_
    exact lc_case (n := 0) (pc := 1115) hC kk (show ask y_C_rules y_M_rules (lc_as xs i 0) from k_rules) lk_27 lo_1123 (by decide) lf_27.1 lf_27.2.1 lf_27.2.2 (by omega) hi hl hS hP I hce' hse'
  · refine lv_tableIn (off := 1088) (tgt := 1128) hx hb ll_40 (by decide) (by decide) (by decide) (by decide) ?_
    exact lc_case (n := 2) (pc := 1128) hC kk (show ask y_C_rests y_M_rests (lc_as xs i 2) from k_rests (xs (i + 1)) (xs (i + 2))) lk_28 lo_1160 (by decide) lf_28.1 lf_28.2.1 lf_28.2.2 (by omega) hi hl hS hP I hce' hse'
  · refine lv_tableIn (off := 1125) (tgt := 1165) hx hb ll_40 (by decide) (by decide) (by decide) (by decide) ?_
    exact lc_case (n := 3) (pc := 1165) hC kk (show ask y_C_rest y_M_rest (lc_as xs i 3) from k_rest (xs (i + 1)) (xs (i + 2)) (xs (i + 3))) lk_29 lo_1209 (by decide) lf_29.1 lf_29.2.1 lf_29.2.2 (by omega) hi hl hS hP I hce' hse'
  · refine lv_tableIn (off := 1174) (tgt := 1214) hx hb ll_40 (by decide) (by decide) (by decide) (by decide) ?_
    exact lc_case (n := 1) (pc := 1214) hC kk (show ask y_C_price y_M_price (lc_as xs i 1) from k_price (xs (i + 1))) lk_30 lo_1234 (by decide) lf_30.1 lf_30.2.1 lf_30.2.2 (by omega) hi hl hS hP I hce' hse'
  · refine lv_tableIn (off := 1199) (tgt := 1239) hx hb ll_40 (by decide) (by decide) (by decide) (by decide) ?_
    exact lc_case (n := 3) (pc := 1239) hC kk (show ask y_C_season y_M_season (lc_as xs i 3) from k_season (xs (i + 1)) (xs (i + 2)) (xs (i + 3))) lk_31 lo_1283 (by decide) lf_31.1 lf_31.2.1 lf_31.2.2 (by omega) hi hl hS hP I hce' hse'
  · refine lv_tableIn (off := 1248) (tgt := 1288) hx hb ll_40 (by decide) (by decide) (by decide) (by decide) ?_
    exact lc_case (n := 3) (pc := 1288) hC kk (show ask y_C_whole y_M_whole (lc_as xs i 3) from k_whole (xs (i + 1)) (xs (i + 2)) (xs (i + 3))) lk_32 lo_1332 (by decide) lf_32.1 lf_32.2.1 lf_32.2.2 (by omega) hi hl hS hP I hce' hse'
  · refine lv_tableIn (off := 1297) (tgt := 1337) hx hb ll_40 (by decide) (by decide) (by decide) (by decide) ?_
    exact lc_case (n := 3) (pc := 1337) hC kk (show ask y_C_chance y_M_chance (lc_as xs i 3) from k_chance (xs (i + 1)) (xs (i + 2)) (xs (i + 3))) lk_33 lo_1381 (by decide) lf_33.1 lf_33.2.1 lf_33.2.2 (by omega) hi hl hS hP I hce' hse'
  · refine lv_tableIn (off := 1346) (tgt := 1386) hx hb ll_40 (by decide) (by decide) (by decide) (by decide) ?_
    exact lc_case (n := 3) (pc := 1386) hC kk (show ask y_C_tried y_M_tried (lc_as xs i 3) from k_tried (xs (i + 1)) (xs (i + 2)) (xs (i + 3))) lk_34 lo_1430 (by decide) lf_34.1 lf_34.2.1 lf_34.2.2 (by omega) hi hl hS hP I hce' hse'
  · refine lv_tableIn (off := 1395) (tgt := 1435) hx hb ll_40 (by decide) (by decide) (by decide) (by decide) ?_
    exact lc_case (n := 0) (pc := 1435) hC kk (show ask y_C_undo y_M_undo (lc_as xs i 0) from k_undo) lk_35 lo_1443 (by decide) lf_35.1 lf_35.2.1 lf_35.2.2 (by omega) hi hl hS hP I hce' hse'
  · refine lv_tableIn (off := 1408) (tgt := 1448) hx hb ll_40 (by decide) (by decide) (by decide) (by decide) ?_
    exact lc_case (n := 0) (pc := 1448) hC kk (show ask y_C_keep y_M_keep (lc_as xs i 0) from k_keep) lk_36 lo_1456 (by decide) lf_36.1 lf_36.2.1 lf_36.2.2 (by omega) hi hl hS hP I hce' hse'
  · refine lv_tableIn (off := 1421) (tgt := 1461) hx hb ll_40 (by decide) (by decide) (by decide) (by decide) ?_
    exact lc_case (n := 0) (pc := 1461) hC kk (show ask y_C_back y_M_back (lc_as xs i 0) from k_back) lk_37 lo_1469 (by decide) lf_37.1 lf_37.2.1 lf_37.2.2 (by omega) hi hl hS hP I hce' hse'
  · refine lv_tableIn (off := 1434) (tgt := 1474) hx hb ll_40 (by decide) (by decide) (by decide) (by decide) ?_
    exact lc_case (n := 1) (pc := 1474) hC kk (show ask y_C_count y_M_count (lc_as xs i 1) from k_count (xs (i + 1))) lk_38 lo_1494 (by decide) lf_38.1 lf_38.2.1 lf_38.2.2 (by omega) hi hl hS hP I hce' hse'
  · refine lv_tableOut (tgt := 1499) hx hb ll_40 (Or.inr ?_) (by decide) (W.widen (k := cells + 1) (n := slots + 6) (by omega) (by omega) (kk mm fo H locs ls I hP hS hl))
    rw [nI_toInt (by omega)]
    omega
theorem lc_loop (hC : lc_C p l s mi c b L xs base sa sb ao dC dI dA) (hr : meth.sig.returnType = ret) (hlocks : meth.locks = false) : ∀ (n t : Nat), 6 * t ≤ L + 5 → L + 6 ≤ 6 * t + 6 * n → ∀ (mm : am_M) (fo : Nat → Int64) (H : Heap) (locs : List Loc) (ls : Array Slot), Inv mm → va_P (dC, dI) vwCl (lc_w dA base mm ao fo) H → va_S (js_A base) s.heap H locs → lv_has ls 7 (lc_v b base ao (6 * t)) → W p l e room_1 s mi #[Value.ref b] below meth c H locs (157 + t) (13399 + 6 * t) (lw_Z below #[Value.ref b] s) (F0 mi 23 ls []) := by
  obtain ⟨hx, hb, hml, hown, hts, hX, hbl, hK, hNk, hF, hbase, hao, hL, hst⟩ := id hC
  have hbA : ¬ js_A base b := fun z => by have : base ≤ b := z; omega
  intro n
  induction n with
  | zero => intro t h1 h2; omega
  | succ n ih =>
    intro t h1 h2 mm fo H locs ls I hP hS hl
    refine lv_iload hx hb ll_23 (lv_at hl 4 rfl) ?_
    refine lv_aload_n hx hb ll_25 rfl (lv_at hl 0 rfl) ?_
    refine va_slen hx hb hX hbl hbA hS ll_26 ?_
    refine lv_bipush (v := 6) hx hb ll_27 (by decide) ?_
    refine lv_isub hx hb ll_29 ?_
    refine lv_icmp_gt (tgt := 1505) hx hb ll_30 (by decide) (fun _ => ?_) (fun hgt => ?_)
    · refine lv_iconst (v := 1) hx hb ll_1505 (by decide) ?_
      refine va_forget (fun z hz => by have : base ≤ z.base := hS.2.2 z hz; omega) ?_
      refine W.widen (k := 1183) (n := 21603) (by omega) (by omega) ?_
      exact lw_ret hx hb hr hlocks ll_1506
    · have hi : 6 * t + 6 ≤ L := Decidable.not_not.mp (fun h => hgt ((lc_gt hL (by omega)).mpr h))
      refine lv_aload_n hx hb ll_33 rfl (lv_at hl 0 rfl) ?_
      refine lv_iload hx hb ll_34 (lv_at hl 4 rfl) ?_
      refine va_sld hx hb hX hbl hbA hS (vp_in_nI (by omega) (by omega)) ll_36 ?_
      rw [nI_clamp (by omega)]
      refine lv_bipush (v := 63) hx hb ll_37 (by decide) ?_
      refine lv_iand hx hb ll_39 ?_
      obtain ⟨k, hk, ek⟩ := lc_and (xs (6 * t))
      rw [ek]
      refine lc_turn hk hC (fun mm' fo' H1 locs1 ls1 I1 hP1 hS1 hl1 => ?_) hi hl hS hP I (by omega) (by omega)
      refine lv_iinc (k := 4) (v := nI (6 * (t + 1))) (lv' := [(4, .int (nI (6 * (t + 1)))), (0, .ref b), (1, .ref (base + 0)), (2, .ref (base + 107)), (3, .ref ao)]) hx hb ll_1499 hl1 rfl (by rw [show Int32.ofInt 6 = nI 6 from rfl, nI_add]; rfl) (by decide) rfl (fun ls2 hl2 => ?_)
      refine lv_goto (tgt := 23) hx hb ll_1502 (by decide) ?_
      have h := ih (t + 1) (by omega) (by omega) mm' fo' H1 locs1 ls2 I1 hP1 hS1 (lv_sub hl2 [1, 2, 3, 4, 0] rfl)
      rw [show 157 + (t + 1) = 157 + t + 1 by omega, show 13399 + 6 * (t + 1) = 13399 + 6 * t + 6 by omega] at h
      exact h
end LCD
