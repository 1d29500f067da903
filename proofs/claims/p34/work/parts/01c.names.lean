theorem dX0_init_0 : decode cX0_init 0 = .ok (.aload_n 0, 1) := by decide +kernel
theorem dX0_init_1 : decode cX0_init 1 = .ok (.invokespecial 3, 3) := by decide +kernel
theorem dX0_init_4 : decode cX0_init 4 = .ok (.aload_n 0, 1) := by decide +kernel
theorem dX0_init_5 : decode cX0_init 5 = .ok (.sipush 256, 3) := by decide +kernel
theorem dX0_init_8 : decode cX0_init 8 = .ok (.newarray .int, 2) := by decide +kernel
theorem dX0_init_10 : decode cX0_init 10 = .ok (.putfield 9, 3) := by decide +kernel
theorem dX0_init_13 : decode cX0_init 13 = .ok (.aload_n 0, 1) := by decide +kernel
theorem dX0_init_14 : decode cX0_init 14 = .ok (.aload_n 1, 1) := by decide +kernel
theorem dX0_init_15 : decode cX0_init 15 = .ok (.putfield 15, 3) := by decide +kernel
theorem dX0_init_18 : decode cX0_init 18 = .ok (.return_, 1) := by decide +kernel
set_option maxRecDepth 20000 in
theorem ggX0_stuckToday_X0_stuck : GoodIn wsX0_stuckToday wsX0_stuck := goodIn_r _ [6, 1, 7, 8, 9, 10, 11, 12, 13, 14, 15, 16, 17, 18, 19, 20, 21, 22, 23, 24, 25, 26, 27, 28, 29, 30, 31, 32, 33, 34, 35, 36, 37, 38, 39, 40, 41, 42, 43, 44, 45, 46, 47, 48, 49, 50] (by decide +kernel) (by decide +kernel)
set_option maxRecDepth 20000 in
theorem gX0_stuckToday_X0_stuck : GoodIn wsX0_stuckToday (wsV RX0 28 RX0 yX0_stuck wsX0_stuck) := goodIn_app (goodIn_of _ (by decide +kernel)) ggX0_stuckToday_X0_stuck
theorem dX0_stuckToday_0 : decode cX0_stuckToday 0 = .ok (.aload_n 0, 1) := by decide +kernel
theorem dX0_stuckToday_1 : decode cX0_stuckToday 1 = .ok (.aload_n 0, 1) := by decide +kernel
theorem dX0_stuckToday_2 : decode cX0_stuckToday 2 = .ok (.getfield 15, 3) := by decide +kernel
theorem dX0_stuckToday_5 : decode cX0_stuckToday 5 = .ok (.getfield 19, 3) := by decide +kernel
theorem dX0_stuckToday_8 : decode cX0_stuckToday 8 = .ok (.aload_n 0, 1) := by decide +kernel
theorem dX0_stuckToday_9 : decode cX0_stuckToday 9 = .ok (.getfield 15, 3) := by decide +kernel
theorem dX0_stuckToday_12 : decode cX0_stuckToday 12 = .ok (.getfield 25, 3) := by decide +kernel
theorem dX0_stuckToday_15 : decode cX0_stuckToday 15 = .ok (.invokevirtual 28, 3) := by decide +kernel
theorem dX0_stuckToday_18 : decode cX0_stuckToday 18 = .ok (.ireturn, 1) := by decide +kernel
set_option maxRecDepth 20000 in
theorem ggX0_stuckForEver_X0_stuck : GoodIn wsX0_stuckForEver wsX0_stuck := goodIn_r _ [5, 6, 7, 8, 9, 10, 11, 12, 13, 14, 15, 16, 17, 18, 19, 20, 21, 22, 23, 24, 25, 26, 27, 28, 29, 30, 31, 32, 33, 34, 35, 36, 37, 38, 39, 40, 41, 42, 43, 44, 45, 46, 47, 48, 49, 50] (by decide +kernel) (by decide +kernel)
set_option maxRecDepth 20000 in
theorem gX0_stuckForEver_X0_stuck : GoodIn wsX0_stuckForEver (wsV RX0 28 RX0 yX0_stuck wsX0_stuck) := goodIn_app (goodIn_of _ (by decide +kernel)) ggX0_stuckForEver_X0_stuck
theorem dX0_stuckForEver_0 : decode cX0_stuckForEver 0 = .ok (.aload_n 0, 1) := by decide +kernel
theorem dX0_stuckForEver_1 : decode cX0_stuckForEver 1 = .ok (.bipush 99, 2) := by decide +kernel
theorem dX0_stuckForEver_3 : decode cX0_stuckForEver 3 = .ok (.iload_n 1, 1) := by decide +kernel
theorem dX0_stuckForEver_4 : decode cX0_stuckForEver 4 = .ok (.invokevirtual 28, 3) := by decide +kernel
theorem dX0_stuckForEver_7 : decode cX0_stuckForEver 7 = .ok (.ireturn, 1) := by decide +kernel
set_option maxRecDepth 20000 in
theorem ggX0_stuck_X6_mayBe : GoodIn wsX0_stuck wsX6_mayBe := goodIn_r _ [6, 7, 8, 9, 10, 11, 12, 5, 13, 14, 15, 16, 17, 18, 19, 20, 21, 22, 23, 24, 25, 26, 27, 28, 29, 30, 31, 34, 35, 36, 37, 38, 39, 40, 41, 42, 43, 44, 45] (by decide +kernel) (by decide +kernel)
set_option maxRecDepth 20000 in
theorem gX0_stuck_X6_mayBe : GoodIn wsX0_stuck (wsV RX0 35 RX6 yX6_mayBe wsX6_mayBe) := goodIn_app (goodIn_of _ (by decide +kernel)) ggX0_stuck_X6_mayBe
set_option maxRecDepth 20000 in
theorem ggX0_stuck_X7_bit : GoodIn wsX0_stuck wsX7_bit := goodIn_r _ [31] (by decide +kernel) (by decide +kernel)
set_option maxRecDepth 20000 in
theorem gX0_stuck_X7_bit_n39 : GoodIn wsX0_stuck (wsX7_bit) := ggX0_stuck_X7_bit
theorem dX0_stuck_0 : decode cX0_stuck 0 = .ok (.aload_n 0, 1) := by decide +kernel
theorem dX0_stuck_1 : decode cX0_stuck 1 = .ok (.getfield 15, 3) := by decide +kernel
theorem dX0_stuck_4 : decode cX0_stuck 4 = .ok (.getfield 32, 3) := by decide +kernel
theorem dX0_stuck_7 : decode cX0_stuck 7 = .ok (.istore_n 3, 1) := by decide +kernel
theorem dX0_stuck_8 : decode cX0_stuck 8 = .ok (.iconst 0, 1) := by decide +kernel
theorem dX0_stuck_9 : decode cX0_stuck 9 = .ok (.istore 4, 2) := by decide +kernel
theorem dX0_stuck_11 : decode cX0_stuck 11 = .ok (.iconst 0, 1) := by decide +kernel
theorem dX0_stuck_12 : decode cX0_stuck 12 = .ok (.istore 5, 2) := by decide +kernel
theorem dX0_stuck_14 : decode cX0_stuck 14 = .ok (.iload 5, 2) := by decide +kernel
theorem dX0_stuck_16 : decode cX0_stuck 16 = .ok (.bipush 8, 2) := by decide +kernel
theorem dX0_stuck_18 : decode cX0_stuck 18 = .ok (.if_icmp .ge 58, 3) := by decide +kernel
theorem dX0_stuck_21 : decode cX0_stuck 21 = .ok (.iload_n 3, 1) := by decide +kernel
theorem dX0_stuck_22 : decode cX0_stuck 22 = .ok (.iload 4, 2) := by decide +kernel
theorem dX0_stuck_24 : decode cX0_stuck 24 = .ok (.if_icmp .eq 52, 3) := by decide +kernel
theorem dX0_stuck_27 : decode cX0_stuck 27 = .ok (.iload_n 3, 1) := by decide +kernel
theorem dX0_stuck_28 : decode cX0_stuck 28 = .ok (.istore 4, 2) := by decide +kernel
theorem dX0_stuck_30 : decode cX0_stuck 30 = .ok (.bipush 7, 2) := by decide +kernel
theorem dX0_stuck_32 : decode cX0_stuck 32 = .ok (.istore 6, 2) := by decide +kernel
theorem dX0_stuck_34 : decode cX0_stuck 34 = .ok (.iload 6, 2) := by decide +kernel
theorem dX0_stuck_36 : decode cX0_stuck 36 = .ok (.ifCond .lt 34, 3) := by decide +kernel
theorem dX0_stuck_39 : decode cX0_stuck 39 = .ok (.aload_n 0, 1) := by decide +kernel
theorem dX0_stuck_40 : decode cX0_stuck 40 = .ok (.getfield 15, 3) := by decide +kernel
theorem dX0_stuck_43 : decode cX0_stuck 43 = .ok (.iload 6, 2) := by decide +kernel
theorem dX0_stuck_45 : decode cX0_stuck 45 = .ok (.iload_n 3, 1) := by decide +kernel
theorem dX0_stuck_46 : decode cX0_stuck 46 = .ok (.iload_n 1, 1) := by decide +kernel
theorem dX0_stuck_47 : decode cX0_stuck 47 = .ok (.iload_n 2, 1) := by decide +kernel
theorem dX0_stuck_48 : decode cX0_stuck 48 = .ok (.invokevirtual 35, 3) := by decide +kernel
theorem dX0_stuck_51 : decode cX0_stuck 51 = .ok (.ifCond .eq 13, 3) := by decide +kernel
theorem dX0_stuck_54 : decode cX0_stuck 54 = .ok (.iload_n 3, 1) := by decide +kernel
theorem dX0_stuck_55 : decode cX0_stuck 55 = .ok (.iload 6, 2) := by decide +kernel
theorem dX0_stuck_57 : decode cX0_stuck 57 = .ok (.invokestatic 39, 3) := by decide +kernel
theorem dX0_stuck_60 : decode cX0_stuck 60 = .ok (.iconst (-1), 1) := by decide +kernel
theorem dX0_stuck_61 : decode cX0_stuck 61 = .ok (.ixor, 1) := by decide +kernel
theorem dX0_stuck_62 : decode cX0_stuck 62 = .ok (.iand, 1) := by decide +kernel
theorem dX0_stuck_63 : decode cX0_stuck 63 = .ok (.istore_n 3, 1) := by decide +kernel
theorem dX0_stuck_64 : decode cX0_stuck 64 = .ok (.iinc 6 (-1), 3) := by decide +kernel
theorem dX0_stuck_67 : decode cX0_stuck 67 = .ok (.goto (-33), 3) := by decide +kernel
theorem dX0_stuck_70 : decode cX0_stuck 70 = .ok (.iinc 5 1, 3) := by decide +kernel
theorem dX0_stuck_73 : decode cX0_stuck 73 = .ok (.goto (-59), 3) := by decide +kernel
theorem dX0_stuck_76 : decode cX0_stuck 76 = .ok (.iload_n 3, 1) := by decide +kernel
theorem dX0_stuck_77 : decode cX0_stuck 77 = .ok (.ireturn, 1) := by decide +kernel
set_option maxRecDepth 20000 in
theorem ggX0_withAhead_X7_has : GoodIn wsX0_withAhead wsX7_has := goodIn_r _ [4] (by decide +kernel) (by decide +kernel)
set_option maxRecDepth 20000 in
theorem gX0_withAhead_X7_has_n43 : GoodIn wsX0_withAhead (wsX7_has) := ggX0_withAhead_X7_has
set_option maxRecDepth 20000 in
theorem ggX0_withAhead_X6_inTheWay : GoodIn wsX0_withAhead wsX6_inTheWay := goodIn_r _ [9, 10, 11, 12, 13, 14, 15, 8, 16, 17, 2, 3, 4, 18, 19, 22, 23, 24, 25, 26, 27, 28, 29, 30, 31, 32, 33] (by decide +kernel) (by decide +kernel)
set_option maxRecDepth 20000 in
theorem gX0_withAhead_X6_inTheWay : GoodIn wsX0_withAhead (wsV RX0 47 RX6 yX6_inTheWay wsX6_inTheWay) := goodIn_app (goodIn_of _ (by decide +kernel)) ggX0_withAhead_X6_inTheWay
theorem dX0_withAhead_0 : decode cX0_withAhead 0 = .ok (.iload_n 1, 1) := by decide +kernel
theorem dX0_withAhead_1 : decode cX0_withAhead 1 = .ok (.istore_n 2, 1) := by decide +kernel
theorem dX0_withAhead_2 : decode cX0_withAhead 2 = .ok (.iconst 0, 1) := by decide +kernel
theorem dX0_withAhead_3 : decode cX0_withAhead 3 = .ok (.istore_n 3, 1) := by decide +kernel
theorem dX0_withAhead_4 : decode cX0_withAhead 4 = .ok (.iconst 0, 1) := by decide +kernel
theorem dX0_withAhead_5 : decode cX0_withAhead 5 = .ok (.istore 4, 2) := by decide +kernel
theorem dX0_withAhead_7 : decode cX0_withAhead 7 = .ok (.iload 4, 2) := by decide +kernel
theorem dX0_withAhead_9 : decode cX0_withAhead 9 = .ok (.bipush 8, 2) := by decide +kernel
theorem dX0_withAhead_11 : decode cX0_withAhead 11 = .ok (.if_icmp .ge 60, 3) := by decide +kernel
theorem dX0_withAhead_14 : decode cX0_withAhead 14 = .ok (.iload_n 2, 1) := by decide +kernel
theorem dX0_withAhead_15 : decode cX0_withAhead 15 = .ok (.iload_n 3, 1) := by decide +kernel
theorem dX0_withAhead_16 : decode cX0_withAhead 16 = .ok (.if_icmp .eq 55, 3) := by decide +kernel
theorem dX0_withAhead_19 : decode cX0_withAhead 19 = .ok (.iload_n 2, 1) := by decide +kernel
theorem dX0_withAhead_20 : decode cX0_withAhead 20 = .ok (.istore_n 3, 1) := by decide +kernel
theorem dX0_withAhead_21 : decode cX0_withAhead 21 = .ok (.iconst 0, 1) := by decide +kernel
theorem dX0_withAhead_22 : decode cX0_withAhead 22 = .ok (.istore 5, 2) := by decide +kernel
theorem dX0_withAhead_24 : decode cX0_withAhead 24 = .ok (.iload 5, 2) := by decide +kernel
theorem dX0_withAhead_26 : decode cX0_withAhead 26 = .ok (.bipush 8, 2) := by decide +kernel
theorem dX0_withAhead_28 : decode cX0_withAhead 28 = .ok (.if_icmp .ge 37, 3) := by decide +kernel
theorem dX0_withAhead_31 : decode cX0_withAhead 31 = .ok (.iload_n 2, 1) := by decide +kernel
theorem dX0_withAhead_32 : decode cX0_withAhead 32 = .ok (.iload 5, 2) := by decide +kernel
theorem dX0_withAhead_34 : decode cX0_withAhead 34 = .ok (.invokestatic 43, 3) := by decide +kernel
theorem dX0_withAhead_37 : decode cX0_withAhead 37 = .ok (.ifCond .eq 22, 3) := by decide +kernel
theorem dX0_withAhead_40 : decode cX0_withAhead 40 = .ok (.iload_n 2, 1) := by decide +kernel
theorem dX0_withAhead_41 : decode cX0_withAhead 41 = .ok (.aload_n 0, 1) := by decide +kernel
theorem dX0_withAhead_42 : decode cX0_withAhead 42 = .ok (.getfield 15, 3) := by decide +kernel
theorem dX0_withAhead_45 : decode cX0_withAhead 45 = .ok (.iload 5, 2) := by decide +kernel
theorem dX0_withAhead_47 : decode cX0_withAhead 47 = .ok (.aload_n 0, 1) := by decide +kernel
theorem dX0_withAhead_48 : decode cX0_withAhead 48 = .ok (.getfield 15, 3) := by decide +kernel
theorem dX0_withAhead_51 : decode cX0_withAhead 51 = .ok (.getfield 32, 3) := by decide +kernel
theorem dX0_withAhead_54 : decode cX0_withAhead 54 = .ok (.invokevirtual 47, 3) := by decide +kernel
theorem dX0_withAhead_57 : decode cX0_withAhead 57 = .ok (.ior, 1) := by decide +kernel
theorem dX0_withAhead_58 : decode cX0_withAhead 58 = .ok (.istore_n 2, 1) := by decide +kernel
theorem dX0_withAhead_59 : decode cX0_withAhead 59 = .ok (.iinc 5 1, 3) := by decide +kernel
theorem dX0_withAhead_62 : decode cX0_withAhead 62 = .ok (.goto (-38), 3) := by decide +kernel
theorem dX0_withAhead_65 : decode cX0_withAhead 65 = .ok (.iinc 4 1, 3) := by decide +kernel
theorem dX0_withAhead_68 : decode cX0_withAhead 68 = .ok (.goto (-61), 3) := by decide +kernel
theorem dX0_withAhead_71 : decode cX0_withAhead 71 = .ok (.iload_n 2, 1) := by decide +kernel
theorem dX0_withAhead_72 : decode cX0_withAhead 72 = .ok (.ireturn, 1) := by decide +kernel
set_option maxRecDepth 20000 in
theorem ggX0_withAbove_X7_has : GoodIn wsX0_withAbove wsX7_has := goodIn_r _ [4] (by decide +kernel) (by decide +kernel)
set_option maxRecDepth 20000 in
theorem gX0_withAbove_X7_has_n43 : GoodIn wsX0_withAbove (wsX7_has) := ggX0_withAbove_X7_has
set_option maxRecDepth 20000 in
theorem ggX0_withAbove_X6_above : GoodIn wsX0_withAbove wsX6_above := goodIn_r _ [9, 10, 11, 2, 3, 4, 12, 13, 16, 17, 18, 19, 20, 21, 22, 23, 24, 25, 26, 27] (by decide +kernel) (by decide +kernel)
set_option maxRecDepth 20000 in
theorem gX0_withAbove_X6_above : GoodIn wsX0_withAbove (wsV RX0 50 RX6 yX6_above wsX6_above) := goodIn_app (goodIn_of _ (by decide +kernel)) ggX0_withAbove_X6_above
theorem dX0_withAbove_0 : decode cX0_withAbove 0 = .ok (.iload_n 1, 1) := by decide +kernel
theorem dX0_withAbove_1 : decode cX0_withAbove 1 = .ok (.istore_n 2, 1) := by decide +kernel
theorem dX0_withAbove_2 : decode cX0_withAbove 2 = .ok (.iconst 0, 1) := by decide +kernel
theorem dX0_withAbove_3 : decode cX0_withAbove 3 = .ok (.istore_n 3, 1) := by decide +kernel
theorem dX0_withAbove_4 : decode cX0_withAbove 4 = .ok (.iload_n 3, 1) := by decide +kernel
theorem dX0_withAbove_5 : decode cX0_withAbove 5 = .ok (.bipush 8, 2) := by decide +kernel
theorem dX0_withAbove_7 : decode cX0_withAbove 7 = .ok (.if_icmp .ge 28, 3) := by decide +kernel
theorem dX0_withAbove_10 : decode cX0_withAbove 10 = .ok (.iload_n 1, 1) := by decide +kernel
theorem dX0_withAbove_11 : decode cX0_withAbove 11 = .ok (.iload_n 3, 1) := by decide +kernel
theorem dX0_withAbove_12 : decode cX0_withAbove 12 = .ok (.invokestatic 43, 3) := by decide +kernel
theorem dX0_withAbove_15 : decode cX0_withAbove 15 = .ok (.ifCond .eq 14, 3) := by decide +kernel
theorem dX0_withAbove_18 : decode cX0_withAbove 18 = .ok (.iload_n 2, 1) := by decide +kernel
theorem dX0_withAbove_19 : decode cX0_withAbove 19 = .ok (.aload_n 0, 1) := by decide +kernel
theorem dX0_withAbove_20 : decode cX0_withAbove 20 = .ok (.getfield 15, 3) := by decide +kernel
theorem dX0_withAbove_23 : decode cX0_withAbove 23 = .ok (.iload_n 3, 1) := by decide +kernel
theorem dX0_withAbove_24 : decode cX0_withAbove 24 = .ok (.invokevirtual 50, 3) := by decide +kernel
theorem dX0_withAbove_27 : decode cX0_withAbove 27 = .ok (.ior, 1) := by decide +kernel
theorem dX0_withAbove_28 : decode cX0_withAbove 28 = .ok (.istore_n 2, 1) := by decide +kernel
theorem dX0_withAbove_29 : decode cX0_withAbove 29 = .ok (.iinc 3 1, 3) := by decide +kernel
theorem dX0_withAbove_32 : decode cX0_withAbove 32 = .ok (.goto (-28), 3) := by decide +kernel
theorem dX0_withAbove_35 : decode cX0_withAbove 35 = .ok (.iload_n 2, 1) := by decide +kernel
theorem dX0_withAbove_36 : decode cX0_withAbove 36 = .ok (.ireturn, 1) := by decide +kernel
set_option maxRecDepth 20000 in
theorem ggX0_inTurn_X0_lowestThatMay : GoodIn wsX0_inTurn wsX0_lowestThatMay := goodIn_r _ [6, 1, 7, 8, 9, 10, 11, 12, 13, 14, 15, 16, 17, 18, 19, 20, 21, 22, 23, 24, 25, 26, 27, 28, 29, 30, 31, 32, 33, 34, 35, 36, 37, 38, 39, 40, 41, 42, 43, 44, 45, 46, 47, 48, 49, 50, 51, 52, 53, 54, 55, 56] (by decide +kernel) (by decide +kernel)
set_option maxRecDepth 20000 in
theorem gX0_inTurn_X0_lowestThatMay : GoodIn wsX0_inTurn (wsV RX0 53 RX0 yX0_lowestThatMay wsX0_lowestThatMay) := goodIn_app (goodIn_of _ (by decide +kernel)) ggX0_inTurn_X0_lowestThatMay
set_option maxRecDepth 20000 in
theorem ggX0_inTurn_X7_bit : GoodIn wsX0_inTurn wsX7_bit := goodIn_r _ [42] (by decide +kernel) (by decide +kernel)
set_option maxRecDepth 20000 in
theorem gX0_inTurn_X7_bit_n39 : GoodIn wsX0_inTurn (wsX7_bit) := ggX0_inTurn_X7_bit
theorem dX0_inTurn_0 : decode cX0_inTurn 0 = .ok (.aload_n 0, 1) := by decide +kernel
theorem dX0_inTurn_1 : decode cX0_inTurn 1 = .ok (.getfield 15, 3) := by decide +kernel
theorem dX0_inTurn_4 : decode cX0_inTurn 4 = .ok (.getfield 32, 3) := by decide +kernel
theorem dX0_inTurn_7 : decode cX0_inTurn 7 = .ok (.istore_n 3, 1) := by decide +kernel
theorem dX0_inTurn_8 : decode cX0_inTurn 8 = .ok (.iconst 0, 1) := by decide +kernel
theorem dX0_inTurn_9 : decode cX0_inTurn 9 = .ok (.istore 4, 2) := by decide +kernel
theorem dX0_inTurn_11 : decode cX0_inTurn 11 = .ok (.iload 4, 2) := by decide +kernel
theorem dX0_inTurn_13 : decode cX0_inTurn 13 = .ok (.bipush 8, 2) := by decide +kernel
theorem dX0_inTurn_15 : decode cX0_inTurn 15 = .ok (.if_icmp .ge 45, 3) := by decide +kernel
theorem dX0_inTurn_18 : decode cX0_inTurn 18 = .ok (.aload_n 0, 1) := by decide +kernel
theorem dX0_inTurn_19 : decode cX0_inTurn 19 = .ok (.iload_n 1, 1) := by decide +kernel
theorem dX0_inTurn_20 : decode cX0_inTurn 20 = .ok (.iload_n 3, 1) := by decide +kernel
theorem dX0_inTurn_21 : decode cX0_inTurn 21 = .ok (.iand, 1) := by decide +kernel
theorem dX0_inTurn_22 : decode cX0_inTurn 22 = .ok (.iload_n 3, 1) := by decide +kernel
theorem dX0_inTurn_23 : decode cX0_inTurn 23 = .ok (.invokevirtual 53, 3) := by decide +kernel
theorem dX0_inTurn_26 : decode cX0_inTurn 26 = .ok (.istore 5, 2) := by decide +kernel
theorem dX0_inTurn_28 : decode cX0_inTurn 28 = .ok (.iload 5, 2) := by decide +kernel
theorem dX0_inTurn_30 : decode cX0_inTurn 30 = .ok (.bipush (-4), 2) := by decide +kernel
theorem dX0_inTurn_32 : decode cX0_inTurn 32 = .ok (.if_icmp .eq 9, 3) := by decide +kernel
theorem dX0_inTurn_35 : decode cX0_inTurn 35 = .ok (.iload 4, 2) := by decide +kernel
theorem dX0_inTurn_37 : decode cX0_inTurn 37 = .ok (.iload_n 2, 1) := by decide +kernel
theorem dX0_inTurn_38 : decode cX0_inTurn 38 = .ok (.if_icmp .ne 6, 3) := by decide +kernel
theorem dX0_inTurn_41 : decode cX0_inTurn 41 = .ok (.iload 5, 2) := by decide +kernel
theorem dX0_inTurn_43 : decode cX0_inTurn 43 = .ok (.ireturn, 1) := by decide +kernel
theorem dX0_inTurn_44 : decode cX0_inTurn 44 = .ok (.iload_n 3, 1) := by decide +kernel
theorem dX0_inTurn_45 : decode cX0_inTurn 45 = .ok (.iload 5, 2) := by decide +kernel
theorem dX0_inTurn_47 : decode cX0_inTurn 47 = .ok (.invokestatic 39, 3) := by decide +kernel
theorem dX0_inTurn_50 : decode cX0_inTurn 50 = .ok (.iconst (-1), 1) := by decide +kernel
theorem dX0_inTurn_51 : decode cX0_inTurn 51 = .ok (.ixor, 1) := by decide +kernel
theorem dX0_inTurn_52 : decode cX0_inTurn 52 = .ok (.iand, 1) := by decide +kernel
theorem dX0_inTurn_53 : decode cX0_inTurn 53 = .ok (.istore_n 3, 1) := by decide +kernel
theorem dX0_inTurn_54 : decode cX0_inTurn 54 = .ok (.iinc 4 1, 3) := by decide +kernel
theorem dX0_inTurn_57 : decode cX0_inTurn 57 = .ok (.goto (-46), 3) := by decide +kernel
theorem dX0_inTurn_60 : decode cX0_inTurn 60 = .ok (.bipush (-4), 2) := by decide +kernel
theorem dX0_inTurn_62 : decode cX0_inTurn 62 = .ok (.ireturn, 1) := by decide +kernel
set_option maxRecDepth 20000 in
theorem ggX0_lowestThatMay_X7_has : GoodIn wsX0_lowestThatMay wsX7_has := goodIn_r _ [4] (by decide +kernel) (by decide +kernel)
set_option maxRecDepth 20000 in
theorem gX0_lowestThatMay_X7_has_n43 : GoodIn wsX0_lowestThatMay (wsX7_has) := ggX0_lowestThatMay_X7_has
set_option maxRecDepth 20000 in
theorem ggX0_lowestThatMay_X6_mayToday : GoodIn wsX0_lowestThatMay wsX6_mayToday := goodIn_r _ [9, 10, 11, 12, 13, 14, 8, 15, 16, 17, 18, 19, 20, 21, 22, 23, 2, 3, 4, 24, 25, 26, 27, 28, 29, 30, 31, 32, 33, 34, 35, 36, 37, 40, 41, 42, 43, 44, 45, 46, 47, 48, 49, 50, 51] (by decide +kernel) (by decide +kernel)
set_option maxRecDepth 20000 in
theorem gX0_lowestThatMay_X6_mayToday : GoodIn wsX0_lowestThatMay (wsV RX0 56 RX6 yX6_mayToday wsX6_mayToday) := goodIn_app (goodIn_of _ (by decide +kernel)) ggX0_lowestThatMay_X6_mayToday
theorem dX0_lowestThatMay_0 : decode cX0_lowestThatMay 0 = .ok (.iconst 0, 1) := by decide +kernel
theorem dX0_lowestThatMay_1 : decode cX0_lowestThatMay 1 = .ok (.istore_n 3, 1) := by decide +kernel
theorem dX0_lowestThatMay_2 : decode cX0_lowestThatMay 2 = .ok (.iload_n 3, 1) := by decide +kernel
theorem dX0_lowestThatMay_3 : decode cX0_lowestThatMay 3 = .ok (.bipush 8, 2) := by decide +kernel
theorem dX0_lowestThatMay_5 : decode cX0_lowestThatMay 5 = .ok (.if_icmp .ge 31, 3) := by decide +kernel
theorem dX0_lowestThatMay_8 : decode cX0_lowestThatMay 8 = .ok (.iload_n 1, 1) := by decide +kernel
theorem dX0_lowestThatMay_9 : decode cX0_lowestThatMay 9 = .ok (.iload_n 3, 1) := by decide +kernel
theorem dX0_lowestThatMay_10 : decode cX0_lowestThatMay 10 = .ok (.invokestatic 43, 3) := by decide +kernel
theorem dX0_lowestThatMay_13 : decode cX0_lowestThatMay 13 = .ok (.ifCond .eq 17, 3) := by decide +kernel
theorem dX0_lowestThatMay_16 : decode cX0_lowestThatMay 16 = .ok (.aload_n 0, 1) := by decide +kernel
theorem dX0_lowestThatMay_17 : decode cX0_lowestThatMay 17 = .ok (.getfield 15, 3) := by decide +kernel
theorem dX0_lowestThatMay_20 : decode cX0_lowestThatMay 20 = .ok (.iload_n 3, 1) := by decide +kernel
theorem dX0_lowestThatMay_21 : decode cX0_lowestThatMay 21 = .ok (.iload_n 2, 1) := by decide +kernel
theorem dX0_lowestThatMay_22 : decode cX0_lowestThatMay 22 = .ok (.invokevirtual 56, 3) := by decide +kernel
theorem dX0_lowestThatMay_25 : decode cX0_lowestThatMay 25 = .ok (.ifCond .eq 5, 3) := by decide +kernel
theorem dX0_lowestThatMay_28 : decode cX0_lowestThatMay 28 = .ok (.iload_n 3, 1) := by decide +kernel
theorem dX0_lowestThatMay_29 : decode cX0_lowestThatMay 29 = .ok (.ireturn, 1) := by decide +kernel
theorem dX0_lowestThatMay_30 : decode cX0_lowestThatMay 30 = .ok (.iinc 3 1, 3) := by decide +kernel
theorem dX0_lowestThatMay_33 : decode cX0_lowestThatMay 33 = .ok (.goto (-31), 3) := by decide +kernel
theorem dX0_lowestThatMay_36 : decode cX0_lowestThatMay 36 = .ok (.bipush (-4), 2) := by decide +kernel
theorem dX0_lowestThatMay_38 : decode cX0_lowestThatMay 38 = .ok (.ireturn, 1) := by decide +kernel
set_option maxRecDepth 20000 in
theorem ggX0_shortest_J6_bitCount_0f7a4 : GoodIn wsX0_shortest wsJ6_bitCount_0f7a4 := goodIn_r _ [5, 6, 7, 8] (by decide +kernel) (by decide +kernel)
set_option maxRecDepth 20000 in
theorem gX0_shortest_J6_bitCount_0f7a4 : GoodIn wsX0_shortest (va_wsS RX0 59 yJ6_bitCount_0f7a4 wsJ6_bitCount_0f7a4) := goodIn_app (goodIn_of _ (by decide +kernel)) ggX0_shortest_J6_bitCount_0f7a4
set_option maxRecDepth 20000 in
theorem ggX0_shortest_X7_isWithin : GoodIn wsX0_shortest wsX7_isWithin := goodIn_r _ [11] (by decide +kernel) (by decide +kernel)
set_option maxRecDepth 20000 in
theorem gX0_shortest_X7_isWithin_n64 : GoodIn wsX0_shortest (wsX7_isWithin) := ggX0_shortest_X7_isWithin
set_option maxRecDepth 20000 in
theorem ggX0_shortest_X7_ropeOf : GoodIn wsX0_shortest wsX7_ropeOf := goodIn_r _ [13, 14, 15, 16, 17, 18, 19, 10, 20] (by decide +kernel) (by decide +kernel)
set_option maxRecDepth 20000 in
theorem gX0_shortest_X7_ropeOf_n67 : GoodIn wsX0_shortest (wsX7_ropeOf) := ggX0_shortest_X7_ropeOf
theorem dX0_shortest_0 : decode cX0_shortest 0 = .ok (.iconst 0, 1) := by decide +kernel
theorem dX0_shortest_1 : decode cX0_shortest 1 = .ok (.istore_n 3, 1) := by decide +kernel
theorem dX0_shortest_2 : decode cX0_shortest 2 = .ok (.iconst 1, 1) := by decide +kernel
theorem dX0_shortest_3 : decode cX0_shortest 3 = .ok (.istore 4, 2) := by decide +kernel
theorem dX0_shortest_5 : decode cX0_shortest 5 = .ok (.iload 4, 2) := by decide +kernel
theorem dX0_shortest_7 : decode cX0_shortest 7 = .ok (.aload_n 0, 1) := by decide +kernel
theorem dX0_shortest_8 : decode cX0_shortest 8 = .ok (.getfield 9, 3) := by decide +kernel
theorem dX0_shortest_11 : decode cX0_shortest 11 = .ok (.arraylength, 1) := by decide +kernel
theorem dX0_shortest_12 : decode cX0_shortest 12 = .ok (.if_icmp .ge 58, 3) := by decide +kernel
theorem dX0_shortest_15 : decode cX0_shortest 15 = .ok (.iload 4, 2) := by decide +kernel
theorem dX0_shortest_17 : decode cX0_shortest 17 = .ok (.invokestatic 59, 3) := by decide +kernel
theorem dX0_shortest_20 : decode cX0_shortest 20 = .ok (.iload_n 1, 1) := by decide +kernel
theorem dX0_shortest_21 : decode cX0_shortest 21 = .ok (.if_icmp .ne 16, 3) := by decide +kernel
theorem dX0_shortest_24 : decode cX0_shortest 24 = .ok (.iload 4, 2) := by decide +kernel
theorem dX0_shortest_26 : decode cX0_shortest 26 = .ok (.iload_n 2, 1) := by decide +kernel
theorem dX0_shortest_27 : decode cX0_shortest 27 = .ok (.invokestatic 64, 3) := by decide +kernel
theorem dX0_shortest_30 : decode cX0_shortest 30 = .ok (.ifCond .eq 7, 3) := by decide +kernel
theorem dX0_shortest_33 : decode cX0_shortest 33 = .ok (.iconst 1, 1) := by decide +kernel
theorem dX0_shortest_34 : decode cX0_shortest 34 = .ok (.goto 4, 3) := by decide +kernel
theorem dX0_shortest_37 : decode cX0_shortest 37 = .ok (.iconst 0, 1) := by decide +kernel
theorem dX0_shortest_38 : decode cX0_shortest 38 = .ok (.istore 5, 2) := by decide +kernel
theorem dX0_shortest_40 : decode cX0_shortest 40 = .ok (.iload 5, 2) := by decide +kernel
theorem dX0_shortest_42 : decode cX0_shortest 42 = .ok (.ifCond .eq 22, 3) := by decide +kernel
theorem dX0_shortest_45 : decode cX0_shortest 45 = .ok (.iload_n 3, 1) := by decide +kernel
theorem dX0_shortest_46 : decode cX0_shortest 46 = .ok (.ifCond .eq 15, 3) := by decide +kernel
theorem dX0_shortest_49 : decode cX0_shortest 49 = .ok (.iload 4, 2) := by decide +kernel
theorem dX0_shortest_51 : decode cX0_shortest 51 = .ok (.invokestatic 67, 3) := by decide +kernel
theorem dX0_shortest_54 : decode cX0_shortest 54 = .ok (.iload_n 3, 1) := by decide +kernel
theorem dX0_shortest_55 : decode cX0_shortest 55 = .ok (.invokestatic 67, 3) := by decide +kernel
theorem dX0_shortest_58 : decode cX0_shortest 58 = .ok (.if_icmp .ge 6, 3) := by decide +kernel
theorem dX0_shortest_61 : decode cX0_shortest 61 = .ok (.iload 4, 2) := by decide +kernel
theorem dX0_shortest_63 : decode cX0_shortest 63 = .ok (.istore_n 3, 1) := by decide +kernel
theorem dX0_shortest_64 : decode cX0_shortest 64 = .ok (.iinc 4 1, 3) := by decide +kernel
theorem dX0_shortest_67 : decode cX0_shortest 67 = .ok (.goto (-62), 3) := by decide +kernel
theorem dX0_shortest_70 : decode cX0_shortest 70 = .ok (.iload_n 3, 1) := by decide +kernel
theorem dX0_shortest_71 : decode cX0_shortest 71 = .ok (.ireturn, 1) := by decide +kernel
set_option maxRecDepth 20000 in
theorem ggX0_tyingOrders_X7_isWithin : GoodIn wsX0_tyingOrders wsX7_isWithin := goodIn_r _ [5] (by decide +kernel) (by decide +kernel)
set_option maxRecDepth 20000 in
theorem gX0_tyingOrders_X7_isWithin_n64 : GoodIn wsX0_tyingOrders (wsX7_isWithin) := ggX0_tyingOrders_X7_isWithin
set_option maxRecDepth 20000 in
theorem ggX0_tyingOrders_X0_waysOf : GoodIn wsX0_tyingOrders wsX0_waysOf := goodIn_r _ [10, 2, 1, 11, 4, 12, 3, 5, 13, 14, 15, 16, 17, 18, 19, 20, 21, 22, 23, 24, 25, 26, 27, 28] (by decide +kernel) (by decide +kernel)
set_option maxRecDepth 20000 in
theorem gX0_tyingOrders_X0_waysOf : GoodIn wsX0_tyingOrders (wsV RX0 70 RX0 yX0_waysOf wsX0_waysOf) := goodIn_app (goodIn_of _ (by decide +kernel)) ggX0_tyingOrders_X0_waysOf
theorem dX0_tyingOrders_0 : decode cX0_tyingOrders 0 = .ok (.aload_n 0, 1) := by decide +kernel
theorem dX0_tyingOrders_1 : decode cX0_tyingOrders 1 = .ok (.getfield 9, 3) := by decide +kernel
theorem dX0_tyingOrders_4 : decode cX0_tyingOrders 4 = .ok (.iconst 0, 1) := by decide +kernel
theorem dX0_tyingOrders_5 : decode cX0_tyingOrders 5 = .ok (.iconst 1, 1) := by decide +kernel
theorem dX0_tyingOrders_6 : decode cX0_tyingOrders 6 = .ok (.iastore, 1) := by decide +kernel
theorem dX0_tyingOrders_7 : decode cX0_tyingOrders 7 = .ok (.iconst 1, 1) := by decide +kernel
theorem dX0_tyingOrders_8 : decode cX0_tyingOrders 8 = .ok (.istore_n 1, 1) := by decide +kernel
theorem dX0_tyingOrders_9 : decode cX0_tyingOrders 9 = .ok (.iload_n 1, 1) := by decide +kernel
theorem dX0_tyingOrders_10 : decode cX0_tyingOrders 10 = .ok (.aload_n 0, 1) := by decide +kernel
theorem dX0_tyingOrders_11 : decode cX0_tyingOrders 11 = .ok (.getfield 9, 3) := by decide +kernel
theorem dX0_tyingOrders_14 : decode cX0_tyingOrders 14 = .ok (.arraylength, 1) := by decide +kernel
theorem dX0_tyingOrders_15 : decode cX0_tyingOrders 15 = .ok (.if_icmp .ge 38, 3) := by decide +kernel
theorem dX0_tyingOrders_18 : decode cX0_tyingOrders 18 = .ok (.aload_n 0, 1) := by decide +kernel
theorem dX0_tyingOrders_19 : decode cX0_tyingOrders 19 = .ok (.getfield 9, 3) := by decide +kernel
theorem dX0_tyingOrders_22 : decode cX0_tyingOrders 22 = .ok (.iload_n 1, 1) := by decide +kernel
theorem dX0_tyingOrders_23 : decode cX0_tyingOrders 23 = .ok (.iload_n 1, 1) := by decide +kernel
theorem dX0_tyingOrders_24 : decode cX0_tyingOrders 24 = .ok (.aload_n 0, 1) := by decide +kernel
theorem dX0_tyingOrders_25 : decode cX0_tyingOrders 25 = .ok (.getfield 15, 3) := by decide +kernel
theorem dX0_tyingOrders_28 : decode cX0_tyingOrders 28 = .ok (.getfield 32, 3) := by decide +kernel
theorem dX0_tyingOrders_31 : decode cX0_tyingOrders 31 = .ok (.invokestatic 64, 3) := by decide +kernel
theorem dX0_tyingOrders_34 : decode cX0_tyingOrders 34 = .ok (.ifCond .eq 11, 3) := by decide +kernel
theorem dX0_tyingOrders_37 : decode cX0_tyingOrders 37 = .ok (.aload_n 0, 1) := by decide +kernel
theorem dX0_tyingOrders_38 : decode cX0_tyingOrders 38 = .ok (.iload_n 1, 1) := by decide +kernel
theorem dX0_tyingOrders_39 : decode cX0_tyingOrders 39 = .ok (.invokevirtual 70, 3) := by decide +kernel
theorem dX0_tyingOrders_42 : decode cX0_tyingOrders 42 = .ok (.goto 4, 3) := by decide +kernel
theorem dX0_tyingOrders_45 : decode cX0_tyingOrders 45 = .ok (.iconst 0, 1) := by decide +kernel
theorem dX0_tyingOrders_46 : decode cX0_tyingOrders 46 = .ok (.iastore, 1) := by decide +kernel
theorem dX0_tyingOrders_47 : decode cX0_tyingOrders 47 = .ok (.iinc 1 1, 3) := by decide +kernel
theorem dX0_tyingOrders_50 : decode cX0_tyingOrders 50 = .ok (.goto (-41), 3) := by decide +kernel
theorem dX0_tyingOrders_53 : decode cX0_tyingOrders 53 = .ok (.aload_n 0, 1) := by decide +kernel
theorem dX0_tyingOrders_54 : decode cX0_tyingOrders 54 = .ok (.getfield 9, 3) := by decide +kernel
theorem dX0_tyingOrders_57 : decode cX0_tyingOrders 57 = .ok (.aload_n 0, 1) := by decide +kernel
theorem dX0_tyingOrders_58 : decode cX0_tyingOrders 58 = .ok (.getfield 15, 3) := by decide +kernel
theorem dX0_tyingOrders_61 : decode cX0_tyingOrders 61 = .ok (.getfield 32, 3) := by decide +kernel
theorem dX0_tyingOrders_64 : decode cX0_tyingOrders 64 = .ok (.aload_n 0, 1) := by decide +kernel
theorem dX0_tyingOrders_65 : decode cX0_tyingOrders 65 = .ok (.getfield 9, 3) := by decide +kernel
theorem dX0_tyingOrders_68 : decode cX0_tyingOrders 68 = .ok (.arraylength, 1) := by decide +kernel
theorem dX0_tyingOrders_69 : decode cX0_tyingOrders 69 = .ok (.iconst 1, 1) := by decide +kernel
theorem dX0_tyingOrders_70 : decode cX0_tyingOrders 70 = .ok (.isub, 1) := by decide +kernel
theorem dX0_tyingOrders_71 : decode cX0_tyingOrders 71 = .ok (.iand, 1) := by decide +kernel
theorem dX0_tyingOrders_72 : decode cX0_tyingOrders 72 = .ok (.iaload, 1) := by decide +kernel
theorem dX0_tyingOrders_73 : decode cX0_tyingOrders 73 = .ok (.ireturn, 1) := by decide +kernel
set_option maxRecDepth 20000 in
theorem ggX0_waysOf_X7_has : GoodIn wsX0_waysOf wsX7_has := goodIn_r _ [5] (by decide +kernel) (by decide +kernel)
set_option maxRecDepth 20000 in
theorem gX0_waysOf_X7_has_n43 : GoodIn wsX0_waysOf (wsX7_has) := ggX0_waysOf_X7_has
set_option maxRecDepth 20000 in
theorem ggX0_waysOf_X7_isWithin : GoodIn wsX0_waysOf wsX7_isWithin := goodIn_r _ [7] (by decide +kernel) (by decide +kernel)
set_option maxRecDepth 20000 in
theorem gX0_waysOf_X7_isWithin_n64 : GoodIn wsX0_waysOf (wsX7_isWithin) := ggX0_waysOf_X7_isWithin
set_option maxRecDepth 20000 in
theorem ggX0_waysOf_X7_bit : GoodIn wsX0_waysOf wsX7_bit := goodIn_r _ [9] (by decide +kernel) (by decide +kernel)
set_option maxRecDepth 20000 in
theorem gX0_waysOf_X7_bit_n39 : GoodIn wsX0_waysOf (wsX7_bit) := ggX0_waysOf_X7_bit
theorem dX0_waysOf_0 : decode cX0_waysOf 0 = .ok (.iconst 0, 1) := by decide +kernel
theorem dX0_waysOf_1 : decode cX0_waysOf 1 = .ok (.istore_n 2, 1) := by decide +kernel
theorem dX0_waysOf_2 : decode cX0_waysOf 2 = .ok (.iconst 0, 1) := by decide +kernel
theorem dX0_waysOf_3 : decode cX0_waysOf 3 = .ok (.istore_n 3, 1) := by decide +kernel
theorem dX0_waysOf_4 : decode cX0_waysOf 4 = .ok (.iload_n 3, 1) := by decide +kernel
theorem dX0_waysOf_5 : decode cX0_waysOf 5 = .ok (.bipush 8, 2) := by decide +kernel
theorem dX0_waysOf_7 : decode cX0_waysOf 7 = .ok (.if_icmp .ge 65, 3) := by decide +kernel
theorem dX0_waysOf_10 : decode cX0_waysOf 10 = .ok (.iload_n 1, 1) := by decide +kernel
theorem dX0_waysOf_11 : decode cX0_waysOf 11 = .ok (.iload_n 3, 1) := by decide +kernel
theorem dX0_waysOf_12 : decode cX0_waysOf 12 = .ok (.invokestatic 43, 3) := by decide +kernel
theorem dX0_waysOf_15 : decode cX0_waysOf 15 = .ok (.ifCond .eq 51, 3) := by decide +kernel
theorem dX0_waysOf_18 : decode cX0_waysOf 18 = .ok (.aload_n 0, 1) := by decide +kernel
theorem dX0_waysOf_19 : decode cX0_waysOf 19 = .ok (.getfield 15, 3) := by decide +kernel
theorem dX0_waysOf_22 : decode cX0_waysOf 22 = .ok (.getfield 73, 3) := by decide +kernel
theorem dX0_waysOf_25 : decode cX0_waysOf 25 = .ok (.iload_n 3, 1) := by decide +kernel
theorem dX0_waysOf_26 : decode cX0_waysOf 26 = .ok (.iaload, 1) := by decide +kernel
theorem dX0_waysOf_27 : decode cX0_waysOf 27 = .ok (.aload_n 0, 1) := by decide +kernel
theorem dX0_waysOf_28 : decode cX0_waysOf 28 = .ok (.getfield 15, 3) := by decide +kernel
theorem dX0_waysOf_31 : decode cX0_waysOf 31 = .ok (.getfield 32, 3) := by decide +kernel
theorem dX0_waysOf_34 : decode cX0_waysOf 34 = .ok (.iand, 1) := by decide +kernel
theorem dX0_waysOf_35 : decode cX0_waysOf 35 = .ok (.iload_n 1, 1) := by decide +kernel
theorem dX0_waysOf_36 : decode cX0_waysOf 36 = .ok (.invokestatic 64, 3) := by decide +kernel
theorem dX0_waysOf_39 : decode cX0_waysOf 39 = .ok (.ifCond .eq 27, 3) := by decide +kernel
theorem dX0_waysOf_42 : decode cX0_waysOf 42 = .ok (.iload_n 2, 1) := by decide +kernel
theorem dX0_waysOf_43 : decode cX0_waysOf 43 = .ok (.aload_n 0, 1) := by decide +kernel
theorem dX0_waysOf_44 : decode cX0_waysOf 44 = .ok (.getfield 9, 3) := by decide +kernel
theorem dX0_waysOf_47 : decode cX0_waysOf 47 = .ok (.iload_n 1, 1) := by decide +kernel
theorem dX0_waysOf_48 : decode cX0_waysOf 48 = .ok (.iload_n 3, 1) := by decide +kernel
theorem dX0_waysOf_49 : decode cX0_waysOf 49 = .ok (.invokestatic 39, 3) := by decide +kernel
theorem dX0_waysOf_52 : decode cX0_waysOf 52 = .ok (.iconst (-1), 1) := by decide +kernel
theorem dX0_waysOf_53 : decode cX0_waysOf 53 = .ok (.ixor, 1) := by decide +kernel
theorem dX0_waysOf_54 : decode cX0_waysOf 54 = .ok (.iand, 1) := by decide +kernel
theorem dX0_waysOf_55 : decode cX0_waysOf 55 = .ok (.aload_n 0, 1) := by decide +kernel
theorem dX0_waysOf_56 : decode cX0_waysOf 56 = .ok (.getfield 9, 3) := by decide +kernel
theorem dX0_waysOf_59 : decode cX0_waysOf 59 = .ok (.arraylength, 1) := by decide +kernel
theorem dX0_waysOf_60 : decode cX0_waysOf 60 = .ok (.iconst 1, 1) := by decide +kernel
theorem dX0_waysOf_61 : decode cX0_waysOf 61 = .ok (.isub, 1) := by decide +kernel
theorem dX0_waysOf_62 : decode cX0_waysOf 62 = .ok (.iand, 1) := by decide +kernel
theorem dX0_waysOf_63 : decode cX0_waysOf 63 = .ok (.iaload, 1) := by decide +kernel
theorem dX0_waysOf_64 : decode cX0_waysOf 64 = .ok (.iadd, 1) := by decide +kernel
theorem dX0_waysOf_65 : decode cX0_waysOf 65 = .ok (.istore_n 2, 1) := by decide +kernel
theorem dX0_waysOf_66 : decode cX0_waysOf 66 = .ok (.iinc 3 1, 3) := by decide +kernel
theorem dX0_waysOf_69 : decode cX0_waysOf 69 = .ok (.goto (-65), 3) := by decide +kernel
theorem dX0_waysOf_72 : decode cX0_waysOf 72 = .ok (.iload_n 2, 1) := by decide +kernel
theorem dX0_waysOf_73 : decode cX0_waysOf 73 = .ok (.ireturn, 1) := by decide +kernel
theorem dX0_drawn_0 : decode cX0_drawn 0 = .ok (.ldc2_w 76, 3) := by decide +kernel
theorem dX0_drawn_3 : decode cX0_drawn 3 = .ok (.iload_n 1, 1) := by decide +kernel
theorem dX0_drawn_4 : decode cX0_drawn 4 = .ok (.i2l, 1) := by decide +kernel
theorem dX0_drawn_5 : decode cX0_drawn 5 = .ok (.lmul, 1) := by decide +kernel
theorem dX0_drawn_6 : decode cX0_drawn 6 = .ok (.ldc2_w 78, 3) := by decide +kernel
theorem dX0_drawn_9 : decode cX0_drawn 9 = .ok (.iload_n 2, 1) := by decide +kernel
theorem dX0_drawn_10 : decode cX0_drawn 10 = .ok (.i2l, 1) := by decide +kernel
theorem dX0_drawn_11 : decode cX0_drawn 11 = .ok (.lmul, 1) := by decide +kernel
theorem dX0_drawn_12 : decode cX0_drawn 12 = .ok (.ladd, 1) := by decide +kernel
theorem dX0_drawn_13 : decode cX0_drawn 13 = .ok (.lconst 1, 1) := by decide +kernel
theorem dX0_drawn_14 : decode cX0_drawn 14 = .ok (.ladd, 1) := by decide +kernel
theorem dX0_drawn_15 : decode cX0_drawn 15 = .ok (.lstore_n 3, 1) := by decide +kernel
theorem dX0_drawn_16 : decode cX0_drawn 16 = .ok (.aload_n 0, 1) := by decide +kernel
theorem dX0_drawn_17 : decode cX0_drawn 17 = .ok (.getfield 15, 3) := by decide +kernel
theorem dX0_drawn_20 : decode cX0_drawn 20 = .ok (.getfield 80, 3) := by decide +kernel
theorem dX0_drawn_23 : decode cX0_drawn 23 = .ok (.iconst 1, 1) := by decide +kernel
theorem dX0_drawn_24 : decode cX0_drawn 24 = .ok (.if_icmp .ge 7, 3) := by decide +kernel
theorem dX0_drawn_27 : decode cX0_drawn 27 = .ok (.iconst 0, 1) := by decide +kernel
theorem dX0_drawn_28 : decode cX0_drawn 28 = .ok (.goto 20, 3) := by decide +kernel
theorem dX0_drawn_31 : decode cX0_drawn 31 = .ok (.lload_n 3, 1) := by decide +kernel
theorem dX0_drawn_32 : decode cX0_drawn 32 = .ok (.lload_n 3, 1) := by decide +kernel
theorem dX0_drawn_33 : decode cX0_drawn 33 = .ok (.lmul, 1) := by decide +kernel
theorem dX0_drawn_34 : decode cX0_drawn 34 = .ok (.ldc2_w 83, 3) := by decide +kernel
theorem dX0_drawn_37 : decode cX0_drawn 37 = .ok (.lrem, 1) := by decide +kernel
theorem dX0_drawn_38 : decode cX0_drawn 38 = .ok (.aload_n 0, 1) := by decide +kernel
theorem dX0_drawn_39 : decode cX0_drawn 39 = .ok (.getfield 15, 3) := by decide +kernel
theorem dX0_drawn_42 : decode cX0_drawn 42 = .ok (.getfield 80, 3) := by decide +kernel
theorem dX0_drawn_45 : decode cX0_drawn 45 = .ok (.i2l, 1) := by decide +kernel
theorem dX0_drawn_46 : decode cX0_drawn 46 = .ok (.lrem, 1) := by decide +kernel
theorem dX0_drawn_47 : decode cX0_drawn 47 = .ok (.l2i, 1) := by decide +kernel
theorem dX0_drawn_48 : decode cX0_drawn 48 = .ok (.ireturn, 1) := by decide +kernel
set_option maxRecDepth 20000 in
theorem ggX0_turned_X6_isKnot : GoodIn wsX0_turned wsX6_isKnot := goodIn_r _ [6, 7, 41, 42, 43, 44, 45, 46, 47, 48, 49, 50, 51, 52] (by decide +kernel) (by decide +kernel)
set_option maxRecDepth 20000 in
theorem gX0_turned_X6_isKnot : GoodIn wsX0_turned (wsV RX0 85 RX6 yX6_isKnot wsX6_isKnot) := goodIn_app (goodIn_of _ (by decide +kernel)) ggX0_turned_X6_isKnot
set_option maxRecDepth 20000 in
theorem ggX0_turned_X7_has : GoodIn wsX0_turned wsX7_has := goodIn_r _ [10] (by decide +kernel) (by decide +kernel)
set_option maxRecDepth 20000 in
theorem gX0_turned_X7_has_n43 : GoodIn wsX0_turned (wsX7_has) := ggX0_turned_X7_has
set_option maxRecDepth 20000 in
theorem ggX0_turned_X6_mayToday : GoodIn wsX0_turned wsX6_mayToday := goodIn_r _ [14, 15, 16, 17, 18, 19, 5, 20, 21, 22, 23, 24, 3, 4, 6, 7, 8, 9, 10, 25, 26, 27, 28, 29, 30, 31, 32, 33, 34, 35, 36, 37, 38, 41, 42, 43, 44, 45, 46, 47, 48, 49, 50, 51, 52] (by decide +kernel) (by decide +kernel)
set_option maxRecDepth 20000 in
theorem gX0_turned_X6_mayToday : GoodIn wsX0_turned (wsV RX0 56 RX6 yX6_mayToday wsX6_mayToday) := goodIn_app (goodIn_of _ (by decide +kernel)) ggX0_turned_X6_mayToday
set_option maxRecDepth 20000 in
theorem ggX0_turned_X7_bit : GoodIn wsX0_turned wsX7_bit := goodIn_r _ [38] (by decide +kernel) (by decide +kernel)
set_option maxRecDepth 20000 in
theorem gX0_turned_X7_bit_n39 : GoodIn wsX0_turned (wsX7_bit) := ggX0_turned_X7_bit
set_option maxRecDepth 20000 in
theorem ggX0_turned_X7_isWithin : GoodIn wsX0_turned wsX7_isWithin := goodIn_r _ [31] (by decide +kernel) (by decide +kernel)
set_option maxRecDepth 20000 in
theorem gX0_turned_X7_isWithin_n64 : GoodIn wsX0_turned (wsX7_isWithin) := ggX0_turned_X7_isWithin
theorem dX0_turned_0 : decode cX0_turned 0 = .ok (.aload_n 0, 1) := by decide +kernel
theorem dX0_turned_1 : decode cX0_turned 1 = .ok (.getfield 15, 3) := by decide +kernel
theorem dX0_turned_4 : decode cX0_turned 4 = .ok (.iload_n 1, 1) := by decide +kernel
theorem dX0_turned_5 : decode cX0_turned 5 = .ok (.invokevirtual 85, 3) := by decide +kernel
theorem dX0_turned_8 : decode cX0_turned 8 = .ok (.ifCond .ne 5, 3) := by decide +kernel
theorem dX0_turned_11 : decode cX0_turned 11 = .ok (.iload_n 2, 1) := by decide +kernel
theorem dX0_turned_12 : decode cX0_turned 12 = .ok (.ireturn, 1) := by decide +kernel
theorem dX0_turned_13 : decode cX0_turned 13 = .ok (.iload_n 2, 1) := by decide +kernel
theorem dX0_turned_14 : decode cX0_turned 14 = .ok (.iload_n 1, 1) := by decide +kernel
theorem dX0_turned_15 : decode cX0_turned 15 = .ok (.invokestatic 43, 3) := by decide +kernel
theorem dX0_turned_18 : decode cX0_turned 18 = .ok (.ifCond .eq 28, 3) := by decide +kernel
theorem dX0_turned_21 : decode cX0_turned 21 = .ok (.aload_n 0, 1) := by decide +kernel
theorem dX0_turned_22 : decode cX0_turned 22 = .ok (.getfield 15, 3) := by decide +kernel
theorem dX0_turned_25 : decode cX0_turned 25 = .ok (.iload_n 1, 1) := by decide +kernel
theorem dX0_turned_26 : decode cX0_turned 26 = .ok (.iload_n 2, 1) := by decide +kernel
theorem dX0_turned_27 : decode cX0_turned 27 = .ok (.invokevirtual 56, 3) := by decide +kernel
theorem dX0_turned_30 : decode cX0_turned 30 = .ok (.ifCond .eq 14, 3) := by decide +kernel
theorem dX0_turned_33 : decode cX0_turned 33 = .ok (.iload_n 2, 1) := by decide +kernel
theorem dX0_turned_34 : decode cX0_turned 34 = .ok (.iload_n 1, 1) := by decide +kernel
theorem dX0_turned_35 : decode cX0_turned 35 = .ok (.invokestatic 39, 3) := by decide +kernel
theorem dX0_turned_38 : decode cX0_turned 38 = .ok (.iconst (-1), 1) := by decide +kernel
theorem dX0_turned_39 : decode cX0_turned 39 = .ok (.ixor, 1) := by decide +kernel
theorem dX0_turned_40 : decode cX0_turned 40 = .ok (.iand, 1) := by decide +kernel
theorem dX0_turned_41 : decode cX0_turned 41 = .ok (.goto 4, 3) := by decide +kernel
theorem dX0_turned_44 : decode cX0_turned 44 = .ok (.iload_n 2, 1) := by decide +kernel
theorem dX0_turned_45 : decode cX0_turned 45 = .ok (.ireturn, 1) := by decide +kernel
theorem dX0_turned_46 : decode cX0_turned 46 = .ok (.aload_n 0, 1) := by decide +kernel
theorem dX0_turned_47 : decode cX0_turned 47 = .ok (.getfield 15, 3) := by decide +kernel
theorem dX0_turned_50 : decode cX0_turned 50 = .ok (.getfield 89, 3) := by decide +kernel
theorem dX0_turned_53 : decode cX0_turned 53 = .ok (.iload_n 1, 1) := by decide +kernel
theorem dX0_turned_54 : decode cX0_turned 54 = .ok (.iaload, 1) := by decide +kernel
theorem dX0_turned_55 : decode cX0_turned 55 = .ok (.aload_n 0, 1) := by decide +kernel
theorem dX0_turned_56 : decode cX0_turned 56 = .ok (.getfield 15, 3) := by decide +kernel
theorem dX0_turned_59 : decode cX0_turned 59 = .ok (.getfield 25, 3) := by decide +kernel
theorem dX0_turned_62 : decode cX0_turned 62 = .ok (.invokestatic 64, 3) := by decide +kernel
theorem dX0_turned_65 : decode cX0_turned 65 = .ok (.ifCond .eq 23, 3) := by decide +kernel
theorem dX0_turned_68 : decode cX0_turned 68 = .ok (.aload_n 0, 1) := by decide +kernel
theorem dX0_turned_69 : decode cX0_turned 69 = .ok (.getfield 15, 3) := by decide +kernel
theorem dX0_turned_72 : decode cX0_turned 72 = .ok (.getfield 73, 3) := by decide +kernel
theorem dX0_turned_75 : decode cX0_turned 75 = .ok (.iload_n 1, 1) := by decide +kernel
theorem dX0_turned_76 : decode cX0_turned 76 = .ok (.iaload, 1) := by decide +kernel
theorem dX0_turned_77 : decode cX0_turned 77 = .ok (.iload_n 2, 1) := by decide +kernel
theorem dX0_turned_78 : decode cX0_turned 78 = .ok (.invokestatic 64, 3) := by decide +kernel
theorem dX0_turned_81 : decode cX0_turned 81 = .ok (.ifCond .eq 7, 3) := by decide +kernel
theorem dX0_turned_84 : decode cX0_turned 84 = .ok (.iconst 1, 1) := by decide +kernel
theorem dX0_turned_85 : decode cX0_turned 85 = .ok (.goto 4, 3) := by decide +kernel
theorem dX0_turned_88 : decode cX0_turned 88 = .ok (.iconst 0, 1) := by decide +kernel
theorem dX0_turned_89 : decode cX0_turned 89 = .ok (.istore_n 3, 1) := by decide +kernel
theorem dX0_turned_90 : decode cX0_turned 90 = .ok (.iload_n 3, 1) := by decide +kernel
theorem dX0_turned_91 : decode cX0_turned 91 = .ok (.ifCond .eq 12, 3) := by decide +kernel
theorem dX0_turned_94 : decode cX0_turned 94 = .ok (.iload_n 2, 1) := by decide +kernel
theorem dX0_turned_95 : decode cX0_turned 95 = .ok (.iload_n 1, 1) := by decide +kernel
theorem dX0_turned_96 : decode cX0_turned 96 = .ok (.invokestatic 39, 3) := by decide +kernel
theorem dX0_turned_99 : decode cX0_turned 99 = .ok (.ior, 1) := by decide +kernel
theorem dX0_turned_100 : decode cX0_turned 100 = .ok (.goto 4, 3) := by decide +kernel
theorem dX0_turned_103 : decode cX0_turned 103 = .ok (.iload_n 2, 1) := by decide +kernel
theorem dX0_turned_104 : decode cX0_turned 104 = .ok (.ireturn, 1) := by decide +kernel
theorem dX1_init_0 : decode cX1_init 0 = .ok (.aload_n 0, 1) := by decide +kernel
theorem dX1_init_1 : decode cX1_init 1 = .ok (.invokespecial 3, 3) := by decide +kernel
theorem dX1_init_4 : decode cX1_init 4 = .ok (.aload_n 0, 1) := by decide +kernel
theorem dX1_init_5 : decode cX1_init 5 = .ok (.bipush 8, 2) := by decide +kernel
theorem dX1_init_7 : decode cX1_init 7 = .ok (.newarray .int, 2) := by decide +kernel
theorem dX1_init_9 : decode cX1_init 9 = .ok (.putfield 9, 3) := by decide +kernel
theorem dX1_init_12 : decode cX1_init 12 = .ok (.aload_n 0, 1) := by decide +kernel
theorem dX1_init_13 : decode cX1_init 13 = .ok (.bipush 8, 2) := by decide +kernel
theorem dX1_init_15 : decode cX1_init 15 = .ok (.newarray .int, 2) := by decide +kernel
theorem dX1_init_17 : decode cX1_init 17 = .ok (.putfield 15, 3) := by decide +kernel
theorem dX1_init_20 : decode cX1_init 20 = .ok (.aload_n 0, 1) := by decide +kernel
theorem dX1_init_21 : decode cX1_init 21 = .ok (.bipush 8, 2) := by decide +kernel
theorem dX1_init_23 : decode cX1_init 23 = .ok (.newarray .int, 2) := by decide +kernel
theorem dX1_init_25 : decode cX1_init 25 = .ok (.putfield 18, 3) := by decide +kernel
theorem dX1_init_28 : decode cX1_init 28 = .ok (.return_, 1) := by decide +kernel
theorem dX1_size_0 : decode cX1_size 0 = .ok (.aload_n 0, 1) := by decide +kernel
theorem dX1_size_1 : decode cX1_size 1 = .ok (.getfield 21, 3) := by decide +kernel
theorem dX1_size_4 : decode cX1_size 4 = .ok (.ireturn, 1) := by decide +kernel
theorem dX1_empty_0 : decode cX1_empty 0 = .ok (.aload_n 0, 1) := by decide +kernel
theorem dX1_empty_1 : decode cX1_empty 1 = .ok (.iconst 0, 1) := by decide +kernel
theorem dX1_empty_2 : decode cX1_empty 2 = .ok (.putfield 21, 3) := by decide +kernel
theorem dX1_empty_5 : decode cX1_empty 5 = .ok (.return_, 1) := by decide +kernel
set_option maxRecDepth 20000 in
theorem ggX1_note_X1_forgetOldest : GoodIn wsX1_note wsX1_forgetOldest := goodIn_r _ [9, 2, 3, 4, 1, 10, 11, 12, 13] (by decide +kernel) (by decide +kernel)
set_option maxRecDepth 20000 in
theorem gX1_note_X1_forgetOldest : GoodIn wsX1_note (wsV RX1 25 RX1 yX1_forgetOldest wsX1_forgetOldest) := goodIn_app (goodIn_of _ (by decide +kernel)) ggX1_note_X1_forgetOldest
theorem dX1_note_0 : decode cX1_note 0 = .ok (.aload_n 0, 1) := by decide +kernel
theorem dX1_note_1 : decode cX1_note 1 = .ok (.getfield 21, 3) := by decide +kernel
theorem dX1_note_4 : decode cX1_note 4 = .ok (.bipush 8, 2) := by decide +kernel
theorem dX1_note_6 : decode cX1_note 6 = .ok (.if_icmp .lt 7, 3) := by decide +kernel
theorem dX1_note_9 : decode cX1_note 9 = .ok (.aload_n 0, 1) := by decide +kernel
theorem dX1_note_10 : decode cX1_note 10 = .ok (.invokevirtual 25, 3) := by decide +kernel
theorem dX1_note_13 : decode cX1_note 13 = .ok (.aload_n 0, 1) := by decide +kernel
theorem dX1_note_14 : decode cX1_note 14 = .ok (.getfield 9, 3) := by decide +kernel
theorem dX1_note_17 : decode cX1_note 17 = .ok (.aload_n 0, 1) := by decide +kernel
theorem dX1_note_18 : decode cX1_note 18 = .ok (.getfield 21, 3) := by decide +kernel
theorem dX1_note_21 : decode cX1_note 21 = .ok (.aload_n 1, 1) := by decide +kernel
theorem dX1_note_22 : decode cX1_note 22 = .ok (.getfield 28, 3) := by decide +kernel
theorem dX1_note_25 : decode cX1_note 25 = .ok (.iastore, 1) := by decide +kernel
theorem dX1_note_26 : decode cX1_note 26 = .ok (.aload_n 0, 1) := by decide +kernel
theorem dX1_note_27 : decode cX1_note 27 = .ok (.getfield 15, 3) := by decide +kernel
theorem dX1_note_30 : decode cX1_note 30 = .ok (.aload_n 0, 1) := by decide +kernel
theorem dX1_note_31 : decode cX1_note 31 = .ok (.getfield 21, 3) := by decide +kernel
theorem dX1_note_34 : decode cX1_note 34 = .ok (.aload_n 1, 1) := by decide +kernel
theorem dX1_note_35 : decode cX1_note 35 = .ok (.getfield 32, 3) := by decide +kernel
theorem dX1_note_38 : decode cX1_note 38 = .ok (.iastore, 1) := by decide +kernel
theorem dX1_note_39 : decode cX1_note 39 = .ok (.aload_n 0, 1) := by decide +kernel
theorem dX1_note_40 : decode cX1_note 40 = .ok (.getfield 18, 3) := by decide +kernel
theorem dX1_note_43 : decode cX1_note 43 = .ok (.aload_n 0, 1) := by decide +kernel
theorem dX1_note_44 : decode cX1_note 44 = .ok (.getfield 21, 3) := by decide +kernel
theorem dX1_note_47 : decode cX1_note 47 = .ok (.aload_n 1, 1) := by decide +kernel
theorem dX1_note_48 : decode cX1_note 48 = .ok (.getfield 34, 3) := by decide +kernel
theorem dX1_note_51 : decode cX1_note 51 = .ok (.iastore, 1) := by decide +kernel
theorem dX1_note_52 : decode cX1_note 52 = .ok (.aload_n 0, 1) := by decide +kernel
theorem dX1_note_53 : decode cX1_note 53 = .ok (.dup, 1) := by decide +kernel
theorem dX1_note_54 : decode cX1_note 54 = .ok (.getfield 21, 3) := by decide +kernel
theorem dX1_note_57 : decode cX1_note 57 = .ok (.iconst 1, 1) := by decide +kernel
theorem dX1_note_58 : decode cX1_note 58 = .ok (.iadd, 1) := by decide +kernel
theorem dX1_note_59 : decode cX1_note 59 = .ok (.putfield 21, 3) := by decide +kernel
theorem dX1_note_62 : decode cX1_note 62 = .ok (.return_, 1) := by decide +kernel
theorem dX1_forgetOldest_0 : decode cX1_forgetOldest 0 = .ok (.iconst 1, 1) := by decide +kernel
theorem dX1_forgetOldest_1 : decode cX1_forgetOldest 1 = .ok (.istore_n 1, 1) := by decide +kernel
theorem dX1_forgetOldest_2 : decode cX1_forgetOldest 2 = .ok (.iload_n 1, 1) := by decide +kernel
theorem dX1_forgetOldest_3 : decode cX1_forgetOldest 3 = .ok (.bipush 8, 2) := by decide +kernel
theorem dX1_forgetOldest_5 : decode cX1_forgetOldest 5 = .ok (.if_icmp .ge 51, 3) := by decide +kernel
theorem dX1_forgetOldest_8 : decode cX1_forgetOldest 8 = .ok (.aload_n 0, 1) := by decide +kernel
theorem dX1_forgetOldest_9 : decode cX1_forgetOldest 9 = .ok (.getfield 9, 3) := by decide +kernel
theorem dX1_forgetOldest_12 : decode cX1_forgetOldest 12 = .ok (.iload_n 1, 1) := by decide +kernel
theorem dX1_forgetOldest_13 : decode cX1_forgetOldest 13 = .ok (.iconst 1, 1) := by decide +kernel
theorem dX1_forgetOldest_14 : decode cX1_forgetOldest 14 = .ok (.isub, 1) := by decide +kernel
theorem dX1_forgetOldest_15 : decode cX1_forgetOldest 15 = .ok (.aload_n 0, 1) := by decide +kernel
theorem dX1_forgetOldest_16 : decode cX1_forgetOldest 16 = .ok (.getfield 9, 3) := by decide +kernel
theorem dX1_forgetOldest_19 : decode cX1_forgetOldest 19 = .ok (.iload_n 1, 1) := by decide +kernel
theorem dX1_forgetOldest_20 : decode cX1_forgetOldest 20 = .ok (.iaload, 1) := by decide +kernel
theorem dX1_forgetOldest_21 : decode cX1_forgetOldest 21 = .ok (.iastore, 1) := by decide +kernel
theorem dX1_forgetOldest_22 : decode cX1_forgetOldest 22 = .ok (.aload_n 0, 1) := by decide +kernel
theorem dX1_forgetOldest_23 : decode cX1_forgetOldest 23 = .ok (.getfield 15, 3) := by decide +kernel
theorem dX1_forgetOldest_26 : decode cX1_forgetOldest 26 = .ok (.iload_n 1, 1) := by decide +kernel
theorem dX1_forgetOldest_27 : decode cX1_forgetOldest 27 = .ok (.iconst 1, 1) := by decide +kernel
theorem dX1_forgetOldest_28 : decode cX1_forgetOldest 28 = .ok (.isub, 1) := by decide +kernel
theorem dX1_forgetOldest_29 : decode cX1_forgetOldest 29 = .ok (.aload_n 0, 1) := by decide +kernel
theorem dX1_forgetOldest_30 : decode cX1_forgetOldest 30 = .ok (.getfield 15, 3) := by decide +kernel
theorem dX1_forgetOldest_33 : decode cX1_forgetOldest 33 = .ok (.iload_n 1, 1) := by decide +kernel
theorem dX1_forgetOldest_34 : decode cX1_forgetOldest 34 = .ok (.iaload, 1) := by decide +kernel
theorem dX1_forgetOldest_35 : decode cX1_forgetOldest 35 = .ok (.iastore, 1) := by decide +kernel
theorem dX1_forgetOldest_36 : decode cX1_forgetOldest 36 = .ok (.aload_n 0, 1) := by decide +kernel
theorem dX1_forgetOldest_37 : decode cX1_forgetOldest 37 = .ok (.getfield 18, 3) := by decide +kernel
theorem dX1_forgetOldest_40 : decode cX1_forgetOldest 40 = .ok (.iload_n 1, 1) := by decide +kernel
theorem dX1_forgetOldest_41 : decode cX1_forgetOldest 41 = .ok (.iconst 1, 1) := by decide +kernel
theorem dX1_forgetOldest_42 : decode cX1_forgetOldest 42 = .ok (.isub, 1) := by decide +kernel
theorem dX1_forgetOldest_43 : decode cX1_forgetOldest 43 = .ok (.aload_n 0, 1) := by decide +kernel
theorem dX1_forgetOldest_44 : decode cX1_forgetOldest 44 = .ok (.getfield 18, 3) := by decide +kernel
theorem dX1_forgetOldest_47 : decode cX1_forgetOldest 47 = .ok (.iload_n 1, 1) := by decide +kernel
theorem dX1_forgetOldest_48 : decode cX1_forgetOldest 48 = .ok (.iaload, 1) := by decide +kernel
theorem dX1_forgetOldest_49 : decode cX1_forgetOldest 49 = .ok (.iastore, 1) := by decide +kernel
theorem dX1_forgetOldest_50 : decode cX1_forgetOldest 50 = .ok (.iinc 1 1, 3) := by decide +kernel
theorem dX1_forgetOldest_53 : decode cX1_forgetOldest 53 = .ok (.goto (-51), 3) := by decide +kernel
theorem dX1_forgetOldest_56 : decode cX1_forgetOldest 56 = .ok (.aload_n 0, 1) := by decide +kernel
theorem dX1_forgetOldest_57 : decode cX1_forgetOldest 57 = .ok (.bipush 7, 2) := by decide +kernel
theorem dX1_forgetOldest_59 : decode cX1_forgetOldest 59 = .ok (.putfield 21, 3) := by decide +kernel
theorem dX1_forgetOldest_62 : decode cX1_forgetOldest 62 = .ok (.return_, 1) := by decide +kernel
theorem dX1_restore_0 : decode cX1_restore 0 = .ok (.aload_n 0, 1) := by decide +kernel
theorem dX1_restore_1 : decode cX1_restore 1 = .ok (.getfield 21, 3) := by decide +kernel
theorem dX1_restore_4 : decode cX1_restore 4 = .ok (.iconst 1, 1) := by decide +kernel
theorem dX1_restore_5 : decode cX1_restore 5 = .ok (.if_icmp .ge 4, 3) := by decide +kernel
theorem dX1_restore_8 : decode cX1_restore 8 = .ok (.return_, 1) := by decide +kernel
theorem dX1_restore_9 : decode cX1_restore 9 = .ok (.aload_n 0, 1) := by decide +kernel
theorem dX1_restore_10 : decode cX1_restore 10 = .ok (.dup, 1) := by decide +kernel
theorem dX1_restore_11 : decode cX1_restore 11 = .ok (.getfield 21, 3) := by decide +kernel
theorem dX1_restore_14 : decode cX1_restore 14 = .ok (.iconst 1, 1) := by decide +kernel
theorem dX1_restore_15 : decode cX1_restore 15 = .ok (.isub, 1) := by decide +kernel
theorem dX1_restore_16 : decode cX1_restore 16 = .ok (.putfield 21, 3) := by decide +kernel
theorem dX1_restore_19 : decode cX1_restore 19 = .ok (.aload_n 1, 1) := by decide +kernel
theorem dX1_restore_20 : decode cX1_restore 20 = .ok (.aload_n 0, 1) := by decide +kernel
theorem dX1_restore_21 : decode cX1_restore 21 = .ok (.getfield 9, 3) := by decide +kernel
theorem dX1_restore_24 : decode cX1_restore 24 = .ok (.aload_n 0, 1) := by decide +kernel
theorem dX1_restore_25 : decode cX1_restore 25 = .ok (.getfield 21, 3) := by decide +kernel
theorem dX1_restore_28 : decode cX1_restore 28 = .ok (.iaload, 1) := by decide +kernel
theorem dX1_restore_29 : decode cX1_restore 29 = .ok (.putfield 28, 3) := by decide +kernel
theorem dX1_restore_32 : decode cX1_restore 32 = .ok (.aload_n 1, 1) := by decide +kernel
theorem dX1_restore_33 : decode cX1_restore 33 = .ok (.aload_n 0, 1) := by decide +kernel
theorem dX1_restore_34 : decode cX1_restore 34 = .ok (.getfield 15, 3) := by decide +kernel
theorem dX1_restore_37 : decode cX1_restore 37 = .ok (.aload_n 0, 1) := by decide +kernel
theorem dX1_restore_38 : decode cX1_restore 38 = .ok (.getfield 21, 3) := by decide +kernel
theorem dX1_restore_41 : decode cX1_restore 41 = .ok (.iaload, 1) := by decide +kernel
theorem dX1_restore_42 : decode cX1_restore 42 = .ok (.putfield 32, 3) := by decide +kernel
theorem dX1_restore_45 : decode cX1_restore 45 = .ok (.aload_n 1, 1) := by decide +kernel
theorem dX1_restore_46 : decode cX1_restore 46 = .ok (.aload_n 0, 1) := by decide +kernel
theorem dX1_restore_47 : decode cX1_restore 47 = .ok (.getfield 18, 3) := by decide +kernel
theorem dX1_restore_50 : decode cX1_restore 50 = .ok (.aload_n 0, 1) := by decide +kernel
theorem dX1_restore_51 : decode cX1_restore 51 = .ok (.getfield 21, 3) := by decide +kernel
theorem dX1_restore_54 : decode cX1_restore 54 = .ok (.iaload, 1) := by decide +kernel
theorem dX1_restore_55 : decode cX1_restore 55 = .ok (.putfield 34, 3) := by decide +kernel
theorem dX1_restore_58 : decode cX1_restore 58 = .ok (.return_, 1) := by decide +kernel
theorem dX2_init_0 : decode cX2_init 0 = .ok (.aload_n 0, 1) := by decide +kernel
theorem dX2_init_1 : decode cX2_init 1 = .ok (.invokespecial 3, 3) := by decide +kernel
theorem dX2_init_4 : decode cX2_init 4 = .ok (.aload_n 0, 1) := by decide +kernel
theorem dX2_init_5 : decode cX2_init 5 = .ok (.iconst 5, 1) := by decide +kernel
theorem dX2_init_6 : decode cX2_init 6 = .ok (.newarray .int, 2) := by decide +kernel
theorem dX2_init_8 : decode cX2_init 8 = .ok (.putfield 9, 3) := by decide +kernel
theorem dX2_init_11 : decode cX2_init 11 = .ok (.return_, 1) := by decide +kernel
set_option maxRecDepth 20000 in
theorem ggX2_read_X6_empty : GoodIn wsX2_read wsX6_empty := goodIn_r _ [5, 6, 7, 8, 9, 10, 11, 75, 76, 77, 78, 79, 80, 81, 82, 83, 84, 85, 86] (by decide +kernel) (by decide +kernel)
set_option maxRecDepth 20000 in
theorem gX2_read_X6_empty : GoodIn wsX2_read (wsV RX2 15 RX6 yX6_empty wsX6_empty) := goodIn_app (goodIn_of _ (by decide +kernel)) ggX2_read_X6_empty
set_option maxRecDepth 20000 in
theorem ggX2_read_X5_size : GoodIn wsX2_read wsX5_size := goodIn_r _ [16, 17, 87, 88] (by decide +kernel) (by decide +kernel)
set_option maxRecDepth 20000 in
theorem gX2_read_X5_size : GoodIn wsX2_read (wsV RX2 20 RX5 yX5_size wsX5_size) := goodIn_app (goodIn_of _ (by decide +kernel)) ggX2_read_X5_size
set_option maxRecDepth 20000 in
theorem ggX2_read_X5_at : GoodIn wsX2_read wsX5_at := goodIn_r _ [21, 17, 22, 87, 88] (by decide +kernel) (by decide +kernel)
set_option maxRecDepth 20000 in
theorem gX2_read_X5_at : GoodIn wsX2_read (wsV RX2 26 RX5 yX5_at wsX5_at) := goodIn_app (goodIn_of _ (by decide +kernel)) ggX2_read_X5_at
set_option maxRecDepth 20000 in
theorem ggX2_read_X2_numbersOf : GoodIn wsX2_read wsX2_numbersOf := goodIn_r _ [26] (by decide +kernel) (by decide +kernel)
set_option maxRecDepth 20000 in
theorem gX2_read_X2_numbersOf : GoodIn wsX2_read (va_wsS RX2 30 yX2_numbersOf wsX2_numbersOf) := goodIn_app (goodIn_of _ (by decide +kernel)) ggX2_read_X2_numbersOf
set_option maxRecDepth 20000 in
theorem ggX2_read_X2_readNumbers : GoodIn wsX2_read wsX2_readNumbers := goodIn_r _ [30, 31, 32, 33, 25, 34, 18, 19, 20, 15, 21, 17, 22, 35, 36, 37, 89, 87, 88] (by decide +kernel) (by decide +kernel)
set_option maxRecDepth 20000 in
theorem gX2_read_X2_readNumbers : GoodIn wsX2_read (wsV RX2 33 RX2 yX2_readNumbers wsX2_readNumbers) := goodIn_app (goodIn_of _ (by decide +kernel)) ggX2_read_X2_readNumbers
set_option maxRecDepth 20000 in
theorem ggX2_read_X2_takeItem : GoodIn wsX2_read wsX2_takeItem := goodIn_r _ [41, 31, 42, 43, 44, 4, 45, 6, 7, 46, 47, 48, 49, 8, 50, 51, 52, 53, 9, 54, 55, 56, 57, 58, 59, 10, 60, 61, 62, 63, 64, 65, 66, 67, 68, 69, 70, 71, 72, 73, 74, 89, 75, 76, 77, 78, 79, 80, 81, 82, 83, 84, 85, 86] (by decide +kernel) (by decide +kernel)
set_option maxRecDepth 20000 in
theorem gX2_read_X2_takeItem : GoodIn wsX2_read (wsV RX2 37 RX2 yX2_takeItem wsX2_takeItem) := goodIn_app (goodIn_of _ (by decide +kernel)) ggX2_read_X2_takeItem
theorem dX2_read_0 : decode cX2_read 0 = .ok (.aload_n 2, 1) := by decide +kernel
theorem dX2_read_1 : decode cX2_read 1 = .ok (.invokevirtual 15, 3) := by decide +kernel
theorem dX2_read_4 : decode cX2_read 4 = .ok (.iconst 0, 1) := by decide +kernel
theorem dX2_read_5 : decode cX2_read 5 = .ok (.istore_n 3, 1) := by decide +kernel
theorem dX2_read_6 : decode cX2_read 6 = .ok (.iconst 0, 1) := by decide +kernel
theorem dX2_read_7 : decode cX2_read 7 = .ok (.istore 4, 2) := by decide +kernel
theorem dX2_read_9 : decode cX2_read 9 = .ok (.iload 4, 2) := by decide +kernel
theorem dX2_read_11 : decode cX2_read 11 = .ok (.sipush 300, 3) := by decide +kernel
theorem dX2_read_14 : decode cX2_read 14 = .ok (.if_icmp .ge 61, 3) := by decide +kernel
theorem dX2_read_17 : decode cX2_read 17 = .ok (.iload_n 3, 1) := by decide +kernel
theorem dX2_read_18 : decode cX2_read 18 = .ok (.aload_n 1, 1) := by decide +kernel
theorem dX2_read_19 : decode cX2_read 19 = .ok (.invokevirtual 20, 3) := by decide +kernel
theorem dX2_read_22 : decode cX2_read 22 = .ok (.if_icmp .ge 53, 3) := by decide +kernel
theorem dX2_read_25 : decode cX2_read 25 = .ok (.aload_n 1, 1) := by decide +kernel
theorem dX2_read_26 : decode cX2_read 26 = .ok (.iload_n 3, 1) := by decide +kernel
theorem dX2_read_27 : decode cX2_read 27 = .ok (.invokevirtual 26, 3) := by decide +kernel
theorem dX2_read_30 : decode cX2_read 30 = .ok (.istore 5, 2) := by decide +kernel
theorem dX2_read_32 : decode cX2_read 32 = .ok (.aload_n 0, 1) := by decide +kernel
theorem dX2_read_33 : decode cX2_read 33 = .ok (.aload_n 1, 1) := by decide +kernel
theorem dX2_read_34 : decode cX2_read 34 = .ok (.iload_n 3, 1) := by decide +kernel
theorem dX2_read_35 : decode cX2_read 35 = .ok (.iconst 1, 1) := by decide +kernel
theorem dX2_read_36 : decode cX2_read 36 = .ok (.iadd, 1) := by decide +kernel
theorem dX2_read_37 : decode cX2_read 37 = .ok (.iload 5, 2) := by decide +kernel
theorem dX2_read_39 : decode cX2_read 39 = .ok (.invokestatic 30, 3) := by decide +kernel
theorem dX2_read_42 : decode cX2_read 42 = .ok (.invokevirtual 33, 3) := by decide +kernel
theorem dX2_read_45 : decode cX2_read 45 = .ok (.istore 6, 2) := by decide +kernel
theorem dX2_read_47 : decode cX2_read 47 = .ok (.iload 6, 2) := by decide +kernel
theorem dX2_read_49 : decode cX2_read 49 = .ok (.bipush (-4), 2) := by decide +kernel
theorem dX2_read_51 : decode cX2_read 51 = .ok (.if_icmp .eq 13, 3) := by decide +kernel
theorem dX2_read_54 : decode cX2_read 54 = .ok (.aload_n 0, 1) := by decide +kernel
theorem dX2_read_55 : decode cX2_read 55 = .ok (.iload 5, 2) := by decide +kernel
theorem dX2_read_57 : decode cX2_read 57 = .ok (.aload_n 2, 1) := by decide +kernel
theorem dX2_read_58 : decode cX2_read 58 = .ok (.invokevirtual 37, 3) := by decide +kernel
theorem dX2_read_61 : decode cX2_read 61 = .ok (.ifCond .ne 5, 3) := by decide +kernel
theorem dX2_read_64 : decode cX2_read 64 = .ok (.iload_n 3, 1) := by decide +kernel
theorem dX2_read_65 : decode cX2_read 65 = .ok (.ireturn, 1) := by decide +kernel
theorem dX2_read_66 : decode cX2_read 66 = .ok (.iload 6, 2) := by decide +kernel
theorem dX2_read_68 : decode cX2_read 68 = .ok (.istore_n 3, 1) := by decide +kernel
theorem dX2_read_69 : decode cX2_read 69 = .ok (.iinc 4 1, 3) := by decide +kernel
theorem dX2_read_72 : decode cX2_read 72 = .ok (.goto (-63), 3) := by decide +kernel
theorem dX2_read_75 : decode cX2_read 75 = .ok (.bipush (-4), 2) := by decide +kernel
theorem dX2_read_77 : decode cX2_read 77 = .ok (.ireturn, 1) := by decide +kernel
theorem dX2_numbersOf_0 : decode cX2_numbersOf 0 = .ok (.iload_n 0, 1) := by decide +kernel
theorem dX2_numbersOf_1 : decode cX2_numbersOf 1 = .ok (.bipush 107, 2) := by decide +kernel
theorem dX2_numbersOf_3 : decode cX2_numbersOf 3 = .ok (.if_icmp .ne 5, 3) := by decide +kernel
theorem dX2_numbersOf_6 : decode cX2_numbersOf 6 = .ok (.iconst 5, 1) := by decide +kernel
theorem dX2_numbersOf_7 : decode cX2_numbersOf 7 = .ok (.ireturn, 1) := by decide +kernel
theorem dX2_numbersOf_8 : decode cX2_numbersOf 8 = .ok (.iload_n 0, 1) := by decide +kernel
theorem dX2_numbersOf_9 : decode cX2_numbersOf 9 = .ok (.bipush 112, 2) := by decide +kernel
theorem dX2_numbersOf_11 : decode cX2_numbersOf 11 = .ok (.if_icmp .eq 9, 3) := by decide +kernel
theorem dX2_numbersOf_14 : decode cX2_numbersOf 14 = .ok (.iload_n 0, 1) := by decide +kernel
theorem dX2_numbersOf_15 : decode cX2_numbersOf 15 = .ok (.bipush 108, 2) := by decide +kernel
theorem dX2_numbersOf_17 : decode cX2_numbersOf 17 = .ok (.if_icmp .ne 7, 3) := by decide +kernel
theorem dX2_numbersOf_20 : decode cX2_numbersOf 20 = .ok (.iconst 1, 1) := by decide +kernel
theorem dX2_numbersOf_21 : decode cX2_numbersOf 21 = .ok (.goto 4, 3) := by decide +kernel
theorem dX2_numbersOf_24 : decode cX2_numbersOf 24 = .ok (.iconst 0, 1) := by decide +kernel
theorem dX2_numbersOf_25 : decode cX2_numbersOf 25 = .ok (.ireturn, 1) := by decide +kernel
set_option maxRecDepth 20000 in
theorem ggX2_readNumbers_X2_figuresEnd : GoodIn wsX2_readNumbers wsX2_figuresEnd := goodIn_r _ [5, 6, 7, 8, 9, 10, 11, 12, 17, 18] (by decide +kernel) (by decide +kernel)
set_option maxRecDepth 20000 in
theorem gX2_readNumbers_X2_figuresEnd : GoodIn wsX2_readNumbers (va_wsS RX2 41 yX2_figuresEnd wsX2_figuresEnd) := goodIn_app (goodIn_of _ (by decide +kernel)) ggX2_readNumbers_X2_figuresEnd
set_option maxRecDepth 20000 in
theorem ggX2_readNumbers_X5_at : GoodIn wsX2_readNumbers wsX5_at := goodIn_r _ [10, 11, 12, 17, 18] (by decide +kernel) (by decide +kernel)
set_option maxRecDepth 20000 in
theorem gX2_readNumbers_X5_at : GoodIn wsX2_readNumbers (wsV RX2 26 RX5 yX5_at wsX5_at) := goodIn_app (goodIn_of _ (by decide +kernel)) ggX2_readNumbers_X5_at
set_option maxRecDepth 20000 in
theorem ggX2_readNumbers_X2_valueOf : GoodIn wsX2_readNumbers wsX2_valueOf := goodIn_r _ [15, 6, 7, 8, 9, 10, 11, 12, 17, 18] (by decide +kernel) (by decide +kernel)
set_option maxRecDepth 20000 in
theorem gX2_readNumbers_X2_valueOf : GoodIn wsX2_readNumbers (va_wsS RX2 45 yX2_valueOf wsX2_valueOf) := goodIn_app (goodIn_of _ (by decide +kernel)) ggX2_readNumbers_X2_valueOf
theorem dX2_readNumbers_0 : decode cX2_readNumbers 0 = .ok (.iload_n 3, 1) := by decide +kernel
theorem dX2_readNumbers_1 : decode cX2_readNumbers 1 = .ok (.iconst 1, 1) := by decide +kernel
theorem dX2_readNumbers_2 : decode cX2_readNumbers 2 = .ok (.if_icmp .ge 6, 3) := by decide +kernel
theorem dX2_readNumbers_5 : decode cX2_readNumbers 5 = .ok (.bipush (-4), 2) := by decide +kernel
theorem dX2_readNumbers_7 : decode cX2_readNumbers 7 = .ok (.ireturn, 1) := by decide +kernel
theorem dX2_readNumbers_8 : decode cX2_readNumbers 8 = .ok (.iload_n 2, 1) := by decide +kernel
theorem dX2_readNumbers_9 : decode cX2_readNumbers 9 = .ok (.istore 4, 2) := by decide +kernel
theorem dX2_readNumbers_11 : decode cX2_readNumbers 11 = .ok (.iconst 0, 1) := by decide +kernel
theorem dX2_readNumbers_12 : decode cX2_readNumbers 12 = .ok (.istore 5, 2) := by decide +kernel
theorem dX2_readNumbers_14 : decode cX2_readNumbers 14 = .ok (.iload 5, 2) := by decide +kernel
theorem dX2_readNumbers_16 : decode cX2_readNumbers 16 = .ok (.iload_n 3, 1) := by decide +kernel
theorem dX2_readNumbers_17 : decode cX2_readNumbers 17 = .ok (.if_icmp .ge 86, 3) := by decide +kernel
theorem dX2_readNumbers_20 : decode cX2_readNumbers 20 = .ok (.iload 5, 2) := by decide +kernel
theorem dX2_readNumbers_22 : decode cX2_readNumbers 22 = .ok (.aload_n 0, 1) := by decide +kernel
theorem dX2_readNumbers_23 : decode cX2_readNumbers 23 = .ok (.getfield 9, 3) := by decide +kernel
theorem dX2_readNumbers_26 : decode cX2_readNumbers 26 = .ok (.arraylength, 1) := by decide +kernel
theorem dX2_readNumbers_27 : decode cX2_readNumbers 27 = .ok (.if_icmp .ge 76, 3) := by decide +kernel
theorem dX2_readNumbers_30 : decode cX2_readNumbers 30 = .ok (.aload_n 1, 1) := by decide +kernel
theorem dX2_readNumbers_31 : decode cX2_readNumbers 31 = .ok (.iload 4, 2) := by decide +kernel
theorem dX2_readNumbers_33 : decode cX2_readNumbers 33 = .ok (.invokestatic 41, 3) := by decide +kernel
theorem dX2_readNumbers_36 : decode cX2_readNumbers 36 = .ok (.istore 6, 2) := by decide +kernel
theorem dX2_readNumbers_38 : decode cX2_readNumbers 38 = .ok (.iload 5, 2) := by decide +kernel
theorem dX2_readNumbers_40 : decode cX2_readNumbers 40 = .ok (.iload_n 3, 1) := by decide +kernel
theorem dX2_readNumbers_41 : decode cX2_readNumbers 41 = .ok (.iconst 1, 1) := by decide +kernel
theorem dX2_readNumbers_42 : decode cX2_readNumbers 42 = .ok (.isub, 1) := by decide +kernel
theorem dX2_readNumbers_43 : decode cX2_readNumbers 43 = .ok (.if_icmp .ne 8, 3) := by decide +kernel
theorem dX2_readNumbers_46 : decode cX2_readNumbers 46 = .ok (.bipush 59, 2) := by decide +kernel
theorem dX2_readNumbers_48 : decode cX2_readNumbers 48 = .ok (.goto 5, 3) := by decide +kernel
theorem dX2_readNumbers_51 : decode cX2_readNumbers 51 = .ok (.bipush 44, 2) := by decide +kernel
theorem dX2_readNumbers_53 : decode cX2_readNumbers 53 = .ok (.istore 7, 2) := by decide +kernel
theorem dX2_readNumbers_55 : decode cX2_readNumbers 55 = .ok (.iload 6, 2) := by decide +kernel
theorem dX2_readNumbers_57 : decode cX2_readNumbers 57 = .ok (.iload 4, 2) := by decide +kernel
theorem dX2_readNumbers_59 : decode cX2_readNumbers 59 = .ok (.if_icmp .eq 14, 3) := by decide +kernel
theorem dX2_readNumbers_62 : decode cX2_readNumbers 62 = .ok (.aload_n 1, 1) := by decide +kernel
theorem dX2_readNumbers_63 : decode cX2_readNumbers 63 = .ok (.iload 6, 2) := by decide +kernel
theorem dX2_readNumbers_65 : decode cX2_readNumbers 65 = .ok (.invokevirtual 26, 3) := by decide +kernel
theorem dX2_readNumbers_68 : decode cX2_readNumbers 68 = .ok (.iload 7, 2) := by decide +kernel
theorem dX2_readNumbers_70 : decode cX2_readNumbers 70 = .ok (.if_icmp .eq 6, 3) := by decide +kernel
theorem dX2_readNumbers_73 : decode cX2_readNumbers 73 = .ok (.bipush (-4), 2) := by decide +kernel
theorem dX2_readNumbers_75 : decode cX2_readNumbers 75 = .ok (.ireturn, 1) := by decide +kernel
theorem dX2_readNumbers_76 : decode cX2_readNumbers 76 = .ok (.aload_n 0, 1) := by decide +kernel
theorem dX2_readNumbers_77 : decode cX2_readNumbers 77 = .ok (.getfield 9, 3) := by decide +kernel
theorem dX2_readNumbers_80 : decode cX2_readNumbers 80 = .ok (.iload 5, 2) := by decide +kernel
theorem dX2_readNumbers_82 : decode cX2_readNumbers 82 = .ok (.aload_n 1, 1) := by decide +kernel
theorem dX2_readNumbers_83 : decode cX2_readNumbers 83 = .ok (.iload 4, 2) := by decide +kernel
theorem dX2_readNumbers_85 : decode cX2_readNumbers 85 = .ok (.iload 6, 2) := by decide +kernel
theorem dX2_readNumbers_87 : decode cX2_readNumbers 87 = .ok (.invokestatic 45, 3) := by decide +kernel
theorem dX2_readNumbers_90 : decode cX2_readNumbers 90 = .ok (.iastore, 1) := by decide +kernel
theorem dX2_readNumbers_91 : decode cX2_readNumbers 91 = .ok (.iload 6, 2) := by decide +kernel
theorem dX2_readNumbers_93 : decode cX2_readNumbers 93 = .ok (.iconst 1, 1) := by decide +kernel
theorem dX2_readNumbers_94 : decode cX2_readNumbers 94 = .ok (.iadd, 1) := by decide +kernel
theorem dX2_readNumbers_95 : decode cX2_readNumbers 95 = .ok (.istore 4, 2) := by decide +kernel
theorem dX2_readNumbers_97 : decode cX2_readNumbers 97 = .ok (.iinc 5 1, 3) := by decide +kernel
theorem dX2_readNumbers_100 : decode cX2_readNumbers 100 = .ok (.goto (-86), 3) := by decide +kernel
theorem dX2_readNumbers_103 : decode cX2_readNumbers 103 = .ok (.iload 4, 2) := by decide +kernel
theorem dX2_readNumbers_105 : decode cX2_readNumbers 105 = .ok (.ireturn, 1) := by decide +kernel
set_option maxRecDepth 20000 in
theorem ggX2_figuresEnd_X5_at : GoodIn wsX2_figuresEnd wsX5_at := goodIn_r _ [5, 6, 7, 8, 9] (by decide +kernel) (by decide +kernel)
set_option maxRecDepth 20000 in
theorem gX2_figuresEnd_X5_at : GoodIn wsX2_figuresEnd (wsV RX2 26 RX5 yX5_at wsX5_at) := goodIn_app (goodIn_of _ (by decide +kernel)) ggX2_figuresEnd_X5_at
theorem dX2_figuresEnd_0 : decode cX2_figuresEnd 0 = .ok (.iload_n 1, 1) := by decide +kernel
theorem dX2_figuresEnd_1 : decode cX2_figuresEnd 1 = .ok (.istore_n 2, 1) := by decide +kernel
theorem dX2_figuresEnd_2 : decode cX2_figuresEnd 2 = .ok (.iload_n 2, 1) := by decide +kernel
theorem dX2_figuresEnd_3 : decode cX2_figuresEnd 3 = .ok (.iload_n 1, 1) := by decide +kernel
theorem dX2_figuresEnd_4 : decode cX2_figuresEnd 4 = .ok (.iconst 3, 1) := by decide +kernel
theorem dX2_figuresEnd_5 : decode cX2_figuresEnd 5 = .ok (.iadd, 1) := by decide +kernel
theorem dX2_figuresEnd_6 : decode cX2_figuresEnd 6 = .ok (.if_icmp .ge 29, 3) := by decide +kernel
theorem dX2_figuresEnd_9 : decode cX2_figuresEnd 9 = .ok (.aload_n 0, 1) := by decide +kernel
theorem dX2_figuresEnd_10 : decode cX2_figuresEnd 10 = .ok (.iload_n 2, 1) := by decide +kernel
theorem dX2_figuresEnd_11 : decode cX2_figuresEnd 11 = .ok (.invokevirtual 26, 3) := by decide +kernel
theorem dX2_figuresEnd_14 : decode cX2_figuresEnd 14 = .ok (.bipush 48, 2) := by decide +kernel
theorem dX2_figuresEnd_16 : decode cX2_figuresEnd 16 = .ok (.if_icmp .lt 19, 3) := by decide +kernel
theorem dX2_figuresEnd_19 : decode cX2_figuresEnd 19 = .ok (.aload_n 0, 1) := by decide +kernel
theorem dX2_figuresEnd_20 : decode cX2_figuresEnd 20 = .ok (.iload_n 2, 1) := by decide +kernel
theorem dX2_figuresEnd_21 : decode cX2_figuresEnd 21 = .ok (.invokevirtual 26, 3) := by decide +kernel
theorem dX2_figuresEnd_24 : decode cX2_figuresEnd 24 = .ok (.bipush 57, 2) := by decide +kernel
theorem dX2_figuresEnd_26 : decode cX2_figuresEnd 26 = .ok (.if_icmp .gt 9, 3) := by decide +kernel
theorem dX2_figuresEnd_29 : decode cX2_figuresEnd 29 = .ok (.iinc 2 1, 3) := by decide +kernel
theorem dX2_figuresEnd_32 : decode cX2_figuresEnd 32 = .ok (.goto (-30), 3) := by decide +kernel
theorem dX2_figuresEnd_35 : decode cX2_figuresEnd 35 = .ok (.iload_n 2, 1) := by decide +kernel
theorem dX2_figuresEnd_36 : decode cX2_figuresEnd 36 = .ok (.ireturn, 1) := by decide +kernel
set_option maxRecDepth 20000 in
theorem ggX2_valueOf_X5_at : GoodIn wsX2_valueOf wsX5_at := goodIn_r _ [5, 6, 7, 8, 9] (by decide +kernel) (by decide +kernel)
set_option maxRecDepth 20000 in
theorem gX2_valueOf_X5_at : GoodIn wsX2_valueOf (wsV RX2 26 RX5 yX5_at wsX5_at) := goodIn_app (goodIn_of _ (by decide +kernel)) ggX2_valueOf_X5_at
theorem dX2_valueOf_0 : decode cX2_valueOf 0 = .ok (.iconst 0, 1) := by decide +kernel
theorem dX2_valueOf_1 : decode cX2_valueOf 1 = .ok (.istore_n 3, 1) := by decide +kernel
theorem dX2_valueOf_2 : decode cX2_valueOf 2 = .ok (.iload_n 1, 1) := by decide +kernel
theorem dX2_valueOf_3 : decode cX2_valueOf 3 = .ok (.istore 4, 2) := by decide +kernel
theorem dX2_valueOf_5 : decode cX2_valueOf 5 = .ok (.iload 4, 2) := by decide +kernel
theorem dX2_valueOf_7 : decode cX2_valueOf 7 = .ok (.iload_n 2, 1) := by decide +kernel
theorem dX2_valueOf_8 : decode cX2_valueOf 8 = .ok (.if_icmp .ge 24, 3) := by decide +kernel
theorem dX2_valueOf_11 : decode cX2_valueOf 11 = .ok (.bipush 10, 2) := by decide +kernel
theorem dX2_valueOf_13 : decode cX2_valueOf 13 = .ok (.iload_n 3, 1) := by decide +kernel
theorem dX2_valueOf_14 : decode cX2_valueOf 14 = .ok (.imul, 1) := by decide +kernel
theorem dX2_valueOf_15 : decode cX2_valueOf 15 = .ok (.aload_n 0, 1) := by decide +kernel
theorem dX2_valueOf_16 : decode cX2_valueOf 16 = .ok (.iload 4, 2) := by decide +kernel
theorem dX2_valueOf_18 : decode cX2_valueOf 18 = .ok (.invokevirtual 26, 3) := by decide +kernel
theorem dX2_valueOf_21 : decode cX2_valueOf 21 = .ok (.iadd, 1) := by decide +kernel
theorem dX2_valueOf_22 : decode cX2_valueOf 22 = .ok (.bipush 48, 2) := by decide +kernel
theorem dX2_valueOf_24 : decode cX2_valueOf 24 = .ok (.isub, 1) := by decide +kernel
theorem dX2_valueOf_25 : decode cX2_valueOf 25 = .ok (.istore_n 3, 1) := by decide +kernel
theorem dX2_valueOf_26 : decode cX2_valueOf 26 = .ok (.iinc 4 1, 3) := by decide +kernel
theorem dX2_valueOf_29 : decode cX2_valueOf 29 = .ok (.goto (-24), 3) := by decide +kernel
theorem dX2_valueOf_32 : decode cX2_valueOf 32 = .ok (.iload_n 3, 1) := by decide +kernel
theorem dX2_valueOf_33 : decode cX2_valueOf 33 = .ok (.ireturn, 1) := by decide +kernel
set_option maxRecDepth 20000 in
theorem ggX2_takeItem_X6_addPerson : GoodIn wsX2_takeItem wsX6_addPerson := goodIn_r _ [6, 7, 8, 42, 43, 44, 45, 46, 47, 48, 49, 50, 51, 52, 53] (by decide +kernel) (by decide +kernel)
set_option maxRecDepth 20000 in
theorem gX2_takeItem_X6_addPerson : GoodIn wsX2_takeItem (wsV RX2 48 RX6 yX6_addPerson wsX6_addPerson) := goodIn_app (goodIn_of _ (by decide +kernel)) ggX2_takeItem_X6_addPerson
set_option maxRecDepth 20000 in
theorem ggX2_takeItem_X6_setLaw : GoodIn wsX2_takeItem wsX6_setLaw := goodIn_r _ [12, 13, 42, 43, 44, 45, 46, 47, 48, 49, 50, 51, 52, 53] (by decide +kernel) (by decide +kernel)
set_option maxRecDepth 20000 in
theorem gX2_takeItem_X6_setLaw : GoodIn wsX2_takeItem (wsV RX2 52 RX6 yX6_setLaw wsX6_setLaw) := goodIn_app (goodIn_of _ (by decide +kernel)) ggX2_takeItem_X6_setLaw
set_option maxRecDepth 20000 in
theorem ggX2_takeItem_X6_addKnot : GoodIn wsX2_takeItem wsX6_addKnot := goodIn_r _ [17, 18, 19, 20, 21, 22, 23, 24, 25, 26, 27, 28, 5, 29, 30, 31, 32, 33, 7, 34, 35, 36, 37, 38, 39, 40, 42, 43, 44, 45, 46, 47, 48, 49, 50, 51, 52, 53] (by decide +kernel) (by decide +kernel)
set_option maxRecDepth 20000 in
theorem gX2_takeItem_X6_addKnot : GoodIn wsX2_takeItem (wsV RX2 55 RX6 yX6_addKnot wsX6_addKnot) := goodIn_app (goodIn_of _ (by decide +kernel)) ggX2_takeItem_X6_addKnot
theorem dX2_takeItem_0 : decode cX2_takeItem 0 = .ok (.iload_n 1, 1) := by decide +kernel
theorem dX2_takeItem_1 : decode cX2_takeItem 1 = .ok (.bipush 112, 2) := by decide +kernel
theorem dX2_takeItem_3 : decode cX2_takeItem 3 = .ok (.if_icmp .ne 14, 3) := by decide +kernel
theorem dX2_takeItem_6 : decode cX2_takeItem 6 = .ok (.aload_n 2, 1) := by decide +kernel
theorem dX2_takeItem_7 : decode cX2_takeItem 7 = .ok (.aload_n 0, 1) := by decide +kernel
theorem dX2_takeItem_8 : decode cX2_takeItem 8 = .ok (.getfield 9, 3) := by decide +kernel
theorem dX2_takeItem_11 : decode cX2_takeItem 11 = .ok (.iconst 0, 1) := by decide +kernel
theorem dX2_takeItem_12 : decode cX2_takeItem 12 = .ok (.iaload, 1) := by decide +kernel
theorem dX2_takeItem_13 : decode cX2_takeItem 13 = .ok (.invokevirtual 48, 3) := by decide +kernel
theorem dX2_takeItem_16 : decode cX2_takeItem 16 = .ok (.ireturn, 1) := by decide +kernel
theorem dX2_takeItem_17 : decode cX2_takeItem 17 = .ok (.iload_n 1, 1) := by decide +kernel
theorem dX2_takeItem_18 : decode cX2_takeItem 18 = .ok (.bipush 108, 2) := by decide +kernel
theorem dX2_takeItem_20 : decode cX2_takeItem 20 = .ok (.if_icmp .ne 14, 3) := by decide +kernel
theorem dX2_takeItem_23 : decode cX2_takeItem 23 = .ok (.aload_n 2, 1) := by decide +kernel
theorem dX2_takeItem_24 : decode cX2_takeItem 24 = .ok (.aload_n 0, 1) := by decide +kernel
theorem dX2_takeItem_25 : decode cX2_takeItem 25 = .ok (.getfield 9, 3) := by decide +kernel
theorem dX2_takeItem_28 : decode cX2_takeItem 28 = .ok (.iconst 0, 1) := by decide +kernel
theorem dX2_takeItem_29 : decode cX2_takeItem 29 = .ok (.iaload, 1) := by decide +kernel
theorem dX2_takeItem_30 : decode cX2_takeItem 30 = .ok (.invokevirtual 52, 3) := by decide +kernel
theorem dX2_takeItem_33 : decode cX2_takeItem 33 = .ok (.ireturn, 1) := by decide +kernel
theorem dX2_takeItem_34 : decode cX2_takeItem 34 = .ok (.aload_n 2, 1) := by decide +kernel
theorem dX2_takeItem_35 : decode cX2_takeItem 35 = .ok (.aload_n 0, 1) := by decide +kernel
theorem dX2_takeItem_36 : decode cX2_takeItem 36 = .ok (.getfield 9, 3) := by decide +kernel
theorem dX2_takeItem_39 : decode cX2_takeItem 39 = .ok (.iconst 0, 1) := by decide +kernel
theorem dX2_takeItem_40 : decode cX2_takeItem 40 = .ok (.iaload, 1) := by decide +kernel
theorem dX2_takeItem_41 : decode cX2_takeItem 41 = .ok (.aload_n 0, 1) := by decide +kernel
theorem dX2_takeItem_42 : decode cX2_takeItem 42 = .ok (.getfield 9, 3) := by decide +kernel
theorem dX2_takeItem_45 : decode cX2_takeItem 45 = .ok (.iconst 1, 1) := by decide +kernel
theorem dX2_takeItem_46 : decode cX2_takeItem 46 = .ok (.iaload, 1) := by decide +kernel
theorem dX2_takeItem_47 : decode cX2_takeItem 47 = .ok (.aload_n 0, 1) := by decide +kernel
theorem dX2_takeItem_48 : decode cX2_takeItem 48 = .ok (.getfield 9, 3) := by decide +kernel
theorem dX2_takeItem_51 : decode cX2_takeItem 51 = .ok (.iconst 2, 1) := by decide +kernel
theorem dX2_takeItem_52 : decode cX2_takeItem 52 = .ok (.iaload, 1) := by decide +kernel
theorem dX2_takeItem_53 : decode cX2_takeItem 53 = .ok (.aload_n 0, 1) := by decide +kernel
theorem dX2_takeItem_54 : decode cX2_takeItem 54 = .ok (.getfield 9, 3) := by decide +kernel
theorem dX2_takeItem_57 : decode cX2_takeItem 57 = .ok (.iconst 3, 1) := by decide +kernel
theorem dX2_takeItem_58 : decode cX2_takeItem 58 = .ok (.iaload, 1) := by decide +kernel
theorem dX2_takeItem_59 : decode cX2_takeItem 59 = .ok (.aload_n 0, 1) := by decide +kernel
theorem dX2_takeItem_60 : decode cX2_takeItem 60 = .ok (.getfield 9, 3) := by decide +kernel
theorem dX2_takeItem_63 : decode cX2_takeItem 63 = .ok (.iconst 4, 1) := by decide +kernel
theorem dX2_takeItem_64 : decode cX2_takeItem 64 = .ok (.iaload, 1) := by decide +kernel
theorem dX2_takeItem_65 : decode cX2_takeItem 65 = .ok (.invokevirtual 55, 3) := by decide +kernel
theorem dX2_takeItem_68 : decode cX2_takeItem 68 = .ok (.ireturn, 1) := by decide +kernel
theorem dX3_init_0 : decode cX3_init 0 = .ok (.aload_n 0, 1) := by decide +kernel
theorem dX3_init_1 : decode cX3_init 1 = .ok (.invokespecial 3, 3) := by decide +kernel
theorem dX3_init_4 : decode cX3_init 4 = .ok (.aload_n 0, 1) := by decide +kernel
theorem dX3_init_5 : decode cX3_init 5 = .ok (.bipush 16, 2) := by decide +kernel
theorem dX3_init_7 : decode cX3_init 7 = .ok (.newarray .int, 2) := by decide +kernel
theorem dX3_init_9 : decode cX3_init 9 = .ok (.putfield 9, 3) := by decide +kernel
theorem dX3_init_12 : decode cX3_init 12 = .ok (.return_, 1) := by decide +kernel
theorem dX3_size_0 : decode cX3_size 0 = .ok (.aload_n 0, 1) := by decide +kernel
theorem dX3_size_1 : decode cX3_size 1 = .ok (.getfield 15, 3) := by decide +kernel
theorem dX3_size_4 : decode cX3_size 4 = .ok (.ireturn, 1) := by decide +kernel
theorem dX3_loosenedSize_0 : decode cX3_loosenedSize 0 = .ok (.aload_n 0, 1) := by decide +kernel
theorem dX3_loosenedSize_1 : decode cX3_loosenedSize 1 = .ok (.getfield 19, 3) := by decide +kernel
theorem dX3_loosenedSize_4 : decode cX3_loosenedSize 4 = .ok (.ireturn, 1) := by decide +kernel
theorem dX3_empty_0 : decode cX3_empty 0 = .ok (.aload_n 0, 1) := by decide +kernel
theorem dX3_empty_1 : decode cX3_empty 1 = .ok (.iconst 0, 1) := by decide +kernel
theorem dX3_empty_2 : decode cX3_empty 2 = .ok (.putfield 19, 3) := by decide +kernel
theorem dX3_empty_5 : decode cX3_empty 5 = .ok (.aload_n 0, 1) := by decide +kernel
theorem dX3_empty_6 : decode cX3_empty 6 = .ok (.iconst 0, 1) := by decide +kernel
theorem dX3_empty_7 : decode cX3_empty 7 = .ok (.putfield 15, 3) := by decide +kernel
theorem dX3_empty_10 : decode cX3_empty 10 = .ok (.return_, 1) := by decide +kernel
set_option maxRecDepth 20000 in
theorem ggX3_append_X3_loosenedAt : GoodIn wsX3_append wsX3_loosenedAt := goodIn_r _ [8, 2, 3, 12, 13, 14] (by decide +kernel) (by decide +kernel)
set_option maxRecDepth 20000 in
theorem gX3_append_X3_loosenedAt : GoodIn wsX3_append (wsV RX3 22 RX3 yX3_loosenedAt wsX3_loosenedAt) := goodIn_app (goodIn_of _ (by decide +kernel)) ggX3_append_X3_loosenedAt
set_option maxRecDepth 20000 in
theorem ggX3_append_X3_isPair : GoodIn wsX3_append wsX3_isPair := goodIn_r _ [11] (by decide +kernel) (by decide +kernel)
set_option maxRecDepth 20000 in
theorem gX3_append_X3_isPair : GoodIn wsX3_append (va_wsS RX3 26 yX3_isPair wsX3_isPair) := goodIn_app (goodIn_of _ (by decide +kernel)) ggX3_append_X3_isPair
theorem dX3_append_0 : decode cX3_append 0 = .ok (.aload_n 0, 1) := by decide +kernel
theorem dX3_append_1 : decode cX3_append 1 = .ok (.dup, 1) := by decide +kernel
theorem dX3_append_2 : decode cX3_append 2 = .ok (.getfield 15, 3) := by decide +kernel
theorem dX3_append_5 : decode cX3_append 5 = .ok (.iconst 1, 1) := by decide +kernel
theorem dX3_append_6 : decode cX3_append 6 = .ok (.iadd, 1) := by decide +kernel
theorem dX3_append_7 : decode cX3_append 7 = .ok (.putfield 15, 3) := by decide +kernel
theorem dX3_append_10 : decode cX3_append 10 = .ok (.aload_n 0, 1) := by decide +kernel
theorem dX3_append_11 : decode cX3_append 11 = .ok (.getfield 19, 3) := by decide +kernel
theorem dX3_append_14 : decode cX3_append 14 = .ok (.ifCond .le 33, 3) := by decide +kernel
theorem dX3_append_17 : decode cX3_append 17 = .ok (.aload_n 0, 1) := by decide +kernel
theorem dX3_append_18 : decode cX3_append 18 = .ok (.aload_n 0, 1) := by decide +kernel
theorem dX3_append_19 : decode cX3_append 19 = .ok (.getfield 19, 3) := by decide +kernel
theorem dX3_append_22 : decode cX3_append 22 = .ok (.iconst 1, 1) := by decide +kernel
theorem dX3_append_23 : decode cX3_append 23 = .ok (.isub, 1) := by decide +kernel
theorem dX3_append_24 : decode cX3_append 24 = .ok (.invokevirtual 22, 3) := by decide +kernel
theorem dX3_append_27 : decode cX3_append 27 = .ok (.iload_n 1, 1) := by decide +kernel
theorem dX3_append_28 : decode cX3_append 28 = .ok (.invokestatic 26, 3) := by decide +kernel
theorem dX3_append_31 : decode cX3_append 31 = .ok (.ifCond .eq 16, 3) := by decide +kernel
theorem dX3_append_34 : decode cX3_append 34 = .ok (.aload_n 0, 1) := by decide +kernel
theorem dX3_append_35 : decode cX3_append 35 = .ok (.dup, 1) := by decide +kernel
theorem dX3_append_36 : decode cX3_append 36 = .ok (.getfield 19, 3) := by decide +kernel
theorem dX3_append_39 : decode cX3_append 39 = .ok (.iconst 1, 1) := by decide +kernel
theorem dX3_append_40 : decode cX3_append 40 = .ok (.isub, 1) := by decide +kernel
theorem dX3_append_41 : decode cX3_append 41 = .ok (.putfield 19, 3) := by decide +kernel
theorem dX3_append_44 : decode cX3_append 44 = .ok (.goto 35, 3) := by decide +kernel
theorem dX3_append_47 : decode cX3_append 47 = .ok (.aload_n 0, 1) := by decide +kernel
theorem dX3_append_48 : decode cX3_append 48 = .ok (.getfield 19, 3) := by decide +kernel
theorem dX3_append_51 : decode cX3_append 51 = .ok (.aload_n 0, 1) := by decide +kernel
theorem dX3_append_52 : decode cX3_append 52 = .ok (.getfield 9, 3) := by decide +kernel
theorem dX3_append_55 : decode cX3_append 55 = .ok (.arraylength, 1) := by decide +kernel
theorem dX3_append_56 : decode cX3_append 56 = .ok (.if_icmp .ge 23, 3) := by decide +kernel
theorem dX3_append_59 : decode cX3_append 59 = .ok (.aload_n 0, 1) := by decide +kernel
theorem dX3_append_60 : decode cX3_append 60 = .ok (.getfield 9, 3) := by decide +kernel
theorem dX3_append_63 : decode cX3_append 63 = .ok (.aload_n 0, 1) := by decide +kernel
theorem dX3_append_64 : decode cX3_append 64 = .ok (.getfield 19, 3) := by decide +kernel
theorem dX3_append_67 : decode cX3_append 67 = .ok (.iload_n 1, 1) := by decide +kernel
theorem dX3_append_68 : decode cX3_append 68 = .ok (.iastore, 1) := by decide +kernel
theorem dX3_append_69 : decode cX3_append 69 = .ok (.aload_n 0, 1) := by decide +kernel
theorem dX3_append_70 : decode cX3_append 70 = .ok (.dup, 1) := by decide +kernel
theorem dX3_append_71 : decode cX3_append 71 = .ok (.getfield 19, 3) := by decide +kernel
theorem dX3_append_74 : decode cX3_append 74 = .ok (.iconst 1, 1) := by decide +kernel
theorem dX3_append_75 : decode cX3_append 75 = .ok (.iadd, 1) := by decide +kernel
theorem dX3_append_76 : decode cX3_append 76 = .ok (.putfield 19, 3) := by decide +kernel
theorem dX3_append_79 : decode cX3_append 79 = .ok (.return_, 1) := by decide +kernel
theorem dX3_loosenedAt_0 : decode cX3_loosenedAt 0 = .ok (.iload_n 1, 1) := by decide +kernel
theorem dX3_loosenedAt_1 : decode cX3_loosenedAt 1 = .ok (.ifCond .lt 29, 3) := by decide +kernel
theorem dX3_loosenedAt_4 : decode cX3_loosenedAt 4 = .ok (.iload_n 1, 1) := by decide +kernel
theorem dX3_loosenedAt_5 : decode cX3_loosenedAt 5 = .ok (.aload_n 0, 1) := by decide +kernel
theorem dX3_loosenedAt_6 : decode cX3_loosenedAt 6 = .ok (.getfield 19, 3) := by decide +kernel
theorem dX3_loosenedAt_9 : decode cX3_loosenedAt 9 = .ok (.if_icmp .ge 21, 3) := by decide +kernel
theorem dX3_loosenedAt_12 : decode cX3_loosenedAt 12 = .ok (.iload_n 1, 1) := by decide +kernel
theorem dX3_loosenedAt_13 : decode cX3_loosenedAt 13 = .ok (.aload_n 0, 1) := by decide +kernel
theorem dX3_loosenedAt_14 : decode cX3_loosenedAt 14 = .ok (.getfield 9, 3) := by decide +kernel
theorem dX3_loosenedAt_17 : decode cX3_loosenedAt 17 = .ok (.arraylength, 1) := by decide +kernel
theorem dX3_loosenedAt_18 : decode cX3_loosenedAt 18 = .ok (.if_icmp .ge 12, 3) := by decide +kernel
theorem dX3_loosenedAt_21 : decode cX3_loosenedAt 21 = .ok (.aload_n 0, 1) := by decide +kernel
theorem dX3_loosenedAt_22 : decode cX3_loosenedAt 22 = .ok (.getfield 9, 3) := by decide +kernel
theorem dX3_loosenedAt_25 : decode cX3_loosenedAt 25 = .ok (.iload_n 1, 1) := by decide +kernel
theorem dX3_loosenedAt_26 : decode cX3_loosenedAt 26 = .ok (.iaload, 1) := by decide +kernel
theorem dX3_loosenedAt_27 : decode cX3_loosenedAt 27 = .ok (.goto 5, 3) := by decide +kernel
theorem dX3_loosenedAt_30 : decode cX3_loosenedAt 30 = .ok (.bipush (-4), 2) := by decide +kernel
theorem dX3_loosenedAt_32 : decode cX3_loosenedAt 32 = .ok (.ireturn, 1) := by decide +kernel
theorem dX3_isPair_0 : decode cX3_isPair 0 = .ok (.iload_n 0, 1) := by decide +kernel
theorem dX3_isPair_1 : decode cX3_isPair 1 = .ok (.iload_n 1, 1) := by decide +kernel
theorem dX3_isPair_2 : decode cX3_isPair 2 = .ok (.ixor, 1) := by decide +kernel
theorem dX3_isPair_3 : decode cX3_isPair 3 = .ok (.iconst 1, 1) := by decide +kernel
theorem dX3_isPair_4 : decode cX3_isPair 4 = .ok (.if_icmp .ne 7, 3) := by decide +kernel
theorem dX3_isPair_7 : decode cX3_isPair 7 = .ok (.iconst 1, 1) := by decide +kernel
theorem dX3_isPair_8 : decode cX3_isPair 8 = .ok (.goto 4, 3) := by decide +kernel
theorem dX3_isPair_11 : decode cX3_isPair 11 = .ok (.iconst 0, 1) := by decide +kernel
theorem dX3_isPair_12 : decode cX3_isPair 12 = .ok (.ireturn, 1) := by decide +kernel
set_option maxRecDepth 20000 in
theorem ggX3_isSame_X3_isSameTurned : GoodIn wsX3_isSame wsX3_isSameTurned := goodIn_r _ [6, 1, 7, 8, 9, 5, 10, 11, 12, 13, 14] (by decide +kernel) (by decide +kernel)
set_option maxRecDepth 20000 in
theorem gX3_isSame_X3_isSameTurned : GoodIn wsX3_isSame (wsV RX3 30 RX3 yX3_isSameTurned wsX3_isSameTurned) := goodIn_app (goodIn_of _ (by decide +kernel)) ggX3_isSame_X3_isSameTurned
theorem dX3_isSame_0 : decode cX3_isSame 0 = .ok (.aload_n 0, 1) := by decide +kernel
theorem dX3_isSame_1 : decode cX3_isSame 1 = .ok (.getfield 19, 3) := by decide +kernel
theorem dX3_isSame_4 : decode cX3_isSame 4 = .ok (.aload_n 1, 1) := by decide +kernel
theorem dX3_isSame_5 : decode cX3_isSame 5 = .ok (.getfield 19, 3) := by decide +kernel
theorem dX3_isSame_8 : decode cX3_isSame 8 = .ok (.if_icmp .ne 18, 3) := by decide +kernel
theorem dX3_isSame_11 : decode cX3_isSame 11 = .ok (.aload_n 0, 1) := by decide +kernel
theorem dX3_isSame_12 : decode cX3_isSame 12 = .ok (.aload_n 1, 1) := by decide +kernel
theorem dX3_isSame_13 : decode cX3_isSame 13 = .ok (.iconst 0, 1) := by decide +kernel
theorem dX3_isSame_14 : decode cX3_isSame 14 = .ok (.iconst 0, 1) := by decide +kernel
theorem dX3_isSame_15 : decode cX3_isSame 15 = .ok (.iconst 0, 1) := by decide +kernel
theorem dX3_isSame_16 : decode cX3_isSame 16 = .ok (.invokevirtual 30, 3) := by decide +kernel
theorem dX3_isSame_19 : decode cX3_isSame 19 = .ok (.ifCond .eq 7, 3) := by decide +kernel
theorem dX3_isSame_22 : decode cX3_isSame 22 = .ok (.iconst 1, 1) := by decide +kernel
theorem dX3_isSame_23 : decode cX3_isSame 23 = .ok (.goto 4, 3) := by decide +kernel
theorem dX3_isSame_26 : decode cX3_isSame 26 = .ok (.iconst 0, 1) := by decide +kernel
theorem dX3_isSame_27 : decode cX3_isSame 27 = .ok (.ireturn, 1) := by decide +kernel
set_option maxRecDepth 20000 in
theorem ggX3_isTurned_X3_endPairs : GoodIn wsX3_isTurned wsX3_endPairs := goodIn_r _ [6, 1, 7, 8, 9, 5, 10, 11, 12, 13, 14, 19, 20, 21] (by decide +kernel) (by decide +kernel)
set_option maxRecDepth 20000 in
theorem gX3_isTurned_X3_endPairs : GoodIn wsX3_isTurned (wsV RX3 34 RX3 yX3_endPairs wsX3_endPairs) := goodIn_app (goodIn_of _ (by decide +kernel)) ggX3_isTurned_X3_endPairs
set_option maxRecDepth 20000 in
theorem ggX3_isTurned_X3_isSameTurned : GoodIn wsX3_isTurned wsX3_isSameTurned := goodIn_r _ [18, 1, 7, 8, 9, 5, 10, 11, 19, 20, 21] (by decide +kernel) (by decide +kernel)
set_option maxRecDepth 20000 in
theorem gX3_isTurned_X3_isSameTurned : GoodIn wsX3_isTurned (wsV RX3 30 RX3 yX3_isSameTurned wsX3_isSameTurned) := goodIn_app (goodIn_of _ (by decide +kernel)) ggX3_isTurned_X3_isSameTurned
theorem dX3_isTurned_0 : decode cX3_isTurned 0 = .ok (.aload_n 0, 1) := by decide +kernel
theorem dX3_isTurned_1 : decode cX3_isTurned 1 = .ok (.invokevirtual 34, 3) := by decide +kernel
theorem dX3_isTurned_4 : decode cX3_isTurned 4 = .ok (.istore_n 2, 1) := by decide +kernel
theorem dX3_isTurned_5 : decode cX3_isTurned 5 = .ok (.aload_n 1, 1) := by decide +kernel
theorem dX3_isTurned_6 : decode cX3_isTurned 6 = .ok (.invokevirtual 34, 3) := by decide +kernel
theorem dX3_isTurned_9 : decode cX3_isTurned 9 = .ok (.istore_n 3, 1) := by decide +kernel
theorem dX3_isTurned_10 : decode cX3_isTurned 10 = .ok (.aload_n 0, 1) := by decide +kernel
theorem dX3_isTurned_11 : decode cX3_isTurned 11 = .ok (.getfield 19, 3) := by decide +kernel
theorem dX3_isTurned_14 : decode cX3_isTurned 14 = .ok (.iconst 2, 1) := by decide +kernel
theorem dX3_isTurned_15 : decode cX3_isTurned 15 = .ok (.iload_n 2, 1) := by decide +kernel
theorem dX3_isTurned_16 : decode cX3_isTurned 16 = .ok (.imul, 1) := by decide +kernel
theorem dX3_isTurned_17 : decode cX3_isTurned 17 = .ok (.isub, 1) := by decide +kernel
theorem dX3_isTurned_18 : decode cX3_isTurned 18 = .ok (.istore 4, 2) := by decide +kernel
theorem dX3_isTurned_20 : decode cX3_isTurned 20 = .ok (.iload 4, 2) := by decide +kernel
theorem dX3_isTurned_22 : decode cX3_isTurned 22 = .ok (.aload_n 1, 1) := by decide +kernel
theorem dX3_isTurned_23 : decode cX3_isTurned 23 = .ok (.getfield 19, 3) := by decide +kernel
theorem dX3_isTurned_26 : decode cX3_isTurned 26 = .ok (.iconst 2, 1) := by decide +kernel
theorem dX3_isTurned_27 : decode cX3_isTurned 27 = .ok (.iload_n 3, 1) := by decide +kernel
theorem dX3_isTurned_28 : decode cX3_isTurned 28 = .ok (.imul, 1) := by decide +kernel
theorem dX3_isTurned_29 : decode cX3_isTurned 29 = .ok (.isub, 1) := by decide +kernel
theorem dX3_isTurned_30 : decode cX3_isTurned 30 = .ok (.if_icmp .eq 5, 3) := by decide +kernel
theorem dX3_isTurned_33 : decode cX3_isTurned 33 = .ok (.iconst 0, 1) := by decide +kernel
theorem dX3_isTurned_34 : decode cX3_isTurned 34 = .ok (.ireturn, 1) := by decide +kernel
theorem dX3_isTurned_35 : decode cX3_isTurned 35 = .ok (.iconst 0, 1) := by decide +kernel
theorem dX3_isTurned_36 : decode cX3_isTurned 36 = .ok (.istore 5, 2) := by decide +kernel
theorem dX3_isTurned_38 : decode cX3_isTurned 38 = .ok (.iload 5, 2) := by decide +kernel
theorem dX3_isTurned_40 : decode cX3_isTurned 40 = .ok (.iload 4, 2) := by decide +kernel
theorem dX3_isTurned_42 : decode cX3_isTurned 42 = .ok (.if_icmp .ge 23, 3) := by decide +kernel
theorem dX3_isTurned_45 : decode cX3_isTurned 45 = .ok (.aload_n 0, 1) := by decide +kernel
theorem dX3_isTurned_46 : decode cX3_isTurned 46 = .ok (.aload_n 1, 1) := by decide +kernel
theorem dX3_isTurned_47 : decode cX3_isTurned 47 = .ok (.iload_n 2, 1) := by decide +kernel
theorem dX3_isTurned_48 : decode cX3_isTurned 48 = .ok (.iload_n 3, 1) := by decide +kernel
theorem dX3_isTurned_49 : decode cX3_isTurned 49 = .ok (.iload 5, 2) := by decide +kernel
theorem dX3_isTurned_51 : decode cX3_isTurned 51 = .ok (.invokevirtual 30, 3) := by decide +kernel
theorem dX3_isTurned_54 : decode cX3_isTurned 54 = .ok (.ifCond .eq 5, 3) := by decide +kernel
theorem dX3_isTurned_57 : decode cX3_isTurned 57 = .ok (.iconst 1, 1) := by decide +kernel
theorem dX3_isTurned_58 : decode cX3_isTurned 58 = .ok (.ireturn, 1) := by decide +kernel
theorem dX3_isTurned_59 : decode cX3_isTurned 59 = .ok (.iinc 5 1, 3) := by decide +kernel
theorem dX3_isTurned_62 : decode cX3_isTurned 62 = .ok (.goto (-24), 3) := by decide +kernel
theorem dX3_isTurned_65 : decode cX3_isTurned 65 = .ok (.iconst 0, 1) := by decide +kernel
theorem dX3_isTurned_66 : decode cX3_isTurned 66 = .ok (.ireturn, 1) := by decide +kernel
set_option maxRecDepth 20000 in
theorem ggX3_endPairs_X3_loosenedAt : GoodIn wsX3_endPairs wsX3_loosenedAt := goodIn_r _ [6, 1, 7, 11, 12, 13] (by decide +kernel) (by decide +kernel)
set_option maxRecDepth 20000 in
theorem gX3_endPairs_X3_loosenedAt : GoodIn wsX3_endPairs (wsV RX3 22 RX3 yX3_loosenedAt wsX3_loosenedAt) := goodIn_app (goodIn_of _ (by decide +kernel)) ggX3_endPairs_X3_loosenedAt
set_option maxRecDepth 20000 in
theorem ggX3_endPairs_X3_isPair : GoodIn wsX3_endPairs wsX3_isPair := goodIn_r _ [10] (by decide +kernel) (by decide +kernel)
set_option maxRecDepth 20000 in
theorem gX3_endPairs_X3_isPair : GoodIn wsX3_endPairs (va_wsS RX3 26 yX3_isPair wsX3_isPair) := goodIn_app (goodIn_of _ (by decide +kernel)) ggX3_endPairs_X3_isPair
theorem dX3_endPairs_0 : decode cX3_endPairs 0 = .ok (.iconst 0, 1) := by decide +kernel
theorem dX3_endPairs_1 : decode cX3_endPairs 1 = .ok (.istore_n 1, 1) := by decide +kernel
theorem dX3_endPairs_2 : decode cX3_endPairs 2 = .ok (.aload_n 0, 1) := by decide +kernel
theorem dX3_endPairs_3 : decode cX3_endPairs 3 = .ok (.getfield 19, 3) := by decide +kernel
theorem dX3_endPairs_6 : decode cX3_endPairs 6 = .ok (.iconst 2, 1) := by decide +kernel
theorem dX3_endPairs_7 : decode cX3_endPairs 7 = .ok (.iload_n 1, 1) := by decide +kernel
theorem dX3_endPairs_8 : decode cX3_endPairs 8 = .ok (.imul, 1) := by decide +kernel
theorem dX3_endPairs_9 : decode cX3_endPairs 9 = .ok (.isub, 1) := by decide +kernel
theorem dX3_endPairs_10 : decode cX3_endPairs 10 = .ok (.iconst 2, 1) := by decide +kernel
theorem dX3_endPairs_11 : decode cX3_endPairs 11 = .ok (.if_icmp .lt 32, 3) := by decide +kernel
theorem dX3_endPairs_14 : decode cX3_endPairs 14 = .ok (.aload_n 0, 1) := by decide +kernel
theorem dX3_endPairs_15 : decode cX3_endPairs 15 = .ok (.iload_n 1, 1) := by decide +kernel
theorem dX3_endPairs_16 : decode cX3_endPairs 16 = .ok (.invokevirtual 22, 3) := by decide +kernel
theorem dX3_endPairs_19 : decode cX3_endPairs 19 = .ok (.aload_n 0, 1) := by decide +kernel
theorem dX3_endPairs_20 : decode cX3_endPairs 20 = .ok (.aload_n 0, 1) := by decide +kernel
theorem dX3_endPairs_21 : decode cX3_endPairs 21 = .ok (.getfield 19, 3) := by decide +kernel
theorem dX3_endPairs_24 : decode cX3_endPairs 24 = .ok (.iconst 1, 1) := by decide +kernel
theorem dX3_endPairs_25 : decode cX3_endPairs 25 = .ok (.isub, 1) := by decide +kernel
theorem dX3_endPairs_26 : decode cX3_endPairs 26 = .ok (.iload_n 1, 1) := by decide +kernel
theorem dX3_endPairs_27 : decode cX3_endPairs 27 = .ok (.isub, 1) := by decide +kernel
theorem dX3_endPairs_28 : decode cX3_endPairs 28 = .ok (.invokevirtual 22, 3) := by decide +kernel
theorem dX3_endPairs_31 : decode cX3_endPairs 31 = .ok (.invokestatic 26, 3) := by decide +kernel
theorem dX3_endPairs_34 : decode cX3_endPairs 34 = .ok (.ifCond .eq 9, 3) := by decide +kernel
theorem dX3_endPairs_37 : decode cX3_endPairs 37 = .ok (.iinc 1 1, 3) := by decide +kernel
theorem dX3_endPairs_40 : decode cX3_endPairs 40 = .ok (.goto (-38), 3) := by decide +kernel
theorem dX3_endPairs_43 : decode cX3_endPairs 43 = .ok (.iload_n 1, 1) := by decide +kernel
theorem dX3_endPairs_44 : decode cX3_endPairs 44 = .ok (.ireturn, 1) := by decide +kernel
set_option maxRecDepth 20000 in
theorem ggX3_isSameTurned_X3_loosenedAt : GoodIn wsX3_isSameTurned wsX3_loosenedAt := goodIn_r _ [6, 1, 7, 8, 9, 10] (by decide +kernel) (by decide +kernel)
set_option maxRecDepth 20000 in
theorem gX3_isSameTurned_X3_loosenedAt : GoodIn wsX3_isSameTurned (wsV RX3 22 RX3 yX3_loosenedAt wsX3_loosenedAt) := goodIn_app (goodIn_of _ (by decide +kernel)) ggX3_isSameTurned_X3_loosenedAt
theorem dX3_isSameTurned_0 : decode cX3_isSameTurned 0 = .ok (.aload_n 0, 1) := by decide +kernel
theorem dX3_isSameTurned_1 : decode cX3_isSameTurned 1 = .ok (.getfield 19, 3) := by decide +kernel
theorem dX3_isSameTurned_4 : decode cX3_isSameTurned 4 = .ok (.iconst 2, 1) := by decide +kernel
theorem dX3_isSameTurned_5 : decode cX3_isSameTurned 5 = .ok (.iload_n 2, 1) := by decide +kernel
theorem dX3_isSameTurned_6 : decode cX3_isSameTurned 6 = .ok (.imul, 1) := by decide +kernel
theorem dX3_isSameTurned_7 : decode cX3_isSameTurned 7 = .ok (.isub, 1) := by decide +kernel
theorem dX3_isSameTurned_8 : decode cX3_isSameTurned 8 = .ok (.istore 5, 2) := by decide +kernel
theorem dX3_isSameTurned_10 : decode cX3_isSameTurned 10 = .ok (.iconst 0, 1) := by decide +kernel
theorem dX3_isSameTurned_11 : decode cX3_isSameTurned 11 = .ok (.istore 6, 2) := by decide +kernel
theorem dX3_isSameTurned_13 : decode cX3_isSameTurned 13 = .ok (.iload 6, 2) := by decide +kernel
theorem dX3_isSameTurned_15 : decode cX3_isSameTurned 15 = .ok (.iload 5, 2) := by decide +kernel
theorem dX3_isSameTurned_17 : decode cX3_isSameTurned 17 = .ok (.if_icmp .ge 58, 3) := by decide +kernel
theorem dX3_isSameTurned_20 : decode cX3_isSameTurned 20 = .ok (.iload 6, 2) := by decide +kernel
theorem dX3_isSameTurned_22 : decode cX3_isSameTurned 22 = .ok (.iload 4, 2) := by decide +kernel
theorem dX3_isSameTurned_24 : decode cX3_isSameTurned 24 = .ok (.iadd, 1) := by decide +kernel
theorem dX3_isSameTurned_25 : decode cX3_isSameTurned 25 = .ok (.iload 5, 2) := by decide +kernel
theorem dX3_isSameTurned_27 : decode cX3_isSameTurned 27 = .ok (.if_icmp .ge 11, 3) := by decide +kernel
theorem dX3_isSameTurned_30 : decode cX3_isSameTurned 30 = .ok (.iload 6, 2) := by decide +kernel
theorem dX3_isSameTurned_32 : decode cX3_isSameTurned 32 = .ok (.iload 4, 2) := by decide +kernel
theorem dX3_isSameTurned_34 : decode cX3_isSameTurned 34 = .ok (.iadd, 1) := by decide +kernel
theorem dX3_isSameTurned_35 : decode cX3_isSameTurned 35 = .ok (.goto 11, 3) := by decide +kernel
theorem dX3_isSameTurned_38 : decode cX3_isSameTurned 38 = .ok (.iload 6, 2) := by decide +kernel
theorem dX3_isSameTurned_40 : decode cX3_isSameTurned 40 = .ok (.iload 4, 2) := by decide +kernel
theorem dX3_isSameTurned_42 : decode cX3_isSameTurned 42 = .ok (.iadd, 1) := by decide +kernel
theorem dX3_isSameTurned_43 : decode cX3_isSameTurned 43 = .ok (.iload 5, 2) := by decide +kernel
theorem dX3_isSameTurned_45 : decode cX3_isSameTurned 45 = .ok (.isub, 1) := by decide +kernel
theorem dX3_isSameTurned_46 : decode cX3_isSameTurned 46 = .ok (.istore 7, 2) := by decide +kernel
theorem dX3_isSameTurned_48 : decode cX3_isSameTurned 48 = .ok (.aload_n 0, 1) := by decide +kernel
theorem dX3_isSameTurned_49 : decode cX3_isSameTurned 49 = .ok (.iload_n 2, 1) := by decide +kernel
theorem dX3_isSameTurned_50 : decode cX3_isSameTurned 50 = .ok (.iload 7, 2) := by decide +kernel
theorem dX3_isSameTurned_52 : decode cX3_isSameTurned 52 = .ok (.iadd, 1) := by decide +kernel
theorem dX3_isSameTurned_53 : decode cX3_isSameTurned 53 = .ok (.invokevirtual 22, 3) := by decide +kernel
theorem dX3_isSameTurned_56 : decode cX3_isSameTurned 56 = .ok (.aload_n 1, 1) := by decide +kernel
theorem dX3_isSameTurned_57 : decode cX3_isSameTurned 57 = .ok (.iload_n 3, 1) := by decide +kernel
theorem dX3_isSameTurned_58 : decode cX3_isSameTurned 58 = .ok (.iload 6, 2) := by decide +kernel
theorem dX3_isSameTurned_60 : decode cX3_isSameTurned 60 = .ok (.iadd, 1) := by decide +kernel
theorem dX3_isSameTurned_61 : decode cX3_isSameTurned 61 = .ok (.invokevirtual 22, 3) := by decide +kernel
theorem dX3_isSameTurned_64 : decode cX3_isSameTurned 64 = .ok (.if_icmp .eq 5, 3) := by decide +kernel
theorem dX3_isSameTurned_67 : decode cX3_isSameTurned 67 = .ok (.iconst 0, 1) := by decide +kernel
theorem dX3_isSameTurned_68 : decode cX3_isSameTurned 68 = .ok (.ireturn, 1) := by decide +kernel
theorem dX3_isSameTurned_69 : decode cX3_isSameTurned 69 = .ok (.iinc 6 1, 3) := by decide +kernel
theorem dX3_isSameTurned_72 : decode cX3_isSameTurned 72 = .ok (.goto (-59), 3) := by decide +kernel
theorem dX3_isSameTurned_75 : decode cX3_isSameTurned 75 = .ok (.iconst 1, 1) := by decide +kernel
theorem dX3_isSameTurned_76 : decode cX3_isSameTurned 76 = .ok (.ireturn, 1) := by decide +kernel
set_option maxRecDepth 20000 in
theorem ggX3_markOf_X3_loosenedAt : GoodIn wsX3_markOf wsX3_loosenedAt := goodIn_r _ [6, 1, 7, 8, 9, 10] (by decide +kernel) (by decide +kernel)
set_option maxRecDepth 20000 in
theorem gX3_markOf_X3_loosenedAt : GoodIn wsX3_markOf (wsV RX3 22 RX3 yX3_loosenedAt wsX3_loosenedAt) := goodIn_app (goodIn_of _ (by decide +kernel)) ggX3_markOf_X3_loosenedAt
theorem dX3_markOf_0 : decode cX3_markOf 0 = .ok (.iconst 0, 1) := by decide +kernel
theorem dX3_markOf_1 : decode cX3_markOf 1 = .ok (.istore_n 2, 1) := by decide +kernel
theorem dX3_markOf_2 : decode cX3_markOf 2 = .ok (.iconst 0, 1) := by decide +kernel
theorem dX3_markOf_3 : decode cX3_markOf 3 = .ok (.istore_n 3, 1) := by decide +kernel
theorem dX3_markOf_4 : decode cX3_markOf 4 = .ok (.iload_n 3, 1) := by decide +kernel
theorem dX3_markOf_5 : decode cX3_markOf 5 = .ok (.aload_n 0, 1) := by decide +kernel
theorem dX3_markOf_6 : decode cX3_markOf 6 = .ok (.getfield 19, 3) := by decide +kernel
theorem dX3_markOf_9 : decode cX3_markOf 9 = .ok (.if_icmp .ge 39, 3) := by decide +kernel
theorem dX3_markOf_12 : decode cX3_markOf 12 = .ok (.aload_n 0, 1) := by decide +kernel
theorem dX3_markOf_13 : decode cX3_markOf 13 = .ok (.iload_n 3, 1) := by decide +kernel
theorem dX3_markOf_14 : decode cX3_markOf 14 = .ok (.invokevirtual 22, 3) := by decide +kernel
theorem dX3_markOf_17 : decode cX3_markOf 17 = .ok (.istore 4, 2) := by decide +kernel
theorem dX3_markOf_19 : decode cX3_markOf 19 = .ok (.iload 4, 2) := by decide +kernel
theorem dX3_markOf_21 : decode cX3_markOf 21 = .ok (.iconst 1, 1) := by decide +kernel
theorem dX3_markOf_22 : decode cX3_markOf 22 = .ok (.ishr, 1) := by decide +kernel
theorem dX3_markOf_23 : decode cX3_markOf 23 = .ok (.iload_n 1, 1) := by decide +kernel
theorem dX3_markOf_24 : decode cX3_markOf 24 = .ok (.if_icmp .ne 18, 3) := by decide +kernel
theorem dX3_markOf_27 : decode cX3_markOf 27 = .ok (.iload_n 2, 1) := by decide +kernel
theorem dX3_markOf_28 : decode cX3_markOf 28 = .ok (.iload 4, 2) := by decide +kernel
theorem dX3_markOf_30 : decode cX3_markOf 30 = .ok (.iconst 1, 1) := by decide +kernel
theorem dX3_markOf_31 : decode cX3_markOf 31 = .ok (.iand, 1) := by decide +kernel
theorem dX3_markOf_32 : decode cX3_markOf 32 = .ok (.ifCond .ne 7, 3) := by decide +kernel
theorem dX3_markOf_35 : decode cX3_markOf 35 = .ok (.iconst 1, 1) := by decide +kernel
theorem dX3_markOf_36 : decode cX3_markOf 36 = .ok (.goto 4, 3) := by decide +kernel
theorem dX3_markOf_39 : decode cX3_markOf 39 = .ok (.iconst (-1), 1) := by decide +kernel
theorem dX3_markOf_40 : decode cX3_markOf 40 = .ok (.iadd, 1) := by decide +kernel
theorem dX3_markOf_41 : decode cX3_markOf 41 = .ok (.istore_n 2, 1) := by decide +kernel
theorem dX3_markOf_42 : decode cX3_markOf 42 = .ok (.iinc 3 1, 3) := by decide +kernel
theorem dX3_markOf_45 : decode cX3_markOf 45 = .ok (.goto (-41), 3) := by decide +kernel
theorem dX3_markOf_48 : decode cX3_markOf 48 = .ok (.iload_n 2, 1) := by decide +kernel
theorem dX3_markOf_49 : decode cX3_markOf 49 = .ok (.ireturn, 1) := by decide +kernel
theorem dX4_init_0 : decode cX4_init 0 = .ok (.aload_n 0, 1) := by decide +kernel
theorem dX4_init_1 : decode cX4_init 1 = .ok (.invokespecial 3, 3) := by decide +kernel
theorem dX4_init_4 : decode cX4_init 4 = .ok (.aload_n 0, 1) := by decide +kernel
theorem dX4_init_5 : decode cX4_init 5 = .ok (.bipush 8, 2) := by decide +kernel
theorem dX4_init_7 : decode cX4_init 7 = .ok (.newarray .int, 2) := by decide +kernel
theorem dX4_init_9 : decode cX4_init 9 = .ok (.putfield 9, 3) := by decide +kernel
theorem dX4_init_12 : decode cX4_init 12 = .ok (.return_, 1) := by decide +kernel
theorem dX4_size_0 : decode cX4_size 0 = .ok (.aload_n 0, 1) := by decide +kernel
theorem dX4_size_1 : decode cX4_size 1 = .ok (.getfield 15, 3) := by decide +kernel
theorem dX4_size_4 : decode cX4_size 4 = .ok (.ireturn, 1) := by decide +kernel
theorem dX4_empty_0 : decode cX4_empty 0 = .ok (.aload_n 0, 1) := by decide +kernel
theorem dX4_empty_1 : decode cX4_empty 1 = .ok (.iconst 0, 1) := by decide +kernel
theorem dX4_empty_2 : decode cX4_empty 2 = .ok (.putfield 15, 3) := by decide +kernel
theorem dX4_empty_5 : decode cX4_empty 5 = .ok (.return_, 1) := by decide +kernel
theorem dX4_append_0 : decode cX4_append 0 = .ok (.aload_n 0, 1) := by decide +kernel
theorem dX4_append_1 : decode cX4_append 1 = .ok (.getfield 15, 3) := by decide +kernel
theorem dX4_append_4 : decode cX4_append 4 = .ok (.aload_n 0, 1) := by decide +kernel
theorem dX4_append_5 : decode cX4_append 5 = .ok (.getfield 9, 3) := by decide +kernel
theorem dX4_append_8 : decode cX4_append 8 = .ok (.arraylength, 1) := by decide +kernel
theorem dX4_append_9 : decode cX4_append 9 = .ok (.if_icmp .ge 23, 3) := by decide +kernel
theorem dX4_append_12 : decode cX4_append 12 = .ok (.aload_n 0, 1) := by decide +kernel
theorem dX4_append_13 : decode cX4_append 13 = .ok (.getfield 9, 3) := by decide +kernel
theorem dX4_append_16 : decode cX4_append 16 = .ok (.aload_n 0, 1) := by decide +kernel
theorem dX4_append_17 : decode cX4_append 17 = .ok (.getfield 15, 3) := by decide +kernel
theorem dX4_append_20 : decode cX4_append 20 = .ok (.iload_n 1, 1) := by decide +kernel
theorem dX4_append_21 : decode cX4_append 21 = .ok (.iastore, 1) := by decide +kernel
theorem dX4_append_22 : decode cX4_append 22 = .ok (.aload_n 0, 1) := by decide +kernel
theorem dX4_append_23 : decode cX4_append 23 = .ok (.dup, 1) := by decide +kernel
theorem dX4_append_24 : decode cX4_append 24 = .ok (.getfield 15, 3) := by decide +kernel
theorem dX4_append_27 : decode cX4_append 27 = .ok (.iconst 1, 1) := by decide +kernel
theorem dX4_append_28 : decode cX4_append 28 = .ok (.iadd, 1) := by decide +kernel
theorem dX4_append_29 : decode cX4_append 29 = .ok (.putfield 15, 3) := by decide +kernel
theorem dX4_append_32 : decode cX4_append 32 = .ok (.return_, 1) := by decide +kernel
set_option maxRecDepth 20000 in
theorem ggX4_holds_X4_setFrom : GoodIn wsX4_holds wsX4_setFrom := goodIn_r _ [5, 6, 7, 8, 9, 10, 13, 14] (by decide +kernel) (by decide +kernel)
set_option maxRecDepth 20000 in
theorem gX4_holds_X4_setFrom : GoodIn wsX4_holds (wsV RX4 19 RX4 yX4_setFrom wsX4_setFrom) := goodIn_app (goodIn_of _ (by decide +kernel)) ggX4_holds_X4_setFrom
set_option maxRecDepth 20000 in
theorem ggX4_holds_X7_has : GoodIn wsX4_holds wsX7_has := goodIn_r _ [12] (by decide +kernel) (by decide +kernel)
set_option maxRecDepth 20000 in
theorem gX4_holds_X7_has_n23 : GoodIn wsX4_holds (wsX7_has) := ggX4_holds_X7_has
theorem dX4_holds_0 : decode cX4_holds 0 = .ok (.aload_n 0, 1) := by decide +kernel
theorem dX4_holds_1 : decode cX4_holds 1 = .ok (.iconst 0, 1) := by decide +kernel
theorem dX4_holds_2 : decode cX4_holds 2 = .ok (.invokevirtual 19, 3) := by decide +kernel
theorem dX4_holds_5 : decode cX4_holds 5 = .ok (.iload_n 1, 1) := by decide +kernel
theorem dX4_holds_6 : decode cX4_holds 6 = .ok (.invokestatic 23, 3) := by decide +kernel
theorem dX4_holds_9 : decode cX4_holds 9 = .ok (.ireturn, 1) := by decide +kernel
set_option maxRecDepth 20000 in
theorem ggX4_setFrom_X7_bit : GoodIn wsX4_setFrom wsX7_bit := goodIn_r _ [5] (by decide +kernel) (by decide +kernel)
set_option maxRecDepth 20000 in
theorem gX4_setFrom_X7_bit_n27 : GoodIn wsX4_setFrom (wsX7_bit) := ggX4_setFrom_X7_bit
theorem dX4_setFrom_0 : decode cX4_setFrom 0 = .ok (.iconst 0, 1) := by decide +kernel
theorem dX4_setFrom_1 : decode cX4_setFrom 1 = .ok (.istore_n 2, 1) := by decide +kernel
theorem dX4_setFrom_2 : decode cX4_setFrom 2 = .ok (.iload_n 1, 1) := by decide +kernel
theorem dX4_setFrom_3 : decode cX4_setFrom 3 = .ok (.istore_n 3, 1) := by decide +kernel
theorem dX4_setFrom_4 : decode cX4_setFrom 4 = .ok (.iload_n 3, 1) := by decide +kernel
theorem dX4_setFrom_5 : decode cX4_setFrom 5 = .ok (.aload_n 0, 1) := by decide +kernel
theorem dX4_setFrom_6 : decode cX4_setFrom 6 = .ok (.getfield 15, 3) := by decide +kernel
theorem dX4_setFrom_9 : decode cX4_setFrom 9 = .ok (.if_icmp .ge 30, 3) := by decide +kernel
theorem dX4_setFrom_12 : decode cX4_setFrom 12 = .ok (.iload_n 3, 1) := by decide +kernel
theorem dX4_setFrom_13 : decode cX4_setFrom 13 = .ok (.aload_n 0, 1) := by decide +kernel
theorem dX4_setFrom_14 : decode cX4_setFrom 14 = .ok (.getfield 9, 3) := by decide +kernel
theorem dX4_setFrom_17 : decode cX4_setFrom 17 = .ok (.arraylength, 1) := by decide +kernel
theorem dX4_setFrom_18 : decode cX4_setFrom 18 = .ok (.if_icmp .ge 21, 3) := by decide +kernel
theorem dX4_setFrom_21 : decode cX4_setFrom 21 = .ok (.iload_n 2, 1) := by decide +kernel
theorem dX4_setFrom_22 : decode cX4_setFrom 22 = .ok (.aload_n 0, 1) := by decide +kernel
theorem dX4_setFrom_23 : decode cX4_setFrom 23 = .ok (.getfield 9, 3) := by decide +kernel
theorem dX4_setFrom_26 : decode cX4_setFrom 26 = .ok (.iload_n 3, 1) := by decide +kernel
theorem dX4_setFrom_27 : decode cX4_setFrom 27 = .ok (.iaload, 1) := by decide +kernel
theorem dX4_setFrom_28 : decode cX4_setFrom 28 = .ok (.invokestatic 27, 3) := by decide +kernel
theorem dX4_setFrom_31 : decode cX4_setFrom 31 = .ok (.ior, 1) := by decide +kernel
theorem dX4_setFrom_32 : decode cX4_setFrom 32 = .ok (.istore_n 2, 1) := by decide +kernel
theorem dX4_setFrom_33 : decode cX4_setFrom 33 = .ok (.iinc 3 1, 3) := by decide +kernel
theorem dX4_setFrom_36 : decode cX4_setFrom 36 = .ok (.goto (-32), 3) := by decide +kernel
theorem dX4_setFrom_39 : decode cX4_setFrom 39 = .ok (.iload_n 2, 1) := by decide +kernel
theorem dX4_setFrom_40 : decode cX4_setFrom 40 = .ok (.ireturn, 1) := by decide +kernel
set_option maxRecDepth 20000 in
theorem ggX4_firstWrong_X6_isKnot : GoodIn wsX4_firstWrong wsX6_isKnot := goodIn_r _ [7, 8, 19, 20, 21, 22, 23, 24, 25, 26, 27, 28, 29, 30] (by decide +kernel) (by decide +kernel)
set_option maxRecDepth 20000 in
theorem gX4_firstWrong_X6_isKnot : GoodIn wsX4_firstWrong (wsV RX4 30 RX6 yX6_isKnot wsX6_isKnot) := goodIn_app (goodIn_of _ (by decide +kernel)) ggX4_firstWrong_X6_isKnot
set_option maxRecDepth 20000 in
theorem ggX4_firstWrong_X4_setFrom : GoodIn wsX4_firstWrong wsX4_setFrom := goodIn_r _ [13, 1, 2, 14, 15, 16, 17, 18] (by decide +kernel) (by decide +kernel)
set_option maxRecDepth 20000 in
theorem gX4_firstWrong_X4_setFrom : GoodIn wsX4_firstWrong (wsV RX4 19 RX4 yX4_setFrom wsX4_setFrom) := goodIn_app (goodIn_of _ (by decide +kernel)) ggX4_firstWrong_X4_setFrom
theorem dX4_firstWrong_0 : decode cX4_firstWrong 0 = .ok (.iconst 0, 1) := by decide +kernel
theorem dX4_firstWrong_1 : decode cX4_firstWrong 1 = .ok (.istore_n 2, 1) := by decide +kernel
theorem dX4_firstWrong_2 : decode cX4_firstWrong 2 = .ok (.iload_n 2, 1) := by decide +kernel
theorem dX4_firstWrong_3 : decode cX4_firstWrong 3 = .ok (.aload_n 0, 1) := by decide +kernel
theorem dX4_firstWrong_4 : decode cX4_firstWrong 4 = .ok (.getfield 15, 3) := by decide +kernel
theorem dX4_firstWrong_7 : decode cX4_firstWrong 7 = .ok (.if_icmp .ge 52, 3) := by decide +kernel
theorem dX4_firstWrong_10 : decode cX4_firstWrong 10 = .ok (.iload_n 2, 1) := by decide +kernel
theorem dX4_firstWrong_11 : decode cX4_firstWrong 11 = .ok (.aload_n 0, 1) := by decide +kernel
theorem dX4_firstWrong_12 : decode cX4_firstWrong 12 = .ok (.getfield 9, 3) := by decide +kernel
theorem dX4_firstWrong_15 : decode cX4_firstWrong 15 = .ok (.arraylength, 1) := by decide +kernel
theorem dX4_firstWrong_16 : decode cX4_firstWrong 16 = .ok (.if_icmp .ge 43, 3) := by decide +kernel
theorem dX4_firstWrong_19 : decode cX4_firstWrong 19 = .ok (.aload_n 0, 1) := by decide +kernel
theorem dX4_firstWrong_20 : decode cX4_firstWrong 20 = .ok (.getfield 9, 3) := by decide +kernel
theorem dX4_firstWrong_23 : decode cX4_firstWrong 23 = .ok (.iload_n 2, 1) := by decide +kernel
theorem dX4_firstWrong_24 : decode cX4_firstWrong 24 = .ok (.iaload, 1) := by decide +kernel
theorem dX4_firstWrong_25 : decode cX4_firstWrong 25 = .ok (.istore_n 3, 1) := by decide +kernel
theorem dX4_firstWrong_26 : decode cX4_firstWrong 26 = .ok (.aload_n 1, 1) := by decide +kernel
theorem dX4_firstWrong_27 : decode cX4_firstWrong 27 = .ok (.iload_n 3, 1) := by decide +kernel
theorem dX4_firstWrong_28 : decode cX4_firstWrong 28 = .ok (.invokevirtual 30, 3) := by decide +kernel
theorem dX4_firstWrong_31 : decode cX4_firstWrong 31 = .ok (.ifCond .eq 22, 3) := by decide +kernel
theorem dX4_firstWrong_34 : decode cX4_firstWrong 34 = .ok (.aload_n 1, 1) := by decide +kernel
theorem dX4_firstWrong_35 : decode cX4_firstWrong 35 = .ok (.getfield 36, 3) := by decide +kernel
theorem dX4_firstWrong_38 : decode cX4_firstWrong 38 = .ok (.iload_n 3, 1) := by decide +kernel
theorem dX4_firstWrong_39 : decode cX4_firstWrong 39 = .ok (.iaload, 1) := by decide +kernel
theorem dX4_firstWrong_40 : decode cX4_firstWrong 40 = .ok (.aload_n 0, 1) := by decide +kernel
theorem dX4_firstWrong_41 : decode cX4_firstWrong 41 = .ok (.iload_n 2, 1) := by decide +kernel
theorem dX4_firstWrong_42 : decode cX4_firstWrong 42 = .ok (.iconst 1, 1) := by decide +kernel
theorem dX4_firstWrong_43 : decode cX4_firstWrong 43 = .ok (.iadd, 1) := by decide +kernel
theorem dX4_firstWrong_44 : decode cX4_firstWrong 44 = .ok (.invokevirtual 19, 3) := by decide +kernel
theorem dX4_firstWrong_47 : decode cX4_firstWrong 47 = .ok (.iand, 1) := by decide +kernel
theorem dX4_firstWrong_48 : decode cX4_firstWrong 48 = .ok (.ifCond .eq 5, 3) := by decide +kernel
theorem dX4_firstWrong_51 : decode cX4_firstWrong 51 = .ok (.iload_n 2, 1) := by decide +kernel
theorem dX4_firstWrong_52 : decode cX4_firstWrong 52 = .ok (.ireturn, 1) := by decide +kernel
theorem dX4_firstWrong_53 : decode cX4_firstWrong 53 = .ok (.iinc 2 1, 3) := by decide +kernel
theorem dX4_firstWrong_56 : decode cX4_firstWrong 56 = .ok (.goto (-54), 3) := by decide +kernel
theorem dX4_firstWrong_59 : decode cX4_firstWrong 59 = .ok (.bipush (-4), 2) := by decide +kernel
theorem dX4_firstWrong_61 : decode cX4_firstWrong 61 = .ok (.ireturn, 1) := by decide +kernel
theorem dX5_init_0 : decode cX5_init 0 = .ok (.aload_n 0, 1) := by decide +kernel
theorem dX5_init_1 : decode cX5_init 1 = .ok (.invokespecial 3, 3) := by decide +kernel
theorem dX5_init_4 : decode cX5_init 4 = .ok (.aload_n 0, 1) := by decide +kernel
theorem dX5_init_5 : decode cX5_init 5 = .ok (.sipush 300, 3) := by decide +kernel
theorem dX5_init_8 : decode cX5_init 8 = .ok (.newarray .int, 2) := by decide +kernel
theorem dX5_init_10 : decode cX5_init 10 = .ok (.putfield 9, 3) := by decide +kernel
theorem dX5_init_13 : decode cX5_init 13 = .ok (.return_, 1) := by decide +kernel
theorem dX5_size_0 : decode cX5_size 0 = .ok (.aload_n 0, 1) := by decide +kernel
theorem dX5_size_1 : decode cX5_size 1 = .ok (.getfield 15, 3) := by decide +kernel
theorem dX5_size_4 : decode cX5_size 4 = .ok (.ireturn, 1) := by decide +kernel
theorem dX5_empty_0 : decode cX5_empty 0 = .ok (.aload_n 0, 1) := by decide +kernel
theorem dX5_empty_1 : decode cX5_empty 1 = .ok (.iconst 0, 1) := by decide +kernel
theorem dX5_empty_2 : decode cX5_empty 2 = .ok (.putfield 15, 3) := by decide +kernel
theorem dX5_empty_5 : decode cX5_empty 5 = .ok (.return_, 1) := by decide +kernel
theorem dX5_append_0 : decode cX5_append 0 = .ok (.aload_n 0, 1) := by decide +kernel
theorem dX5_append_1 : decode cX5_append 1 = .ok (.getfield 15, 3) := by decide +kernel
theorem dX5_append_4 : decode cX5_append 4 = .ok (.aload_n 0, 1) := by decide +kernel
theorem dX5_append_5 : decode cX5_append 5 = .ok (.getfield 9, 3) := by decide +kernel
theorem dX5_append_8 : decode cX5_append 8 = .ok (.arraylength, 1) := by decide +kernel
theorem dX5_append_9 : decode cX5_append 9 = .ok (.if_icmp .ge 23, 3) := by decide +kernel
theorem dX5_append_12 : decode cX5_append 12 = .ok (.aload_n 0, 1) := by decide +kernel
theorem dX5_append_13 : decode cX5_append 13 = .ok (.getfield 9, 3) := by decide +kernel
theorem dX5_append_16 : decode cX5_append 16 = .ok (.aload_n 0, 1) := by decide +kernel
theorem dX5_append_17 : decode cX5_append 17 = .ok (.getfield 15, 3) := by decide +kernel
theorem dX5_append_20 : decode cX5_append 20 = .ok (.iload_n 1, 1) := by decide +kernel
theorem dX5_append_21 : decode cX5_append 21 = .ok (.iastore, 1) := by decide +kernel
theorem dX5_append_22 : decode cX5_append 22 = .ok (.aload_n 0, 1) := by decide +kernel
theorem dX5_append_23 : decode cX5_append 23 = .ok (.dup, 1) := by decide +kernel
theorem dX5_append_24 : decode cX5_append 24 = .ok (.getfield 15, 3) := by decide +kernel
theorem dX5_append_27 : decode cX5_append 27 = .ok (.iconst 1, 1) := by decide +kernel
theorem dX5_append_28 : decode cX5_append 28 = .ok (.iadd, 1) := by decide +kernel
theorem dX5_append_29 : decode cX5_append 29 = .ok (.putfield 15, 3) := by decide +kernel
theorem dX5_append_32 : decode cX5_append 32 = .ok (.return_, 1) := by decide +kernel
theorem dX5_at_0 : decode cX5_at 0 = .ok (.iload_n 1, 1) := by decide +kernel
theorem dX5_at_1 : decode cX5_at 1 = .ok (.ifCond .lt 29, 3) := by decide +kernel
theorem dX5_at_4 : decode cX5_at 4 = .ok (.iload_n 1, 1) := by decide +kernel
theorem dX5_at_5 : decode cX5_at 5 = .ok (.aload_n 0, 1) := by decide +kernel
theorem dX5_at_6 : decode cX5_at 6 = .ok (.getfield 15, 3) := by decide +kernel
theorem dX5_at_9 : decode cX5_at 9 = .ok (.if_icmp .ge 21, 3) := by decide +kernel
theorem dX5_at_12 : decode cX5_at 12 = .ok (.iload_n 1, 1) := by decide +kernel
theorem dX5_at_13 : decode cX5_at 13 = .ok (.aload_n 0, 1) := by decide +kernel
theorem dX5_at_14 : decode cX5_at 14 = .ok (.getfield 9, 3) := by decide +kernel
theorem dX5_at_17 : decode cX5_at 17 = .ok (.arraylength, 1) := by decide +kernel
theorem dX5_at_18 : decode cX5_at 18 = .ok (.if_icmp .ge 12, 3) := by decide +kernel
theorem dX5_at_21 : decode cX5_at 21 = .ok (.aload_n 0, 1) := by decide +kernel
theorem dX5_at_22 : decode cX5_at 22 = .ok (.getfield 9, 3) := by decide +kernel
theorem dX5_at_25 : decode cX5_at 25 = .ok (.iload_n 1, 1) := by decide +kernel
theorem dX5_at_26 : decode cX5_at 26 = .ok (.iaload, 1) := by decide +kernel
theorem dX5_at_27 : decode cX5_at 27 = .ok (.goto 4, 3) := by decide +kernel
theorem dX5_at_30 : decode cX5_at 30 = .ok (.iconst (-1), 1) := by decide +kernel
theorem dX5_at_31 : decode cX5_at 31 = .ok (.ireturn, 1) := by decide +kernel
theorem dX6_init_0 : decode cX6_init 0 = .ok (.aload_n 0, 1) := by decide +kernel
theorem dX6_init_1 : decode cX6_init 1 = .ok (.invokespecial 3, 3) := by decide +kernel
theorem dX6_init_4 : decode cX6_init 4 = .ok (.aload_n 0, 1) := by decide +kernel
theorem dX6_init_5 : decode cX6_init 5 = .ok (.bipush 8, 2) := by decide +kernel
theorem dX6_init_7 : decode cX6_init 7 = .ok (.newarray .int, 2) := by decide +kernel
theorem dX6_init_9 : decode cX6_init 9 = .ok (.putfield 9, 3) := by decide +kernel
theorem dX6_init_12 : decode cX6_init 12 = .ok (.aload_n 0, 1) := by decide +kernel
theorem dX6_init_13 : decode cX6_init 13 = .ok (.bipush 8, 2) := by decide +kernel
theorem dX6_init_15 : decode cX6_init 15 = .ok (.newarray .int, 2) := by decide +kernel
theorem dX6_init_17 : decode cX6_init 17 = .ok (.putfield 15, 3) := by decide +kernel
theorem dX6_init_20 : decode cX6_init 20 = .ok (.aload_n 0, 1) := by decide +kernel
theorem dX6_init_21 : decode cX6_init 21 = .ok (.bipush 8, 2) := by decide +kernel
theorem dX6_init_23 : decode cX6_init 23 = .ok (.newarray .int, 2) := by decide +kernel
theorem dX6_init_25 : decode cX6_init 25 = .ok (.putfield 18, 3) := by decide +kernel
theorem dX6_init_28 : decode cX6_init 28 = .ok (.aload_n 0, 1) := by decide +kernel
theorem dX6_init_29 : decode cX6_init 29 = .ok (.bipush 8, 2) := by decide +kernel
theorem dX6_init_31 : decode cX6_init 31 = .ok (.newarray .int, 2) := by decide +kernel
theorem dX6_init_33 : decode cX6_init 33 = .ok (.putfield 21, 3) := by decide +kernel
theorem dX6_init_36 : decode cX6_init 36 = .ok (.aload_n 0, 1) := by decide +kernel
theorem dX6_init_37 : decode cX6_init 37 = .ok (.bipush 8, 2) := by decide +kernel
theorem dX6_init_39 : decode cX6_init 39 = .ok (.newarray .int, 2) := by decide +kernel
theorem dX6_init_41 : decode cX6_init 41 = .ok (.putfield 24, 3) := by decide +kernel
theorem dX6_init_44 : decode cX6_init 44 = .ok (.aload_n 0, 1) := by decide +kernel
theorem dX6_init_45 : decode cX6_init 45 = .ok (.bipush 8, 2) := by decide +kernel
theorem dX6_init_47 : decode cX6_init 47 = .ok (.newarray .int, 2) := by decide +kernel
theorem dX6_init_49 : decode cX6_init 49 = .ok (.putfield 27, 3) := by decide +kernel
theorem dX6_init_52 : decode cX6_init 52 = .ok (.return_, 1) := by decide +kernel
theorem dX6_empty_0 : decode cX6_empty 0 = .ok (.aload_n 0, 1) := by decide +kernel
theorem dX6_empty_1 : decode cX6_empty 1 = .ok (.iconst 0, 1) := by decide +kernel
theorem dX6_empty_2 : decode cX6_empty 2 = .ok (.putfield 30, 3) := by decide +kernel
theorem dX6_empty_5 : decode cX6_empty 5 = .ok (.aload_n 0, 1) := by decide +kernel
theorem dX6_empty_6 : decode cX6_empty 6 = .ok (.iconst 0, 1) := by decide +kernel
theorem dX6_empty_7 : decode cX6_empty 7 = .ok (.putfield 34, 3) := by decide +kernel
theorem dX6_empty_10 : decode cX6_empty 10 = .ok (.aload_n 0, 1) := by decide +kernel
theorem dX6_empty_11 : decode cX6_empty 11 = .ok (.iconst 0, 1) := by decide +kernel
theorem dX6_empty_12 : decode cX6_empty 12 = .ok (.putfield 37, 3) := by decide +kernel
theorem dX6_empty_15 : decode cX6_empty 15 = .ok (.aload_n 0, 1) := by decide +kernel
theorem dX6_empty_16 : decode cX6_empty 16 = .ok (.iconst 0, 1) := by decide +kernel
theorem dX6_empty_17 : decode cX6_empty 17 = .ok (.putfield 40, 3) := by decide +kernel
theorem dX6_empty_20 : decode cX6_empty 20 = .ok (.aload_n 0, 1) := by decide +kernel
theorem dX6_empty_21 : decode cX6_empty 21 = .ok (.iconst 0, 1) := by decide +kernel
theorem dX6_empty_22 : decode cX6_empty 22 = .ok (.putfield 43, 3) := by decide +kernel
theorem dX6_empty_25 : decode cX6_empty 25 = .ok (.aload_n 0, 1) := by decide +kernel
theorem dX6_empty_26 : decode cX6_empty 26 = .ok (.iconst 0, 1) := by decide +kernel
theorem dX6_empty_27 : decode cX6_empty 27 = .ok (.putfield 46, 3) := by decide +kernel
theorem dX6_empty_30 : decode cX6_empty 30 = .ok (.return_, 1) := by decide +kernel
theorem dX6_copy_0 : decode cX6_copy 0 = .ok (.iconst 0, 1) := by decide +kernel
theorem dX6_copy_1 : decode cX6_copy 1 = .ok (.istore_n 2, 1) := by decide +kernel
theorem dX6_copy_2 : decode cX6_copy 2 = .ok (.iload_n 2, 1) := by decide +kernel
theorem dX6_copy_3 : decode cX6_copy 3 = .ok (.bipush 8, 2) := by decide +kernel
theorem dX6_copy_5 : decode cX6_copy 5 = .ok (.if_icmp .ge 81, 3) := by decide +kernel
theorem dX6_copy_8 : decode cX6_copy 8 = .ok (.aload_n 0, 1) := by decide +kernel
theorem dX6_copy_9 : decode cX6_copy 9 = .ok (.getfield 9, 3) := by decide +kernel
theorem dX6_copy_12 : decode cX6_copy 12 = .ok (.iload_n 2, 1) := by decide +kernel
theorem dX6_copy_13 : decode cX6_copy 13 = .ok (.aload_n 1, 1) := by decide +kernel
theorem dX6_copy_14 : decode cX6_copy 14 = .ok (.getfield 9, 3) := by decide +kernel
theorem dX6_copy_17 : decode cX6_copy 17 = .ok (.iload_n 2, 1) := by decide +kernel
theorem dX6_copy_18 : decode cX6_copy 18 = .ok (.iaload, 1) := by decide +kernel
theorem dX6_copy_19 : decode cX6_copy 19 = .ok (.iastore, 1) := by decide +kernel
theorem dX6_copy_20 : decode cX6_copy 20 = .ok (.aload_n 0, 1) := by decide +kernel
theorem dX6_copy_21 : decode cX6_copy 21 = .ok (.getfield 15, 3) := by decide +kernel
theorem dX6_copy_24 : decode cX6_copy 24 = .ok (.iload_n 2, 1) := by decide +kernel
theorem dX6_copy_25 : decode cX6_copy 25 = .ok (.aload_n 1, 1) := by decide +kernel
theorem dX6_copy_26 : decode cX6_copy 26 = .ok (.getfield 15, 3) := by decide +kernel
theorem dX6_copy_29 : decode cX6_copy 29 = .ok (.iload_n 2, 1) := by decide +kernel
theorem dX6_copy_30 : decode cX6_copy 30 = .ok (.iaload, 1) := by decide +kernel
theorem dX6_copy_31 : decode cX6_copy 31 = .ok (.iastore, 1) := by decide +kernel
theorem dX6_copy_32 : decode cX6_copy 32 = .ok (.aload_n 0, 1) := by decide +kernel
theorem dX6_copy_33 : decode cX6_copy 33 = .ok (.getfield 18, 3) := by decide +kernel
theorem dX6_copy_36 : decode cX6_copy 36 = .ok (.iload_n 2, 1) := by decide +kernel
theorem dX6_copy_37 : decode cX6_copy 37 = .ok (.aload_n 1, 1) := by decide +kernel
theorem dX6_copy_38 : decode cX6_copy 38 = .ok (.getfield 18, 3) := by decide +kernel
theorem dX6_copy_41 : decode cX6_copy 41 = .ok (.iload_n 2, 1) := by decide +kernel
theorem dX6_copy_42 : decode cX6_copy 42 = .ok (.iaload, 1) := by decide +kernel
theorem dX6_copy_43 : decode cX6_copy 43 = .ok (.iastore, 1) := by decide +kernel
theorem dX6_copy_44 : decode cX6_copy 44 = .ok (.aload_n 0, 1) := by decide +kernel
theorem dX6_copy_45 : decode cX6_copy 45 = .ok (.getfield 21, 3) := by decide +kernel
theorem dX6_copy_48 : decode cX6_copy 48 = .ok (.iload_n 2, 1) := by decide +kernel
theorem dX6_copy_49 : decode cX6_copy 49 = .ok (.aload_n 1, 1) := by decide +kernel
theorem dX6_copy_50 : decode cX6_copy 50 = .ok (.getfield 21, 3) := by decide +kernel
theorem dX6_copy_53 : decode cX6_copy 53 = .ok (.iload_n 2, 1) := by decide +kernel
theorem dX6_copy_54 : decode cX6_copy 54 = .ok (.iaload, 1) := by decide +kernel
theorem dX6_copy_55 : decode cX6_copy 55 = .ok (.iastore, 1) := by decide +kernel
theorem dX6_copy_56 : decode cX6_copy 56 = .ok (.aload_n 0, 1) := by decide +kernel
theorem dX6_copy_57 : decode cX6_copy 57 = .ok (.getfield 24, 3) := by decide +kernel
theorem dX6_copy_60 : decode cX6_copy 60 = .ok (.iload_n 2, 1) := by decide +kernel
theorem dX6_copy_61 : decode cX6_copy 61 = .ok (.aload_n 1, 1) := by decide +kernel
theorem dX6_copy_62 : decode cX6_copy 62 = .ok (.getfield 24, 3) := by decide +kernel
theorem dX6_copy_65 : decode cX6_copy 65 = .ok (.iload_n 2, 1) := by decide +kernel
theorem dX6_copy_66 : decode cX6_copy 66 = .ok (.iaload, 1) := by decide +kernel
theorem dX6_copy_67 : decode cX6_copy 67 = .ok (.iastore, 1) := by decide +kernel
theorem dX6_copy_68 : decode cX6_copy 68 = .ok (.aload_n 0, 1) := by decide +kernel
theorem dX6_copy_69 : decode cX6_copy 69 = .ok (.getfield 27, 3) := by decide +kernel
theorem dX6_copy_72 : decode cX6_copy 72 = .ok (.iload_n 2, 1) := by decide +kernel
theorem dX6_copy_73 : decode cX6_copy 73 = .ok (.aload_n 1, 1) := by decide +kernel
theorem dX6_copy_74 : decode cX6_copy 74 = .ok (.getfield 27, 3) := by decide +kernel
theorem dX6_copy_77 : decode cX6_copy 77 = .ok (.iload_n 2, 1) := by decide +kernel
theorem dX6_copy_78 : decode cX6_copy 78 = .ok (.iaload, 1) := by decide +kernel
theorem dX6_copy_79 : decode cX6_copy 79 = .ok (.iastore, 1) := by decide +kernel
theorem dX6_copy_80 : decode cX6_copy 80 = .ok (.iinc 2 1, 3) := by decide +kernel
theorem dX6_copy_83 : decode cX6_copy 83 = .ok (.goto (-81), 3) := by decide +kernel
theorem dX6_copy_86 : decode cX6_copy 86 = .ok (.aload_n 0, 1) := by decide +kernel
theorem dX6_copy_87 : decode cX6_copy 87 = .ok (.aload_n 1, 1) := by decide +kernel
theorem dX6_copy_88 : decode cX6_copy 88 = .ok (.getfield 30, 3) := by decide +kernel
theorem dX6_copy_91 : decode cX6_copy 91 = .ok (.putfield 30, 3) := by decide +kernel
theorem dX6_copy_94 : decode cX6_copy 94 = .ok (.aload_n 0, 1) := by decide +kernel
theorem dX6_copy_95 : decode cX6_copy 95 = .ok (.aload_n 1, 1) := by decide +kernel
theorem dX6_copy_96 : decode cX6_copy 96 = .ok (.getfield 34, 3) := by decide +kernel
theorem dX6_copy_99 : decode cX6_copy 99 = .ok (.putfield 34, 3) := by decide +kernel
theorem dX6_copy_102 : decode cX6_copy 102 = .ok (.aload_n 0, 1) := by decide +kernel
theorem dX6_copy_103 : decode cX6_copy 103 = .ok (.aload_n 1, 1) := by decide +kernel
theorem dX6_copy_104 : decode cX6_copy 104 = .ok (.getfield 37, 3) := by decide +kernel
theorem dX6_copy_107 : decode cX6_copy 107 = .ok (.putfield 37, 3) := by decide +kernel
theorem dX6_copy_110 : decode cX6_copy 110 = .ok (.aload_n 0, 1) := by decide +kernel
theorem dX6_copy_111 : decode cX6_copy 111 = .ok (.aload_n 1, 1) := by decide +kernel
theorem dX6_copy_112 : decode cX6_copy 112 = .ok (.getfield 40, 3) := by decide +kernel
theorem dX6_copy_115 : decode cX6_copy 115 = .ok (.putfield 40, 3) := by decide +kernel
theorem dX6_copy_118 : decode cX6_copy 118 = .ok (.aload_n 0, 1) := by decide +kernel
theorem dX6_copy_119 : decode cX6_copy 119 = .ok (.aload_n 1, 1) := by decide +kernel
theorem dX6_copy_120 : decode cX6_copy 120 = .ok (.getfield 43, 3) := by decide +kernel
theorem dX6_copy_123 : decode cX6_copy 123 = .ok (.putfield 43, 3) := by decide +kernel
theorem dX6_copy_126 : decode cX6_copy 126 = .ok (.aload_n 0, 1) := by decide +kernel
theorem dX6_copy_127 : decode cX6_copy 127 = .ok (.aload_n 1, 1) := by decide +kernel
theorem dX6_copy_128 : decode cX6_copy 128 = .ok (.getfield 46, 3) := by decide +kernel
theorem dX6_copy_131 : decode cX6_copy 131 = .ok (.putfield 46, 3) := by decide +kernel
theorem dX6_copy_134 : decode cX6_copy 134 = .ok (.return_, 1) := by decide +kernel
theorem dX6_isPerson_0 : decode cX6_isPerson 0 = .ok (.iload_n 1, 1) := by decide +kernel
theorem dX6_isPerson_1 : decode cX6_isPerson 1 = .ok (.ifCond .lt 15, 3) := by decide +kernel
theorem dX6_isPerson_4 : decode cX6_isPerson 4 = .ok (.iload_n 1, 1) := by decide +kernel
theorem dX6_isPerson_5 : decode cX6_isPerson 5 = .ok (.aload_n 0, 1) := by decide +kernel
theorem dX6_isPerson_6 : decode cX6_isPerson 6 = .ok (.getfield 30, 3) := by decide +kernel
theorem dX6_isPerson_9 : decode cX6_isPerson 9 = .ok (.if_icmp .ge 7, 3) := by decide +kernel
theorem dX6_isPerson_12 : decode cX6_isPerson 12 = .ok (.iconst 1, 1) := by decide +kernel
theorem dX6_isPerson_13 : decode cX6_isPerson 13 = .ok (.goto 4, 3) := by decide +kernel
theorem dX6_isPerson_16 : decode cX6_isPerson 16 = .ok (.iconst 0, 1) := by decide +kernel
theorem dX6_isPerson_17 : decode cX6_isPerson 17 = .ok (.ireturn, 1) := by decide +kernel
theorem dX6_isKnot_0 : decode cX6_isKnot 0 = .ok (.iload_n 1, 1) := by decide +kernel
theorem dX6_isKnot_1 : decode cX6_isKnot 1 = .ok (.ifCond .lt 21, 3) := by decide +kernel
theorem dX6_isKnot_4 : decode cX6_isKnot 4 = .ok (.iload_n 1, 1) := by decide +kernel
theorem dX6_isKnot_5 : decode cX6_isKnot 5 = .ok (.aload_n 0, 1) := by decide +kernel
theorem dX6_isKnot_6 : decode cX6_isKnot 6 = .ok (.getfield 40, 3) := by decide +kernel
theorem dX6_isKnot_9 : decode cX6_isKnot 9 = .ok (.if_icmp .ge 13, 3) := by decide +kernel
theorem dX6_isKnot_12 : decode cX6_isKnot 12 = .ok (.iload_n 1, 1) := by decide +kernel
theorem dX6_isKnot_13 : decode cX6_isKnot 13 = .ok (.bipush 8, 2) := by decide +kernel
theorem dX6_isKnot_15 : decode cX6_isKnot 15 = .ok (.if_icmp .ge 7, 3) := by decide +kernel
theorem dX6_isKnot_18 : decode cX6_isKnot 18 = .ok (.iconst 1, 1) := by decide +kernel
theorem dX6_isKnot_19 : decode cX6_isKnot 19 = .ok (.goto 4, 3) := by decide +kernel
theorem dX6_isKnot_22 : decode cX6_isKnot 22 = .ok (.iconst 0, 1) := by decide +kernel
theorem dX6_isKnot_23 : decode cX6_isKnot 23 = .ok (.ireturn, 1) := by decide +kernel
set_option maxRecDepth 20000 in
theorem ggX6_isSet_X7_bit : GoodIn wsX6_isSet wsX7_bit := goodIn_r _ [4] (by decide +kernel) (by decide +kernel)
set_option maxRecDepth 20000 in
theorem gX6_isSet_X7_bit_n49 : GoodIn wsX6_isSet (wsX7_bit) := ggX6_isSet_X7_bit
theorem dX6_isSet_0 : decode cX6_isSet 0 = .ok (.iload_n 1, 1) := by decide +kernel
