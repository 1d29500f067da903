theorem dX7_judge_4 : decode cX7_judge 4 = .ok (.aload_n 0, 1) := by decide +kernel
theorem dX7_judge_5 : decode cX7_judge 5 = .ok (.getfield 26, 3) := by decide +kernel
theorem dX7_judge_8 : decode cX7_judge 8 = .ok (.invokevirtual 220, 3) := by decide +kernel
theorem dX7_judge_11 : decode cX7_judge 11 = .ok (.ireturn, 1) := by decide +kernel
set_option maxRecDepth 20000 in
theorem ggX7_cross_X7_isRope : GoodIn wsX7_cross wsX7_isRope := goodIn_r _ [4] (by decide +kernel) (by decide +kernel)
set_option maxRecDepth 20000 in
theorem gX7_cross_X7_isRope : GoodIn wsX7_cross (va_wsS RX7 224 yX7_isRope wsX7_isRope) := goodIn_app (goodIn_of _ (by decide +kernel)) ggX7_cross_X7_isRope
set_option maxRecDepth 20000 in
theorem ggX7_cross_X7_ropeAt : GoodIn wsX7_cross wsX7_ropeAt := goodIn_r _ [8, 9, 10, 30, 31, 32, 33, 34, 35, 36, 37, 38, 39, 40, 41] (by decide +kernel) (by decide +kernel)
set_option maxRecDepth 20000 in
theorem gX7_cross_X7_ropeAt : GoodIn wsX7_cross (wsV RX7 227 RX7 yX7_ropeAt wsX7_ropeAt) := goodIn_app (goodIn_of _ (by decide +kernel)) ggX7_cross_X7_ropeAt
set_option maxRecDepth 20000 in
theorem ggX7_cross_X3_size : GoodIn wsX7_cross wsX3_size := goodIn_r _ [15, 16, 42, 43, 44] (by decide +kernel) (by decide +kernel)
set_option maxRecDepth 20000 in
theorem gX7_cross_X3_size : GoodIn wsX7_cross (wsV RX7 231 RX3 yX3_size wsX3_size) := goodIn_app (goodIn_of _ (by decide +kernel)) ggX7_cross_X3_size
set_option maxRecDepth 20000 in
theorem ggX7_cross_X3_append : GoodIn wsX7_cross wsX3_append := goodIn_r _ [20, 16, 21, 22, 23, 24, 25, 14, 26, 27, 28, 29, 42, 43, 44] (by decide +kernel) (by decide +kernel)
set_option maxRecDepth 20000 in
theorem gX7_cross_X3_append : GoodIn wsX7_cross (wsV RX7 232 RX3 yX3_append wsX3_append) := goodIn_app (goodIn_of _ (by decide +kernel)) ggX7_cross_X3_append
theorem dX7_cross_0 : decode cX7_cross 0 = .ok (.iload_n 1, 1) := by decide +kernel
theorem dX7_cross_1 : decode cX7_cross 1 = .ok (.invokestatic 224, 3) := by decide +kernel
theorem dX7_cross_4 : decode cX7_cross 4 = .ok (.ifCond .eq 13, 3) := by decide +kernel
theorem dX7_cross_7 : decode cX7_cross 7 = .ok (.iload_n 2, 1) := by decide +kernel
theorem dX7_cross_8 : decode cX7_cross 8 = .ok (.ifCond .lt 9, 3) := by decide +kernel
theorem dX7_cross_11 : decode cX7_cross 11 = .ok (.iload_n 2, 1) := by decide +kernel
theorem dX7_cross_12 : decode cX7_cross 12 = .ok (.bipush 8, 2) := by decide +kernel
theorem dX7_cross_14 : decode cX7_cross 14 = .ok (.if_icmp .lt 5, 3) := by decide +kernel
theorem dX7_cross_17 : decode cX7_cross 17 = .ok (.iconst (-1), 1) := by decide +kernel
theorem dX7_cross_18 : decode cX7_cross 18 = .ok (.ireturn, 1) := by decide +kernel
theorem dX7_cross_19 : decode cX7_cross 19 = .ok (.aload_n 0, 1) := by decide +kernel
theorem dX7_cross_20 : decode cX7_cross 20 = .ok (.iload_n 1, 1) := by decide +kernel
theorem dX7_cross_21 : decode cX7_cross 21 = .ok (.invokevirtual 227, 3) := by decide +kernel
theorem dX7_cross_24 : decode cX7_cross 24 = .ok (.astore_n 3, 1) := by decide +kernel
theorem dX7_cross_25 : decode cX7_cross 25 = .ok (.aload_n 3, 1) := by decide +kernel
theorem dX7_cross_26 : decode cX7_cross 26 = .ok (.invokevirtual 231, 3) := by decide +kernel
theorem dX7_cross_29 : decode cX7_cross 29 = .ok (.bipush 16, 2) := by decide +kernel
theorem dX7_cross_31 : decode cX7_cross 31 = .ok (.if_icmp .lt 6, 3) := by decide +kernel
theorem dX7_cross_34 : decode cX7_cross 34 = .ok (.bipush (-3), 2) := by decide +kernel
theorem dX7_cross_36 : decode cX7_cross 36 = .ok (.ireturn, 1) := by decide +kernel
theorem dX7_cross_37 : decode cX7_cross 37 = .ok (.aload_n 3, 1) := by decide +kernel
theorem dX7_cross_38 : decode cX7_cross 38 = .ok (.iload_n 2, 1) := by decide +kernel
theorem dX7_cross_39 : decode cX7_cross 39 = .ok (.invokevirtual 232, 3) := by decide +kernel
theorem dX7_cross_42 : decode cX7_cross 42 = .ok (.aload_n 3, 1) := by decide +kernel
theorem dX7_cross_43 : decode cX7_cross 43 = .ok (.invokevirtual 231, 3) := by decide +kernel
theorem dX7_cross_46 : decode cX7_cross 46 = .ok (.ireturn, 1) := by decide +kernel
set_option maxRecDepth 20000 in
theorem ggX7_smooth_X7_isRope : GoodIn wsX7_smooth wsX7_isRope := goodIn_r _ [4] (by decide +kernel) (by decide +kernel)
set_option maxRecDepth 20000 in
theorem gX7_smooth_X7_isRope : GoodIn wsX7_smooth (va_wsS RX7 224 yX7_isRope wsX7_isRope) := goodIn_app (goodIn_of _ (by decide +kernel)) ggX7_smooth_X7_isRope
set_option maxRecDepth 20000 in
theorem ggX7_smooth_X7_ropeAt : GoodIn wsX7_smooth wsX7_ropeAt := goodIn_r _ [8, 9, 10, 22, 23, 24, 25, 26, 27, 28, 29, 30, 31, 32, 33] (by decide +kernel) (by decide +kernel)
set_option maxRecDepth 20000 in
theorem gX7_smooth_X7_ropeAt : GoodIn wsX7_smooth (wsV RX7 227 RX7 yX7_ropeAt wsX7_ropeAt) := goodIn_app (goodIn_of _ (by decide +kernel)) ggX7_smooth_X7_ropeAt
set_option maxRecDepth 20000 in
theorem ggX7_smooth_X3_size : GoodIn wsX7_smooth wsX3_size := goodIn_r _ [15, 16, 34, 35, 36] (by decide +kernel) (by decide +kernel)
set_option maxRecDepth 20000 in
theorem gX7_smooth_X3_size : GoodIn wsX7_smooth (wsV RX7 231 RX3 yX3_size wsX3_size) := goodIn_app (goodIn_of _ (by decide +kernel)) ggX7_smooth_X3_size
set_option maxRecDepth 20000 in
theorem ggX7_smooth_X3_empty : GoodIn wsX7_smooth wsX3_empty := goodIn_r _ [20, 21, 16, 34, 35, 36] (by decide +kernel) (by decide +kernel)
set_option maxRecDepth 20000 in
theorem gX7_smooth_X3_empty : GoodIn wsX7_smooth (wsV RX7 106 RX3 yX3_empty wsX3_empty) := goodIn_app (goodIn_of _ (by decide +kernel)) ggX7_smooth_X3_empty
theorem dX7_smooth_0 : decode cX7_smooth 0 = .ok (.iload_n 1, 1) := by decide +kernel
theorem dX7_smooth_1 : decode cX7_smooth 1 = .ok (.invokestatic 224, 3) := by decide +kernel
theorem dX7_smooth_4 : decode cX7_smooth 4 = .ok (.ifCond .ne 5, 3) := by decide +kernel
theorem dX7_smooth_7 : decode cX7_smooth 7 = .ok (.iconst (-1), 1) := by decide +kernel
theorem dX7_smooth_8 : decode cX7_smooth 8 = .ok (.ireturn, 1) := by decide +kernel
theorem dX7_smooth_9 : decode cX7_smooth 9 = .ok (.aload_n 0, 1) := by decide +kernel
theorem dX7_smooth_10 : decode cX7_smooth 10 = .ok (.iload_n 1, 1) := by decide +kernel
theorem dX7_smooth_11 : decode cX7_smooth 11 = .ok (.invokevirtual 227, 3) := by decide +kernel
theorem dX7_smooth_14 : decode cX7_smooth 14 = .ok (.astore_n 2, 1) := by decide +kernel
theorem dX7_smooth_15 : decode cX7_smooth 15 = .ok (.aload_n 2, 1) := by decide +kernel
theorem dX7_smooth_16 : decode cX7_smooth 16 = .ok (.invokevirtual 231, 3) := by decide +kernel
theorem dX7_smooth_19 : decode cX7_smooth 19 = .ok (.istore_n 3, 1) := by decide +kernel
theorem dX7_smooth_20 : decode cX7_smooth 20 = .ok (.aload_n 2, 1) := by decide +kernel
theorem dX7_smooth_21 : decode cX7_smooth 21 = .ok (.invokevirtual 106, 3) := by decide +kernel
theorem dX7_smooth_24 : decode cX7_smooth 24 = .ok (.iload_n 3, 1) := by decide +kernel
theorem dX7_smooth_25 : decode cX7_smooth 25 = .ok (.ireturn, 1) := by decide +kernel
set_option maxRecDepth 20000 in
theorem ggX7_loose_X7_isRope : GoodIn wsX7_loose wsX7_isRope := goodIn_r _ [4] (by decide +kernel) (by decide +kernel)
set_option maxRecDepth 20000 in
theorem gX7_loose_X7_isRope : GoodIn wsX7_loose (va_wsS RX7 224 yX7_isRope wsX7_isRope) := goodIn_app (goodIn_of _ (by decide +kernel)) ggX7_loose_X7_isRope
set_option maxRecDepth 20000 in
theorem ggX7_loose_X7_ropeAt : GoodIn wsX7_loose wsX7_ropeAt := goodIn_r _ [8, 9, 10, 22, 23, 24, 25, 26, 27, 28, 29, 30, 31, 32, 33] (by decide +kernel) (by decide +kernel)
set_option maxRecDepth 20000 in
theorem gX7_loose_X7_ropeAt : GoodIn wsX7_loose (wsV RX7 227 RX7 yX7_ropeAt wsX7_ropeAt) := goodIn_app (goodIn_of _ (by decide +kernel)) ggX7_loose_X7_ropeAt
set_option maxRecDepth 20000 in
theorem ggX7_loose_X3_loosenedSize : GoodIn wsX7_loose wsX3_loosenedSize := goodIn_r _ [15, 16, 34, 35, 36] (by decide +kernel) (by decide +kernel)
set_option maxRecDepth 20000 in
theorem gX7_loose_X3_loosenedSize : GoodIn wsX7_loose (wsV RX7 233 RX3 yX3_loosenedSize wsX3_loosenedSize) := goodIn_app (goodIn_of _ (by decide +kernel)) ggX7_loose_X3_loosenedSize
set_option maxRecDepth 20000 in
theorem ggX7_loose_X3_loosenedAt : GoodIn wsX7_loose wsX3_loosenedAt := goodIn_r _ [20, 16, 21, 34, 35, 36] (by decide +kernel) (by decide +kernel)
set_option maxRecDepth 20000 in
theorem gX7_loose_X3_loosenedAt : GoodIn wsX7_loose (wsV RX7 236 RX3 yX3_loosenedAt wsX3_loosenedAt) := goodIn_app (goodIn_of _ (by decide +kernel)) ggX7_loose_X3_loosenedAt
theorem dX7_loose_0 : decode cX7_loose 0 = .ok (.iload_n 1, 1) := by decide +kernel
theorem dX7_loose_1 : decode cX7_loose 1 = .ok (.invokestatic 224, 3) := by decide +kernel
theorem dX7_loose_4 : decode cX7_loose 4 = .ok (.ifCond .eq 8, 3) := by decide +kernel
theorem dX7_loose_7 : decode cX7_loose 7 = .ok (.iload_n 2, 1) := by decide +kernel
theorem dX7_loose_8 : decode cX7_loose 8 = .ok (.iconst (-1), 1) := by decide +kernel
theorem dX7_loose_9 : decode cX7_loose 9 = .ok (.if_icmp .ge 5, 3) := by decide +kernel
theorem dX7_loose_12 : decode cX7_loose 12 = .ok (.iconst (-1), 1) := by decide +kernel
theorem dX7_loose_13 : decode cX7_loose 13 = .ok (.ireturn, 1) := by decide +kernel
theorem dX7_loose_14 : decode cX7_loose 14 = .ok (.aload_n 0, 1) := by decide +kernel
theorem dX7_loose_15 : decode cX7_loose 15 = .ok (.iload_n 1, 1) := by decide +kernel
theorem dX7_loose_16 : decode cX7_loose 16 = .ok (.invokevirtual 227, 3) := by decide +kernel
theorem dX7_loose_19 : decode cX7_loose 19 = .ok (.astore_n 3, 1) := by decide +kernel
theorem dX7_loose_20 : decode cX7_loose 20 = .ok (.iload_n 2, 1) := by decide +kernel
theorem dX7_loose_21 : decode cX7_loose 21 = .ok (.iconst (-1), 1) := by decide +kernel
theorem dX7_loose_22 : decode cX7_loose 22 = .ok (.if_icmp .ne 10, 3) := by decide +kernel
theorem dX7_loose_25 : decode cX7_loose 25 = .ok (.aload_n 3, 1) := by decide +kernel
theorem dX7_loose_26 : decode cX7_loose 26 = .ok (.invokevirtual 233, 3) := by decide +kernel
theorem dX7_loose_29 : decode cX7_loose 29 = .ok (.goto 8, 3) := by decide +kernel
theorem dX7_loose_32 : decode cX7_loose 32 = .ok (.aload_n 3, 1) := by decide +kernel
theorem dX7_loose_33 : decode cX7_loose 33 = .ok (.iload_n 2, 1) := by decide +kernel
theorem dX7_loose_34 : decode cX7_loose 34 = .ok (.invokevirtual 236, 3) := by decide +kernel
theorem dX7_loose_37 : decode cX7_loose 37 = .ok (.ireturn, 1) := by decide +kernel
set_option maxRecDepth 20000 in
theorem ggX7_alike_X3_isSame : GoodIn wsX7_alike wsX3_isSame := goodIn_r _ [7, 8, 9, 10, 11, 6, 12, 13, 14, 15, 16, 17, 45, 46, 47] (by decide +kernel) (by decide +kernel)
set_option maxRecDepth 20000 in
theorem gX7_alike_X3_isSame : GoodIn wsX7_alike (wsV RX7 239 RX3 yX3_isSame wsX3_isSame) := goodIn_app (goodIn_of _ (by decide +kernel)) ggX7_alike_X3_isSame
set_option maxRecDepth 20000 in
theorem ggX7_alike_X3_isTurned : GoodIn wsX7_alike wsX3_isTurned := goodIn_r _ [21, 8, 22, 23, 24, 6, 25, 13, 14, 15, 16, 17, 26, 27, 28, 9, 10, 11, 12, 45, 46, 47] (by decide +kernel) (by decide +kernel)
set_option maxRecDepth 20000 in
theorem gX7_alike_X3_isTurned : GoodIn wsX7_alike (wsV RX7 243 RX3 yX3_isTurned wsX3_isTurned) := goodIn_app (goodIn_of _ (by decide +kernel)) ggX7_alike_X3_isTurned
set_option maxRecDepth 20000 in
theorem ggX7_alike_X7_asNumber : GoodIn wsX7_alike wsX7_asNumber := goodIn_r _ [32] (by decide +kernel) (by decide +kernel)
set_option maxRecDepth 20000 in
theorem gX7_alike_X7_asNumber : GoodIn wsX7_alike (va_wsS RX7 134 yX7_asNumber wsX7_asNumber) := goodIn_app (goodIn_of _ (by decide +kernel)) ggX7_alike_X7_asNumber
theorem dX7_alike_0 : decode cX7_alike 0 = .ok (.aload_n 0, 1) := by decide +kernel
theorem dX7_alike_1 : decode cX7_alike 1 = .ok (.getfield 69, 3) := by decide +kernel
theorem dX7_alike_4 : decode cX7_alike 4 = .ok (.aload_n 0, 1) := by decide +kernel
theorem dX7_alike_5 : decode cX7_alike 5 = .ok (.getfield 73, 3) := by decide +kernel
theorem dX7_alike_8 : decode cX7_alike 8 = .ok (.invokevirtual 239, 3) := by decide +kernel
theorem dX7_alike_11 : decode cX7_alike 11 = .ok (.ifCond .eq 5, 3) := by decide +kernel
theorem dX7_alike_14 : decode cX7_alike 14 = .ok (.iconst 2, 1) := by decide +kernel
theorem dX7_alike_15 : decode cX7_alike 15 = .ok (.ireturn, 1) := by decide +kernel
theorem dX7_alike_16 : decode cX7_alike 16 = .ok (.aload_n 0, 1) := by decide +kernel
theorem dX7_alike_17 : decode cX7_alike 17 = .ok (.getfield 69, 3) := by decide +kernel
theorem dX7_alike_20 : decode cX7_alike 20 = .ok (.aload_n 0, 1) := by decide +kernel
theorem dX7_alike_21 : decode cX7_alike 21 = .ok (.getfield 73, 3) := by decide +kernel
theorem dX7_alike_24 : decode cX7_alike 24 = .ok (.invokevirtual 243, 3) := by decide +kernel
theorem dX7_alike_27 : decode cX7_alike 27 = .ok (.invokestatic 134, 3) := by decide +kernel
theorem dX7_alike_30 : decode cX7_alike 30 = .ok (.ireturn, 1) := by decide +kernel
set_option maxRecDepth 20000 in
theorem ggX7_mark_X7_isRope : GoodIn wsX7_mark wsX7_isRope := goodIn_r _ [4] (by decide +kernel) (by decide +kernel)
set_option maxRecDepth 20000 in
theorem gX7_mark_X7_isRope : GoodIn wsX7_mark (va_wsS RX7 224 yX7_isRope wsX7_isRope) := goodIn_app (goodIn_of _ (by decide +kernel)) ggX7_mark_X7_isRope
set_option maxRecDepth 20000 in
theorem ggX7_mark_X7_ropeAt : GoodIn wsX7_mark wsX7_ropeAt := goodIn_r _ [8, 9, 10, 22, 23, 24, 25, 26, 27, 28, 29, 30, 31, 32, 33] (by decide +kernel) (by decide +kernel)
set_option maxRecDepth 20000 in
theorem gX7_mark_X7_ropeAt : GoodIn wsX7_mark (wsV RX7 227 RX7 yX7_ropeAt wsX7_ropeAt) := goodIn_app (goodIn_of _ (by decide +kernel)) ggX7_mark_X7_ropeAt
set_option maxRecDepth 20000 in
theorem ggX7_mark_X3_markOf : GoodIn wsX7_mark wsX3_markOf := goodIn_r _ [15, 16, 17, 18, 19, 14, 20, 21, 34, 35, 36] (by decide +kernel) (by decide +kernel)
set_option maxRecDepth 20000 in
theorem gX7_mark_X3_markOf : GoodIn wsX7_mark (wsV RX7 246 RX3 yX3_markOf wsX3_markOf) := goodIn_app (goodIn_of _ (by decide +kernel)) ggX7_mark_X3_markOf
theorem dX7_mark_0 : decode cX7_mark 0 = .ok (.iload_n 1, 1) := by decide +kernel
theorem dX7_mark_1 : decode cX7_mark 1 = .ok (.invokestatic 224, 3) := by decide +kernel
theorem dX7_mark_4 : decode cX7_mark 4 = .ok (.ifCond .eq 12, 3) := by decide +kernel
theorem dX7_mark_7 : decode cX7_mark 7 = .ok (.iload_n 2, 1) := by decide +kernel
theorem dX7_mark_8 : decode cX7_mark 8 = .ok (.ifCond .lt 8, 3) := by decide +kernel
theorem dX7_mark_11 : decode cX7_mark 11 = .ok (.iload_n 2, 1) := by decide +kernel
theorem dX7_mark_12 : decode cX7_mark 12 = .ok (.iconst 4, 1) := by decide +kernel
theorem dX7_mark_13 : decode cX7_mark 13 = .ok (.if_icmp .lt 5, 3) := by decide +kernel
theorem dX7_mark_16 : decode cX7_mark 16 = .ok (.iconst (-1), 1) := by decide +kernel
theorem dX7_mark_17 : decode cX7_mark 17 = .ok (.ireturn, 1) := by decide +kernel
theorem dX7_mark_18 : decode cX7_mark 18 = .ok (.bipush 100, 2) := by decide +kernel
theorem dX7_mark_20 : decode cX7_mark 20 = .ok (.aload_n 0, 1) := by decide +kernel
theorem dX7_mark_21 : decode cX7_mark 21 = .ok (.iload_n 1, 1) := by decide +kernel
theorem dX7_mark_22 : decode cX7_mark 22 = .ok (.invokevirtual 227, 3) := by decide +kernel
theorem dX7_mark_25 : decode cX7_mark 25 = .ok (.iload_n 2, 1) := by decide +kernel
theorem dX7_mark_26 : decode cX7_mark 26 = .ok (.invokevirtual 246, 3) := by decide +kernel
theorem dX7_mark_29 : decode cX7_mark 29 = .ok (.iadd, 1) := by decide +kernel
theorem dX7_mark_30 : decode cX7_mark 30 = .ok (.ireturn, 1) := by decide +kernel
set_option maxRecDepth 20000 in
theorem ggX7_year_X0_drawn : GoodIn wsX7_year wsX0_drawn := goodIn_r _ [7, 8, 9, 10, 11, 77, 78, 65, 66, 67, 68, 69, 70, 71, 72, 73, 74, 75, 76] (by decide +kernel) (by decide +kernel)
set_option maxRecDepth 20000 in
theorem gX7_year_X0_drawn : GoodIn wsX7_year (wsV RX7 249 RX0 yX0_drawn wsX0_drawn) := goodIn_app (goodIn_of _ (by decide +kernel)) ggX7_year_X0_drawn
set_option maxRecDepth 20000 in
theorem ggX7_year_X0_turned : GoodIn wsX7_year wsX0_turned := goodIn_r _ [15, 10, 16, 17, 18, 19, 20, 21, 22, 23, 24, 25, 26, 27, 28, 29, 30, 31, 32, 33, 34, 35, 36, 37, 38, 39, 40, 41, 42, 43, 44, 45, 46, 47, 48, 49, 50, 51, 52, 77, 78, 65, 66, 67, 68, 69, 70, 71, 72, 73, 74, 75, 76] (by decide +kernel) (by decide +kernel)
set_option maxRecDepth 20000 in
theorem gX7_year_X0_turned : GoodIn wsX7_year (wsV RX7 252 RX0 yX0_turned wsX0_turned) := goodIn_app (goodIn_of _ (by decide +kernel)) ggX7_year_X0_turned
theorem dX7_year_0 : decode cX7_year 0 = .ok (.iload_n 1, 1) := by decide +kernel
theorem dX7_year_1 : decode cX7_year 1 = .ok (.ifCond .lt 30, 3) := by decide +kernel
theorem dX7_year_4 : decode cX7_year 4 = .ok (.iload_n 1, 1) := by decide +kernel
theorem dX7_year_5 : decode cX7_year 5 = .ok (.sipush 9999, 3) := by decide +kernel
theorem dX7_year_8 : decode cX7_year 8 = .ok (.if_icmp .gt 23, 3) := by decide +kernel
theorem dX7_year_11 : decode cX7_year 11 = .ok (.iload_n 2, 1) := by decide +kernel
theorem dX7_year_12 : decode cX7_year 12 = .ok (.iconst 1, 1) := by decide +kernel
theorem dX7_year_13 : decode cX7_year 13 = .ok (.if_icmp .lt 18, 3) := by decide +kernel
theorem dX7_year_16 : decode cX7_year 16 = .ok (.iload_n 2, 1) := by decide +kernel
theorem dX7_year_17 : decode cX7_year 17 = .ok (.bipush 60, 2) := by decide +kernel
theorem dX7_year_19 : decode cX7_year 19 = .ok (.if_icmp .gt 12, 3) := by decide +kernel
theorem dX7_year_22 : decode cX7_year 22 = .ok (.iload_n 3, 1) := by decide +kernel
theorem dX7_year_23 : decode cX7_year 23 = .ok (.ifCond .lt 8, 3) := by decide +kernel
theorem dX7_year_26 : decode cX7_year 26 = .ok (.iload_n 3, 1) := by decide +kernel
theorem dX7_year_27 : decode cX7_year 27 = .ok (.iconst 1, 1) := by decide +kernel
theorem dX7_year_28 : decode cX7_year 28 = .ok (.if_icmp .le 5, 3) := by decide +kernel
theorem dX7_year_31 : decode cX7_year 31 = .ok (.iconst (-1), 1) := by decide +kernel
theorem dX7_year_32 : decode cX7_year 32 = .ok (.ireturn, 1) := by decide +kernel
theorem dX7_year_33 : decode cX7_year 33 = .ok (.aload_n 0, 1) := by decide +kernel
theorem dX7_year_34 : decode cX7_year 34 = .ok (.getfield 26, 3) := by decide +kernel
theorem dX7_year_37 : decode cX7_year 37 = .ok (.getfield 127, 3) := by decide +kernel
theorem dX7_year_40 : decode cX7_year 40 = .ok (.istore 4, 2) := by decide +kernel
theorem dX7_year_42 : decode cX7_year 42 = .ok (.iconst 0, 1) := by decide +kernel
theorem dX7_year_43 : decode cX7_year 43 = .ok (.istore 5, 2) := by decide +kernel
theorem dX7_year_45 : decode cX7_year 45 = .ok (.iconst 0, 1) := by decide +kernel
theorem dX7_year_46 : decode cX7_year 46 = .ok (.istore 6, 2) := by decide +kernel
theorem dX7_year_48 : decode cX7_year 48 = .ok (.iload 6, 2) := by decide +kernel
theorem dX7_year_50 : decode cX7_year 50 = .ok (.iload_n 2, 1) := by decide +kernel
theorem dX7_year_51 : decode cX7_year 51 = .ok (.if_icmp .ge 44, 3) := by decide +kernel
theorem dX7_year_54 : decode cX7_year 54 = .ok (.aload_n 0, 1) := by decide +kernel
theorem dX7_year_55 : decode cX7_year 55 = .ok (.getfield 55, 3) := by decide +kernel
theorem dX7_year_58 : decode cX7_year 58 = .ok (.aload_n 0, 1) := by decide +kernel
theorem dX7_year_59 : decode cX7_year 59 = .ok (.getfield 55, 3) := by decide +kernel
theorem dX7_year_62 : decode cX7_year 62 = .ok (.iload_n 1, 1) := by decide +kernel
theorem dX7_year_63 : decode cX7_year 63 = .ok (.iload 6, 2) := by decide +kernel
theorem dX7_year_65 : decode cX7_year 65 = .ok (.invokevirtual 249, 3) := by decide +kernel
theorem dX7_year_68 : decode cX7_year 68 = .ok (.iload 4, 2) := by decide +kernel
theorem dX7_year_70 : decode cX7_year 70 = .ok (.invokevirtual 252, 3) := by decide +kernel
theorem dX7_year_73 : decode cX7_year 73 = .ok (.istore 7, 2) := by decide +kernel
theorem dX7_year_75 : decode cX7_year 75 = .ok (.iload 7, 2) := by decide +kernel
theorem dX7_year_77 : decode cX7_year 77 = .ok (.iload 4, 2) := by decide +kernel
theorem dX7_year_79 : decode cX7_year 79 = .ok (.if_icmp .eq 6, 3) := by decide +kernel
theorem dX7_year_82 : decode cX7_year 82 = .ok (.iinc 5 1, 3) := by decide +kernel
theorem dX7_year_85 : decode cX7_year 85 = .ok (.iload 7, 2) := by decide +kernel
theorem dX7_year_87 : decode cX7_year 87 = .ok (.istore 4, 2) := by decide +kernel
theorem dX7_year_89 : decode cX7_year 89 = .ok (.iinc 6 1, 3) := by decide +kernel
theorem dX7_year_92 : decode cX7_year 92 = .ok (.goto (-44), 3) := by decide +kernel
theorem dX7_year_95 : decode cX7_year 95 = .ok (.iload_n 3, 1) := by decide +kernel
theorem dX7_year_96 : decode cX7_year 96 = .ok (.ifCond .ne 8, 3) := by decide +kernel
theorem dX7_year_99 : decode cX7_year 99 = .ok (.iload 4, 2) := by decide +kernel
theorem dX7_year_101 : decode cX7_year 101 = .ok (.goto 5, 3) := by decide +kernel
theorem dX7_year_104 : decode cX7_year 104 = .ok (.iload 5, 2) := by decide +kernel
theorem dX7_year_106 : decode cX7_year 106 = .ok (.ireturn, 1) := by decide +kernel
set_option maxRecDepth 20000 in
theorem ggX7_keep_X7_keptAt : GoodIn wsX7_keep wsX7_keptAt := goodIn_r _ [7, 8, 9, 27, 28, 29, 30, 31, 32, 33, 34, 35, 36, 37, 38] (by decide +kernel) (by decide +kernel)
set_option maxRecDepth 20000 in
theorem gX7_keep_X7_keptAt : GoodIn wsX7_keep (wsV RX7 255 RX7 yX7_keptAt wsX7_keptAt) := goodIn_app (goodIn_of _ (by decide +kernel)) ggX7_keep_X7_keptAt
set_option maxRecDepth 20000 in
theorem ggX7_keep_X6_copy : GoodIn wsX7_keep wsX6_copy := goodIn_r _ [14, 15, 16, 17, 18, 19, 20, 21, 22, 23, 24, 25, 26, 39, 40, 41, 42, 43, 44, 45, 46, 47, 48, 49, 50] (by decide +kernel) (by decide +kernel)
set_option maxRecDepth 20000 in
theorem gX7_keep_X6_copy : GoodIn wsX7_keep (wsV RX7 102 RX6 yX6_copy wsX6_copy) := goodIn_app (goodIn_of _ (by decide +kernel)) ggX7_keep_X6_copy
theorem dX7_keep_0 : decode cX7_keep 0 = .ok (.aload_n 0, 1) := by decide +kernel
theorem dX7_keep_1 : decode cX7_keep 1 = .ok (.getfield 39, 3) := by decide +kernel
theorem dX7_keep_4 : decode cX7_keep 4 = .ok (.iconst 2, 1) := by decide +kernel
theorem dX7_keep_5 : decode cX7_keep 5 = .ok (.if_icmp .lt 6, 3) := by decide +kernel
theorem dX7_keep_8 : decode cX7_keep 8 = .ok (.bipush (-3), 2) := by decide +kernel
theorem dX7_keep_10 : decode cX7_keep 10 = .ok (.ireturn, 1) := by decide +kernel
theorem dX7_keep_11 : decode cX7_keep 11 = .ok (.aload_n 0, 1) := by decide +kernel
theorem dX7_keep_12 : decode cX7_keep 12 = .ok (.aload_n 0, 1) := by decide +kernel
theorem dX7_keep_13 : decode cX7_keep 13 = .ok (.getfield 39, 3) := by decide +kernel
theorem dX7_keep_16 : decode cX7_keep 16 = .ok (.invokevirtual 255, 3) := by decide +kernel
theorem dX7_keep_19 : decode cX7_keep 19 = .ok (.aload_n 0, 1) := by decide +kernel
theorem dX7_keep_20 : decode cX7_keep 20 = .ok (.getfield 26, 3) := by decide +kernel
theorem dX7_keep_23 : decode cX7_keep 23 = .ok (.invokevirtual 102, 3) := by decide +kernel
theorem dX7_keep_26 : decode cX7_keep 26 = .ok (.aload_n 0, 1) := by decide +kernel
theorem dX7_keep_27 : decode cX7_keep 27 = .ok (.dup, 1) := by decide +kernel
theorem dX7_keep_28 : decode cX7_keep 28 = .ok (.getfield 39, 3) := by decide +kernel
theorem dX7_keep_31 : decode cX7_keep 31 = .ok (.iconst 1, 1) := by decide +kernel
theorem dX7_keep_32 : decode cX7_keep 32 = .ok (.iadd, 1) := by decide +kernel
theorem dX7_keep_33 : decode cX7_keep 33 = .ok (.putfield 39, 3) := by decide +kernel
theorem dX7_keep_36 : decode cX7_keep 36 = .ok (.aload_n 0, 1) := by decide +kernel
theorem dX7_keep_37 : decode cX7_keep 37 = .ok (.getfield 39, 3) := by decide +kernel
theorem dX7_keep_40 : decode cX7_keep 40 = .ok (.ireturn, 1) := by decide +kernel
set_option maxRecDepth 20000 in
theorem ggX7_back_X7_keptAt : GoodIn wsX7_back wsX7_keptAt := goodIn_r _ [9, 10, 11, 41, 42, 43, 44, 45, 46, 47, 48, 49, 50, 51, 52] (by decide +kernel) (by decide +kernel)
set_option maxRecDepth 20000 in
theorem gX7_back_X7_keptAt : GoodIn wsX7_back (wsV RX7 255 RX7 yX7_keptAt wsX7_keptAt) := goodIn_app (goodIn_of _ (by decide +kernel)) ggX7_back_X7_keptAt
set_option maxRecDepth 20000 in
theorem ggX7_back_X6_copy : GoodIn wsX7_back wsX6_copy := goodIn_r _ [16, 17, 18, 19, 20, 21, 22, 23, 24, 25, 26, 27, 28, 53, 54, 55, 56, 57, 58, 59, 60, 61, 62, 63, 64] (by decide +kernel) (by decide +kernel)
set_option maxRecDepth 20000 in
theorem gX7_back_X6_copy : GoodIn wsX7_back (wsV RX7 102 RX6 yX6_copy wsX6_copy) := goodIn_app (goodIn_of _ (by decide +kernel)) ggX7_back_X6_copy
set_option maxRecDepth 20000 in
theorem ggX7_back_X1_empty : GoodIn wsX7_back wsX1_empty := goodIn_r _ [33, 34, 65, 66, 67, 68] (by decide +kernel) (by decide +kernel)
set_option maxRecDepth 20000 in
theorem gX7_back_X1_empty : GoodIn wsX7_back (wsV RX7 107 RX1 yX1_empty wsX1_empty) := goodIn_app (goodIn_of _ (by decide +kernel)) ggX7_back_X1_empty
set_option maxRecDepth 20000 in
theorem ggX7_back_X4_empty : GoodIn wsX7_back wsX4_empty := goodIn_r _ [39, 40, 69, 70] (by decide +kernel) (by decide +kernel)
set_option maxRecDepth 20000 in
theorem gX7_back_X4_empty : GoodIn wsX7_back (wsV RX7 105 RX4 yX4_empty wsX4_empty) := goodIn_app (goodIn_of _ (by decide +kernel)) ggX7_back_X4_empty
theorem dX7_back_0 : decode cX7_back 0 = .ok (.aload_n 0, 1) := by decide +kernel
theorem dX7_back_1 : decode cX7_back 1 = .ok (.getfield 39, 3) := by decide +kernel
theorem dX7_back_4 : decode cX7_back 4 = .ok (.iconst 1, 1) := by decide +kernel
theorem dX7_back_5 : decode cX7_back 5 = .ok (.if_icmp .ge 6, 3) := by decide +kernel
theorem dX7_back_8 : decode cX7_back 8 = .ok (.bipush (-2), 2) := by decide +kernel
theorem dX7_back_10 : decode cX7_back 10 = .ok (.ireturn, 1) := by decide +kernel
theorem dX7_back_11 : decode cX7_back 11 = .ok (.aload_n 0, 1) := by decide +kernel
theorem dX7_back_12 : decode cX7_back 12 = .ok (.dup, 1) := by decide +kernel
theorem dX7_back_13 : decode cX7_back 13 = .ok (.getfield 39, 3) := by decide +kernel
theorem dX7_back_16 : decode cX7_back 16 = .ok (.iconst 1, 1) := by decide +kernel
theorem dX7_back_17 : decode cX7_back 17 = .ok (.isub, 1) := by decide +kernel
theorem dX7_back_18 : decode cX7_back 18 = .ok (.putfield 39, 3) := by decide +kernel
theorem dX7_back_21 : decode cX7_back 21 = .ok (.aload_n 0, 1) := by decide +kernel
theorem dX7_back_22 : decode cX7_back 22 = .ok (.getfield 26, 3) := by decide +kernel
theorem dX7_back_25 : decode cX7_back 25 = .ok (.aload_n 0, 1) := by decide +kernel
theorem dX7_back_26 : decode cX7_back 26 = .ok (.aload_n 0, 1) := by decide +kernel
theorem dX7_back_27 : decode cX7_back 27 = .ok (.getfield 39, 3) := by decide +kernel
theorem dX7_back_30 : decode cX7_back 30 = .ok (.invokevirtual 255, 3) := by decide +kernel
theorem dX7_back_33 : decode cX7_back 33 = .ok (.invokevirtual 102, 3) := by decide +kernel
theorem dX7_back_36 : decode cX7_back 36 = .ok (.aload_n 0, 1) := by decide +kernel
theorem dX7_back_37 : decode cX7_back 37 = .ok (.getfield 46, 3) := by decide +kernel
theorem dX7_back_40 : decode cX7_back 40 = .ok (.invokevirtual 107, 3) := by decide +kernel
theorem dX7_back_43 : decode cX7_back 43 = .ok (.aload_n 0, 1) := by decide +kernel
theorem dX7_back_44 : decode cX7_back 44 = .ok (.getfield 62, 3) := by decide +kernel
theorem dX7_back_47 : decode cX7_back 47 = .ok (.invokevirtual 105, 3) := by decide +kernel
theorem dX7_back_50 : decode cX7_back 50 = .ok (.aload_n 0, 1) := by decide +kernel
theorem dX7_back_51 : decode cX7_back 51 = .ok (.getfield 39, 3) := by decide +kernel
theorem dX7_back_54 : decode cX7_back 54 = .ok (.ireturn, 1) := by decide +kernel
set_option maxRecDepth 20000 in
theorem ggX7_count_J6_bitCount_0f7a4 : GoodIn wsX7_count wsJ6_bitCount_0f7a4 := goodIn_r _ [9, 10, 11, 12] (by decide +kernel) (by decide +kernel)
set_option maxRecDepth 20000 in
theorem gX7_count_J6_bitCount_0f7a4 : GoodIn wsX7_count (va_wsS RX7 160 yJ6_bitCount_0f7a4 wsJ6_bitCount_0f7a4) := goodIn_app (goodIn_of _ (by decide +kernel)) ggX7_count_J6_bitCount_0f7a4
set_option maxRecDepth 20000 in
theorem ggX7_count_X4_size : GoodIn wsX7_count wsX4_size := goodIn_r _ [17, 18, 55, 56] (by decide +kernel) (by decide +kernel)
set_option maxRecDepth 20000 in
theorem gX7_count_X4_size : GoodIn wsX7_count (wsV RX7 219 RX4 yX4_size wsX4_size) := goodIn_app (goodIn_of _ (by decide +kernel)) ggX7_count_X4_size
set_option maxRecDepth 20000 in
theorem ggX7_count_X1_size : GoodIn wsX7_count wsX1_size := goodIn_r _ [23, 24, 57, 58, 59, 60] (by decide +kernel) (by decide +kernel)
set_option maxRecDepth 20000 in
theorem gX7_count_X1_size : GoodIn wsX7_count (wsV RX7 180 RX1 yX1_size wsX1_size) := goodIn_app (goodIn_of _ (by decide +kernel)) ggX7_count_X1_size
set_option maxRecDepth 20000 in
theorem ggX7_count_X5_size : GoodIn wsX7_count wsX5_size := goodIn_r _ [29, 30, 61, 62] (by decide +kernel) (by decide +kernel)
set_option maxRecDepth 20000 in
theorem gX7_count_X5_size : GoodIn wsX7_count (wsV RX7 84 RX5 yX5_size wsX5_size) := goodIn_app (goodIn_of _ (by decide +kernel)) ggX7_count_X5_size
theorem dX7_count_0 : decode cX7_count 0 = .ok (.iload_n 1, 1) := by decide +kernel
theorem dX7_count_1 : decode cX7_count 1 = .ok (.tableswitch 123 0 8 #[51, 59, 67, 78, 86, 94, 102, 107, 115], 51) := by decide +kernel
theorem dX7_count_52 : decode cX7_count 52 = .ok (.aload_n 0, 1) := by decide +kernel
theorem dX7_count_53 : decode cX7_count 53 = .ok (.getfield 26, 3) := by decide +kernel
theorem dX7_count_56 : decode cX7_count 56 = .ok (.getfield 259, 3) := by decide +kernel
theorem dX7_count_59 : decode cX7_count 59 = .ok (.ireturn, 1) := by decide +kernel
theorem dX7_count_60 : decode cX7_count 60 = .ok (.aload_n 0, 1) := by decide +kernel
theorem dX7_count_61 : decode cX7_count 61 = .ok (.getfield 26, 3) := by decide +kernel
theorem dX7_count_64 : decode cX7_count 64 = .ok (.getfield 99, 3) := by decide +kernel
theorem dX7_count_67 : decode cX7_count 67 = .ok (.ireturn, 1) := by decide +kernel
theorem dX7_count_68 : decode cX7_count 68 = .ok (.aload_n 0, 1) := by decide +kernel
theorem dX7_count_69 : decode cX7_count 69 = .ok (.getfield 26, 3) := by decide +kernel
theorem dX7_count_72 : decode cX7_count 72 = .ok (.getfield 127, 3) := by decide +kernel
theorem dX7_count_75 : decode cX7_count 75 = .ok (.invokestatic 160, 3) := by decide +kernel
theorem dX7_count_78 : decode cX7_count 78 = .ok (.ireturn, 1) := by decide +kernel
theorem dX7_count_79 : decode cX7_count 79 = .ok (.aload_n 0, 1) := by decide +kernel
theorem dX7_count_80 : decode cX7_count 80 = .ok (.getfield 26, 3) := by decide +kernel
theorem dX7_count_83 : decode cX7_count 83 = .ok (.getfield 177, 3) := by decide +kernel
theorem dX7_count_86 : decode cX7_count 86 = .ok (.ireturn, 1) := by decide +kernel
theorem dX7_count_87 : decode cX7_count 87 = .ok (.aload_n 0, 1) := by decide +kernel
theorem dX7_count_88 : decode cX7_count 88 = .ok (.getfield 62, 3) := by decide +kernel
theorem dX7_count_91 : decode cX7_count 91 = .ok (.invokevirtual 219, 3) := by decide +kernel
theorem dX7_count_94 : decode cX7_count 94 = .ok (.ireturn, 1) := by decide +kernel
theorem dX7_count_95 : decode cX7_count 95 = .ok (.aload_n 0, 1) := by decide +kernel
theorem dX7_count_96 : decode cX7_count 96 = .ok (.getfield 46, 3) := by decide +kernel
theorem dX7_count_99 : decode cX7_count 99 = .ok (.invokevirtual 180, 3) := by decide +kernel
theorem dX7_count_102 : decode cX7_count 102 = .ok (.ireturn, 1) := by decide +kernel
theorem dX7_count_103 : decode cX7_count 103 = .ok (.aload_n 0, 1) := by decide +kernel
theorem dX7_count_104 : decode cX7_count 104 = .ok (.getfield 39, 3) := by decide +kernel
theorem dX7_count_107 : decode cX7_count 107 = .ok (.ireturn, 1) := by decide +kernel
theorem dX7_count_108 : decode cX7_count 108 = .ok (.aload_n 0, 1) := by decide +kernel
theorem dX7_count_109 : decode cX7_count 109 = .ok (.getfield 10, 3) := by decide +kernel
theorem dX7_count_112 : decode cX7_count 112 = .ok (.invokevirtual 84, 3) := by decide +kernel
theorem dX7_count_115 : decode cX7_count 115 = .ok (.ireturn, 1) := by decide +kernel
theorem dX7_count_116 : decode cX7_count 116 = .ok (.aload_n 0, 1) := by decide +kernel
theorem dX7_count_117 : decode cX7_count 117 = .ok (.getfield 26, 3) := by decide +kernel
theorem dX7_count_120 : decode cX7_count 120 = .ok (.getfield 262, 3) := by decide +kernel
theorem dX7_count_123 : decode cX7_count 123 = .ok (.ireturn, 1) := by decide +kernel
theorem dX7_count_124 : decode cX7_count 124 = .ok (.iconst (-1), 1) := by decide +kernel
theorem dX7_count_125 : decode cX7_count 125 = .ok (.ireturn, 1) := by decide +kernel
theorem dX7_keptAt_0 : decode cX7_keptAt 0 = .ok (.iload_n 1, 1) := by decide +kernel
theorem dX7_keptAt_1 : decode cX7_keptAt 1 = .ok (.ifCond .ne 10, 3) := by decide +kernel
theorem dX7_keptAt_4 : decode cX7_keptAt 4 = .ok (.aload_n 0, 1) := by decide +kernel
theorem dX7_keptAt_5 : decode cX7_keptAt 5 = .ok (.getfield 33, 3) := by decide +kernel
theorem dX7_keptAt_8 : decode cX7_keptAt 8 = .ok (.goto 7, 3) := by decide +kernel
theorem dX7_keptAt_11 : decode cX7_keptAt 11 = .ok (.aload_n 0, 1) := by decide +kernel
theorem dX7_keptAt_12 : decode cX7_keptAt 12 = .ok (.getfield 36, 3) := by decide +kernel
theorem dX7_keptAt_15 : decode cX7_keptAt 15 = .ok (.areturn, 1) := by decide +kernel
theorem dX7_ropeAt_0 : decode cX7_ropeAt 0 = .ok (.iload_n 1, 1) := by decide +kernel
theorem dX7_ropeAt_1 : decode cX7_ropeAt 1 = .ok (.ifCond .ne 10, 3) := by decide +kernel
theorem dX7_ropeAt_4 : decode cX7_ropeAt 4 = .ok (.aload_n 0, 1) := by decide +kernel
theorem dX7_ropeAt_5 : decode cX7_ropeAt 5 = .ok (.getfield 69, 3) := by decide +kernel
theorem dX7_ropeAt_8 : decode cX7_ropeAt 8 = .ok (.goto 7, 3) := by decide +kernel
theorem dX7_ropeAt_11 : decode cX7_ropeAt 11 = .ok (.aload_n 0, 1) := by decide +kernel
theorem dX7_ropeAt_12 : decode cX7_ropeAt 12 = .ok (.getfield 73, 3) := by decide +kernel
theorem dX7_ropeAt_15 : decode cX7_ropeAt 15 = .ok (.areturn, 1) := by decide +kernel
theorem dX7_isRope_0 : decode cX7_isRope 0 = .ok (.iload_n 0, 1) := by decide +kernel
theorem dX7_isRope_1 : decode cX7_isRope 1 = .ok (.ifCond .eq 8, 3) := by decide +kernel
theorem dX7_isRope_4 : decode cX7_isRope 4 = .ok (.iload_n 0, 1) := by decide +kernel
theorem dX7_isRope_5 : decode cX7_isRope 5 = .ok (.iconst 1, 1) := by decide +kernel
theorem dX7_isRope_6 : decode cX7_isRope 6 = .ok (.if_icmp .ne 7, 3) := by decide +kernel
theorem dX7_isRope_9 : decode cX7_isRope 9 = .ok (.iconst 1, 1) := by decide +kernel
theorem dX7_isRope_10 : decode cX7_isRope 10 = .ok (.goto 4, 3) := by decide +kernel
theorem dX7_isRope_13 : decode cX7_isRope 13 = .ok (.iconst 0, 1) := by decide +kernel
theorem dX7_isRope_14 : decode cX7_isRope 14 = .ok (.ireturn, 1) := by decide +kernel
theorem dX7_asNumber_0 : decode cX7_asNumber 0 = .ok (.iload_n 0, 1) := by decide +kernel
theorem dX7_asNumber_1 : decode cX7_asNumber 1 = .ok (.ifCond .eq 7, 3) := by decide +kernel
theorem dX7_asNumber_4 : decode cX7_asNumber 4 = .ok (.iconst 1, 1) := by decide +kernel
theorem dX7_asNumber_5 : decode cX7_asNumber 5 = .ok (.goto 4, 3) := by decide +kernel
theorem dX7_asNumber_8 : decode cX7_asNumber 8 = .ok (.iconst 0, 1) := by decide +kernel
theorem dX7_asNumber_9 : decode cX7_asNumber 9 = .ok (.ireturn, 1) := by decide +kernel
theorem dX7_bit_0 : decode cX7_bit 0 = .ok (.iconst 1, 1) := by decide +kernel
theorem dX7_bit_1 : decode cX7_bit 1 = .ok (.iload_n 0, 1) := by decide +kernel
theorem dX7_bit_2 : decode cX7_bit 2 = .ok (.ishl, 1) := by decide +kernel
theorem dX7_bit_3 : decode cX7_bit 3 = .ok (.ireturn, 1) := by decide +kernel
theorem dX7_has_0 : decode cX7_has 0 = .ok (.iload_n 0, 1) := by decide +kernel
theorem dX7_has_1 : decode cX7_has 1 = .ok (.iload_n 1, 1) := by decide +kernel
theorem dX7_has_2 : decode cX7_has 2 = .ok (.ishr, 1) := by decide +kernel
theorem dX7_has_3 : decode cX7_has 3 = .ok (.iconst 1, 1) := by decide +kernel
theorem dX7_has_4 : decode cX7_has 4 = .ok (.iand, 1) := by decide +kernel
theorem dX7_has_5 : decode cX7_has 5 = .ok (.ifCond .eq 7, 3) := by decide +kernel
theorem dX7_has_8 : decode cX7_has 8 = .ok (.iconst 1, 1) := by decide +kernel
theorem dX7_has_9 : decode cX7_has 9 = .ok (.goto 4, 3) := by decide +kernel
theorem dX7_has_12 : decode cX7_has 12 = .ok (.iconst 0, 1) := by decide +kernel
theorem dX7_has_13 : decode cX7_has 13 = .ok (.ireturn, 1) := by decide +kernel
theorem dX7_isWithin_0 : decode cX7_isWithin 0 = .ok (.iload_n 0, 1) := by decide +kernel
theorem dX7_isWithin_1 : decode cX7_isWithin 1 = .ok (.iload_n 1, 1) := by decide +kernel
theorem dX7_isWithin_2 : decode cX7_isWithin 2 = .ok (.iconst (-1), 1) := by decide +kernel
theorem dX7_isWithin_3 : decode cX7_isWithin 3 = .ok (.ixor, 1) := by decide +kernel
theorem dX7_isWithin_4 : decode cX7_isWithin 4 = .ok (.iand, 1) := by decide +kernel
theorem dX7_isWithin_5 : decode cX7_isWithin 5 = .ok (.ifCond .ne 7, 3) := by decide +kernel
theorem dX7_isWithin_8 : decode cX7_isWithin 8 = .ok (.iconst 1, 1) := by decide +kernel
theorem dX7_isWithin_9 : decode cX7_isWithin 9 = .ok (.goto 4, 3) := by decide +kernel
theorem dX7_isWithin_12 : decode cX7_isWithin 12 = .ok (.iconst 0, 1) := by decide +kernel
theorem dX7_isWithin_13 : decode cX7_isWithin 13 = .ok (.ireturn, 1) := by decide +kernel
set_option maxRecDepth 20000 in
theorem ggX7_ropeOf_X7_has : GoodIn wsX7_ropeOf wsX7_has := goodIn_r _ [8] (by decide +kernel) (by decide +kernel)
set_option maxRecDepth 20000 in
theorem gX7_ropeOf_X7_has : GoodIn wsX7_ropeOf (va_wsS RX7 130 yX7_has wsX7_has) := goodIn_app (goodIn_of _ (by decide +kernel)) ggX7_ropeOf_X7_has
theorem dX7_ropeOf_0 : decode cX7_ropeOf 0 = .ok (.bipush 8, 2) := by decide +kernel
theorem dX7_ropeOf_2 : decode cX7_ropeOf 2 = .ok (.istore_n 1, 1) := by decide +kernel
theorem dX7_ropeOf_3 : decode cX7_ropeOf 3 = .ok (.bipush 8, 2) := by decide +kernel
theorem dX7_ropeOf_5 : decode cX7_ropeOf 5 = .ok (.istore_n 2, 1) := by decide +kernel
theorem dX7_ropeOf_6 : decode cX7_ropeOf 6 = .ok (.iconst 0, 1) := by decide +kernel
theorem dX7_ropeOf_7 : decode cX7_ropeOf 7 = .ok (.istore_n 3, 1) := by decide +kernel
theorem dX7_ropeOf_8 : decode cX7_ropeOf 8 = .ok (.iload_n 3, 1) := by decide +kernel
theorem dX7_ropeOf_9 : decode cX7_ropeOf 9 = .ok (.bipush 8, 2) := by decide +kernel
theorem dX7_ropeOf_11 : decode cX7_ropeOf 11 = .ok (.if_icmp .ge 25, 3) := by decide +kernel
theorem dX7_ropeOf_14 : decode cX7_ropeOf 14 = .ok (.iload_n 0, 1) := by decide +kernel
theorem dX7_ropeOf_15 : decode cX7_ropeOf 15 = .ok (.iload_n 3, 1) := by decide +kernel
theorem dX7_ropeOf_16 : decode cX7_ropeOf 16 = .ok (.invokestatic 130, 3) := by decide +kernel
theorem dX7_ropeOf_19 : decode cX7_ropeOf 19 = .ok (.ifCond .eq 11, 3) := by decide +kernel
theorem dX7_ropeOf_22 : decode cX7_ropeOf 22 = .ok (.iload_n 1, 1) := by decide +kernel
theorem dX7_ropeOf_23 : decode cX7_ropeOf 23 = .ok (.iload_n 3, 1) := by decide +kernel
theorem dX7_ropeOf_24 : decode cX7_ropeOf 24 = .ok (.invokestatic 265, 3) := by decide +kernel
theorem dX7_ropeOf_27 : decode cX7_ropeOf 27 = .ok (.istore_n 1, 1) := by decide +kernel
theorem dX7_ropeOf_28 : decode cX7_ropeOf 28 = .ok (.iload_n 3, 1) := by decide +kernel
theorem dX7_ropeOf_29 : decode cX7_ropeOf 29 = .ok (.istore_n 2, 1) := by decide +kernel
theorem dX7_ropeOf_30 : decode cX7_ropeOf 30 = .ok (.iinc 3 1, 3) := by decide +kernel
theorem dX7_ropeOf_33 : decode cX7_ropeOf 33 = .ok (.goto (-25), 3) := by decide +kernel
theorem dX7_ropeOf_36 : decode cX7_ropeOf 36 = .ok (.iload_n 2, 1) := by decide +kernel
theorem dX7_ropeOf_37 : decode cX7_ropeOf 37 = .ok (.iload_n 1, 1) := by decide +kernel
theorem dX7_ropeOf_38 : decode cX7_ropeOf 38 = .ok (.isub, 1) := by decide +kernel
theorem dX7_ropeOf_39 : decode cX7_ropeOf 39 = .ok (.ireturn, 1) := by decide +kernel
theorem dJ6_bitCount_0f7a4_0 : decode cJ6_bitCount_0f7a4 0 = .ok (.iload_n 0, 1) := by decide +kernel
theorem dJ6_bitCount_0f7a4_1 : decode cJ6_bitCount_0f7a4 1 = .ok (.iload_n 0, 1) := by decide +kernel
theorem dJ6_bitCount_0f7a4_2 : decode cJ6_bitCount_0f7a4 2 = .ok (.iconst 1, 1) := by decide +kernel
theorem dJ6_bitCount_0f7a4_3 : decode cJ6_bitCount_0f7a4 3 = .ok (.iushr, 1) := by decide +kernel
theorem dJ6_bitCount_0f7a4_4 : decode cJ6_bitCount_0f7a4 4 = .ok (.ldc_w 265, 3) := by decide +kernel
theorem dJ6_bitCount_0f7a4_7 : decode cJ6_bitCount_0f7a4 7 = .ok (.iand, 1) := by decide +kernel
theorem dJ6_bitCount_0f7a4_8 : decode cJ6_bitCount_0f7a4 8 = .ok (.isub, 1) := by decide +kernel
theorem dJ6_bitCount_0f7a4_9 : decode cJ6_bitCount_0f7a4 9 = .ok (.istore_n 0, 1) := by decide +kernel
theorem dJ6_bitCount_0f7a4_10 : decode cJ6_bitCount_0f7a4 10 = .ok (.iload_n 0, 1) := by decide +kernel
theorem dJ6_bitCount_0f7a4_11 : decode cJ6_bitCount_0f7a4 11 = .ok (.ldc_w 266, 3) := by decide +kernel
theorem dJ6_bitCount_0f7a4_14 : decode cJ6_bitCount_0f7a4 14 = .ok (.iand, 1) := by decide +kernel
theorem dJ6_bitCount_0f7a4_15 : decode cJ6_bitCount_0f7a4 15 = .ok (.iload_n 0, 1) := by decide +kernel
theorem dJ6_bitCount_0f7a4_16 : decode cJ6_bitCount_0f7a4 16 = .ok (.iconst 2, 1) := by decide +kernel
theorem dJ6_bitCount_0f7a4_17 : decode cJ6_bitCount_0f7a4 17 = .ok (.iushr, 1) := by decide +kernel
theorem dJ6_bitCount_0f7a4_18 : decode cJ6_bitCount_0f7a4 18 = .ok (.ldc_w 266, 3) := by decide +kernel
theorem dJ6_bitCount_0f7a4_21 : decode cJ6_bitCount_0f7a4 21 = .ok (.iand, 1) := by decide +kernel
theorem dJ6_bitCount_0f7a4_22 : decode cJ6_bitCount_0f7a4 22 = .ok (.iadd, 1) := by decide +kernel
theorem dJ6_bitCount_0f7a4_23 : decode cJ6_bitCount_0f7a4 23 = .ok (.istore_n 0, 1) := by decide +kernel
theorem dJ6_bitCount_0f7a4_24 : decode cJ6_bitCount_0f7a4 24 = .ok (.iload_n 0, 1) := by decide +kernel
theorem dJ6_bitCount_0f7a4_25 : decode cJ6_bitCount_0f7a4 25 = .ok (.iload_n 0, 1) := by decide +kernel
theorem dJ6_bitCount_0f7a4_26 : decode cJ6_bitCount_0f7a4 26 = .ok (.iconst 4, 1) := by decide +kernel
theorem dJ6_bitCount_0f7a4_27 : decode cJ6_bitCount_0f7a4 27 = .ok (.iushr, 1) := by decide +kernel
theorem dJ6_bitCount_0f7a4_28 : decode cJ6_bitCount_0f7a4 28 = .ok (.iadd, 1) := by decide +kernel
theorem dJ6_bitCount_0f7a4_29 : decode cJ6_bitCount_0f7a4 29 = .ok (.ldc_w 267, 3) := by decide +kernel
theorem dJ6_bitCount_0f7a4_32 : decode cJ6_bitCount_0f7a4 32 = .ok (.iand, 1) := by decide +kernel
theorem dJ6_bitCount_0f7a4_33 : decode cJ6_bitCount_0f7a4 33 = .ok (.istore_n 0, 1) := by decide +kernel
theorem dJ6_bitCount_0f7a4_34 : decode cJ6_bitCount_0f7a4 34 = .ok (.iload_n 0, 1) := by decide +kernel
theorem dJ6_bitCount_0f7a4_35 : decode cJ6_bitCount_0f7a4 35 = .ok (.iload_n 0, 1) := by decide +kernel
theorem dJ6_bitCount_0f7a4_36 : decode cJ6_bitCount_0f7a4 36 = .ok (.bipush 8, 2) := by decide +kernel
theorem dJ6_bitCount_0f7a4_38 : decode cJ6_bitCount_0f7a4 38 = .ok (.iushr, 1) := by decide +kernel
theorem dJ6_bitCount_0f7a4_39 : decode cJ6_bitCount_0f7a4 39 = .ok (.iadd, 1) := by decide +kernel
theorem dJ6_bitCount_0f7a4_40 : decode cJ6_bitCount_0f7a4 40 = .ok (.istore_n 0, 1) := by decide +kernel
theorem dJ6_bitCount_0f7a4_41 : decode cJ6_bitCount_0f7a4 41 = .ok (.iload_n 0, 1) := by decide +kernel
theorem dJ6_bitCount_0f7a4_42 : decode cJ6_bitCount_0f7a4 42 = .ok (.iload_n 0, 1) := by decide +kernel
theorem dJ6_bitCount_0f7a4_43 : decode cJ6_bitCount_0f7a4 43 = .ok (.bipush 16, 2) := by decide +kernel
theorem dJ6_bitCount_0f7a4_45 : decode cJ6_bitCount_0f7a4 45 = .ok (.iushr, 1) := by decide +kernel
theorem dJ6_bitCount_0f7a4_46 : decode cJ6_bitCount_0f7a4 46 = .ok (.iadd, 1) := by decide +kernel
theorem dJ6_bitCount_0f7a4_47 : decode cJ6_bitCount_0f7a4 47 = .ok (.istore_n 0, 1) := by decide +kernel
theorem dJ6_bitCount_0f7a4_48 : decode cJ6_bitCount_0f7a4 48 = .ok (.iload_n 0, 1) := by decide +kernel
theorem dJ6_bitCount_0f7a4_49 : decode cJ6_bitCount_0f7a4 49 = .ok (.bipush 63, 2) := by decide +kernel
theorem dJ6_bitCount_0f7a4_51 : decode cJ6_bitCount_0f7a4 51 = .ok (.iand, 1) := by decide +kernel
theorem dJ6_bitCount_0f7a4_52 : decode cJ6_bitCount_0f7a4 52 = .ok (.ireturn, 1) := by decide +kernel
theorem dJ9_min_7cf53_0 : decode cJ9_min_7cf53 0 = .ok (.iload_n 0, 1) := by decide +kernel
theorem dJ9_min_7cf53_1 : decode cJ9_min_7cf53 1 = .ok (.iload_n 1, 1) := by decide +kernel
theorem dJ9_min_7cf53_2 : decode cJ9_min_7cf53 2 = .ok (.if_icmp .gt 7, 3) := by decide +kernel
theorem dJ9_min_7cf53_5 : decode cJ9_min_7cf53 5 = .ok (.iload_n 0, 1) := by decide +kernel
theorem dJ9_min_7cf53_6 : decode cJ9_min_7cf53 6 = .ok (.goto 4, 3) := by decide +kernel
theorem dJ9_min_7cf53_9 : decode cJ9_min_7cf53 9 = .ok (.iload_n 1, 1) := by decide +kernel
theorem dJ9_min_7cf53_10 : decode cJ9_min_7cf53 10 = .ok (.ireturn, 1) := by decide +kernel
theorem dL_cell_0 : decode cL_cell 0 = .ok (.iload_n 1, 1) := by decide +kernel
theorem dL_cell_1 : decode cL_cell 1 = .ok (.aload_n 0, 1) := by decide +kernel
theorem dL_cell_2 : decode cL_cell 2 = .ok (.arraylength, 1) := by decide +kernel
theorem dL_cell_3 : decode cL_cell 3 = .ok (.if_icmp .ge 9, 3) := by decide +kernel
theorem dL_cell_6 : decode cL_cell 6 = .ok (.aload_n 0, 1) := by decide +kernel
theorem dL_cell_7 : decode cL_cell 7 = .ok (.iload_n 1, 1) := by decide +kernel
theorem dL_cell_8 : decode cL_cell 8 = .ok (.iaload, 1) := by decide +kernel
theorem dL_cell_9 : decode cL_cell 9 = .ok (.goto 12, 3) := by decide +kernel
theorem dL_cell_12 : decode cL_cell 12 = .ok (.ldc 7, 2) := by decide +kernel
theorem dL_cell_14 : decode cL_cell 14 = .ok (.iload_n 1, 1) := by decide +kernel
theorem dL_cell_15 : decode cL_cell 15 = .ok (.iconst 5, 1) := by decide +kernel
theorem dL_cell_16 : decode cL_cell 16 = .ok (.iadd, 1) := by decide +kernel
theorem dL_cell_17 : decode cL_cell 17 = .ok (.imul, 1) := by decide +kernel
theorem dL_cell_18 : decode cL_cell 18 = .ok (.ldc 8, 2) := by decide +kernel
theorem dL_cell_20 : decode cL_cell 20 = .ok (.iadd, 1) := by decide +kernel
theorem dL_cell_21 : decode cL_cell 21 = .ok (.ireturn, 1) := by decide +kernel
theorem dL_some_0 : decode cL_some 0 = .ok (.iload_n 0, 1) := by decide +kernel
theorem dL_some_1 : decode cL_some 1 = .ok (.ldc 9, 2) := by decide +kernel
theorem dL_some_3 : decode cL_some 3 = .ok (.iand, 1) := by decide +kernel
theorem dL_some_4 : decode cL_some 4 = .ok (.iload_n 1, 1) := by decide +kernel
theorem dL_some_5 : decode cL_some 5 = .ok (.irem, 1) := by decide +kernel
theorem dL_some_6 : decode cL_some 6 = .ok (.ireturn, 1) := by decide +kernel
set_option maxRecDepth 20000 in
theorem ggL_number_X7_write : GoodIn wsL_number wsX7_write := goodIn_r _ [5, 6, 7, 8, 9, 10, 11, 12, 13, 14, 15, 16, 17, 18, 19, 20, 21, 22, 23, 24, 25, 26, 27, 28, 29, 30, 31] (by decide +kernel) (by decide +kernel)
set_option maxRecDepth 20000 in
theorem gL_number_X7_write : GoodIn wsL_number (wsV RL 10 RX7 yX7_write wsX7_write) := goodIn_app (goodIn_of _ (by decide +kernel)) ggL_number_X7_write
theorem dL_number_0 : decode cL_number 0 = .ok (.iconst 1, 1) := by decide +kernel
theorem dL_number_1 : decode cL_number 1 = .ok (.istore_n 3, 1) := by decide +kernel
theorem dL_number_2 : decode cL_number 2 = .ok (.bipush 100, 2) := by decide +kernel
theorem dL_number_4 : decode cL_number 4 = .ok (.istore 4, 2) := by decide +kernel
theorem dL_number_6 : decode cL_number 6 = .ok (.iload 4, 2) := by decide +kernel
theorem dL_number_8 : decode cL_number 8 = .ok (.ifCond .le 54, 3) := by decide +kernel
theorem dL_number_11 : decode cL_number 11 = .ok (.iload_n 3, 1) := by decide +kernel
theorem dL_number_12 : decode cL_number 12 = .ok (.ifCond .eq 38, 3) := by decide +kernel
theorem dL_number_15 : decode cL_number 15 = .ok (.iload_n 1, 1) := by decide +kernel
theorem dL_number_16 : decode cL_number 16 = .ok (.iload 4, 2) := by decide +kernel
theorem dL_number_18 : decode cL_number 18 = .ok (.if_icmp .ge 9, 3) := by decide +kernel
theorem dL_number_21 : decode cL_number 21 = .ok (.iload 4, 2) := by decide +kernel
theorem dL_number_23 : decode cL_number 23 = .ok (.iconst 1, 1) := by decide +kernel
theorem dL_number_24 : decode cL_number 24 = .ok (.if_icmp .gt 22, 3) := by decide +kernel
theorem dL_number_27 : decode cL_number 27 = .ok (.aload_n 0, 1) := by decide +kernel
theorem dL_number_28 : decode cL_number 28 = .ok (.iconst 1, 1) := by decide +kernel
theorem dL_number_29 : decode cL_number 29 = .ok (.bipush 48, 2) := by decide +kernel
theorem dL_number_31 : decode cL_number 31 = .ok (.iload_n 1, 1) := by decide +kernel
theorem dL_number_32 : decode cL_number 32 = .ok (.iload 4, 2) := by decide +kernel
theorem dL_number_34 : decode cL_number 34 = .ok (.idiv, 1) := by decide +kernel
theorem dL_number_35 : decode cL_number 35 = .ok (.bipush 10, 2) := by decide +kernel
theorem dL_number_37 : decode cL_number 37 = .ok (.irem, 1) := by decide +kernel
theorem dL_number_38 : decode cL_number 38 = .ok (.iadd, 1) := by decide +kernel
theorem dL_number_39 : decode cL_number 39 = .ok (.i2l, 1) := by decide +kernel
theorem dL_number_40 : decode cL_number 40 = .ok (.invokevirtual 10, 3) := by decide +kernel
theorem dL_number_43 : decode cL_number 43 = .ok (.ifCond .le 7, 3) := by decide +kernel
theorem dL_number_46 : decode cL_number 46 = .ok (.iconst 1, 1) := by decide +kernel
theorem dL_number_47 : decode cL_number 47 = .ok (.goto 4, 3) := by decide +kernel
theorem dL_number_50 : decode cL_number 50 = .ok (.iconst 0, 1) := by decide +kernel
theorem dL_number_51 : decode cL_number 51 = .ok (.istore_n 3, 1) := by decide +kernel
theorem dL_number_52 : decode cL_number 52 = .ok (.iload 4, 2) := by decide +kernel
theorem dL_number_54 : decode cL_number 54 = .ok (.bipush 10, 2) := by decide +kernel
theorem dL_number_56 : decode cL_number 56 = .ok (.idiv, 1) := by decide +kernel
theorem dL_number_57 : decode cL_number 57 = .ok (.istore 4, 2) := by decide +kernel
theorem dL_number_59 : decode cL_number 59 = .ok (.goto (-53), 3) := by decide +kernel
theorem dL_number_62 : decode cL_number 62 = .ok (.iload_n 3, 1) := by decide +kernel
theorem dL_number_63 : decode cL_number 63 = .ok (.ifCond .eq 17, 3) := by decide +kernel
theorem dL_number_66 : decode cL_number 66 = .ok (.aload_n 0, 1) := by decide +kernel
theorem dL_number_67 : decode cL_number 67 = .ok (.iconst 1, 1) := by decide +kernel
theorem dL_number_68 : decode cL_number 68 = .ok (.iload_n 2, 1) := by decide +kernel
theorem dL_number_69 : decode cL_number 69 = .ok (.i2l, 1) := by decide +kernel
theorem dL_number_70 : decode cL_number 70 = .ok (.invokevirtual 10, 3) := by decide +kernel
theorem dL_number_73 : decode cL_number 73 = .ok (.ifCond .le 7, 3) := by decide +kernel
theorem dL_number_76 : decode cL_number 76 = .ok (.iconst 1, 1) := by decide +kernel
theorem dL_number_77 : decode cL_number 77 = .ok (.goto 4, 3) := by decide +kernel
theorem dL_number_80 : decode cL_number 80 = .ok (.iconst 0, 1) := by decide +kernel
theorem dL_number_81 : decode cL_number 81 = .ok (.ireturn, 1) := by decide +kernel
set_option maxRecDepth 20000 in
theorem ggL_item_X7_write : GoodIn wsL_item wsX7_write := goodIn_r _ [5, 6, 7, 8, 9, 10, 11, 12, 13, 14, 15, 16, 17, 22, 23, 24, 25, 26, 27, 28, 29, 30, 31, 32, 33, 34, 35] (by decide +kernel) (by decide +kernel)
set_option maxRecDepth 20000 in
theorem gL_item_X7_write : GoodIn wsL_item (wsV RL 10 RX7 yX7_write wsX7_write) := goodIn_app (goodIn_of _ (by decide +kernel)) ggL_item_X7_write
set_option maxRecDepth 20000 in
theorem ggL_item_L_number : GoodIn wsL_item wsL_number := goodIn_r _ [21, 1, 2, 3, 4, 5, 6, 7, 8, 9, 10, 11, 12, 13, 14, 15, 16, 17, 22, 23, 24, 25, 26, 27, 28, 29, 30, 31, 32, 33, 34, 35] (by decide +kernel) (by decide +kernel)
set_option maxRecDepth 20000 in
theorem gL_item_L_number : GoodIn wsL_item (va_wsS RL 16 yL_number wsL_number) := goodIn_app (goodIn_of _ (by decide +kernel)) ggL_item_L_number
theorem dL_item_0 : decode cL_item 0 = .ok (.aload_n 0, 1) := by decide +kernel
theorem dL_item_1 : decode cL_item 1 = .ok (.iconst 1, 1) := by decide +kernel
theorem dL_item_2 : decode cL_item 2 = .ok (.iload_n 1, 1) := by decide +kernel
theorem dL_item_3 : decode cL_item 3 = .ok (.i2l, 1) := by decide +kernel
theorem dL_item_4 : decode cL_item 4 = .ok (.invokevirtual 10, 3) := by decide +kernel
theorem dL_item_7 : decode cL_item 7 = .ok (.ifCond .le 7, 3) := by decide +kernel
theorem dL_item_10 : decode cL_item 10 = .ok (.iconst 1, 1) := by decide +kernel
theorem dL_item_11 : decode cL_item 11 = .ok (.goto 4, 3) := by decide +kernel
theorem dL_item_14 : decode cL_item 14 = .ok (.iconst 0, 1) := by decide +kernel
theorem dL_item_15 : decode cL_item 15 = .ok (.istore 8, 2) := by decide +kernel
theorem dL_item_17 : decode cL_item 17 = .ok (.iconst 0, 1) := by decide +kernel
theorem dL_item_18 : decode cL_item 18 = .ok (.istore 9, 2) := by decide +kernel
theorem dL_item_20 : decode cL_item 20 = .ok (.iload 9, 2) := by decide +kernel
theorem dL_item_22 : decode cL_item 22 = .ok (.iload_n 2, 1) := by decide +kernel
theorem dL_item_23 : decode cL_item 23 = .ok (.if_icmp .ge 87, 3) := by decide +kernel
theorem dL_item_26 : decode cL_item 26 = .ok (.iload 8, 2) := by decide +kernel
theorem dL_item_28 : decode cL_item 28 = .ok (.ifCond .eq 73, 3) := by decide +kernel
theorem dL_item_31 : decode cL_item 31 = .ok (.aload_n 0, 1) := by decide +kernel
theorem dL_item_32 : decode cL_item 32 = .ok (.iload 9, 2) := by decide +kernel
theorem dL_item_34 : decode cL_item 34 = .ok (.ifCond .ne 7, 3) := by decide +kernel
theorem dL_item_37 : decode cL_item 37 = .ok (.iload_n 3, 1) := by decide +kernel
theorem dL_item_38 : decode cL_item 38 = .ok (.goto 38, 3) := by decide +kernel
theorem dL_item_41 : decode cL_item 41 = .ok (.iload 9, 2) := by decide +kernel
theorem dL_item_43 : decode cL_item 43 = .ok (.iconst 1, 1) := by decide +kernel
theorem dL_item_44 : decode cL_item 44 = .ok (.if_icmp .ne 8, 3) := by decide +kernel
theorem dL_item_47 : decode cL_item 47 = .ok (.iload 4, 2) := by decide +kernel
theorem dL_item_49 : decode cL_item 49 = .ok (.goto 27, 3) := by decide +kernel
theorem dL_item_52 : decode cL_item 52 = .ok (.iload 9, 2) := by decide +kernel
theorem dL_item_54 : decode cL_item 54 = .ok (.iconst 2, 1) := by decide +kernel
theorem dL_item_55 : decode cL_item 55 = .ok (.if_icmp .ne 8, 3) := by decide +kernel
theorem dL_item_58 : decode cL_item 58 = .ok (.iload 5, 2) := by decide +kernel
theorem dL_item_60 : decode cL_item 60 = .ok (.goto 16, 3) := by decide +kernel
theorem dL_item_63 : decode cL_item 63 = .ok (.iload 9, 2) := by decide +kernel
theorem dL_item_65 : decode cL_item 65 = .ok (.iconst 3, 1) := by decide +kernel
theorem dL_item_66 : decode cL_item 66 = .ok (.if_icmp .ne 8, 3) := by decide +kernel
theorem dL_item_69 : decode cL_item 69 = .ok (.iload 6, 2) := by decide +kernel
theorem dL_item_71 : decode cL_item 71 = .ok (.goto 5, 3) := by decide +kernel
theorem dL_item_74 : decode cL_item 74 = .ok (.iload 7, 2) := by decide +kernel
theorem dL_item_76 : decode cL_item 76 = .ok (.iload 9, 2) := by decide +kernel
theorem dL_item_78 : decode cL_item 78 = .ok (.iload_n 2, 1) := by decide +kernel
theorem dL_item_79 : decode cL_item 79 = .ok (.iconst 1, 1) := by decide +kernel
theorem dL_item_80 : decode cL_item 80 = .ok (.isub, 1) := by decide +kernel
theorem dL_item_81 : decode cL_item 81 = .ok (.if_icmp .ge 8, 3) := by decide +kernel
theorem dL_item_84 : decode cL_item 84 = .ok (.bipush 44, 2) := by decide +kernel
theorem dL_item_86 : decode cL_item 86 = .ok (.goto 5, 3) := by decide +kernel
theorem dL_item_89 : decode cL_item 89 = .ok (.bipush 59, 2) := by decide +kernel
theorem dL_item_91 : decode cL_item 91 = .ok (.invokestatic 16, 3) := by decide +kernel
theorem dL_item_94 : decode cL_item 94 = .ok (.ifCond .eq 7, 3) := by decide +kernel
theorem dL_item_97 : decode cL_item 97 = .ok (.iconst 1, 1) := by decide +kernel
theorem dL_item_98 : decode cL_item 98 = .ok (.goto 4, 3) := by decide +kernel
theorem dL_item_101 : decode cL_item 101 = .ok (.iconst 0, 1) := by decide +kernel
theorem dL_item_102 : decode cL_item 102 = .ok (.istore 8, 2) := by decide +kernel
theorem dL_item_104 : decode cL_item 104 = .ok (.iinc 9 1, 3) := by decide +kernel
theorem dL_item_107 : decode cL_item 107 = .ok (.goto (-87), 3) := by decide +kernel
theorem dL_item_110 : decode cL_item 110 = .ok (.iload 8, 2) := by decide +kernel
theorem dL_item_112 : decode cL_item 112 = .ok (.ireturn, 1) := by decide +kernel
set_option maxRecDepth 20000 in
theorem ggL_town_L_cell : GoodIn wsL_town wsL_cell := goodIn_r _ [5, 6, 7] (by decide +kernel) (by decide +kernel)
set_option maxRecDepth 20000 in
theorem gL_town_L_cell : GoodIn wsL_town (va_wsS RL 22 yL_cell wsL_cell) := goodIn_app (goodIn_of _ (by decide +kernel)) ggL_town_L_cell
set_option maxRecDepth 20000 in
theorem ggL_town_L_some : GoodIn wsL_town wsL_some := goodIn_r _ [10, 11] (by decide +kernel) (by decide +kernel)
set_option maxRecDepth 20000 in
theorem gL_town_L_some : GoodIn wsL_town (va_wsS RL 26 yL_some wsL_some) := goodIn_app (goodIn_of _ (by decide +kernel)) ggL_town_L_some
set_option maxRecDepth 20000 in
theorem ggL_town_X7_wipe : GoodIn wsL_town wsX7_wipe := goodIn_r _ [16, 17, 18, 19, 20, 21, 22, 23, 24, 25, 26, 27, 153, 154, 155, 156, 157, 158, 159, 160, 161, 162, 163, 164, 165, 166] (by decide +kernel) (by decide +kernel)
set_option maxRecDepth 20000 in
theorem gL_town_X7_wipe : GoodIn wsL_town (wsV RL 30 RX7 yX7_wipe wsX7_wipe) := goodIn_app (goodIn_of _ (by decide +kernel)) ggL_town_X7_wipe
set_option maxRecDepth 20000 in
theorem ggL_town_L_item : GoodIn wsL_town wsL_item := goodIn_r _ [30, 31, 32, 33, 15, 34, 17, 18, 19, 20, 21, 22, 23, 35, 36, 37, 38, 39, 40, 41, 4, 42, 153, 154, 155, 156, 157, 158, 159, 160, 161, 162, 163, 164, 165, 166] (by decide +kernel) (by decide +kernel)
set_option maxRecDepth 20000 in
theorem gL_town_L_item : GoodIn wsL_town (va_wsS RL 34 yL_item wsL_item) := goodIn_app (goodIn_of _ (by decide +kernel)) ggL_town_L_item
set_option maxRecDepth 20000 in
theorem ggL_town_X7_fault : GoodIn wsL_town wsX7_fault := goodIn_r _ [46, 47, 17, 48, 49, 50, 51, 52, 53, 54, 55, 56, 57, 58, 59, 60, 61, 62, 63, 64, 65, 19, 20, 21, 22, 23, 66, 67, 68, 69, 39, 70, 71, 72, 73, 74, 75, 76, 77, 78, 79, 80, 81, 82, 83, 84, 85, 86, 87, 88, 89, 90, 91, 92, 93, 94, 95, 96, 97, 98, 99, 100, 101, 102, 103, 104, 105, 106, 107, 108, 109, 110, 111, 112, 113, 114, 115, 116, 117, 118, 15, 119, 153, 154, 155, 156, 157, 158, 159, 160, 161, 162, 163, 164, 167, 168, 169, 170, 171, 172, 173, 174, 175, 176, 177, 178, 165, 166, 179] (by decide +kernel) (by decide +kernel)
set_option maxRecDepth 20000 in
theorem gL_town_X7_fault : GoodIn wsL_town (wsV RL 39 RX7 yX7_fault wsX7_fault) := goodIn_app (goodIn_of _ (by decide +kernel)) ggL_town_X7_fault
set_option maxRecDepth 20000 in
theorem ggL_town_X7_lay : GoodIn wsL_town wsX7_lay := goodIn_r _ [123, 47, 17, 48, 124, 125, 126, 127, 128, 129, 49, 50, 51, 52, 53, 54, 55, 56, 57, 58, 59, 60, 61, 62, 63, 64, 65, 19, 20, 21, 22, 23, 66, 67, 68, 69, 39, 70, 71, 72, 73, 74, 75, 76, 77, 78, 79, 80, 81, 82, 83, 84, 85, 86, 87, 88, 89, 90, 91, 92, 93, 94, 95, 96, 97, 98, 99, 100, 101, 102, 103, 104, 105, 106, 107, 108, 109, 110, 111, 112, 113, 114, 115, 116, 117, 118, 15, 119, 130, 131, 132, 133, 134, 135, 136, 137, 138, 139, 140, 141, 142, 143, 144, 145, 146, 147, 148, 149, 150, 151, 152, 153, 154, 155, 156, 157, 158, 159, 160, 161, 162, 163, 164, 167, 168, 169, 170, 171, 172, 173, 174, 175, 176, 177, 178, 165, 166, 179, 180, 181, 182, 183, 184, 185, 186, 187, 188] (by decide +kernel) (by decide +kernel)
set_option maxRecDepth 20000 in
theorem gL_town_X7_lay : GoodIn wsL_town (wsV RL 42 RX7 yX7_lay wsX7_lay) := goodIn_app (goodIn_of _ (by decide +kernel)) ggL_town_X7_lay
theorem dL_town_0 : decode cL_town 0 = .ok (.aload_n 1, 1) := by decide +kernel
theorem dL_town_1 : decode cL_town 1 = .ok (.iload_n 2, 1) := by decide +kernel
theorem dL_town_2 : decode cL_town 2 = .ok (.invokestatic 22, 3) := by decide +kernel
theorem dL_town_5 : decode cL_town 5 = .ok (.istore 4, 2) := by decide +kernel
theorem dL_town_7 : decode cL_town 7 = .ok (.aload_n 3, 1) := by decide +kernel
theorem dL_town_8 : decode cL_town 8 = .ok (.iconst 0, 1) := by decide +kernel
theorem dL_town_9 : decode cL_town 9 = .ok (.iconst 2, 1) := by decide +kernel
theorem dL_town_10 : decode cL_town 10 = .ok (.iload 4, 2) := by decide +kernel
theorem dL_town_12 : decode cL_town 12 = .ok (.iconst 4, 1) := by decide +kernel
theorem dL_town_13 : decode cL_town 13 = .ok (.invokestatic 26, 3) := by decide +kernel
theorem dL_town_16 : decode cL_town 16 = .ok (.iadd, 1) := by decide +kernel
theorem dL_town_17 : decode cL_town 17 = .ok (.iastore, 1) := by decide +kernel
theorem dL_town_18 : decode cL_town 18 = .ok (.aload_n 3, 1) := by decide +kernel
theorem dL_town_19 : decode cL_town 19 = .ok (.iconst 1, 1) := by decide +kernel
theorem dL_town_20 : decode cL_town 20 = .ok (.iconst 0, 1) := by decide +kernel
theorem dL_town_21 : decode cL_town 21 = .ok (.iastore, 1) := by decide +kernel
theorem dL_town_22 : decode cL_town 22 = .ok (.aload_n 3, 1) := by decide +kernel
theorem dL_town_23 : decode cL_town 23 = .ok (.iconst 2, 1) := by decide +kernel
theorem dL_town_24 : decode cL_town 24 = .ok (.iload 4, 2) := by decide +kernel
theorem dL_town_26 : decode cL_town 26 = .ok (.iconst 3, 1) := by decide +kernel
theorem dL_town_27 : decode cL_town 27 = .ok (.ishr, 1) := by decide +kernel
theorem dL_town_28 : decode cL_town 28 = .ok (.iconst 3, 1) := by decide +kernel
theorem dL_town_29 : decode cL_town 29 = .ok (.iand, 1) := by decide +kernel
theorem dL_town_30 : decode cL_town 30 = .ok (.iastore, 1) := by decide +kernel
theorem dL_town_31 : decode cL_town 31 = .ok (.aload_n 3, 1) := by decide +kernel
theorem dL_town_32 : decode cL_town 32 = .ok (.iconst 2, 1) := by decide +kernel
theorem dL_town_33 : decode cL_town 33 = .ok (.aload_n 3, 1) := by decide +kernel
theorem dL_town_34 : decode cL_town 34 = .ok (.iconst 2, 1) := by decide +kernel
theorem dL_town_35 : decode cL_town 35 = .ok (.iaload, 1) := by decide +kernel
theorem dL_town_36 : decode cL_town 36 = .ok (.iconst 3, 1) := by decide +kernel
theorem dL_town_37 : decode cL_town 37 = .ok (.if_icmp .ne 7, 3) := by decide +kernel
theorem dL_town_40 : decode cL_town 40 = .ok (.iconst 0, 1) := by decide +kernel
theorem dL_town_41 : decode cL_town 41 = .ok (.goto 6, 3) := by decide +kernel
theorem dL_town_44 : decode cL_town 44 = .ok (.aload_n 3, 1) := by decide +kernel
theorem dL_town_45 : decode cL_town 45 = .ok (.iconst 2, 1) := by decide +kernel
theorem dL_town_46 : decode cL_town 46 = .ok (.iaload, 1) := by decide +kernel
theorem dL_town_47 : decode cL_town 47 = .ok (.iastore, 1) := by decide +kernel
theorem dL_town_48 : decode cL_town 48 = .ok (.aload_n 3, 1) := by decide +kernel
theorem dL_town_49 : decode cL_town 49 = .ok (.iconst 3, 1) := by decide +kernel
theorem dL_town_50 : decode cL_town 50 = .ok (.iconst 1, 1) := by decide +kernel
theorem dL_town_51 : decode cL_town 51 = .ok (.iload 4, 2) := by decide +kernel
theorem dL_town_53 : decode cL_town 53 = .ok (.iconst 5, 1) := by decide +kernel
