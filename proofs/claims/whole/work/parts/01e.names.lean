theorem dX7_judge_4 : decode cX7_judge 4 = .ok (.aload_n 0, 1) := by decide +kernel
theorem dX7_judge_5 : decode cX7_judge 5 = .ok (.getfield 26, 3) := by decide +kernel
theorem dX7_judge_8 : decode cX7_judge 8 = .ok (.invokevirtual 220, 3) := by decide +kernel
theorem dX7_judge_11 : decode cX7_judge 11 = .ok (.ireturn, 1) := by decide +kernel
set_option maxRecDepth 20000 in
theorem ggX7_cross_X7_isRope : GoodIn wsX7_cross wsX7_isRope := goodIn_r _ [4] (by decide +kernel) (by decide +kernel)
set_option maxRecDepth 20000 in
theorem gX7_cross_X7_isRope : GoodIn wsX7_cross (va_wsS RX7 224 yX7_isRope wsX7_isRope) := goodIn_app (goodIn_of _ (by decide +kernel)) ggX7_cross_X7_isRope
set_option maxRecDepth 20000 in
theorem ggX7_cross_X7_ropeAt : GoodIn wsX7_cross wsX7_ropeAt := goodIn_r _ [8, 9, 10, 30, 31, 32, 33, 34, 35, 36, 37, 38, 39, 40, 41] (by decide +kernel) (by decide +kernel)
set_option maxRecDepth 20000 in
theorem gX7_cross_X7_ropeAt : GoodIn wsX7_cross (wsV RX7 227 RX7 yX7_ropeAt wsX7_ropeAt) := goodIn_app (goodIn_of _ (by decide +kernel)) ggX7_cross_X7_ropeAt
set_option maxRecDepth 20000 in
theorem ggX7_cross_X3_size : GoodIn wsX7_cross wsX3_size := goodIn_r _ [15, 16, 42, 43, 44] (by decide +kernel) (by decide +kernel)
set_option maxRecDepth 20000 in
theorem gX7_cross_X3_size : GoodIn wsX7_cross (wsV RX7 231 RX3 yX3_size wsX3_size) := goodIn_app (goodIn_of _ (by decide +kernel)) ggX7_cross_X3_size
set_option maxRecDepth 20000 in
theorem ggX7_cross_X3_append : GoodIn wsX7_cross wsX3_append := goodIn_r _ [20, 16, 21, 22, 23, 24, 25, 14, 26, 27, 28, 29, 42, 43, 44] (by decide +kernel) (by decide +kernel)
set_option maxRecDepth 20000 in
theorem gX7_cross_X3_append : GoodIn wsX7_cross (wsV RX7 232 RX3 yX3_append wsX3_append) := goodIn_app (goodIn_of _ (by decide +kernel)) ggX7_cross_X3_append
theorem dX7_cross_0 : decode cX7_cross 0 = .ok (.iload_n 1, 1) := by decide +kernel
theorem dX7_cross_1 : decode cX7_cross 1 = .ok (.invokestatic 224, 3) := by decide +kernel
theorem dX7_cross_4 : decode cX7_cross 4 = .ok (.ifCond .eq 13, 3) := by decide +kernel
theorem dX7_cross_7 : decode cX7_cross 7 = .ok (.iload_n 2, 1) := by decide +kernel
theorem dX7_cross_8 : decode cX7_cross 8 = .ok (.ifCond .lt 9, 3) := by decide +kernel
theorem dX7_cross_11 : decode cX7_cross 11 = .ok (.iload_n 2, 1) := by decide +kernel
theorem dX7_cross_12 : decode cX7_cross 12 = .ok (.bipush 8, 2) := by decide +kernel
theorem dX7_cross_14 : decode cX7_cross 14 = .ok (.if_icmp .lt 5, 3) := by decide +kernel
theorem dX7_cross_17 : decode cX7_cross 17 = .ok (.iconst (-1), 1) := by decide +kernel
theorem dX7_cross_18 : decode cX7_cross 18 = .ok (.ireturn, 1) := by decide +kernel
theorem dX7_cross_19 : decode cX7_cross 19 = .ok (.aload_n 0, 1) := by decide +kernel
theorem dX7_cross_20 : decode cX7_cross 20 = .ok (.iload_n 1, 1) := by decide +kernel
theorem dX7_cross_21 : decode cX7_cross 21 = .ok (.invokevirtual 227, 3) := by decide +kernel
theorem dX7_cross_24 : decode cX7_cross 24 = .ok (.astore_n 3, 1) := by decide +kernel
theorem dX7_cross_25 : decode cX7_cross 25 = .ok (.aload_n 3, 1) := by decide +kernel
theorem dX7_cross_26 : decode cX7_cross 26 = .ok (.invokevirtual 231, 3) := by decide +kernel
theorem dX7_cross_29 : decode cX7_cross 29 = .ok (.bipush 16, 2) := by decide +kernel
theorem dX7_cross_31 : decode cX7_cross 31 = .ok (.if_icmp .lt 6, 3) := by decide +kernel
theorem dX7_cross_34 : decode cX7_cross 34 = .ok (.bipush (-3), 2) := by decide +kernel
theorem dX7_cross_36 : decode cX7_cross 36 = .ok (.ireturn, 1) := by decide +kernel
theorem dX7_cross_37 : decode cX7_cross 37 = .ok (.aload_n 3, 1) := by decide +kernel
theorem dX7_cross_38 : decode cX7_cross 38 = .ok (.iload_n 2, 1) := by decide +kernel
theorem dX7_cross_39 : decode cX7_cross 39 = .ok (.invokevirtual 232, 3) := by decide +kernel
theorem dX7_cross_42 : decode cX7_cross 42 = .ok (.aload_n 3, 1) := by decide +kernel
theorem dX7_cross_43 : decode cX7_cross 43 = .ok (.invokevirtual 231, 3) := by decide +kernel
theorem dX7_cross_46 : decode cX7_cross 46 = .ok (.ireturn, 1) := by decide +kernel
set_option maxRecDepth 20000 in
theorem ggX7_smooth_X7_isRope : GoodIn wsX7_smooth wsX7_isRope := goodIn_r _ [4] (by decide +kernel) (by decide +kernel)
set_option maxRecDepth 20000 in
theorem gX7_smooth_X7_isRope : GoodIn wsX7_smooth (va_wsS RX7 224 yX7_isRope wsX7_isRope) := goodIn_app (goodIn_of _ (by decide +kernel)) ggX7_smooth_X7_isRope
set_option maxRecDepth 20000 in
theorem ggX7_smooth_X7_ropeAt : GoodIn wsX7_smooth wsX7_ropeAt := goodIn_r _ [8, 9, 10, 22, 23, 24, 25, 26, 27, 28, 29, 30, 31, 32, 33] (by decide +kernel) (by decide +kernel)
set_option maxRecDepth 20000 in
theorem gX7_smooth_X7_ropeAt : GoodIn wsX7_smooth (wsV RX7 227 RX7 yX7_ropeAt wsX7_ropeAt) := goodIn_app (goodIn_of _ (by decide +kernel)) ggX7_smooth_X7_ropeAt
set_option maxRecDepth 20000 in
theorem ggX7_smooth_X3_size : GoodIn wsX7_smooth wsX3_size := goodIn_r _ [15, 16, 34, 35, 36] (by decide +kernel) (by decide +kernel)
set_option maxRecDepth 20000 in
theorem gX7_smooth_X3_size : GoodIn wsX7_smooth (wsV RX7 231 RX3 yX3_size wsX3_size) := goodIn_app (goodIn_of _ (by decide +kernel)) ggX7_smooth_X3_size
set_option maxRecDepth 20000 in
theorem ggX7_smooth_X3_empty : GoodIn wsX7_smooth wsX3_empty := goodIn_r _ [20, 21, 16, 34, 35, 36] (by decide +kernel) (by decide +kernel)
set_option maxRecDepth 20000 in
theorem gX7_smooth_X3_empty : GoodIn wsX7_smooth (wsV RX7 106 RX3 yX3_empty wsX3_empty) := goodIn_app (goodIn_of _ (by decide +kernel)) ggX7_smooth_X3_empty
theorem dX7_smooth_0 : decode cX7_smooth 0 = .ok (.iload_n 1, 1) := by decide +kernel
theorem dX7_smooth_1 : decode cX7_smooth 1 = .ok (.invokestatic 224, 3) := by decide +kernel
theorem dX7_smooth_4 : decode cX7_smooth 4 = .ok (.ifCond .ne 5, 3) := by decide +kernel
theorem dX7_smooth_7 : decode cX7_smooth 7 = .ok (.iconst (-1), 1) := by decide +kernel
theorem dX7_smooth_8 : decode cX7_smooth 8 = .ok (.ireturn, 1) := by decide +kernel
theorem dX7_smooth_9 : decode cX7_smooth 9 = .ok (.aload_n 0, 1) := by decide +kernel
theorem dX7_smooth_10 : decode cX7_smooth 10 = .ok (.iload_n 1, 1) := by decide +kernel
theorem dX7_smooth_11 : decode cX7_smooth 11 = .ok (.invokevirtual 227, 3) := by decide +kernel
theorem dX7_smooth_14 : decode cX7_smooth 14 = .ok (.astore_n 2, 1) := by decide +kernel
theorem dX7_smooth_15 : decode cX7_smooth 15 = .ok (.aload_n 2, 1) := by decide +kernel
theorem dX7_smooth_16 : decode cX7_smooth 16 = .ok (.invokevirtual 231, 3) := by decide +kernel
theorem dX7_smooth_19 : decode cX7_smooth 19 = .ok (.istore_n 3, 1) := by decide +kernel
theorem dX7_smooth_20 : decode cX7_smooth 20 = .ok (.aload_n 2, 1) := by decide +kernel
theorem dX7_smooth_21 : decode cX7_smooth 21 = .ok (.invokevirtual 106, 3) := by decide +kernel
theorem dX7_smooth_24 : decode cX7_smooth 24 = .ok (.iload_n 3, 1) := by decide +kernel
theorem dX7_smooth_25 : decode cX7_smooth 25 = .ok (.ireturn, 1) := by decide +kernel
set_option maxRecDepth 20000 in
theorem ggX7_loose_X7_isRope : GoodIn wsX7_loose wsX7_isRope := goodIn_r _ [4] (by decide +kernel) (by decide +kernel)
set_option maxRecDepth 20000 in
theorem gX7_loose_X7_isRope : GoodIn wsX7_loose (va_wsS RX7 224 yX7_isRope wsX7_isRope) := goodIn_app (goodIn_of _ (by decide +kernel)) ggX7_loose_X7_isRope
set_option maxRecDepth 20000 in
theorem ggX7_loose_X7_ropeAt : GoodIn wsX7_loose wsX7_ropeAt := goodIn_r _ [8, 9, 10, 22, 23, 24, 25, 26, 27, 28, 29, 30, 31, 32, 33] (by decide +kernel) (by decide +kernel)
set_option maxRecDepth 20000 in
theorem gX7_loose_X7_ropeAt : GoodIn wsX7_loose (wsV RX7 227 RX7 yX7_ropeAt wsX7_ropeAt) := goodIn_app (goodIn_of _ (by decide +kernel)) ggX7_loose_X7_ropeAt
set_option maxRecDepth 20000 in
theorem ggX7_loose_X3_loosenedSize : GoodIn wsX7_loose wsX3_loosenedSize := goodIn_r _ [15, 16, 34, 35, 36] (by decide +kernel) (by decide +kernel)
set_option maxRecDepth 20000 in
theorem gX7_loose_X3_loosenedSize : GoodIn wsX7_loose (wsV RX7 233 RX3 yX3_loosenedSize wsX3_loosenedSize) := goodIn_app (goodIn_of _ (by decide +kernel)) ggX7_loose_X3_loosenedSize
set_option maxRecDepth 20000 in
theorem ggX7_loose_X3_loosenedAt : GoodIn wsX7_loose wsX3_loosenedAt := goodIn_r _ [20, 16, 21, 34, 35, 36] (by decide +kernel) (by decide +kernel)
set_option maxRecDepth 20000 in
theorem gX7_loose_X3_loosenedAt : GoodIn wsX7_loose (wsV RX7 236 RX3 yX3_loosenedAt wsX3_loosenedAt) := goodIn_app (goodIn_of _ (by decide +kernel)) ggX7_loose_X3_loosenedAt
theorem dX7_loose_0 : decode cX7_loose 0 = .ok (.iload_n 1, 1) := by decide +kernel
theorem dX7_loose_1 : decode cX7_loose 1 = .ok (.invokestatic 224, 3) := by decide +kernel
theorem dX7_loose_4 : decode cX7_loose 4 = .ok (.ifCond .eq 8, 3) := by decide +kernel
theorem dX7_loose_7 : decode cX7_loose 7 = .ok (.iload_n 2, 1) := by decide +kernel
theorem dX7_loose_8 : decode cX7_loose 8 = .ok (.iconst (-1), 1) := by decide +kernel
theorem dX7_loose_9 : decode cX7_loose 9 = .ok (.if_icmp .ge 5, 3) := by decide +kernel
theorem dX7_loose_12 : decode cX7_loose 12 = .ok (.iconst (-1), 1) := by decide +kernel
theorem dX7_loose_13 : decode cX7_loose 13 = .ok (.ireturn, 1) := by decide +kernel
theorem dX7_loose_14 : decode cX7_loose 14 = .ok (.aload_n 0, 1) := by decide +kernel
theorem dX7_loose_15 : decode cX7_loose 15 = .ok (.iload_n 1, 1) := by decide +kernel
theorem dX7_loose_16 : decode cX7_loose 16 = .ok (.invokevirtual 227, 3) := by decide +kernel
theorem dX7_loose_19 : decode cX7_loose 19 = .ok (.astore_n 3, 1) := by decide +kernel
theorem dX7_loose_20 : decode cX7_loose 20 = .ok (.iload_n 2, 1) := by decide +kernel
theorem dX7_loose_21 : decode cX7_loose 21 = .ok (.iconst (-1), 1) := by decide +kernel
theorem dX7_loose_22 : decode cX7_loose 22 = .ok (.if_icmp .ne 10, 3) := by decide +kernel
theorem dX7_loose_25 : decode cX7_loose 25 = .ok (.aload_n 3, 1) := by decide +kernel
theorem dX7_loose_26 : decode cX7_loose 26 = .ok (.invokevirtual 233, 3) := by decide +kernel
theorem dX7_loose_29 : decode cX7_loose 29 = .ok (.goto 8, 3) := by decide +kernel
theorem dX7_loose_32 : decode cX7_loose 32 = .ok (.aload_n 3, 1) := by decide +kernel
theorem dX7_loose_33 : decode cX7_loose 33 = .ok (.iload_n 2, 1) := by decide +kernel
theorem dX7_loose_34 : decode cX7_loose 34 = .ok (.invokevirtual 236, 3) := by decide +kernel
theorem dX7_loose_37 : decode cX7_loose 37 = .ok (.ireturn, 1) := by decide +kernel
set_option maxRecDepth 20000 in
theorem ggX7_alike_X3_isSame : GoodIn wsX7_alike wsX3_isSame := goodIn_r _ [7, 8, 9, 10, 11, 6, 12, 13, 14, 15, 16, 17, 45, 46, 47] (by decide +kernel) (by decide +kernel)
set_option maxRecDepth 20000 in
theorem gX7_alike_X3_isSame : GoodIn wsX7_alike (wsV RX7 239 RX3 yX3_isSame wsX3_isSame) := goodIn_app (goodIn_of _ (by decide +kernel)) ggX7_alike_X3_isSame
set_option maxRecDepth 20000 in
theorem ggX7_alike_X3_isTurned : GoodIn wsX7_alike wsX3_isTurned := goodIn_r _ [21, 8, 22, 23, 24, 6, 25, 13, 14, 15, 16, 17, 26, 27, 28, 9, 10, 11, 12, 45, 46, 47] (by decide +kernel) (by decide +kernel)
set_option maxRecDepth 20000 in
theorem gX7_alike_X3_isTurned : GoodIn wsX7_alike (wsV RX7 243 RX3 yX3_isTurned wsX3_isTurned) := goodIn_app (goodIn_of _ (by decide +kernel)) ggX7_alike_X3_isTurned
set_option maxRecDepth 20000 in
theorem ggX7_alike_X7_asNumber : GoodIn wsX7_alike wsX7_asNumber := goodIn_r _ [32] (by decide +kernel) (by decide +kernel)
set_option maxRecDepth 20000 in
theorem gX7_alike_X7_asNumber : GoodIn wsX7_alike (va_wsS RX7 134 yX7_asNumber wsX7_asNumber) := goodIn_app (goodIn_of _ (by decide +kernel)) ggX7_alike_X7_asNumber
theorem dX7_alike_0 : decode cX7_alike 0 = .ok (.aload_n 0, 1) := by decide +kernel
theorem dX7_alike_1 : decode cX7_alike 1 = .ok (.getfield 69, 3) := by decide +kernel
theorem dX7_alike_4 : decode cX7_alike 4 = .ok (.aload_n 0, 1) := by decide +kernel
theorem dX7_alike_5 : decode cX7_alike 5 = .ok (.getfield 73, 3) := by decide +kernel
theorem dX7_alike_8 : decode cX7_alike 8 = .ok (.invokevirtual 239, 3) := by decide +kernel
theorem dX7_alike_11 : decode cX7_alike 11 = .ok (.ifCond .eq 5, 3) := by decide +kernel
theorem dX7_alike_14 : decode cX7_alike 14 = .ok (.iconst 2, 1) := by decide +kernel
theorem dX7_alike_15 : decode cX7_alike 15 = .ok (.ireturn, 1) := by decide +kernel
theorem dX7_alike_16 : decode cX7_alike 16 = .ok (.aload_n 0, 1) := by decide +kernel
theorem dX7_alike_17 : decode cX7_alike 17 = .ok (.getfield 69, 3) := by decide +kernel
theorem dX7_alike_20 : decode cX7_alike 20 = .ok (.aload_n 0, 1) := by decide +kernel
theorem dX7_alike_21 : decode cX7_alike 21 = .ok (.getfield 73, 3) := by decide +kernel
theorem dX7_alike_24 : decode cX7_alike 24 = .ok (.invokevirtual 243, 3) := by decide +kernel
theorem dX7_alike_27 : decode cX7_alike 27 = .ok (.invokestatic 134, 3) := by decide +kernel
theorem dX7_alike_30 : decode cX7_alike 30 = .ok (.ireturn, 1) := by decide +kernel
set_option maxRecDepth 20000 in
theorem ggX7_mark_X7_isRope : GoodIn wsX7_mark wsX7_isRope := goodIn_r _ [4] (by decide +kernel) (by decide +kernel)
set_option maxRecDepth 20000 in
theorem gX7_mark_X7_isRope : GoodIn wsX7_mark (va_wsS RX7 224 yX7_isRope wsX7_isRope) := goodIn_app (goodIn_of _ (by decide +kernel)) ggX7_mark_X7_isRope
set_option maxRecDepth 20000 in
theorem ggX7_mark_X7_ropeAt : GoodIn wsX7_mark wsX7_ropeAt := goodIn_r _ [8, 9, 10, 22, 23, 24, 25, 26, 27, 28, 29, 30, 31, 32, 33] (by decide +kernel) (by decide +kernel)
set_option maxRecDepth 20000 in
theorem gX7_mark_X7_ropeAt : GoodIn wsX7_mark (wsV RX7 227 RX7 yX7_ropeAt wsX7_ropeAt) := goodIn_app (goodIn_of _ (by decide +kernel)) ggX7_mark_X7_ropeAt
set_option maxRecDepth 20000 in
theorem ggX7_mark_X3_markOf : GoodIn wsX7_mark wsX3_markOf := goodIn_r _ [15, 16, 17, 18, 19, 14, 20, 21, 34, 35, 36] (by decide +kernel) (by decide +kernel)
set_option maxRecDepth 20000 in
theorem gX7_mark_X3_markOf : GoodIn wsX7_mark (wsV RX7 246 RX3 yX3_markOf wsX3_markOf) := goodIn_app (goodIn_of _ (by decide +kernel)) ggX7_mark_X3_markOf
theorem dX7_mark_0 : decode cX7_mark 0 = .ok (.iload_n 1, 1) := by decide +kernel
theorem dX7_mark_1 : decode cX7_mark 1 = .ok (.invokestatic 224, 3) := by decide +kernel
theorem dX7_mark_4 : decode cX7_mark 4 = .ok (.ifCond .eq 12, 3) := by decide +kernel
theorem dX7_mark_7 : decode cX7_mark 7 = .ok (.iload_n 2, 1) := by decide +kernel
theorem dX7_mark_8 : decode cX7_mark 8 = .ok (.ifCond .lt 8, 3) := by decide +kernel
theorem dX7_mark_11 : decode cX7_mark 11 = .ok (.iload_n 2, 1) := by decide +kernel
theorem dX7_mark_12 : decode cX7_mark 12 = .ok (.iconst 4, 1) := by decide +kernel
theorem dX7_mark_13 : decode cX7_mark 13 = .ok (.if_icmp .lt 5, 3) := by decide +kernel
theorem dX7_mark_16 : decode cX7_mark 16 = .ok (.iconst (-1), 1) := by decide +kernel
theorem dX7_mark_17 : decode cX7_mark 17 = .ok (.ireturn, 1) := by decide +kernel
theorem dX7_mark_18 : decode cX7_mark 18 = .ok (.bipush 100, 2) := by decide +kernel
theorem dX7_mark_20 : decode cX7_mark 20 = .ok (.aload_n 0, 1) := by decide +kernel
theorem dX7_mark_21 : decode cX7_mark 21 = .ok (.iload_n 1, 1) := by decide +kernel
theorem dX7_mark_22 : decode cX7_mark 22 = .ok (.invokevirtual 227, 3) := by decide +kernel
theorem dX7_mark_25 : decode cX7_mark 25 = .ok (.iload_n 2, 1) := by decide +kernel
theorem dX7_mark_26 : decode cX7_mark 26 = .ok (.invokevirtual 246, 3) := by decide +kernel
theorem dX7_mark_29 : decode cX7_mark 29 = .ok (.iadd, 1) := by decide +kernel
theorem dX7_mark_30 : decode cX7_mark 30 = .ok (.ireturn, 1) := by decide +kernel
set_option maxRecDepth 20000 in
theorem ggX7_year_X0_drawn : GoodIn wsX7_year wsX0_drawn := goodIn_r _ [7, 8, 9, 10, 11, 77, 78, 65, 66, 67, 68, 69, 70, 71, 72, 73, 74, 75, 76] (by decide +kernel) (by decide +kernel)
set_option maxRecDepth 20000 in
theorem gX7_year_X0_drawn : GoodIn wsX7_year (wsV RX7 249 RX0 yX0_drawn wsX0_drawn) := goodIn_app (goodIn_of _ (by decide +kernel)) ggX7_year_X0_drawn
set_option maxRecDepth 20000 in
theorem ggX7_year_X0_turned : GoodIn wsX7_year wsX0_turned := goodIn_r _ [15, 10, 16, 17, 18, 19, 20, 21, 22, 23, 24, 25, 26, 27, 28, 29, 30, 31, 32, 33, 34, 35, 36, 37, 38, 39, 40, 41, 42, 43, 44, 45, 46, 47, 48, 49, 50, 51, 52, 77, 78, 65, 66, 67, 68, 69, 70, 71, 72, 73, 74, 75, 76] (by decide +kernel) (by decide +kernel)
set_option maxRecDepth 20000 in
theorem gX7_year_X0_turned : GoodIn wsX7_year (wsV RX7 252 RX0 yX0_turned wsX0_turned) := goodIn_app (goodIn_of _ (by decide +kernel)) ggX7_year_X0_turned
theorem dX7_year_0 : decode cX7_year 0 = .ok (.iload_n 1, 1) := by decide +kernel
theorem dX7_year_1 : decode cX7_year 1 = .ok (.ifCond .lt 30, 3) := by decide +kernel
theorem dX7_year_4 : decode cX7_year 4 = .ok (.iload_n 1, 1) := by decide +kernel
theorem dX7_year_5 : decode cX7_year 5 = .ok (.sipush 9999, 3) := by decide +kernel
theorem dX7_year_8 : decode cX7_year 8 = .ok (.if_icmp .gt 23, 3) := by decide +kernel
theorem dX7_year_11 : decode cX7_year 11 = .ok (.iload_n 2, 1) := by decide +kernel
theorem dX7_year_12 : decode cX7_year 12 = .ok (.iconst 1, 1) := by decide +kernel
theorem dX7_year_13 : decode cX7_year 13 = .ok (.if_icmp .lt 18, 3) := by decide +kernel
theorem dX7_year_16 : decode cX7_year 16 = .ok (.iload_n 2, 1) := by decide +kernel
theorem dX7_year_17 : decode cX7_year 17 = .ok (.bipush 60, 2) := by decide +kernel
theorem dX7_year_19 : decode cX7_year 19 = .ok (.if_icmp .gt 12, 3) := by decide +kernel
theorem dX7_year_22 : decode cX7_year 22 = .ok (.iload_n 3, 1) := by decide +kernel
theorem dX7_year_23 : decode cX7_year 23 = .ok (.ifCond .lt 8, 3) := by decide +kernel
theorem dX7_year_26 : decode cX7_year 26 = .ok (.iload_n 3, 1) := by decide +kernel
theorem dX7_year_27 : decode cX7_year 27 = .ok (.iconst 1, 1) := by decide +kernel
theorem dX7_year_28 : decode cX7_year 28 = .ok (.if_icmp .le 5, 3) := by decide +kernel
theorem dX7_year_31 : decode cX7_year 31 = .ok (.iconst (-1), 1) := by decide +kernel
theorem dX7_year_32 : decode cX7_year 32 = .ok (.ireturn, 1) := by decide +kernel
theorem dX7_year_33 : decode cX7_year 33 = .ok (.aload_n 0, 1) := by decide +kernel
theorem dX7_year_34 : decode cX7_year 34 = .ok (.getfield 26, 3) := by decide +kernel
theorem dX7_year_37 : decode cX7_year 37 = .ok (.getfield 127, 3) := by decide +kernel
theorem dX7_year_40 : decode cX7_year 40 = .ok (.istore 4, 2) := by decide +kernel
theorem dX7_year_42 : decode cX7_year 42 = .ok (.iconst 0, 1) := by decide +kernel
theorem dX7_year_43 : decode cX7_year 43 = .ok (.istore 5, 2) := by decide +kernel
theorem dX7_year_45 : decode cX7_year 45 = .ok (.iconst 0, 1) := by decide +kernel
theorem dX7_year_46 : decode cX7_year 46 = .ok (.istore 6, 2) := by decide +kernel
theorem dX7_year_48 : decode cX7_year 48 = .ok (.iload 6, 2) := by decide +kernel
theorem dX7_year_50 : decode cX7_year 50 = .ok (.iload_n 2, 1) := by decide +kernel
theorem dX7_year_51 : decode cX7_year 51 = .ok (.if_icmp .ge 44, 3) := by decide +kernel
theorem dX7_year_54 : decode cX7_year 54 = .ok (.aload_n 0, 1) := by decide +kernel
theorem dX7_year_55 : decode cX7_year 55 = .ok (.getfield 55, 3) := by decide +kernel
theorem dX7_year_58 : decode cX7_year 58 = .ok (.aload_n 0, 1) := by decide +kernel
theorem dX7_year_59 : decode cX7_year 59 = .ok (.getfield 55, 3) := by decide +kernel
theorem dX7_year_62 : decode cX7_year 62 = .ok (.iload_n 1, 1) := by decide +kernel
theorem dX7_year_63 : decode cX7_year 63 = .ok (.iload 6, 2) := by decide +kernel
theorem dX7_year_65 : decode cX7_year 65 = .ok (.invokevirtual 249, 3) := by decide +kernel
theorem dX7_year_68 : decode cX7_year 68 = .ok (.iload 4, 2) := by decide +kernel
theorem dX7_year_70 : decode cX7_year 70 = .ok (.invokevirtual 252, 3) := by decide +kernel
theorem dX7_year_73 : decode cX7_year 73 = .ok (.istore 7, 2) := by decide +kernel
theorem dX7_year_75 : decode cX7_year 75 = .ok (.iload 7, 2) := by decide +kernel
theorem dX7_year_77 : decode cX7_year 77 = .ok (.iload 4, 2) := by decide +kernel
theorem dX7_year_79 : decode cX7_year 79 = .ok (.if_icmp .eq 6, 3) := by decide +kernel
theorem dX7_year_82 : decode cX7_year 82 = .ok (.iinc 5 1, 3) := by decide +kernel
theorem dX7_year_85 : decode cX7_year 85 = .ok (.iload 7, 2) := by decide +kernel
theorem dX7_year_87 : decode cX7_year 87 = .ok (.istore 4, 2) := by decide +kernel
theorem dX7_year_89 : decode cX7_year 89 = .ok (.iinc 6 1, 3) := by decide +kernel
theorem dX7_year_92 : decode cX7_year 92 = .ok (.goto (-44), 3) := by decide +kernel
theorem dX7_year_95 : decode cX7_year 95 = .ok (.iload_n 3, 1) := by decide +kernel
theorem dX7_year_96 : decode cX7_year 96 = .ok (.ifCond .ne 8, 3) := by decide +kernel
theorem dX7_year_99 : decode cX7_year 99 = .ok (.iload 4, 2) := by decide +kernel
theorem dX7_year_101 : decode cX7_year 101 = .ok (.goto 5, 3) := by decide +kernel
theorem dX7_year_104 : decode cX7_year 104 = .ok (.iload 5, 2) := by decide +kernel
theorem dX7_year_106 : decode cX7_year 106 = .ok (.ireturn, 1) := by decide +kernel
set_option maxRecDepth 20000 in
theorem ggX7_keep_X7_keptAt : GoodIn wsX7_keep wsX7_keptAt := goodIn_r _ [7, 8, 9, 27, 28, 29, 30, 31, 32, 33, 34, 35, 36, 37, 38] (by decide +kernel) (by decide +kernel)
set_option maxRecDepth 20000 in
theorem gX7_keep_X7_keptAt : GoodIn wsX7_keep (wsV RX7 255 RX7 yX7_keptAt wsX7_keptAt) := goodIn_app (goodIn_of _ (by decide +kernel)) ggX7_keep_X7_keptAt
set_option maxRecDepth 20000 in
theorem ggX7_keep_X6_copy : GoodIn wsX7_keep wsX6_copy := goodIn_r _ [14, 15, 16, 17, 18, 19, 20, 21, 22, 23, 24, 25, 26, 39, 40, 41, 42, 43, 44, 45, 46, 47, 48, 49, 50] (by decide +kernel) (by decide +kernel)
set_option maxRecDepth 20000 in
theorem gX7_keep_X6_copy : GoodIn wsX7_keep (wsV RX7 102 RX6 yX6_copy wsX6_copy) := goodIn_app (goodIn_of _ (by decide +kernel)) ggX7_keep_X6_copy
theorem dX7_keep_0 : decode cX7_keep 0 = .ok (.aload_n 0, 1) := by decide +kernel
theorem dX7_keep_1 : decode cX7_keep 1 = .ok (.getfield 39, 3) := by decide +kernel
theorem dX7_keep_4 : decode cX7_keep 4 = .ok (.iconst 2, 1) := by decide +kernel
theorem dX7_keep_5 : decode cX7_keep 5 = .ok (.if_icmp .lt 6, 3) := by decide +kernel
theorem dX7_keep_8 : decode cX7_keep 8 = .ok (.bipush (-3), 2) := by decide +kernel
theorem dX7_keep_10 : decode cX7_keep 10 = .ok (.ireturn, 1) := by decide +kernel
theorem dX7_keep_11 : decode cX7_keep 11 = .ok (.aload_n 0, 1) := by decide +kernel
theorem dX7_keep_12 : decode cX7_keep 12 = .ok (.aload_n 0, 1) := by decide +kernel
theorem dX7_keep_13 : decode cX7_keep 13 = .ok (.getfield 39, 3) := by decide +kernel
theorem dX7_keep_16 : decode cX7_keep 16 = .ok (.invokevirtual 255, 3) := by decide +kernel
theorem dX7_keep_19 : decode cX7_keep 19 = .ok (.aload_n 0, 1) := by decide +kernel
theorem dX7_keep_20 : decode cX7_keep 20 = .ok (.getfield 26, 3) := by decide +kernel
theorem dX7_keep_23 : decode cX7_keep 23 = .ok (.invokevirtual 102, 3) := by decide +kernel
theorem dX7_keep_26 : decode cX7_keep 26 = .ok (.aload_n 0, 1) := by decide +kernel
theorem dX7_keep_27 : decode cX7_keep 27 = .ok (.dup, 1) := by decide +kernel
theorem dX7_keep_28 : decode cX7_keep 28 = .ok (.getfield 39, 3) := by decide +kernel
theorem dX7_keep_31 : decode cX7_keep 31 = .ok (.iconst 1, 1) := by decide +kernel
theorem dX7_keep_32 : decode cX7_keep 32 = .ok (.iadd, 1) := by decide +kernel
theorem dX7_keep_33 : decode cX7_keep 33 = .ok (.putfield 39, 3) := by decide +kernel
theorem dX7_keep_36 : decode cX7_keep 36 = .ok (.aload_n 0, 1) := by decide +kernel
theorem dX7_keep_37 : decode cX7_keep 37 = .ok (.getfield 39, 3) := by decide +kernel
theorem dX7_keep_40 : decode cX7_keep 40 = .ok (.ireturn, 1) := by decide +kernel
set_option maxRecDepth 20000 in
theorem ggX7_back_X7_keptAt : GoodIn wsX7_back wsX7_keptAt := goodIn_r _ [9, 10, 11, 41, 42, 43, 44, 45, 46, 47, 48, 49, 50, 51, 52] (by decide +kernel) (by decide +kernel)
set_option maxRecDepth 20000 in
theorem gX7_back_X7_keptAt : GoodIn wsX7_back (wsV RX7 255 RX7 yX7_keptAt wsX7_keptAt) := goodIn_app (goodIn_of _ (by decide +kernel)) ggX7_back_X7_keptAt
set_option maxRecDepth 20000 in
theorem ggX7_back_X6_copy : GoodIn wsX7_back wsX6_copy := goodIn_r _ [16, 17, 18, 19, 20, 21, 22, 23, 24, 25, 26, 27, 28, 53, 54, 55, 56, 57, 58, 59, 60, 61, 62, 63, 64] (by decide +kernel) (by decide +kernel)
set_option maxRecDepth 20000 in
theorem gX7_back_X6_copy : GoodIn wsX7_back (wsV RX7 102 RX6 yX6_copy wsX6_copy) := goodIn_app (goodIn_of _ (by decide +kernel)) ggX7_back_X6_copy
set_option maxRecDepth 20000 in
theorem ggX7_back_X1_empty : GoodIn wsX7_back wsX1_empty := goodIn_r _ [33, 34, 65, 66, 67, 68] (by decide +kernel) (by decide +kernel)
set_option maxRecDepth 20000 in
theorem gX7_back_X1_empty : GoodIn wsX7_back (wsV RX7 107 RX1 yX1_empty wsX1_empty) := goodIn_app (goodIn_of _ (by decide +kernel)) ggX7_back_X1_empty
set_option maxRecDepth 20000 in
theorem ggX7_back_X4_empty : GoodIn wsX7_back wsX4_empty := goodIn_r _ [39, 40, 69, 70] (by decide +kernel) (by decide +kernel)
set_option maxRecDepth 20000 in
theorem gX7_back_X4_empty : GoodIn wsX7_back (wsV RX7 105 RX4 yX4_empty wsX4_empty) := goodIn_app (goodIn_of _ (by decide +kernel)) ggX7_back_X4_empty
theorem dX7_back_0 : decode cX7_back 0 = .ok (.aload_n 0, 1) := by decide +kernel
theorem dX7_back_1 : decode cX7_back 1 = .ok (.getfield 39, 3) := by decide +kernel
theorem dX7_back_4 : decode cX7_back 4 = .ok (.iconst 1, 1) := by decide +kernel
theorem dX7_back_5 : decode cX7_back 5 = .ok (.if_icmp .ge 6, 3) := by decide +kernel
theorem dX7_back_8 : decode cX7_back 8 = .ok (.bipush (-2), 2) := by decide +kernel
theorem dX7_back_10 : decode cX7_back 10 = .ok (.ireturn, 1) := by decide +kernel
theorem dX7_back_11 : decode cX7_back 11 = .ok (.aload_n 0, 1) := by decide +kernel
theorem dX7_back_12 : decode cX7_back 12 = .ok (.dup, 1) := by decide +kernel
theorem dX7_back_13 : decode cX7_back 13 = .ok (.getfield 39, 3) := by decide +kernel
theorem dX7_back_16 : decode cX7_back 16 = .ok (.iconst 1, 1) := by decide +kernel
theorem dX7_back_17 : decode cX7_back 17 = .ok (.isub, 1) := by decide +kernel
theorem dX7_back_18 : decode cX7_back 18 = .ok (.putfield 39, 3) := by decide +kernel
theorem dX7_back_21 : decode cX7_back 21 = .ok (.aload_n 0, 1) := by decide +kernel
theorem dX7_back_22 : decode cX7_back 22 = .ok (.getfield 26, 3) := by decide +kernel
theorem dX7_back_25 : decode cX7_back 25 = .ok (.aload_n 0, 1) := by decide +kernel
theorem dX7_back_26 : decode cX7_back 26 = .ok (.aload_n 0, 1) := by decide +kernel
theorem dX7_back_27 : decode cX7_back 27 = .ok (.getfield 39, 3) := by decide +kernel
theorem dX7_back_30 : decode cX7_back 30 = .ok (.invokevirtual 255, 3) := by decide +kernel
theorem dX7_back_33 : decode cX7_back 33 = .ok (.invokevirtual 102, 3) := by decide +kernel
theorem dX7_back_36 : decode cX7_back 36 = .ok (.aload_n 0, 1) := by decide +kernel
theorem dX7_back_37 : decode cX7_back 37 = .ok (.getfield 46, 3) := by decide +kernel
theorem dX7_back_40 : decode cX7_back 40 = .ok (.invokevirtual 107, 3) := by decide +kernel
theorem dX7_back_43 : decode cX7_back 43 = .ok (.aload_n 0, 1) := by decide +kernel
theorem dX7_back_44 : decode cX7_back 44 = .ok (.getfield 62, 3) := by decide +kernel
theorem dX7_back_47 : decode cX7_back 47 = .ok (.invokevirtual 105, 3) := by decide +kernel
theorem dX7_back_50 : decode cX7_back 50 = .ok (.aload_n 0, 1) := by decide +kernel
theorem dX7_back_51 : decode cX7_back 51 = .ok (.getfield 39, 3) := by decide +kernel
theorem dX7_back_54 : decode cX7_back 54 = .ok (.ireturn, 1) := by decide +kernel
set_option maxRecDepth 20000 in
theorem ggX7_count_J6_bitCount_0f7a4 : GoodIn wsX7_count wsJ6_bitCount_0f7a4 := goodIn_r _ [9, 10, 11, 12] (by decide +kernel) (by decide +kernel)
set_option maxRecDepth 20000 in
theorem gX7_count_J6_bitCount_0f7a4 : GoodIn wsX7_count (va_wsS RX7 160 yJ6_bitCount_0f7a4 wsJ6_bitCount_0f7a4) := goodIn_app (goodIn_of _ (by decide +kernel)) ggX7_count_J6_bitCount_0f7a4
set_option maxRecDepth 20000 in
theorem ggX7_count_X4_size : GoodIn wsX7_count wsX4_size := goodIn_r _ [17, 18, 55, 56] (by decide +kernel) (by decide +kernel)
set_option maxRecDepth 20000 in
theorem gX7_count_X4_size : GoodIn wsX7_count (wsV RX7 219 RX4 yX4_size wsX4_size) := goodIn_app (goodIn_of _ (by decide +kernel)) ggX7_count_X4_size
set_option maxRecDepth 20000 in
theorem ggX7_count_X1_size : GoodIn wsX7_count wsX1_size := goodIn_r _ [23, 24, 57, 58, 59, 60] (by decide +kernel) (by decide +kernel)
set_option maxRecDepth 20000 in
theorem gX7_count_X1_size : GoodIn wsX7_count (wsV RX7 180 RX1 yX1_size wsX1_size) := goodIn_app (goodIn_of _ (by decide +kernel)) ggX7_count_X1_size
set_option maxRecDepth 20000 in
theorem ggX7_count_X5_size : GoodIn wsX7_count wsX5_size := goodIn_r _ [29, 30, 61, 62] (by decide +kernel) (by decide +kernel)
set_option maxRecDepth 20000 in
theorem gX7_count_X5_size : GoodIn wsX7_count (wsV RX7 84 RX5 yX5_size wsX5_size) := goodIn_app (goodIn_of _ (by decide +kernel)) ggX7_count_X5_size
theorem dX7_count_0 : decode cX7_count 0 = .ok (.iload_n 1, 1) := by decide +kernel
theorem dX7_count_1 : decode cX7_count 1 = .ok (.tableswitch 123 0 8 #[51, 59, 67, 78, 86, 94, 102, 107, 115], 51) := by decide +kernel
theorem dX7_count_52 : decode cX7_count 52 = .ok (.aload_n 0, 1) := by decide +kernel
theorem dX7_count_53 : decode cX7_count 53 = .ok (.getfield 26, 3) := by decide +kernel
theorem dX7_count_56 : decode cX7_count 56 = .ok (.getfield 259, 3) := by decide +kernel
theorem dX7_count_59 : decode cX7_count 59 = .ok (.ireturn, 1) := by decide +kernel
theorem dX7_count_60 : decode cX7_count 60 = .ok (.aload_n 0, 1) := by decide +kernel
theorem dX7_count_61 : decode cX7_count 61 = .ok (.getfield 26, 3) := by decide +kernel
theorem dX7_count_64 : decode cX7_count 64 = .ok (.getfield 99, 3) := by decide +kernel
theorem dX7_count_67 : decode cX7_count 67 = .ok (.ireturn, 1) := by decide +kernel
theorem dX7_count_68 : decode cX7_count 68 = .ok (.aload_n 0, 1) := by decide +kernel
theorem dX7_count_69 : decode cX7_count 69 = .ok (.getfield 26, 3) := by decide +kernel
theorem dX7_count_72 : decode cX7_count 72 = .ok (.getfield 127, 3) := by decide +kernel
theorem dX7_count_75 : decode cX7_count 75 = .ok (.invokestatic 160, 3) := by decide +kernel
theorem dX7_count_78 : decode cX7_count 78 = .ok (.ireturn, 1) := by decide +kernel
theorem dX7_count_79 : decode cX7_count 79 = .ok (.aload_n 0, 1) := by decide +kernel
theorem dX7_count_80 : decode cX7_count 80 = .ok (.getfield 26, 3) := by decide +kernel
theorem dX7_count_83 : decode cX7_count 83 = .ok (.getfield 177, 3) := by decide +kernel
theorem dX7_count_86 : decode cX7_count 86 = .ok (.ireturn, 1) := by decide +kernel
theorem dX7_count_87 : decode cX7_count 87 = .ok (.aload_n 0, 1) := by decide +kernel
theorem dX7_count_88 : decode cX7_count 88 = .ok (.getfield 62, 3) := by decide +kernel
theorem dX7_count_91 : decode cX7_count 91 = .ok (.invokevirtual 219, 3) := by decide +kernel
theorem dX7_count_94 : decode cX7_count 94 = .ok (.ireturn, 1) := by decide +kernel
theorem dX7_count_95 : decode cX7_count 95 = .ok (.aload_n 0, 1) := by decide +kernel
theorem dX7_count_96 : decode cX7_count 96 = .ok (.getfield 46, 3) := by decide +kernel
theorem dX7_count_99 : decode cX7_count 99 = .ok (.invokevirtual 180, 3) := by decide +kernel
theorem dX7_count_102 : decode cX7_count 102 = .ok (.ireturn, 1) := by decide +kernel
theorem dX7_count_103 : decode cX7_count 103 = .ok (.aload_n 0, 1) := by decide +kernel
theorem dX7_count_104 : decode cX7_count 104 = .ok (.getfield 39, 3) := by decide +kernel
theorem dX7_count_107 : decode cX7_count 107 = .ok (.ireturn, 1) := by decide +kernel
theorem dX7_count_108 : decode cX7_count 108 = .ok (.aload_n 0, 1) := by decide +kernel
theorem dX7_count_109 : decode cX7_count 109 = .ok (.getfield 10, 3) := by decide +kernel
theorem dX7_count_112 : decode cX7_count 112 = .ok (.invokevirtual 84, 3) := by decide +kernel
theorem dX7_count_115 : decode cX7_count 115 = .ok (.ireturn, 1) := by decide +kernel
theorem dX7_count_116 : decode cX7_count 116 = .ok (.aload_n 0, 1) := by decide +kernel
theorem dX7_count_117 : decode cX7_count 117 = .ok (.getfield 26, 3) := by decide +kernel
theorem dX7_count_120 : decode cX7_count 120 = .ok (.getfield 262, 3) := by decide +kernel
theorem dX7_count_123 : decode cX7_count 123 = .ok (.ireturn, 1) := by decide +kernel
theorem dX7_count_124 : decode cX7_count 124 = .ok (.iconst (-1), 1) := by decide +kernel
theorem dX7_count_125 : decode cX7_count 125 = .ok (.ireturn, 1) := by decide +kernel
theorem dX7_keptAt_0 : decode cX7_keptAt 0 = .ok (.iload_n 1, 1) := by decide +kernel
theorem dX7_keptAt_1 : decode cX7_keptAt 1 = .ok (.ifCond .ne 10, 3) := by decide +kernel
theorem dX7_keptAt_4 : decode cX7_keptAt 4 = .ok (.aload_n 0, 1) := by decide +kernel
theorem dX7_keptAt_5 : decode cX7_keptAt 5 = .ok (.getfield 33, 3) := by decide +kernel
theorem dX7_keptAt_8 : decode cX7_keptAt 8 = .ok (.goto 7, 3) := by decide +kernel
theorem dX7_keptAt_11 : decode cX7_keptAt 11 = .ok (.aload_n 0, 1) := by decide +kernel
theorem dX7_keptAt_12 : decode cX7_keptAt 12 = .ok (.getfield 36, 3) := by decide +kernel
theorem dX7_keptAt_15 : decode cX7_keptAt 15 = .ok (.areturn, 1) := by decide +kernel
theorem dX7_ropeAt_0 : decode cX7_ropeAt 0 = .ok (.iload_n 1, 1) := by decide +kernel
theorem dX7_ropeAt_1 : decode cX7_ropeAt 1 = .ok (.ifCond .ne 10, 3) := by decide +kernel
theorem dX7_ropeAt_4 : decode cX7_ropeAt 4 = .ok (.aload_n 0, 1) := by decide +kernel
theorem dX7_ropeAt_5 : decode cX7_ropeAt 5 = .ok (.getfield 69, 3) := by decide +kernel
theorem dX7_ropeAt_8 : decode cX7_ropeAt 8 = .ok (.goto 7, 3) := by decide +kernel
theorem dX7_ropeAt_11 : decode cX7_ropeAt 11 = .ok (.aload_n 0, 1) := by decide +kernel
theorem dX7_ropeAt_12 : decode cX7_ropeAt 12 = .ok (.getfield 73, 3) := by decide +kernel
theorem dX7_ropeAt_15 : decode cX7_ropeAt 15 = .ok (.areturn, 1) := by decide +kernel
theorem dX7_isRope_0 : decode cX7_isRope 0 = .ok (.iload_n 0, 1) := by decide +kernel
theorem dX7_isRope_1 : decode cX7_isRope 1 = .ok (.ifCond .eq 8, 3) := by decide +kernel
theorem dX7_isRope_4 : decode cX7_isRope 4 = .ok (.iload_n 0, 1) := by decide +kernel
theorem dX7_isRope_5 : decode cX7_isRope 5 = .ok (.iconst 1, 1) := by decide +kernel
theorem dX7_isRope_6 : decode cX7_isRope 6 = .ok (.if_icmp .ne 7, 3) := by decide +kernel
theorem dX7_isRope_9 : decode cX7_isRope 9 = .ok (.iconst 1, 1) := by decide +kernel
theorem dX7_isRope_10 : decode cX7_isRope 10 = .ok (.goto 4, 3) := by decide +kernel
theorem dX7_isRope_13 : decode cX7_isRope 13 = .ok (.iconst 0, 1) := by decide +kernel
theorem dX7_isRope_14 : decode cX7_isRope 14 = .ok (.ireturn, 1) := by decide +kernel
theorem dX7_asNumber_0 : decode cX7_asNumber 0 = .ok (.iload_n 0, 1) := by decide +kernel
theorem dX7_asNumber_1 : decode cX7_asNumber 1 = .ok (.ifCond .eq 7, 3) := by decide +kernel
theorem dX7_asNumber_4 : decode cX7_asNumber 4 = .ok (.iconst 1, 1) := by decide +kernel
theorem dX7_asNumber_5 : decode cX7_asNumber 5 = .ok (.goto 4, 3) := by decide +kernel
theorem dX7_asNumber_8 : decode cX7_asNumber 8 = .ok (.iconst 0, 1) := by decide +kernel
theorem dX7_asNumber_9 : decode cX7_asNumber 9 = .ok (.ireturn, 1) := by decide +kernel
theorem dX7_bit_0 : decode cX7_bit 0 = .ok (.iconst 1, 1) := by decide +kernel
theorem dX7_bit_1 : decode cX7_bit 1 = .ok (.iload_n 0, 1) := by decide +kernel
theorem dX7_bit_2 : decode cX7_bit 2 = .ok (.ishl, 1) := by decide +kernel
theorem dX7_bit_3 : decode cX7_bit 3 = .ok (.ireturn, 1) := by decide +kernel
theorem dX7_has_0 : decode cX7_has 0 = .ok (.iload_n 0, 1) := by decide +kernel
theorem dX7_has_1 : decode cX7_has 1 = .ok (.iload_n 1, 1) := by decide +kernel
theorem dX7_has_2 : decode cX7_has 2 = .ok (.ishr, 1) := by decide +kernel
theorem dX7_has_3 : decode cX7_has 3 = .ok (.iconst 1, 1) := by decide +kernel
theorem dX7_has_4 : decode cX7_has 4 = .ok (.iand, 1) := by decide +kernel
theorem dX7_has_5 : decode cX7_has 5 = .ok (.ifCond .eq 7, 3) := by decide +kernel
theorem dX7_has_8 : decode cX7_has 8 = .ok (.iconst 1, 1) := by decide +kernel
theorem dX7_has_9 : decode cX7_has 9 = .ok (.goto 4, 3) := by decide +kernel
theorem dX7_has_12 : decode cX7_has 12 = .ok (.iconst 0, 1) := by decide +kernel
theorem dX7_has_13 : decode cX7_has 13 = .ok (.ireturn, 1) := by decide +kernel
theorem dX7_isWithin_0 : decode cX7_isWithin 0 = .ok (.iload_n 0, 1) := by decide +kernel
theorem dX7_isWithin_1 : decode cX7_isWithin 1 = .ok (.iload_n 1, 1) := by decide +kernel
theorem dX7_isWithin_2 : decode cX7_isWithin 2 = .ok (.iconst (-1), 1) := by decide +kernel
theorem dX7_isWithin_3 : decode cX7_isWithin 3 = .ok (.ixor, 1) := by decide +kernel
theorem dX7_isWithin_4 : decode cX7_isWithin 4 = .ok (.iand, 1) := by decide +kernel
theorem dX7_isWithin_5 : decode cX7_isWithin 5 = .ok (.ifCond .ne 7, 3) := by decide +kernel
theorem dX7_isWithin_8 : decode cX7_isWithin 8 = .ok (.iconst 1, 1) := by decide +kernel
theorem dX7_isWithin_9 : decode cX7_isWithin 9 = .ok (.goto 4, 3) := by decide +kernel
theorem dX7_isWithin_12 : decode cX7_isWithin 12 = .ok (.iconst 0, 1) := by decide +kernel
theorem dX7_isWithin_13 : decode cX7_isWithin 13 = .ok (.ireturn, 1) := by decide +kernel
set_option maxRecDepth 20000 in
theorem ggX7_ropeOf_X7_has : GoodIn wsX7_ropeOf wsX7_has := goodIn_r _ [8] (by decide +kernel) (by decide +kernel)
set_option maxRecDepth 20000 in
theorem gX7_ropeOf_X7_has : GoodIn wsX7_ropeOf (va_wsS RX7 130 yX7_has wsX7_has) := goodIn_app (goodIn_of _ (by decide +kernel)) ggX7_ropeOf_X7_has
theorem dX7_ropeOf_0 : decode cX7_ropeOf 0 = .ok (.bipush 8, 2) := by decide +kernel
theorem dX7_ropeOf_2 : decode cX7_ropeOf 2 = .ok (.istore_n 1, 1) := by decide +kernel
theorem dX7_ropeOf_3 : decode cX7_ropeOf 3 = .ok (.bipush 8, 2) := by decide +kernel
theorem dX7_ropeOf_5 : decode cX7_ropeOf 5 = .ok (.istore_n 2, 1) := by decide +kernel
theorem dX7_ropeOf_6 : decode cX7_ropeOf 6 = .ok (.iconst 0, 1) := by decide +kernel
theorem dX7_ropeOf_7 : decode cX7_ropeOf 7 = .ok (.istore_n 3, 1) := by decide +kernel
theorem dX7_ropeOf_8 : decode cX7_ropeOf 8 = .ok (.iload_n 3, 1) := by decide +kernel
theorem dX7_ropeOf_9 : decode cX7_ropeOf 9 = .ok (.bipush 8, 2) := by decide +kernel
theorem dX7_ropeOf_11 : decode cX7_ropeOf 11 = .ok (.if_icmp .ge 25, 3) := by decide +kernel
theorem dX7_ropeOf_14 : decode cX7_ropeOf 14 = .ok (.iload_n 0, 1) := by decide +kernel
theorem dX7_ropeOf_15 : decode cX7_ropeOf 15 = .ok (.iload_n 3, 1) := by decide +kernel
theorem dX7_ropeOf_16 : decode cX7_ropeOf 16 = .ok (.invokestatic 130, 3) := by decide +kernel
theorem dX7_ropeOf_19 : decode cX7_ropeOf 19 = .ok (.ifCond .eq 11, 3) := by decide +kernel
theorem dX7_ropeOf_22 : decode cX7_ropeOf 22 = .ok (.iload_n 1, 1) := by decide +kernel
theorem dX7_ropeOf_23 : decode cX7_ropeOf 23 = .ok (.iload_n 3, 1) := by decide +kernel
theorem dX7_ropeOf_24 : decode cX7_ropeOf 24 = .ok (.invokestatic 265, 3) := by decide +kernel
theorem dX7_ropeOf_27 : decode cX7_ropeOf 27 = .ok (.istore_n 1, 1) := by decide +kernel
theorem dX7_ropeOf_28 : decode cX7_ropeOf 28 = .ok (.iload_n 3, 1) := by decide +kernel
theorem dX7_ropeOf_29 : decode cX7_ropeOf 29 = .ok (.istore_n 2, 1) := by decide +kernel
theorem dX7_ropeOf_30 : decode cX7_ropeOf 30 = .ok (.iinc 3 1, 3) := by decide +kernel
theorem dX7_ropeOf_33 : decode cX7_ropeOf 33 = .ok (.goto (-25), 3) := by decide +kernel
theorem dX7_ropeOf_36 : decode cX7_ropeOf 36 = .ok (.iload_n 2, 1) := by decide +kernel
theorem dX7_ropeOf_37 : decode cX7_ropeOf 37 = .ok (.iload_n 1, 1) := by decide +kernel
theorem dX7_ropeOf_38 : decode cX7_ropeOf 38 = .ok (.isub, 1) := by decide +kernel
theorem dX7_ropeOf_39 : decode cX7_ropeOf 39 = .ok (.ireturn, 1) := by decide +kernel
set_option maxRecDepth 20000 in
theorem ggX8_init_X8_noTown : GoodIn wsX8_init wsX8_noTown := goodIn_r _ [31, 6, 7, 8, 9, 15, 16, 32, 33, 34, 35, 36, 37, 38, 39, 40, 41, 42, 43, 44, 45, 46, 47, 48, 49, 50, 51, 52, 53, 54, 55, 56, 57, 58] (by decide +kernel) (by decide +kernel)
set_option maxRecDepth 20000 in
theorem gX8_init_X8_noTown : GoodIn wsX8_init (wsV RX8 76 RX8 yX8_noTown wsX8_noTown) := goodIn_app (goodIn_of _ (by decide +kernel)) ggX8_init_X8_noTown
theorem dX8_init_0 : decode cX8_init 0 = .ok (.aload_n 0, 1) := by decide +kernel
theorem dX8_init_1 : decode cX8_init 1 = .ok (.invokespecial 1, 3) := by decide +kernel
theorem dX8_init_4 : decode cX8_init 4 = .ok (.aload_n 0, 1) := by decide +kernel
theorem dX8_init_5 : decode cX8_init 5 = .ok (.sipush 300, 3) := by decide +kernel
theorem dX8_init_8 : decode cX8_init 8 = .ok (.newarray .int, 2) := by decide +kernel
theorem dX8_init_10 : decode cX8_init 10 = .ok (.putfield 7, 3) := by decide +kernel
theorem dX8_init_13 : decode cX8_init 13 = .ok (.aload_n 0, 1) := by decide +kernel
theorem dX8_init_14 : decode cX8_init 14 = .ok (.iconst 2, 1) := by decide +kernel
theorem dX8_init_15 : decode cX8_init 15 = .ok (.newarray .int, 2) := by decide +kernel
theorem dX8_init_17 : decode cX8_init 17 = .ok (.putfield 13, 3) := by decide +kernel
theorem dX8_init_20 : decode cX8_init 20 = .ok (.aload_n 0, 1) := by decide +kernel
theorem dX8_init_21 : decode cX8_init 21 = .ok (.iconst 2, 1) := by decide +kernel
theorem dX8_init_22 : decode cX8_init 22 = .ok (.newarray .int, 2) := by decide +kernel
theorem dX8_init_24 : decode cX8_init 24 = .ok (.putfield 16, 3) := by decide +kernel
theorem dX8_init_27 : decode cX8_init 27 = .ok (.aload_n 0, 1) := by decide +kernel
theorem dX8_init_28 : decode cX8_init 28 = .ok (.iconst 2, 1) := by decide +kernel
theorem dX8_init_29 : decode cX8_init 29 = .ok (.newarray .int, 2) := by decide +kernel
theorem dX8_init_31 : decode cX8_init 31 = .ok (.putfield 19, 3) := by decide +kernel
theorem dX8_init_34 : decode cX8_init 34 = .ok (.aload_n 0, 1) := by decide +kernel
theorem dX8_init_35 : decode cX8_init 35 = .ok (.iconst 4, 1) := by decide +kernel
theorem dX8_init_36 : decode cX8_init 36 = .ok (.newarray .int, 2) := by decide +kernel
theorem dX8_init_38 : decode cX8_init 38 = .ok (.putfield 22, 3) := by decide +kernel
theorem dX8_init_41 : decode cX8_init 41 = .ok (.aload_n 0, 1) := by decide +kernel
theorem dX8_init_42 : decode cX8_init 42 = .ok (.bipush 32, 2) := by decide +kernel
theorem dX8_init_44 : decode cX8_init 44 = .ok (.newarray .int, 2) := by decide +kernel
theorem dX8_init_46 : decode cX8_init 46 = .ok (.putfield 25, 3) := by decide +kernel
theorem dX8_init_49 : decode cX8_init 49 = .ok (.aload_n 0, 1) := by decide +kernel
theorem dX8_init_50 : decode cX8_init 50 = .ok (.bipush 32, 2) := by decide +kernel
theorem dX8_init_52 : decode cX8_init 52 = .ok (.newarray .int, 2) := by decide +kernel
theorem dX8_init_54 : decode cX8_init 54 = .ok (.putfield 28, 3) := by decide +kernel
theorem dX8_init_57 : decode cX8_init 57 = .ok (.aload_n 0, 1) := by decide +kernel
theorem dX8_init_58 : decode cX8_init 58 = .ok (.bipush 32, 2) := by decide +kernel
theorem dX8_init_60 : decode cX8_init 60 = .ok (.newarray .int, 2) := by decide +kernel
theorem dX8_init_62 : decode cX8_init 62 = .ok (.putfield 31, 3) := by decide +kernel
theorem dX8_init_65 : decode cX8_init 65 = .ok (.aload_n 0, 1) := by decide +kernel
theorem dX8_init_66 : decode cX8_init 66 = .ok (.bipush 32, 2) := by decide +kernel
theorem dX8_init_68 : decode cX8_init 68 = .ok (.newarray .int, 2) := by decide +kernel
theorem dX8_init_70 : decode cX8_init 70 = .ok (.putfield 34, 3) := by decide +kernel
theorem dX8_init_73 : decode cX8_init 73 = .ok (.aload_n 0, 1) := by decide +kernel
theorem dX8_init_74 : decode cX8_init 74 = .ok (.bipush 32, 2) := by decide +kernel
theorem dX8_init_76 : decode cX8_init 76 = .ok (.newarray .int, 2) := by decide +kernel
theorem dX8_init_78 : decode cX8_init 78 = .ok (.putfield 37, 3) := by decide +kernel
theorem dX8_init_81 : decode cX8_init 81 = .ok (.aload_n 0, 1) := by decide +kernel
theorem dX8_init_82 : decode cX8_init 82 = .ok (.iconst 4, 1) := by decide +kernel
theorem dX8_init_83 : decode cX8_init 83 = .ok (.newarray .int, 2) := by decide +kernel
theorem dX8_init_85 : decode cX8_init 85 = .ok (.putfield 40, 3) := by decide +kernel
theorem dX8_init_88 : decode cX8_init 88 = .ok (.aload_n 0, 1) := by decide +kernel
theorem dX8_init_89 : decode cX8_init 89 = .ok (.iconst 4, 1) := by decide +kernel
theorem dX8_init_90 : decode cX8_init 90 = .ok (.newarray .int, 2) := by decide +kernel
theorem dX8_init_92 : decode cX8_init 92 = .ok (.putfield 43, 3) := by decide +kernel
theorem dX8_init_95 : decode cX8_init 95 = .ok (.aload_n 0, 1) := by decide +kernel
theorem dX8_init_96 : decode cX8_init 96 = .ok (.bipush 24, 2) := by decide +kernel
theorem dX8_init_98 : decode cX8_init 98 = .ok (.newarray .int, 2) := by decide +kernel
theorem dX8_init_100 : decode cX8_init 100 = .ok (.putfield 46, 3) := by decide +kernel
theorem dX8_init_103 : decode cX8_init 103 = .ok (.aload_n 0, 1) := by decide +kernel
theorem dX8_init_104 : decode cX8_init 104 = .ok (.bipush 8, 2) := by decide +kernel
theorem dX8_init_106 : decode cX8_init 106 = .ok (.newarray .int, 2) := by decide +kernel
theorem dX8_init_108 : decode cX8_init 108 = .ok (.putfield 49, 3) := by decide +kernel
theorem dX8_init_111 : decode cX8_init 111 = .ok (.aload_n 0, 1) := by decide +kernel
theorem dX8_init_112 : decode cX8_init 112 = .ok (.iconst 2, 1) := by decide +kernel
theorem dX8_init_113 : decode cX8_init 113 = .ok (.newarray .int, 2) := by decide +kernel
theorem dX8_init_115 : decode cX8_init 115 = .ok (.putfield 52, 3) := by decide +kernel
theorem dX8_init_118 : decode cX8_init 118 = .ok (.aload_n 0, 1) := by decide +kernel
theorem dX8_init_119 : decode cX8_init 119 = .ok (.bipush 32, 2) := by decide +kernel
theorem dX8_init_121 : decode cX8_init 121 = .ok (.newarray .int, 2) := by decide +kernel
theorem dX8_init_123 : decode cX8_init 123 = .ok (.putfield 55, 3) := by decide +kernel
theorem dX8_init_126 : decode cX8_init 126 = .ok (.aload_n 0, 1) := by decide +kernel
theorem dX8_init_127 : decode cX8_init 127 = .ok (.iconst 5, 1) := by decide +kernel
theorem dX8_init_128 : decode cX8_init 128 = .ok (.newarray .int, 2) := by decide +kernel
theorem dX8_init_130 : decode cX8_init 130 = .ok (.putfield 58, 3) := by decide +kernel
theorem dX8_init_133 : decode cX8_init 133 = .ok (.aload_n 0, 1) := by decide +kernel
theorem dX8_init_134 : decode cX8_init 134 = .ok (.bipush 8, 2) := by decide +kernel
theorem dX8_init_136 : decode cX8_init 136 = .ok (.newarray .int, 2) := by decide +kernel
theorem dX8_init_138 : decode cX8_init 138 = .ok (.putfield 61, 3) := by decide +kernel
theorem dX8_init_141 : decode cX8_init 141 = .ok (.aload_n 0, 1) := by decide +kernel
theorem dX8_init_142 : decode cX8_init 142 = .ok (.sipush 256, 3) := by decide +kernel
theorem dX8_init_145 : decode cX8_init 145 = .ok (.newarray .int, 2) := by decide +kernel
theorem dX8_init_147 : decode cX8_init 147 = .ok (.putfield 64, 3) := by decide +kernel
theorem dX8_init_150 : decode cX8_init 150 = .ok (.aload_n 0, 1) := by decide +kernel
theorem dX8_init_151 : decode cX8_init 151 = .ok (.bipush 32, 2) := by decide +kernel
theorem dX8_init_153 : decode cX8_init 153 = .ok (.newarray .int, 2) := by decide +kernel
theorem dX8_init_155 : decode cX8_init 155 = .ok (.putfield 67, 3) := by decide +kernel
theorem dX8_init_158 : decode cX8_init 158 = .ok (.aload_n 0, 1) := by decide +kernel
theorem dX8_init_159 : decode cX8_init 159 = .ok (.iconst 2, 1) := by decide +kernel
theorem dX8_init_160 : decode cX8_init 160 = .ok (.newarray .int, 2) := by decide +kernel
theorem dX8_init_162 : decode cX8_init 162 = .ok (.putfield 70, 3) := by decide +kernel
theorem dX8_init_165 : decode cX8_init 165 = .ok (.aload_n 0, 1) := by decide +kernel
theorem dX8_init_166 : decode cX8_init 166 = .ok (.iconst 2, 1) := by decide +kernel
theorem dX8_init_167 : decode cX8_init 167 = .ok (.newarray .int, 2) := by decide +kernel
theorem dX8_init_169 : decode cX8_init 169 = .ok (.putfield 73, 3) := by decide +kernel
theorem dX8_init_172 : decode cX8_init 172 = .ok (.aload_n 0, 1) := by decide +kernel
theorem dX8_init_173 : decode cX8_init 173 = .ok (.iconst 0, 1) := by decide +kernel
theorem dX8_init_174 : decode cX8_init 174 = .ok (.invokevirtual 76, 3) := by decide +kernel
theorem dX8_init_177 : decode cX8_init 177 = .ok (.aload_n 0, 1) := by decide +kernel
theorem dX8_init_178 : decode cX8_init 178 = .ok (.getfield 13, 3) := by decide +kernel
theorem dX8_init_181 : decode cX8_init 181 = .ok (.iconst 0, 1) := by decide +kernel
theorem dX8_init_182 : decode cX8_init 182 = .ok (.iconst 3, 1) := by decide +kernel
theorem dX8_init_183 : decode cX8_init 183 = .ok (.iastore, 1) := by decide +kernel
theorem dX8_init_184 : decode cX8_init 184 = .ok (.aload_n 0, 1) := by decide +kernel
theorem dX8_init_185 : decode cX8_init 185 = .ok (.getfield 16, 3) := by decide +kernel
theorem dX8_init_188 : decode cX8_init 188 = .ok (.iconst 0, 1) := by decide +kernel
theorem dX8_init_189 : decode cX8_init 189 = .ok (.bipush 7, 2) := by decide +kernel
theorem dX8_init_191 : decode cX8_init 191 = .ok (.iastore, 1) := by decide +kernel
theorem dX8_init_192 : decode cX8_init 192 = .ok (.aload_n 0, 1) := by decide +kernel
theorem dX8_init_193 : decode cX8_init 193 = .ok (.getfield 22, 3) := by decide +kernel
theorem dX8_init_196 : decode cX8_init 196 = .ok (.iconst 0, 1) := by decide +kernel
theorem dX8_init_197 : decode cX8_init 197 = .ok (.iconst 2, 1) := by decide +kernel
theorem dX8_init_198 : decode cX8_init 198 = .ok (.iastore, 1) := by decide +kernel
theorem dX8_init_199 : decode cX8_init 199 = .ok (.aload_n 0, 1) := by decide +kernel
theorem dX8_init_200 : decode cX8_init 200 = .ok (.getfield 28, 3) := by decide +kernel
theorem dX8_init_203 : decode cX8_init 203 = .ok (.iconst 0, 1) := by decide +kernel
theorem dX8_init_204 : decode cX8_init 204 = .ok (.iconst 1, 1) := by decide +kernel
theorem dX8_init_205 : decode cX8_init 205 = .ok (.iastore, 1) := by decide +kernel
theorem dX8_init_206 : decode cX8_init 206 = .ok (.aload_n 0, 1) := by decide +kernel
theorem dX8_init_207 : decode cX8_init 207 = .ok (.getfield 34, 3) := by decide +kernel
theorem dX8_init_210 : decode cX8_init 210 = .ok (.iconst 0, 1) := by decide +kernel
theorem dX8_init_211 : decode cX8_init 211 = .ok (.iconst 5, 1) := by decide +kernel
theorem dX8_init_212 : decode cX8_init 212 = .ok (.iastore, 1) := by decide +kernel
theorem dX8_init_213 : decode cX8_init 213 = .ok (.aload_n 0, 1) := by decide +kernel
theorem dX8_init_214 : decode cX8_init 214 = .ok (.getfield 25, 3) := by decide +kernel
theorem dX8_init_217 : decode cX8_init 217 = .ok (.iconst 1, 1) := by decide +kernel
theorem dX8_init_218 : decode cX8_init 218 = .ok (.iconst 1, 1) := by decide +kernel
theorem dX8_init_219 : decode cX8_init 219 = .ok (.iastore, 1) := by decide +kernel
theorem dX8_init_220 : decode cX8_init 220 = .ok (.aload_n 0, 1) := by decide +kernel
theorem dX8_init_221 : decode cX8_init 221 = .ok (.getfield 28, 3) := by decide +kernel
theorem dX8_init_224 : decode cX8_init 224 = .ok (.iconst 1, 1) := by decide +kernel
theorem dX8_init_225 : decode cX8_init 225 = .ok (.iconst 2, 1) := by decide +kernel
theorem dX8_init_226 : decode cX8_init 226 = .ok (.iastore, 1) := by decide +kernel
theorem dX8_init_227 : decode cX8_init 227 = .ok (.aload_n 0, 1) := by decide +kernel
theorem dX8_init_228 : decode cX8_init 228 = .ok (.getfield 31, 3) := by decide +kernel
theorem dX8_init_231 : decode cX8_init 231 = .ok (.iconst 1, 1) := by decide +kernel
theorem dX8_init_232 : decode cX8_init 232 = .ok (.iconst 1, 1) := by decide +kernel
theorem dX8_init_233 : decode cX8_init 233 = .ok (.iastore, 1) := by decide +kernel
theorem dX8_init_234 : decode cX8_init 234 = .ok (.aload_n 0, 1) := by decide +kernel
theorem dX8_init_235 : decode cX8_init 235 = .ok (.getfield 34, 3) := by decide +kernel
theorem dX8_init_238 : decode cX8_init 238 = .ok (.iconst 1, 1) := by decide +kernel
theorem dX8_init_239 : decode cX8_init 239 = .ok (.bipush 9, 2) := by decide +kernel
theorem dX8_init_241 : decode cX8_init 241 = .ok (.iastore, 1) := by decide +kernel
theorem dX8_init_242 : decode cX8_init 242 = .ok (.aload_n 0, 1) := by decide +kernel
theorem dX8_init_243 : decode cX8_init 243 = .ok (.getfield 40, 3) := by decide +kernel
theorem dX8_init_246 : decode cX8_init 246 = .ok (.iconst 0, 1) := by decide +kernel
theorem dX8_init_247 : decode cX8_init 247 = .ok (.iconst 3, 1) := by decide +kernel
theorem dX8_init_248 : decode cX8_init 248 = .ok (.iastore, 1) := by decide +kernel
theorem dX8_init_249 : decode cX8_init 249 = .ok (.return_, 1) := by decide +kernel
theorem dX8_in_0 : decode cX8_in 0 = .ok (.lload_n 0, 1) := by decide +kernel
theorem dX8_in_1 : decode cX8_in 1 = .ok (.lload_n 2, 1) := by decide +kernel
theorem dX8_in_2 : decode cX8_in 2 = .ok (.lcmp, 1) := by decide +kernel
theorem dX8_in_3 : decode cX8_in 3 = .ok (.ifCond .lt 14, 3) := by decide +kernel
theorem dX8_in_6 : decode cX8_in 6 = .ok (.lload_n 0, 1) := by decide +kernel
theorem dX8_in_7 : decode cX8_in 7 = .ok (.lload 4, 2) := by decide +kernel
theorem dX8_in_9 : decode cX8_in 9 = .ok (.lcmp, 1) := by decide +kernel
theorem dX8_in_10 : decode cX8_in 10 = .ok (.ifCond .gt 7, 3) := by decide +kernel
theorem dX8_in_13 : decode cX8_in 13 = .ok (.iconst 1, 1) := by decide +kernel
theorem dX8_in_14 : decode cX8_in 14 = .ok (.goto 4, 3) := by decide +kernel
theorem dX8_in_17 : decode cX8_in 17 = .ok (.iconst 0, 1) := by decide +kernel
theorem dX8_in_18 : decode cX8_in 18 = .ok (.ireturn, 1) := by decide +kernel
theorem dX8_has_0 : decode cX8_has 0 = .ok (.iload_n 0, 1) := by decide +kernel
theorem dX8_has_1 : decode cX8_has 1 = .ok (.iload_n 1, 1) := by decide +kernel
theorem dX8_has_2 : decode cX8_has 2 = .ok (.ishr, 1) := by decide +kernel
theorem dX8_has_3 : decode cX8_has 3 = .ok (.iconst 1, 1) := by decide +kernel
theorem dX8_has_4 : decode cX8_has 4 = .ok (.iand, 1) := by decide +kernel
theorem dX8_has_5 : decode cX8_has 5 = .ok (.iconst 1, 1) := by decide +kernel
theorem dX8_has_6 : decode cX8_has 6 = .ok (.if_icmp .ne 7, 3) := by decide +kernel
theorem dX8_has_9 : decode cX8_has 9 = .ok (.iconst 1, 1) := by decide +kernel
theorem dX8_has_10 : decode cX8_has 10 = .ok (.goto 4, 3) := by decide +kernel
theorem dX8_has_13 : decode cX8_has 13 = .ok (.iconst 0, 1) := by decide +kernel
theorem dX8_has_14 : decode cX8_has 14 = .ok (.ireturn, 1) := by decide +kernel
theorem dX8_bits_0 : decode cX8_bits 0 = .ok (.iconst 0, 1) := by decide +kernel
theorem dX8_bits_1 : decode cX8_bits 1 = .ok (.istore_n 1, 1) := by decide +kernel
theorem dX8_bits_2 : decode cX8_bits 2 = .ok (.iload_n 0, 1) := by decide +kernel
theorem dX8_bits_3 : decode cX8_bits 3 = .ok (.istore_n 2, 1) := by decide +kernel
theorem dX8_bits_4 : decode cX8_bits 4 = .ok (.iload_n 2, 1) := by decide +kernel
theorem dX8_bits_5 : decode cX8_bits 5 = .ok (.ifCond .eq 15, 3) := by decide +kernel
theorem dX8_bits_8 : decode cX8_bits 8 = .ok (.iinc 1 1, 3) := by decide +kernel
theorem dX8_bits_11 : decode cX8_bits 11 = .ok (.iload_n 2, 1) := by decide +kernel
theorem dX8_bits_12 : decode cX8_bits 12 = .ok (.iload_n 2, 1) := by decide +kernel
theorem dX8_bits_13 : decode cX8_bits 13 = .ok (.iconst 1, 1) := by decide +kernel
theorem dX8_bits_14 : decode cX8_bits 14 = .ok (.isub, 1) := by decide +kernel
theorem dX8_bits_15 : decode cX8_bits 15 = .ok (.iand, 1) := by decide +kernel
theorem dX8_bits_16 : decode cX8_bits 16 = .ok (.istore_n 2, 1) := by decide +kernel
theorem dX8_bits_17 : decode cX8_bits 17 = .ok (.goto (-13), 3) := by decide +kernel
theorem dX8_bits_20 : decode cX8_bits 20 = .ok (.iload_n 1, 1) := by decide +kernel
theorem dX8_bits_21 : decode cX8_bits 21 = .ok (.ireturn, 1) := by decide +kernel
theorem dX8_noTown_0 : decode cX8_noTown 0 = .ok (.aload_n 0, 1) := by decide +kernel
theorem dX8_noTown_1 : decode cX8_noTown 1 = .ok (.getfield 13, 3) := by decide +kernel
theorem dX8_noTown_4 : decode cX8_noTown 4 = .ok (.iload_n 1, 1) := by decide +kernel
theorem dX8_noTown_5 : decode cX8_noTown 5 = .ok (.iconst 0, 1) := by decide +kernel
theorem dX8_noTown_6 : decode cX8_noTown 6 = .ok (.iastore, 1) := by decide +kernel
theorem dX8_noTown_7 : decode cX8_noTown 7 = .ok (.aload_n 0, 1) := by decide +kernel
theorem dX8_noTown_8 : decode cX8_noTown 8 = .ok (.getfield 16, 3) := by decide +kernel
theorem dX8_noTown_11 : decode cX8_noTown 11 = .ok (.iload_n 1, 1) := by decide +kernel
theorem dX8_noTown_12 : decode cX8_noTown 12 = .ok (.iconst 0, 1) := by decide +kernel
theorem dX8_noTown_13 : decode cX8_noTown 13 = .ok (.iastore, 1) := by decide +kernel
theorem dX8_noTown_14 : decode cX8_noTown 14 = .ok (.aload_n 0, 1) := by decide +kernel
theorem dX8_noTown_15 : decode cX8_noTown 15 = .ok (.getfield 19, 3) := by decide +kernel
theorem dX8_noTown_18 : decode cX8_noTown 18 = .ok (.iload_n 1, 1) := by decide +kernel
theorem dX8_noTown_19 : decode cX8_noTown 19 = .ok (.iconst 0, 1) := by decide +kernel
theorem dX8_noTown_20 : decode cX8_noTown 20 = .ok (.iastore, 1) := by decide +kernel
theorem dX8_noTown_21 : decode cX8_noTown 21 = .ok (.aload_n 0, 1) := by decide +kernel
theorem dX8_noTown_22 : decode cX8_noTown 22 = .ok (.getfield 22, 3) := by decide +kernel
theorem dX8_noTown_25 : decode cX8_noTown 25 = .ok (.iload_n 1, 1) := by decide +kernel
theorem dX8_noTown_26 : decode cX8_noTown 26 = .ok (.iconst 0, 1) := by decide +kernel
theorem dX8_noTown_27 : decode cX8_noTown 27 = .ok (.iastore, 1) := by decide +kernel
theorem dX8_noTown_28 : decode cX8_noTown 28 = .ok (.aload_n 0, 1) := by decide +kernel
theorem dX8_noTown_29 : decode cX8_noTown 29 = .ok (.getfield 40, 3) := by decide +kernel
theorem dX8_noTown_32 : decode cX8_noTown 32 = .ok (.iload_n 1, 1) := by decide +kernel
theorem dX8_noTown_33 : decode cX8_noTown 33 = .ok (.iconst 0, 1) := by decide +kernel
theorem dX8_noTown_34 : decode cX8_noTown 34 = .ok (.iastore, 1) := by decide +kernel
theorem dX8_noTown_35 : decode cX8_noTown 35 = .ok (.aload_n 0, 1) := by decide +kernel
theorem dX8_noTown_36 : decode cX8_noTown 36 = .ok (.getfield 43, 3) := by decide +kernel
theorem dX8_noTown_39 : decode cX8_noTown 39 = .ok (.iload_n 1, 1) := by decide +kernel
theorem dX8_noTown_40 : decode cX8_noTown 40 = .ok (.iconst 0, 1) := by decide +kernel
theorem dX8_noTown_41 : decode cX8_noTown 41 = .ok (.iastore, 1) := by decide +kernel
theorem dX8_noTown_42 : decode cX8_noTown 42 = .ok (.return_, 1) := by decide +kernel
set_option maxRecDepth 20000 in
theorem ggX8_write_X8_in : GoodIn wsX8_write wsX8_in := goodIn_r _ [8] (by decide +kernel) (by decide +kernel)
set_option maxRecDepth 20000 in
theorem gX8_write_X8_in : GoodIn wsX8_write (va_wsS RX8 82 yX8_in wsX8_in) := goodIn_app (goodIn_of _ (by decide +kernel)) ggX8_write_X8_in
theorem dX8_write_0 : decode cX8_write 0 = .ok (.iload_n 1, 1) := by decide +kernel
theorem dX8_write_1 : decode cX8_write 1 = .ok (.i2l, 1) := by decide +kernel
theorem dX8_write_2 : decode cX8_write 2 = .ok (.lconst 1, 1) := by decide +kernel
theorem dX8_write_3 : decode cX8_write 3 = .ok (.ldc2_w 80, 3) := by decide +kernel
theorem dX8_write_6 : decode cX8_write 6 = .ok (.invokestatic 82, 3) := by decide +kernel
theorem dX8_write_9 : decode cX8_write 9 = .ok (.ifCond .ne 5, 3) := by decide +kernel
theorem dX8_write_12 : decode cX8_write 12 = .ok (.iconst (-1), 1) := by decide +kernel
theorem dX8_write_13 : decode cX8_write 13 = .ok (.ireturn, 1) := by decide +kernel
theorem dX8_write_14 : decode cX8_write 14 = .ok (.aload_n 0, 1) := by decide +kernel
theorem dX8_write_15 : decode cX8_write 15 = .ok (.getfield 86, 3) := by decide +kernel
theorem dX8_write_18 : decode cX8_write 18 = .ok (.iload_n 1, 1) := by decide +kernel
theorem dX8_write_19 : decode cX8_write 19 = .ok (.iadd, 1) := by decide +kernel
theorem dX8_write_20 : decode cX8_write 20 = .ok (.sipush 300, 3) := by decide +kernel
theorem dX8_write_23 : decode cX8_write 23 = .ok (.if_icmp .le 6, 3) := by decide +kernel
theorem dX8_write_26 : decode cX8_write 26 = .ok (.bipush (-3), 2) := by decide +kernel
theorem dX8_write_28 : decode cX8_write 28 = .ok (.ireturn, 1) := by decide +kernel
theorem dX8_write_29 : decode cX8_write 29 = .ok (.iload_n 1, 1) := by decide +kernel
theorem dX8_write_30 : decode cX8_write 30 = .ok (.iconst 1, 1) := by decide +kernel
theorem dX8_write_31 : decode cX8_write 31 = .ok (.isub, 1) := by decide +kernel
theorem dX8_write_32 : decode cX8_write 32 = .ok (.istore 4, 2) := by decide +kernel
theorem dX8_write_34 : decode cX8_write 34 = .ok (.iload 4, 2) := by decide +kernel
theorem dX8_write_36 : decode cX8_write 36 = .ok (.ifCond .lt 40, 3) := by decide +kernel
theorem dX8_write_39 : decode cX8_write 39 = .ok (.aload_n 0, 1) := by decide +kernel
theorem dX8_write_40 : decode cX8_write 40 = .ok (.getfield 7, 3) := by decide +kernel
theorem dX8_write_43 : decode cX8_write 43 = .ok (.aload_n 0, 1) := by decide +kernel
theorem dX8_write_44 : decode cX8_write 44 = .ok (.getfield 86, 3) := by decide +kernel
theorem dX8_write_47 : decode cX8_write 47 = .ok (.lload_n 2, 1) := by decide +kernel
theorem dX8_write_48 : decode cX8_write 48 = .ok (.bipush 8, 2) := by decide +kernel
theorem dX8_write_50 : decode cX8_write 50 = .ok (.iload 4, 2) := by decide +kernel
theorem dX8_write_52 : decode cX8_write 52 = .ok (.imul, 1) := by decide +kernel
theorem dX8_write_53 : decode cX8_write 53 = .ok (.lshr, 1) := by decide +kernel
theorem dX8_write_54 : decode cX8_write 54 = .ok (.ldc2_w 90, 3) := by decide +kernel
theorem dX8_write_57 : decode cX8_write 57 = .ok (.land, 1) := by decide +kernel
theorem dX8_write_58 : decode cX8_write 58 = .ok (.l2i, 1) := by decide +kernel
theorem dX8_write_59 : decode cX8_write 59 = .ok (.iastore, 1) := by decide +kernel
theorem dX8_write_60 : decode cX8_write 60 = .ok (.aload_n 0, 1) := by decide +kernel
theorem dX8_write_61 : decode cX8_write 61 = .ok (.dup, 1) := by decide +kernel
theorem dX8_write_62 : decode cX8_write 62 = .ok (.getfield 86, 3) := by decide +kernel
theorem dX8_write_65 : decode cX8_write 65 = .ok (.iconst 1, 1) := by decide +kernel
theorem dX8_write_66 : decode cX8_write 66 = .ok (.iadd, 1) := by decide +kernel
theorem dX8_write_67 : decode cX8_write 67 = .ok (.putfield 86, 3) := by decide +kernel
theorem dX8_write_70 : decode cX8_write 70 = .ok (.iinc 4 (-1), 3) := by decide +kernel
theorem dX8_write_73 : decode cX8_write 73 = .ok (.goto (-39), 3) := by decide +kernel
theorem dX8_write_76 : decode cX8_write 76 = .ok (.aload_n 0, 1) := by decide +kernel
theorem dX8_write_77 : decode cX8_write 77 = .ok (.getfield 86, 3) := by decide +kernel
theorem dX8_write_80 : decode cX8_write 80 = .ok (.ireturn, 1) := by decide +kernel
theorem dX8_wipe_0 : decode cX8_wipe 0 = .ok (.aload_n 0, 1) := by decide +kernel
theorem dX8_wipe_1 : decode cX8_wipe 1 = .ok (.getfield 86, 3) := by decide +kernel
theorem dX8_wipe_4 : decode cX8_wipe 4 = .ok (.istore_n 1, 1) := by decide +kernel
theorem dX8_wipe_5 : decode cX8_wipe 5 = .ok (.aload_n 0, 1) := by decide +kernel
theorem dX8_wipe_6 : decode cX8_wipe 6 = .ok (.iconst 0, 1) := by decide +kernel
theorem dX8_wipe_7 : decode cX8_wipe 7 = .ok (.putfield 86, 3) := by decide +kernel
theorem dX8_wipe_10 : decode cX8_wipe 10 = .ok (.iload_n 1, 1) := by decide +kernel
theorem dX8_wipe_11 : decode cX8_wipe 11 = .ok (.ireturn, 1) := by decide +kernel
theorem dX8_byteAt_0 : decode cX8_byteAt 0 = .ok (.iload_n 1, 1) := by decide +kernel
theorem dX8_byteAt_1 : decode cX8_byteAt 1 = .ok (.aload_n 0, 1) := by decide +kernel
theorem dX8_byteAt_2 : decode cX8_byteAt 2 = .ok (.getfield 86, 3) := by decide +kernel
theorem dX8_byteAt_5 : decode cX8_byteAt 5 = .ok (.if_icmp .ge 12, 3) := by decide +kernel
theorem dX8_byteAt_8 : decode cX8_byteAt 8 = .ok (.aload_n 0, 1) := by decide +kernel
theorem dX8_byteAt_9 : decode cX8_byteAt 9 = .ok (.getfield 7, 3) := by decide +kernel
theorem dX8_byteAt_12 : decode cX8_byteAt 12 = .ok (.iload_n 1, 1) := by decide +kernel
theorem dX8_byteAt_13 : decode cX8_byteAt 13 = .ok (.iaload, 1) := by decide +kernel
theorem dX8_byteAt_14 : decode cX8_byteAt 14 = .ok (.goto 4, 3) := by decide +kernel
theorem dX8_byteAt_17 : decode cX8_byteAt 17 = .ok (.iconst 0, 1) := by decide +kernel
theorem dX8_byteAt_18 : decode cX8_byteAt 18 = .ok (.ireturn, 1) := by decide +kernel
set_option maxRecDepth 20000 in
theorem ggX8_figures_X8_byteAt : GoodIn wsX8_figures wsX8_byteAt := goodIn_r _ [10, 11, 12, 16, 17, 18, 19, 20, 21, 22, 23, 24, 25, 26, 27, 28, 29, 30, 31, 32, 33, 34, 35, 36, 37, 38, 39, 40, 41, 42] (by decide +kernel) (by decide +kernel)
set_option maxRecDepth 20000 in
theorem gX8_figures_X8_byteAt : GoodIn wsX8_figures (wsV RX8 95 RX8 yX8_byteAt wsX8_byteAt) := goodIn_app (goodIn_of _ (by decide +kernel)) ggX8_figures_X8_byteAt
set_option maxRecDepth 20000 in
theorem ggX8_figures_X8_in : GoodIn wsX8_figures wsX8_in := goodIn_r _ [15] (by decide +kernel) (by decide +kernel)
set_option maxRecDepth 20000 in
theorem gX8_figures_X8_in : GoodIn wsX8_figures (va_wsS RX8 82 yX8_in wsX8_in) := goodIn_app (goodIn_of _ (by decide +kernel)) ggX8_figures_X8_in
theorem dX8_figures_0 : decode cX8_figures 0 = .ok (.iconst 0, 1) := by decide +kernel
theorem dX8_figures_1 : decode cX8_figures 1 = .ok (.istore_n 2, 1) := by decide +kernel
theorem dX8_figures_2 : decode cX8_figures 2 = .ok (.iload_n 2, 1) := by decide +kernel
theorem dX8_figures_3 : decode cX8_figures 3 = .ok (.iload_n 1, 1) := by decide +kernel
theorem dX8_figures_4 : decode cX8_figures 4 = .ok (.if_icmp .ge 132, 3) := by decide +kernel
theorem dX8_figures_7 : decode cX8_figures 7 = .ok (.iconst 0, 1) := by decide +kernel
theorem dX8_figures_8 : decode cX8_figures 8 = .ok (.istore_n 3, 1) := by decide +kernel
theorem dX8_figures_9 : decode cX8_figures 9 = .ok (.iconst 0, 1) := by decide +kernel
theorem dX8_figures_10 : decode cX8_figures 10 = .ok (.istore 4, 2) := by decide +kernel
theorem dX8_figures_12 : decode cX8_figures 12 = .ok (.aload_n 0, 1) := by decide +kernel
theorem dX8_figures_13 : decode cX8_figures 13 = .ok (.aload_n 0, 1) := by decide +kernel
theorem dX8_figures_14 : decode cX8_figures 14 = .ok (.getfield 92, 3) := by decide +kernel
theorem dX8_figures_17 : decode cX8_figures 17 = .ok (.invokevirtual 95, 3) := by decide +kernel
theorem dX8_figures_20 : decode cX8_figures 20 = .ok (.i2l, 1) := by decide +kernel
theorem dX8_figures_21 : decode cX8_figures 21 = .ok (.ldc2_w 99, 3) := by decide +kernel
theorem dX8_figures_24 : decode cX8_figures 24 = .ok (.ldc2_w 101, 3) := by decide +kernel
theorem dX8_figures_27 : decode cX8_figures 27 = .ok (.invokestatic 82, 3) := by decide +kernel
theorem dX8_figures_30 : decode cX8_figures 30 = .ok (.ifCond .eq 43, 3) := by decide +kernel
theorem dX8_figures_33 : decode cX8_figures 33 = .ok (.iload_n 3, 1) := by decide +kernel
theorem dX8_figures_34 : decode cX8_figures 34 = .ok (.iconst 4, 1) := by decide +kernel
theorem dX8_figures_35 : decode cX8_figures 35 = .ok (.if_icmp .ge 38, 3) := by decide +kernel
theorem dX8_figures_38 : decode cX8_figures 38 = .ok (.bipush 10, 2) := by decide +kernel
theorem dX8_figures_40 : decode cX8_figures 40 = .ok (.iload 4, 2) := by decide +kernel
theorem dX8_figures_42 : decode cX8_figures 42 = .ok (.imul, 1) := by decide +kernel
theorem dX8_figures_43 : decode cX8_figures 43 = .ok (.aload_n 0, 1) := by decide +kernel
theorem dX8_figures_44 : decode cX8_figures 44 = .ok (.aload_n 0, 1) := by decide +kernel
theorem dX8_figures_45 : decode cX8_figures 45 = .ok (.getfield 92, 3) := by decide +kernel
theorem dX8_figures_48 : decode cX8_figures 48 = .ok (.invokevirtual 95, 3) := by decide +kernel
theorem dX8_figures_51 : decode cX8_figures 51 = .ok (.iadd, 1) := by decide +kernel
theorem dX8_figures_52 : decode cX8_figures 52 = .ok (.bipush 48, 2) := by decide +kernel
theorem dX8_figures_54 : decode cX8_figures 54 = .ok (.isub, 1) := by decide +kernel
theorem dX8_figures_55 : decode cX8_figures 55 = .ok (.istore 4, 2) := by decide +kernel
theorem dX8_figures_57 : decode cX8_figures 57 = .ok (.iinc 3 1, 3) := by decide +kernel
theorem dX8_figures_60 : decode cX8_figures 60 = .ok (.aload_n 0, 1) := by decide +kernel
theorem dX8_figures_61 : decode cX8_figures 61 = .ok (.dup, 1) := by decide +kernel
theorem dX8_figures_62 : decode cX8_figures 62 = .ok (.getfield 92, 3) := by decide +kernel
theorem dX8_figures_65 : decode cX8_figures 65 = .ok (.iconst 1, 1) := by decide +kernel
theorem dX8_figures_66 : decode cX8_figures 66 = .ok (.iadd, 1) := by decide +kernel
theorem dX8_figures_67 : decode cX8_figures 67 = .ok (.putfield 92, 3) := by decide +kernel
theorem dX8_figures_70 : decode cX8_figures 70 = .ok (.goto (-58), 3) := by decide +kernel
theorem dX8_figures_73 : decode cX8_figures 73 = .ok (.iload_n 3, 1) := by decide +kernel
theorem dX8_figures_74 : decode cX8_figures 74 = .ok (.i2l, 1) := by decide +kernel
theorem dX8_figures_75 : decode cX8_figures 75 = .ok (.lconst 1, 1) := by decide +kernel
theorem dX8_figures_76 : decode cX8_figures 76 = .ok (.ldc2_w 103, 3) := by decide +kernel
theorem dX8_figures_79 : decode cX8_figures 79 = .ok (.invokestatic 82, 3) := by decide +kernel
theorem dX8_figures_82 : decode cX8_figures 82 = .ok (.ifCond .eq 28, 3) := by decide +kernel
theorem dX8_figures_85 : decode cX8_figures 85 = .ok (.aload_n 0, 1) := by decide +kernel
theorem dX8_figures_86 : decode cX8_figures 86 = .ok (.aload_n 0, 1) := by decide +kernel
theorem dX8_figures_87 : decode cX8_figures 87 = .ok (.getfield 92, 3) := by decide +kernel
theorem dX8_figures_90 : decode cX8_figures 90 = .ok (.invokevirtual 95, 3) := by decide +kernel
theorem dX8_figures_93 : decode cX8_figures 93 = .ok (.iload_n 2, 1) := by decide +kernel
theorem dX8_figures_94 : decode cX8_figures 94 = .ok (.iload_n 1, 1) := by decide +kernel
theorem dX8_figures_95 : decode cX8_figures 95 = .ok (.iconst 1, 1) := by decide +kernel
theorem dX8_figures_96 : decode cX8_figures 96 = .ok (.isub, 1) := by decide +kernel
theorem dX8_figures_97 : decode cX8_figures 97 = .ok (.if_icmp .ge 8, 3) := by decide +kernel
theorem dX8_figures_100 : decode cX8_figures 100 = .ok (.bipush 44, 2) := by decide +kernel
theorem dX8_figures_102 : decode cX8_figures 102 = .ok (.goto 5, 3) := by decide +kernel
theorem dX8_figures_105 : decode cX8_figures 105 = .ok (.bipush 59, 2) := by decide +kernel
theorem dX8_figures_107 : decode cX8_figures 107 = .ok (.if_icmp .eq 5, 3) := by decide +kernel
theorem dX8_figures_110 : decode cX8_figures 110 = .ok (.iconst 0, 1) := by decide +kernel
theorem dX8_figures_111 : decode cX8_figures 111 = .ok (.ireturn, 1) := by decide +kernel
theorem dX8_figures_112 : decode cX8_figures 112 = .ok (.aload_n 0, 1) := by decide +kernel
theorem dX8_figures_113 : decode cX8_figures 113 = .ok (.getfield 58, 3) := by decide +kernel
theorem dX8_figures_116 : decode cX8_figures 116 = .ok (.iload_n 2, 1) := by decide +kernel
theorem dX8_figures_117 : decode cX8_figures 117 = .ok (.iload 4, 2) := by decide +kernel
theorem dX8_figures_119 : decode cX8_figures 119 = .ok (.iastore, 1) := by decide +kernel
theorem dX8_figures_120 : decode cX8_figures 120 = .ok (.aload_n 0, 1) := by decide +kernel
theorem dX8_figures_121 : decode cX8_figures 121 = .ok (.dup, 1) := by decide +kernel
theorem dX8_figures_122 : decode cX8_figures 122 = .ok (.getfield 92, 3) := by decide +kernel
theorem dX8_figures_125 : decode cX8_figures 125 = .ok (.iconst 1, 1) := by decide +kernel
theorem dX8_figures_126 : decode cX8_figures 126 = .ok (.iadd, 1) := by decide +kernel
theorem dX8_figures_127 : decode cX8_figures 127 = .ok (.putfield 92, 3) := by decide +kernel
theorem dX8_figures_130 : decode cX8_figures 130 = .ok (.iinc 2 1, 3) := by decide +kernel
theorem dX8_figures_133 : decode cX8_figures 133 = .ok (.goto (-131), 3) := by decide +kernel
theorem dX8_figures_136 : decode cX8_figures 136 = .ok (.iconst 1, 1) := by decide +kernel
theorem dX8_figures_137 : decode cX8_figures 137 = .ok (.ireturn, 1) := by decide +kernel
set_option maxRecDepth 20000 in
theorem ggX8_isKnot_X8_in : GoodIn wsX8_isKnot wsX8_in := goodIn_r _ [8] (by decide +kernel) (by decide +kernel)
set_option maxRecDepth 20000 in
theorem gX8_isKnot_X8_in : GoodIn wsX8_isKnot (va_wsS RX8 82 yX8_in wsX8_in) := goodIn_app (goodIn_of _ (by decide +kernel)) ggX8_isKnot_X8_in
theorem dX8_isKnot_0 : decode cX8_isKnot 0 = .ok (.iload_n 2, 1) := by decide +kernel
theorem dX8_isKnot_1 : decode cX8_isKnot 1 = .ok (.i2l, 1) := by decide +kernel
theorem dX8_isKnot_2 : decode cX8_isKnot 2 = .ok (.lconst 0, 1) := by decide +kernel
theorem dX8_isKnot_3 : decode cX8_isKnot 3 = .ok (.aload_n 0, 1) := by decide +kernel
theorem dX8_isKnot_4 : decode cX8_isKnot 4 = .ok (.getfield 13, 3) := by decide +kernel
theorem dX8_isKnot_7 : decode cX8_isKnot 7 = .ok (.iload_n 1, 1) := by decide +kernel
theorem dX8_isKnot_8 : decode cX8_isKnot 8 = .ok (.iaload, 1) := by decide +kernel
theorem dX8_isKnot_9 : decode cX8_isKnot 9 = .ok (.iconst 1, 1) := by decide +kernel
theorem dX8_isKnot_10 : decode cX8_isKnot 10 = .ok (.isub, 1) := by decide +kernel
theorem dX8_isKnot_11 : decode cX8_isKnot 11 = .ok (.i2l, 1) := by decide +kernel
theorem dX8_isKnot_12 : decode cX8_isKnot 12 = .ok (.invokestatic 82, 3) := by decide +kernel
theorem dX8_isKnot_15 : decode cX8_isKnot 15 = .ok (.ifCond .eq 77, 3) := by decide +kernel
theorem dX8_isKnot_18 : decode cX8_isKnot 18 = .ok (.iload_n 3, 1) := by decide +kernel
theorem dX8_isKnot_19 : decode cX8_isKnot 19 = .ok (.i2l, 1) := by decide +kernel
theorem dX8_isKnot_20 : decode cX8_isKnot 20 = .ok (.lconst 0, 1) := by decide +kernel
theorem dX8_isKnot_21 : decode cX8_isKnot 21 = .ok (.aload_n 0, 1) := by decide +kernel
theorem dX8_isKnot_22 : decode cX8_isKnot 22 = .ok (.getfield 13, 3) := by decide +kernel
theorem dX8_isKnot_25 : decode cX8_isKnot 25 = .ok (.iload_n 1, 1) := by decide +kernel
theorem dX8_isKnot_26 : decode cX8_isKnot 26 = .ok (.iaload, 1) := by decide +kernel
theorem dX8_isKnot_27 : decode cX8_isKnot 27 = .ok (.iconst 1, 1) := by decide +kernel
theorem dX8_isKnot_28 : decode cX8_isKnot 28 = .ok (.isub, 1) := by decide +kernel
theorem dX8_isKnot_29 : decode cX8_isKnot 29 = .ok (.i2l, 1) := by decide +kernel
theorem dX8_isKnot_30 : decode cX8_isKnot 30 = .ok (.invokestatic 82, 3) := by decide +kernel
theorem dX8_isKnot_33 : decode cX8_isKnot 33 = .ok (.ifCond .eq 59, 3) := by decide +kernel
theorem dX8_isKnot_36 : decode cX8_isKnot 36 = .ok (.iload_n 2, 1) := by decide +kernel
theorem dX8_isKnot_37 : decode cX8_isKnot 37 = .ok (.iload_n 3, 1) := by decide +kernel
theorem dX8_isKnot_38 : decode cX8_isKnot 38 = .ok (.if_icmp .eq 54, 3) := by decide +kernel
theorem dX8_isKnot_41 : decode cX8_isKnot 41 = .ok (.iload 4, 2) := by decide +kernel
theorem dX8_isKnot_43 : decode cX8_isKnot 43 = .ok (.i2l, 1) := by decide +kernel
theorem dX8_isKnot_44 : decode cX8_isKnot 44 = .ok (.lconst 0, 1) := by decide +kernel
theorem dX8_isKnot_45 : decode cX8_isKnot 45 = .ok (.iconst 1, 1) := by decide +kernel
theorem dX8_isKnot_46 : decode cX8_isKnot 46 = .ok (.aload_n 0, 1) := by decide +kernel
theorem dX8_isKnot_47 : decode cX8_isKnot 47 = .ok (.getfield 22, 3) := by decide +kernel
theorem dX8_isKnot_50 : decode cX8_isKnot 50 = .ok (.iload_n 1, 1) := by decide +kernel
theorem dX8_isKnot_51 : decode cX8_isKnot 51 = .ok (.iaload, 1) := by decide +kernel
theorem dX8_isKnot_52 : decode cX8_isKnot 52 = .ok (.ishl, 1) := by decide +kernel
theorem dX8_isKnot_53 : decode cX8_isKnot 53 = .ok (.iconst 1, 1) := by decide +kernel
theorem dX8_isKnot_54 : decode cX8_isKnot 54 = .ok (.isub, 1) := by decide +kernel
theorem dX8_isKnot_55 : decode cX8_isKnot 55 = .ok (.i2l, 1) := by decide +kernel
theorem dX8_isKnot_56 : decode cX8_isKnot 56 = .ok (.invokestatic 82, 3) := by decide +kernel
theorem dX8_isKnot_59 : decode cX8_isKnot 59 = .ok (.ifCond .eq 33, 3) := by decide +kernel
theorem dX8_isKnot_62 : decode cX8_isKnot 62 = .ok (.iload 5, 2) := by decide +kernel
theorem dX8_isKnot_64 : decode cX8_isKnot 64 = .ok (.i2l, 1) := by decide +kernel
theorem dX8_isKnot_65 : decode cX8_isKnot 65 = .ok (.lconst 0, 1) := by decide +kernel
theorem dX8_isKnot_66 : decode cX8_isKnot 66 = .ok (.ldc2_w 105, 3) := by decide +kernel
theorem dX8_isKnot_69 : decode cX8_isKnot 69 = .ok (.invokestatic 82, 3) := by decide +kernel
theorem dX8_isKnot_72 : decode cX8_isKnot 72 = .ok (.ifCond .eq 20, 3) := by decide +kernel
theorem dX8_isKnot_75 : decode cX8_isKnot 75 = .ok (.iload 6, 2) := by decide +kernel
theorem dX8_isKnot_77 : decode cX8_isKnot 77 = .ok (.i2l, 1) := by decide +kernel
theorem dX8_isKnot_78 : decode cX8_isKnot 78 = .ok (.lconst 0, 1) := by decide +kernel
theorem dX8_isKnot_79 : decode cX8_isKnot 79 = .ok (.ldc2_w 103, 3) := by decide +kernel
theorem dX8_isKnot_82 : decode cX8_isKnot 82 = .ok (.invokestatic 82, 3) := by decide +kernel
theorem dX8_isKnot_85 : decode cX8_isKnot 85 = .ok (.ifCond .eq 7, 3) := by decide +kernel
theorem dX8_isKnot_88 : decode cX8_isKnot 88 = .ok (.iconst 1, 1) := by decide +kernel
theorem dX8_isKnot_89 : decode cX8_isKnot 89 = .ok (.goto 4, 3) := by decide +kernel
theorem dX8_isKnot_92 : decode cX8_isKnot 92 = .ok (.iconst 0, 1) := by decide +kernel
theorem dX8_isKnot_93 : decode cX8_isKnot 93 = .ok (.ireturn, 1) := by decide +kernel
theorem dX8_addKnot_0 : decode cX8_addKnot 0 = .ok (.bipush 8, 2) := by decide +kernel
theorem dX8_addKnot_2 : decode cX8_addKnot 2 = .ok (.iload_n 1, 1) := by decide +kernel
theorem dX8_addKnot_3 : decode cX8_addKnot 3 = .ok (.imul, 1) := by decide +kernel
theorem dX8_addKnot_4 : decode cX8_addKnot 4 = .ok (.aload_n 0, 1) := by decide +kernel
theorem dX8_addKnot_5 : decode cX8_addKnot 5 = .ok (.getfield 22, 3) := by decide +kernel
theorem dX8_addKnot_8 : decode cX8_addKnot 8 = .ok (.iload_n 1, 1) := by decide +kernel
theorem dX8_addKnot_9 : decode cX8_addKnot 9 = .ok (.iaload, 1) := by decide +kernel
theorem dX8_addKnot_10 : decode cX8_addKnot 10 = .ok (.iadd, 1) := by decide +kernel
theorem dX8_addKnot_11 : decode cX8_addKnot 11 = .ok (.istore 7, 2) := by decide +kernel
theorem dX8_addKnot_13 : decode cX8_addKnot 13 = .ok (.aload_n 0, 1) := by decide +kernel
theorem dX8_addKnot_14 : decode cX8_addKnot 14 = .ok (.getfield 25, 3) := by decide +kernel
theorem dX8_addKnot_17 : decode cX8_addKnot 17 = .ok (.iload 7, 2) := by decide +kernel
theorem dX8_addKnot_19 : decode cX8_addKnot 19 = .ok (.iload_n 2, 1) := by decide +kernel
theorem dX8_addKnot_20 : decode cX8_addKnot 20 = .ok (.iastore, 1) := by decide +kernel
theorem dX8_addKnot_21 : decode cX8_addKnot 21 = .ok (.aload_n 0, 1) := by decide +kernel
theorem dX8_addKnot_22 : decode cX8_addKnot 22 = .ok (.getfield 28, 3) := by decide +kernel
theorem dX8_addKnot_25 : decode cX8_addKnot 25 = .ok (.iload 7, 2) := by decide +kernel
theorem dX8_addKnot_27 : decode cX8_addKnot 27 = .ok (.iload_n 3, 1) := by decide +kernel
theorem dX8_addKnot_28 : decode cX8_addKnot 28 = .ok (.iastore, 1) := by decide +kernel
theorem dX8_addKnot_29 : decode cX8_addKnot 29 = .ok (.aload_n 0, 1) := by decide +kernel
theorem dX8_addKnot_30 : decode cX8_addKnot 30 = .ok (.getfield 31, 3) := by decide +kernel
theorem dX8_addKnot_33 : decode cX8_addKnot 33 = .ok (.iload 7, 2) := by decide +kernel
theorem dX8_addKnot_35 : decode cX8_addKnot 35 = .ok (.iload 4, 2) := by decide +kernel
theorem dX8_addKnot_37 : decode cX8_addKnot 37 = .ok (.iastore, 1) := by decide +kernel
theorem dX8_addKnot_38 : decode cX8_addKnot 38 = .ok (.aload_n 0, 1) := by decide +kernel
theorem dX8_addKnot_39 : decode cX8_addKnot 39 = .ok (.getfield 34, 3) := by decide +kernel
theorem dX8_addKnot_42 : decode cX8_addKnot 42 = .ok (.iload 7, 2) := by decide +kernel
theorem dX8_addKnot_44 : decode cX8_addKnot 44 = .ok (.iload 5, 2) := by decide +kernel
theorem dX8_addKnot_46 : decode cX8_addKnot 46 = .ok (.iastore, 1) := by decide +kernel
theorem dX8_addKnot_47 : decode cX8_addKnot 47 = .ok (.aload_n 0, 1) := by decide +kernel
theorem dX8_addKnot_48 : decode cX8_addKnot 48 = .ok (.getfield 37, 3) := by decide +kernel
theorem dX8_addKnot_51 : decode cX8_addKnot 51 = .ok (.iload 7, 2) := by decide +kernel
theorem dX8_addKnot_53 : decode cX8_addKnot 53 = .ok (.iload 6, 2) := by decide +kernel
theorem dX8_addKnot_55 : decode cX8_addKnot 55 = .ok (.iastore, 1) := by decide +kernel
theorem dX8_addKnot_56 : decode cX8_addKnot 56 = .ok (.aload_n 0, 1) := by decide +kernel
theorem dX8_addKnot_57 : decode cX8_addKnot 57 = .ok (.getfield 40, 3) := by decide +kernel
theorem dX8_addKnot_60 : decode cX8_addKnot 60 = .ok (.iload_n 1, 1) := by decide +kernel
theorem dX8_addKnot_61 : decode cX8_addKnot 61 = .ok (.dup2, 1) := by decide +kernel
theorem dX8_addKnot_62 : decode cX8_addKnot 62 = .ok (.iaload, 1) := by decide +kernel
theorem dX8_addKnot_63 : decode cX8_addKnot 63 = .ok (.iconst 1, 1) := by decide +kernel
theorem dX8_addKnot_64 : decode cX8_addKnot 64 = .ok (.aload_n 0, 1) := by decide +kernel
theorem dX8_addKnot_65 : decode cX8_addKnot 65 = .ok (.getfield 22, 3) := by decide +kernel
theorem dX8_addKnot_68 : decode cX8_addKnot 68 = .ok (.iload_n 1, 1) := by decide +kernel
theorem dX8_addKnot_69 : decode cX8_addKnot 69 = .ok (.iaload, 1) := by decide +kernel
theorem dX8_addKnot_70 : decode cX8_addKnot 70 = .ok (.ishl, 1) := by decide +kernel
theorem dX8_addKnot_71 : decode cX8_addKnot 71 = .ok (.ior, 1) := by decide +kernel
theorem dX8_addKnot_72 : decode cX8_addKnot 72 = .ok (.iastore, 1) := by decide +kernel
theorem dX8_addKnot_73 : decode cX8_addKnot 73 = .ok (.aload_n 0, 1) := by decide +kernel
theorem dX8_addKnot_74 : decode cX8_addKnot 74 = .ok (.getfield 22, 3) := by decide +kernel
theorem dX8_addKnot_77 : decode cX8_addKnot 77 = .ok (.iload_n 1, 1) := by decide +kernel
theorem dX8_addKnot_78 : decode cX8_addKnot 78 = .ok (.dup2, 1) := by decide +kernel
theorem dX8_addKnot_79 : decode cX8_addKnot 79 = .ok (.iaload, 1) := by decide +kernel
theorem dX8_addKnot_80 : decode cX8_addKnot 80 = .ok (.iconst 1, 1) := by decide +kernel
theorem dX8_addKnot_81 : decode cX8_addKnot 81 = .ok (.iadd, 1) := by decide +kernel
theorem dX8_addKnot_82 : decode cX8_addKnot 82 = .ok (.iastore, 1) := by decide +kernel
theorem dX8_addKnot_83 : decode cX8_addKnot 83 = .ok (.return_, 1) := by decide +kernel
set_option maxRecDepth 20000 in
theorem ggX8_item_X8_byteAt : GoodIn wsX8_item wsX8_byteAt := goodIn_r _ [11, 12, 13, 39, 40, 41, 42, 43, 44, 45, 46, 47, 48, 49, 50, 51, 52, 53, 54, 55, 56, 57, 58, 59, 60, 61, 62, 63, 64, 65] (by decide +kernel) (by decide +kernel)
set_option maxRecDepth 20000 in
theorem gX8_item_X8_byteAt : GoodIn wsX8_item (wsV RX8 95 RX8 yX8_byteAt wsX8_byteAt) := goodIn_app (goodIn_of _ (by decide +kernel)) ggX8_item_X8_byteAt
set_option maxRecDepth 20000 in
theorem ggX8_item_X8_figures : GoodIn wsX8_item wsX8_figures := goodIn_r _ [17, 1, 18, 19, 20, 3, 7, 8, 9, 10, 11, 12, 13, 21, 22, 23, 39, 40, 41, 42, 43, 44, 45, 46, 47, 48, 49, 50, 51, 52, 53, 54, 55, 56, 57, 58, 59, 60, 61, 62, 63, 64, 65] (by decide +kernel) (by decide +kernel)
set_option maxRecDepth 20000 in
theorem gX8_item_X8_figures : GoodIn wsX8_item (wsV RX8 107 RX8 yX8_figures wsX8_figures) := goodIn_app (goodIn_of _ (by decide +kernel)) ggX8_item_X8_figures
set_option maxRecDepth 20000 in
theorem ggX8_item_X8_isKnot : GoodIn wsX8_item wsX8_isKnot := goodIn_r _ [27, 2, 5, 28, 20, 21, 22, 10, 23, 39, 40, 41, 42, 43, 44, 45, 46, 47, 48, 49, 50, 51, 52, 53, 54, 55, 56, 57, 58, 59, 60, 61, 62, 63, 64, 65] (by decide +kernel) (by decide +kernel)
set_option maxRecDepth 20000 in
theorem gX8_item_X8_isKnot : GoodIn wsX8_item (wsV RX8 111 RX8 yX8_isKnot wsX8_isKnot) := goodIn_app (goodIn_of _ (by decide +kernel)) ggX8_item_X8_isKnot
set_option maxRecDepth 20000 in
theorem ggX8_item_X8_addKnot : GoodIn wsX8_item wsX8_addKnot := goodIn_r _ [32, 5, 33, 34, 35, 36, 37, 38, 39, 40, 41, 42, 43, 44, 45, 46, 47, 48, 49, 50, 51, 52, 53, 54, 55, 56, 57, 58, 59, 60, 61, 62, 63, 64, 65] (by decide +kernel) (by decide +kernel)
set_option maxRecDepth 20000 in
theorem gX8_item_X8_addKnot : GoodIn wsX8_item (wsV RX8 115 RX8 yX8_addKnot wsX8_addKnot) := goodIn_app (goodIn_of _ (by decide +kernel)) ggX8_item_X8_addKnot
theorem dX8_item_0 : decode cX8_item 0 = .ok (.aload_n 0, 1) := by decide +kernel
theorem dX8_item_1 : decode cX8_item 1 = .ok (.aload_n 0, 1) := by decide +kernel
theorem dX8_item_2 : decode cX8_item 2 = .ok (.getfield 92, 3) := by decide +kernel
theorem dX8_item_5 : decode cX8_item 5 = .ok (.invokevirtual 95, 3) := by decide +kernel
theorem dX8_item_8 : decode cX8_item 8 = .ok (.istore_n 1, 1) := by decide +kernel
theorem dX8_item_9 : decode cX8_item 9 = .ok (.aload_n 0, 1) := by decide +kernel
theorem dX8_item_10 : decode cX8_item 10 = .ok (.dup, 1) := by decide +kernel
theorem dX8_item_11 : decode cX8_item 11 = .ok (.getfield 92, 3) := by decide +kernel
theorem dX8_item_14 : decode cX8_item 14 = .ok (.iconst 1, 1) := by decide +kernel
theorem dX8_item_15 : decode cX8_item 15 = .ok (.iadd, 1) := by decide +kernel
theorem dX8_item_16 : decode cX8_item 16 = .ok (.putfield 92, 3) := by decide +kernel
theorem dX8_item_19 : decode cX8_item 19 = .ok (.iload_n 1, 1) := by decide +kernel
theorem dX8_item_20 : decode cX8_item 20 = .ok (.lookupswitch 231 #[(107, 101), (108, 197), (112, 36)], 36) := by decide +kernel
theorem dX8_item_56 : decode cX8_item 56 = .ok (.aload_n 0, 1) := by decide +kernel
theorem dX8_item_57 : decode cX8_item 57 = .ok (.iconst 1, 1) := by decide +kernel
theorem dX8_item_58 : decode cX8_item 58 = .ok (.invokevirtual 107, 3) := by decide +kernel
theorem dX8_item_61 : decode cX8_item 61 = .ok (.ifCond .eq 24, 3) := by decide +kernel
theorem dX8_item_64 : decode cX8_item 64 = .ok (.aload_n 0, 1) := by decide +kernel
theorem dX8_item_65 : decode cX8_item 65 = .ok (.getfield 13, 3) := by decide +kernel
theorem dX8_item_68 : decode cX8_item 68 = .ok (.iconst 1, 1) := by decide +kernel
theorem dX8_item_69 : decode cX8_item 69 = .ok (.iaload, 1) := by decide +kernel
theorem dX8_item_70 : decode cX8_item 70 = .ok (.bipush 6, 2) := by decide +kernel
theorem dX8_item_72 : decode cX8_item 72 = .ok (.if_icmp .eq 13, 3) := by decide +kernel
theorem dX8_item_75 : decode cX8_item 75 = .ok (.aload_n 0, 1) := by decide +kernel
theorem dX8_item_76 : decode cX8_item 76 = .ok (.getfield 58, 3) := by decide +kernel
theorem dX8_item_79 : decode cX8_item 79 = .ok (.iconst 0, 1) := by decide +kernel
theorem dX8_item_80 : decode cX8_item 80 = .ok (.iaload, 1) := by decide +kernel
theorem dX8_item_81 : decode cX8_item 81 = .ok (.iconst 1, 1) := by decide +kernel
theorem dX8_item_82 : decode cX8_item 82 = .ok (.if_icmp .le 5, 3) := by decide +kernel
theorem dX8_item_85 : decode cX8_item 85 = .ok (.iconst 0, 1) := by decide +kernel
theorem dX8_item_86 : decode cX8_item 86 = .ok (.ireturn, 1) := by decide +kernel
theorem dX8_item_87 : decode cX8_item 87 = .ok (.aload_n 0, 1) := by decide +kernel
theorem dX8_item_88 : decode cX8_item 88 = .ok (.getfield 16, 3) := by decide +kernel
theorem dX8_item_91 : decode cX8_item 91 = .ok (.iconst 1, 1) := by decide +kernel
theorem dX8_item_92 : decode cX8_item 92 = .ok (.dup2, 1) := by decide +kernel
theorem dX8_item_93 : decode cX8_item 93 = .ok (.iaload, 1) := by decide +kernel
theorem dX8_item_94 : decode cX8_item 94 = .ok (.aload_n 0, 1) := by decide +kernel
theorem dX8_item_95 : decode cX8_item 95 = .ok (.getfield 58, 3) := by decide +kernel
theorem dX8_item_98 : decode cX8_item 98 = .ok (.iconst 0, 1) := by decide +kernel
theorem dX8_item_99 : decode cX8_item 99 = .ok (.iaload, 1) := by decide +kernel
theorem dX8_item_100 : decode cX8_item 100 = .ok (.aload_n 0, 1) := by decide +kernel
theorem dX8_item_101 : decode cX8_item 101 = .ok (.getfield 13, 3) := by decide +kernel
theorem dX8_item_104 : decode cX8_item 104 = .ok (.iconst 1, 1) := by decide +kernel
theorem dX8_item_105 : decode cX8_item 105 = .ok (.iaload, 1) := by decide +kernel
theorem dX8_item_106 : decode cX8_item 106 = .ok (.ishl, 1) := by decide +kernel
theorem dX8_item_107 : decode cX8_item 107 = .ok (.ior, 1) := by decide +kernel
theorem dX8_item_108 : decode cX8_item 108 = .ok (.iastore, 1) := by decide +kernel
theorem dX8_item_109 : decode cX8_item 109 = .ok (.aload_n 0, 1) := by decide +kernel
theorem dX8_item_110 : decode cX8_item 110 = .ok (.getfield 13, 3) := by decide +kernel
theorem dX8_item_113 : decode cX8_item 113 = .ok (.iconst 1, 1) := by decide +kernel
theorem dX8_item_114 : decode cX8_item 114 = .ok (.dup2, 1) := by decide +kernel
theorem dX8_item_115 : decode cX8_item 115 = .ok (.iaload, 1) := by decide +kernel
theorem dX8_item_116 : decode cX8_item 116 = .ok (.iconst 1, 1) := by decide +kernel
theorem dX8_item_117 : decode cX8_item 117 = .ok (.iadd, 1) := by decide +kernel
theorem dX8_item_118 : decode cX8_item 118 = .ok (.iastore, 1) := by decide +kernel
theorem dX8_item_119 : decode cX8_item 119 = .ok (.iconst 1, 1) := by decide +kernel
theorem dX8_item_120 : decode cX8_item 120 = .ok (.ireturn, 1) := by decide +kernel
theorem dX8_item_121 : decode cX8_item 121 = .ok (.aload_n 0, 1) := by decide +kernel
theorem dX8_item_122 : decode cX8_item 122 = .ok (.iconst 5, 1) := by decide +kernel
theorem dX8_item_123 : decode cX8_item 123 = .ok (.invokevirtual 107, 3) := by decide +kernel
theorem dX8_item_126 : decode cX8_item 126 = .ok (.ifCond .eq 52, 3) := by decide +kernel
theorem dX8_item_129 : decode cX8_item 129 = .ok (.aload_n 0, 1) := by decide +kernel
theorem dX8_item_130 : decode cX8_item 130 = .ok (.getfield 22, 3) := by decide +kernel
theorem dX8_item_133 : decode cX8_item 133 = .ok (.iconst 1, 1) := by decide +kernel
theorem dX8_item_134 : decode cX8_item 134 = .ok (.iaload, 1) := by decide +kernel
theorem dX8_item_135 : decode cX8_item 135 = .ok (.bipush 8, 2) := by decide +kernel
theorem dX8_item_137 : decode cX8_item 137 = .ok (.if_icmp .eq 41, 3) := by decide +kernel
theorem dX8_item_140 : decode cX8_item 140 = .ok (.aload_n 0, 1) := by decide +kernel
theorem dX8_item_141 : decode cX8_item 141 = .ok (.iconst 1, 1) := by decide +kernel
theorem dX8_item_142 : decode cX8_item 142 = .ok (.aload_n 0, 1) := by decide +kernel
theorem dX8_item_143 : decode cX8_item 143 = .ok (.getfield 58, 3) := by decide +kernel
theorem dX8_item_146 : decode cX8_item 146 = .ok (.iconst 0, 1) := by decide +kernel
theorem dX8_item_147 : decode cX8_item 147 = .ok (.iaload, 1) := by decide +kernel
theorem dX8_item_148 : decode cX8_item 148 = .ok (.aload_n 0, 1) := by decide +kernel
theorem dX8_item_149 : decode cX8_item 149 = .ok (.getfield 58, 3) := by decide +kernel
theorem dX8_item_152 : decode cX8_item 152 = .ok (.iconst 1, 1) := by decide +kernel
theorem dX8_item_153 : decode cX8_item 153 = .ok (.iaload, 1) := by decide +kernel
theorem dX8_item_154 : decode cX8_item 154 = .ok (.aload_n 0, 1) := by decide +kernel
theorem dX8_item_155 : decode cX8_item 155 = .ok (.getfield 58, 3) := by decide +kernel
theorem dX8_item_158 : decode cX8_item 158 = .ok (.iconst 2, 1) := by decide +kernel
theorem dX8_item_159 : decode cX8_item 159 = .ok (.iaload, 1) := by decide +kernel
theorem dX8_item_160 : decode cX8_item 160 = .ok (.aload_n 0, 1) := by decide +kernel
theorem dX8_item_161 : decode cX8_item 161 = .ok (.getfield 58, 3) := by decide +kernel
theorem dX8_item_164 : decode cX8_item 164 = .ok (.iconst 3, 1) := by decide +kernel
theorem dX8_item_165 : decode cX8_item 165 = .ok (.iaload, 1) := by decide +kernel
theorem dX8_item_166 : decode cX8_item 166 = .ok (.aload_n 0, 1) := by decide +kernel
theorem dX8_item_167 : decode cX8_item 167 = .ok (.getfield 58, 3) := by decide +kernel
theorem dX8_item_170 : decode cX8_item 170 = .ok (.iconst 4, 1) := by decide +kernel
theorem dX8_item_171 : decode cX8_item 171 = .ok (.iaload, 1) := by decide +kernel
theorem dX8_item_172 : decode cX8_item 172 = .ok (.invokevirtual 111, 3) := by decide +kernel
theorem dX8_item_175 : decode cX8_item 175 = .ok (.ifCond .ne 5, 3) := by decide +kernel
theorem dX8_item_178 : decode cX8_item 178 = .ok (.iconst 0, 1) := by decide +kernel
theorem dX8_item_179 : decode cX8_item 179 = .ok (.ireturn, 1) := by decide +kernel
theorem dX8_item_180 : decode cX8_item 180 = .ok (.aload_n 0, 1) := by decide +kernel
theorem dX8_item_181 : decode cX8_item 181 = .ok (.iconst 1, 1) := by decide +kernel
theorem dX8_item_182 : decode cX8_item 182 = .ok (.aload_n 0, 1) := by decide +kernel
theorem dX8_item_183 : decode cX8_item 183 = .ok (.getfield 58, 3) := by decide +kernel
theorem dX8_item_186 : decode cX8_item 186 = .ok (.iconst 0, 1) := by decide +kernel
theorem dX8_item_187 : decode cX8_item 187 = .ok (.iaload, 1) := by decide +kernel
theorem dX8_item_188 : decode cX8_item 188 = .ok (.aload_n 0, 1) := by decide +kernel
theorem dX8_item_189 : decode cX8_item 189 = .ok (.getfield 58, 3) := by decide +kernel
theorem dX8_item_192 : decode cX8_item 192 = .ok (.iconst 1, 1) := by decide +kernel
theorem dX8_item_193 : decode cX8_item 193 = .ok (.iaload, 1) := by decide +kernel
theorem dX8_item_194 : decode cX8_item 194 = .ok (.aload_n 0, 1) := by decide +kernel
theorem dX8_item_195 : decode cX8_item 195 = .ok (.getfield 58, 3) := by decide +kernel
theorem dX8_item_198 : decode cX8_item 198 = .ok (.iconst 2, 1) := by decide +kernel
theorem dX8_item_199 : decode cX8_item 199 = .ok (.iaload, 1) := by decide +kernel
theorem dX8_item_200 : decode cX8_item 200 = .ok (.aload_n 0, 1) := by decide +kernel
theorem dX8_item_201 : decode cX8_item 201 = .ok (.getfield 58, 3) := by decide +kernel
theorem dX8_item_204 : decode cX8_item 204 = .ok (.iconst 3, 1) := by decide +kernel
theorem dX8_item_205 : decode cX8_item 205 = .ok (.iaload, 1) := by decide +kernel
theorem dX8_item_206 : decode cX8_item 206 = .ok (.aload_n 0, 1) := by decide +kernel
theorem dX8_item_207 : decode cX8_item 207 = .ok (.getfield 58, 3) := by decide +kernel
theorem dX8_item_210 : decode cX8_item 210 = .ok (.iconst 4, 1) := by decide +kernel
theorem dX8_item_211 : decode cX8_item 211 = .ok (.iaload, 1) := by decide +kernel
theorem dX8_item_212 : decode cX8_item 212 = .ok (.invokevirtual 115, 3) := by decide +kernel
theorem dX8_item_215 : decode cX8_item 215 = .ok (.iconst 1, 1) := by decide +kernel
theorem dX8_item_216 : decode cX8_item 216 = .ok (.ireturn, 1) := by decide +kernel
theorem dX8_item_217 : decode cX8_item 217 = .ok (.aload_n 0, 1) := by decide +kernel
theorem dX8_item_218 : decode cX8_item 218 = .ok (.iconst 1, 1) := by decide +kernel
theorem dX8_item_219 : decode cX8_item 219 = .ok (.invokevirtual 107, 3) := by decide +kernel
theorem dX8_item_222 : decode cX8_item 222 = .ok (.ifCond .eq 13, 3) := by decide +kernel
theorem dX8_item_225 : decode cX8_item 225 = .ok (.aload_n 0, 1) := by decide +kernel
theorem dX8_item_226 : decode cX8_item 226 = .ok (.getfield 58, 3) := by decide +kernel
theorem dX8_item_229 : decode cX8_item 229 = .ok (.iconst 0, 1) := by decide +kernel
theorem dX8_item_230 : decode cX8_item 230 = .ok (.iaload, 1) := by decide +kernel
theorem dX8_item_231 : decode cX8_item 231 = .ok (.iconst 2, 1) := by decide +kernel
theorem dX8_item_232 : decode cX8_item 232 = .ok (.if_icmp .le 5, 3) := by decide +kernel
theorem dX8_item_235 : decode cX8_item 235 = .ok (.iconst 0, 1) := by decide +kernel
theorem dX8_item_236 : decode cX8_item 236 = .ok (.ireturn, 1) := by decide +kernel
theorem dX8_item_237 : decode cX8_item 237 = .ok (.aload_n 0, 1) := by decide +kernel
theorem dX8_item_238 : decode cX8_item 238 = .ok (.getfield 19, 3) := by decide +kernel
theorem dX8_item_241 : decode cX8_item 241 = .ok (.iconst 1, 1) := by decide +kernel
theorem dX8_item_242 : decode cX8_item 242 = .ok (.aload_n 0, 1) := by decide +kernel
theorem dX8_item_243 : decode cX8_item 243 = .ok (.getfield 58, 3) := by decide +kernel
theorem dX8_item_246 : decode cX8_item 246 = .ok (.iconst 0, 1) := by decide +kernel
theorem dX8_item_247 : decode cX8_item 247 = .ok (.iaload, 1) := by decide +kernel
theorem dX8_item_248 : decode cX8_item 248 = .ok (.iastore, 1) := by decide +kernel
theorem dX8_item_249 : decode cX8_item 249 = .ok (.iconst 1, 1) := by decide +kernel
theorem dX8_item_250 : decode cX8_item 250 = .ok (.ireturn, 1) := by decide +kernel
theorem dX8_item_251 : decode cX8_item 251 = .ok (.iconst 0, 1) := by decide +kernel
theorem dX8_item_252 : decode cX8_item 252 = .ok (.ireturn, 1) := by decide +kernel
set_option maxRecDepth 20000 in
theorem ggX8_readAll_X8_noTown : GoodIn wsX8_readAll wsX8_noTown := goodIn_r _ [7, 8, 9, 10, 11, 12, 13, 48, 49, 50, 51, 52, 53, 54, 55, 56, 57, 58, 59, 60, 61, 62, 63, 64, 65, 66, 67, 68, 69, 70, 71, 72, 73, 74] (by decide +kernel) (by decide +kernel)
set_option maxRecDepth 20000 in
theorem gX8_readAll_X8_noTown : GoodIn wsX8_readAll (wsV RX8 76 RX8 yX8_noTown wsX8_noTown) := goodIn_app (goodIn_of _ (by decide +kernel)) ggX8_readAll_X8_noTown
set_option maxRecDepth 20000 in
theorem ggX8_readAll_X8_item : GoodIn wsX8_readAll wsX8_item := goodIn_r _ [17, 1, 8, 18, 9, 11, 10, 19, 20, 21, 6, 22, 2, 23, 24, 25, 26, 27, 28, 29, 30, 31, 32, 33, 34, 35, 36, 37, 38, 39, 40, 41, 42, 43, 44, 45, 46, 47, 12, 48, 49, 50, 51, 52, 53, 54, 55, 56, 57, 58, 59, 60, 61, 62, 63, 64, 65, 66, 67, 68, 69, 70, 71, 72, 73, 74] (by decide +kernel) (by decide +kernel)
set_option maxRecDepth 20000 in
theorem gX8_readAll_X8_item : GoodIn wsX8_readAll (wsV RX8 119 RX8 yX8_item wsX8_item) := goodIn_app (goodIn_of _ (by decide +kernel)) ggX8_readAll_X8_item
theorem dX8_readAll_0 : decode cX8_readAll 0 = .ok (.aload_n 0, 1) := by decide +kernel
theorem dX8_readAll_1 : decode cX8_readAll 1 = .ok (.iconst 1, 1) := by decide +kernel
theorem dX8_readAll_2 : decode cX8_readAll 2 = .ok (.invokevirtual 76, 3) := by decide +kernel
theorem dX8_readAll_5 : decode cX8_readAll 5 = .ok (.aload_n 0, 1) := by decide +kernel
theorem dX8_readAll_6 : decode cX8_readAll 6 = .ok (.iconst 0, 1) := by decide +kernel
theorem dX8_readAll_7 : decode cX8_readAll 7 = .ok (.putfield 92, 3) := by decide +kernel
theorem dX8_readAll_10 : decode cX8_readAll 10 = .ok (.aload_n 0, 1) := by decide +kernel
theorem dX8_readAll_11 : decode cX8_readAll 11 = .ok (.getfield 92, 3) := by decide +kernel
theorem dX8_readAll_14 : decode cX8_readAll 14 = .ok (.aload_n 0, 1) := by decide +kernel
theorem dX8_readAll_15 : decode cX8_readAll 15 = .ok (.getfield 86, 3) := by decide +kernel
theorem dX8_readAll_18 : decode cX8_readAll 18 = .ok (.if_icmp .ge 20, 3) := by decide +kernel
theorem dX8_readAll_21 : decode cX8_readAll 21 = .ok (.aload_n 0, 1) := by decide +kernel
theorem dX8_readAll_22 : decode cX8_readAll 22 = .ok (.getfield 92, 3) := by decide +kernel
theorem dX8_readAll_25 : decode cX8_readAll 25 = .ok (.istore_n 1, 1) := by decide +kernel
theorem dX8_readAll_26 : decode cX8_readAll 26 = .ok (.aload_n 0, 1) := by decide +kernel
theorem dX8_readAll_27 : decode cX8_readAll 27 = .ok (.invokevirtual 119, 3) := by decide +kernel
theorem dX8_readAll_30 : decode cX8_readAll 30 = .ok (.ifCond .ne 5, 3) := by decide +kernel
theorem dX8_readAll_33 : decode cX8_readAll 33 = .ok (.iload_n 1, 1) := by decide +kernel
theorem dX8_readAll_34 : decode cX8_readAll 34 = .ok (.ireturn, 1) := by decide +kernel
theorem dX8_readAll_35 : decode cX8_readAll 35 = .ok (.goto (-25), 3) := by decide +kernel
theorem dX8_readAll_38 : decode cX8_readAll 38 = .ok (.bipush (-4), 2) := by decide +kernel
theorem dX8_readAll_40 : decode cX8_readAll 40 = .ok (.ireturn, 1) := by decide +kernel
set_option maxRecDepth 20000 in
theorem ggX8_fault_X8_readAll : GoodIn wsX8_fault wsX8_readAll := goodIn_r _ [5, 6, 7, 8, 9, 10, 4, 11, 12, 13, 14, 15, 16, 17, 18, 19, 20, 21, 22, 23, 24, 25, 26, 27, 28, 29, 30, 31, 32, 33, 34, 35, 36, 37, 38, 39, 40, 41, 42, 43, 44, 45, 46, 47, 48, 49, 50, 51, 52, 53, 54, 55, 56, 57, 58, 59, 60, 61, 62, 63, 64, 65, 66, 67, 68, 69, 70, 71, 72, 73, 74, 75, 76, 77, 78] (by decide +kernel) (by decide +kernel)
set_option maxRecDepth 20000 in
theorem gX8_fault_X8_readAll : GoodIn wsX8_fault (wsV RX8 123 RX8 yX8_readAll wsX8_readAll) := goodIn_app (goodIn_of _ (by decide +kernel)) ggX8_fault_X8_readAll
theorem dX8_fault_0 : decode cX8_fault 0 = .ok (.aload_n 0, 1) := by decide +kernel
theorem dX8_fault_1 : decode cX8_fault 1 = .ok (.invokevirtual 123, 3) := by decide +kernel
theorem dX8_fault_4 : decode cX8_fault 4 = .ok (.ireturn, 1) := by decide +kernel
theorem dX8_copy_0 : decode cX8_copy 0 = .ok (.aload_n 0, 1) := by decide +kernel
theorem dX8_copy_1 : decode cX8_copy 1 = .ok (.getfield 22, 3) := by decide +kernel
theorem dX8_copy_4 : decode cX8_copy 4 = .ok (.iload_n 2, 1) := by decide +kernel
theorem dX8_copy_5 : decode cX8_copy 5 = .ok (.aload_n 0, 1) := by decide +kernel
theorem dX8_copy_6 : decode cX8_copy 6 = .ok (.getfield 22, 3) := by decide +kernel
theorem dX8_copy_9 : decode cX8_copy 9 = .ok (.iload_n 1, 1) := by decide +kernel
theorem dX8_copy_10 : decode cX8_copy 10 = .ok (.iaload, 1) := by decide +kernel
theorem dX8_copy_11 : decode cX8_copy 11 = .ok (.iastore, 1) := by decide +kernel
theorem dX8_copy_12 : decode cX8_copy 12 = .ok (.aload_n 0, 1) := by decide +kernel
theorem dX8_copy_13 : decode cX8_copy 13 = .ok (.getfield 40, 3) := by decide +kernel
theorem dX8_copy_16 : decode cX8_copy 16 = .ok (.iload_n 2, 1) := by decide +kernel
theorem dX8_copy_17 : decode cX8_copy 17 = .ok (.aload_n 0, 1) := by decide +kernel
theorem dX8_copy_18 : decode cX8_copy 18 = .ok (.getfield 40, 3) := by decide +kernel
theorem dX8_copy_21 : decode cX8_copy 21 = .ok (.iload_n 1, 1) := by decide +kernel
theorem dX8_copy_22 : decode cX8_copy 22 = .ok (.iaload, 1) := by decide +kernel
theorem dX8_copy_23 : decode cX8_copy 23 = .ok (.iastore, 1) := by decide +kernel
theorem dX8_copy_24 : decode cX8_copy 24 = .ok (.aload_n 0, 1) := by decide +kernel
theorem dX8_copy_25 : decode cX8_copy 25 = .ok (.getfield 43, 3) := by decide +kernel
theorem dX8_copy_28 : decode cX8_copy 28 = .ok (.iload_n 2, 1) := by decide +kernel
theorem dX8_copy_29 : decode cX8_copy 29 = .ok (.aload_n 0, 1) := by decide +kernel
theorem dX8_copy_30 : decode cX8_copy 30 = .ok (.getfield 43, 3) := by decide +kernel
theorem dX8_copy_33 : decode cX8_copy 33 = .ok (.iload_n 1, 1) := by decide +kernel
theorem dX8_copy_34 : decode cX8_copy 34 = .ok (.iaload, 1) := by decide +kernel
theorem dX8_copy_35 : decode cX8_copy 35 = .ok (.iastore, 1) := by decide +kernel
theorem dX8_copy_36 : decode cX8_copy 36 = .ok (.iconst 0, 1) := by decide +kernel
theorem dX8_copy_37 : decode cX8_copy 37 = .ok (.istore_n 3, 1) := by decide +kernel
theorem dX8_copy_38 : decode cX8_copy 38 = .ok (.iload_n 3, 1) := by decide +kernel
theorem dX8_copy_39 : decode cX8_copy 39 = .ok (.bipush 8, 2) := by decide +kernel
theorem dX8_copy_41 : decode cX8_copy 41 = .ok (.if_icmp .ge 119, 3) := by decide +kernel
theorem dX8_copy_44 : decode cX8_copy 44 = .ok (.aload_n 0, 1) := by decide +kernel
theorem dX8_copy_45 : decode cX8_copy 45 = .ok (.getfield 25, 3) := by decide +kernel
theorem dX8_copy_48 : decode cX8_copy 48 = .ok (.bipush 8, 2) := by decide +kernel
theorem dX8_copy_50 : decode cX8_copy 50 = .ok (.iload_n 2, 1) := by decide +kernel
theorem dX8_copy_51 : decode cX8_copy 51 = .ok (.imul, 1) := by decide +kernel
theorem dX8_copy_52 : decode cX8_copy 52 = .ok (.iload_n 3, 1) := by decide +kernel
theorem dX8_copy_53 : decode cX8_copy 53 = .ok (.iadd, 1) := by decide +kernel
theorem dX8_copy_54 : decode cX8_copy 54 = .ok (.aload_n 0, 1) := by decide +kernel
theorem dX8_copy_55 : decode cX8_copy 55 = .ok (.getfield 25, 3) := by decide +kernel
theorem dX8_copy_58 : decode cX8_copy 58 = .ok (.bipush 8, 2) := by decide +kernel
theorem dX8_copy_60 : decode cX8_copy 60 = .ok (.iload_n 1, 1) := by decide +kernel
theorem dX8_copy_61 : decode cX8_copy 61 = .ok (.imul, 1) := by decide +kernel
theorem dX8_copy_62 : decode cX8_copy 62 = .ok (.iload_n 3, 1) := by decide +kernel
theorem dX8_copy_63 : decode cX8_copy 63 = .ok (.iadd, 1) := by decide +kernel
theorem dX8_copy_64 : decode cX8_copy 64 = .ok (.iaload, 1) := by decide +kernel
theorem dX8_copy_65 : decode cX8_copy 65 = .ok (.iastore, 1) := by decide +kernel
theorem dX8_copy_66 : decode cX8_copy 66 = .ok (.aload_n 0, 1) := by decide +kernel
theorem dX8_copy_67 : decode cX8_copy 67 = .ok (.getfield 28, 3) := by decide +kernel
theorem dX8_copy_70 : decode cX8_copy 70 = .ok (.bipush 8, 2) := by decide +kernel
theorem dX8_copy_72 : decode cX8_copy 72 = .ok (.iload_n 2, 1) := by decide +kernel
theorem dX8_copy_73 : decode cX8_copy 73 = .ok (.imul, 1) := by decide +kernel
theorem dX8_copy_74 : decode cX8_copy 74 = .ok (.iload_n 3, 1) := by decide +kernel
theorem dX8_copy_75 : decode cX8_copy 75 = .ok (.iadd, 1) := by decide +kernel
theorem dX8_copy_76 : decode cX8_copy 76 = .ok (.aload_n 0, 1) := by decide +kernel
theorem dX8_copy_77 : decode cX8_copy 77 = .ok (.getfield 28, 3) := by decide +kernel
theorem dX8_copy_80 : decode cX8_copy 80 = .ok (.bipush 8, 2) := by decide +kernel
theorem dX8_copy_82 : decode cX8_copy 82 = .ok (.iload_n 1, 1) := by decide +kernel
theorem dX8_copy_83 : decode cX8_copy 83 = .ok (.imul, 1) := by decide +kernel
theorem dX8_copy_84 : decode cX8_copy 84 = .ok (.iload_n 3, 1) := by decide +kernel
theorem dX8_copy_85 : decode cX8_copy 85 = .ok (.iadd, 1) := by decide +kernel
theorem dX8_copy_86 : decode cX8_copy 86 = .ok (.iaload, 1) := by decide +kernel
theorem dX8_copy_87 : decode cX8_copy 87 = .ok (.iastore, 1) := by decide +kernel
theorem dX8_copy_88 : decode cX8_copy 88 = .ok (.aload_n 0, 1) := by decide +kernel
theorem dX8_copy_89 : decode cX8_copy 89 = .ok (.getfield 31, 3) := by decide +kernel
theorem dX8_copy_92 : decode cX8_copy 92 = .ok (.bipush 8, 2) := by decide +kernel
theorem dX8_copy_94 : decode cX8_copy 94 = .ok (.iload_n 2, 1) := by decide +kernel
theorem dX8_copy_95 : decode cX8_copy 95 = .ok (.imul, 1) := by decide +kernel
theorem dX8_copy_96 : decode cX8_copy 96 = .ok (.iload_n 3, 1) := by decide +kernel
theorem dX8_copy_97 : decode cX8_copy 97 = .ok (.iadd, 1) := by decide +kernel
theorem dX8_copy_98 : decode cX8_copy 98 = .ok (.aload_n 0, 1) := by decide +kernel
theorem dX8_copy_99 : decode cX8_copy 99 = .ok (.getfield 31, 3) := by decide +kernel
theorem dX8_copy_102 : decode cX8_copy 102 = .ok (.bipush 8, 2) := by decide +kernel
theorem dX8_copy_104 : decode cX8_copy 104 = .ok (.iload_n 1, 1) := by decide +kernel
theorem dX8_copy_105 : decode cX8_copy 105 = .ok (.imul, 1) := by decide +kernel
theorem dX8_copy_106 : decode cX8_copy 106 = .ok (.iload_n 3, 1) := by decide +kernel
theorem dX8_copy_107 : decode cX8_copy 107 = .ok (.iadd, 1) := by decide +kernel
theorem dX8_copy_108 : decode cX8_copy 108 = .ok (.iaload, 1) := by decide +kernel
theorem dX8_copy_109 : decode cX8_copy 109 = .ok (.iastore, 1) := by decide +kernel
theorem dX8_copy_110 : decode cX8_copy 110 = .ok (.aload_n 0, 1) := by decide +kernel
theorem dX8_copy_111 : decode cX8_copy 111 = .ok (.getfield 34, 3) := by decide +kernel
theorem dX8_copy_114 : decode cX8_copy 114 = .ok (.bipush 8, 2) := by decide +kernel
theorem dX8_copy_116 : decode cX8_copy 116 = .ok (.iload_n 2, 1) := by decide +kernel
theorem dX8_copy_117 : decode cX8_copy 117 = .ok (.imul, 1) := by decide +kernel
theorem dX8_copy_118 : decode cX8_copy 118 = .ok (.iload_n 3, 1) := by decide +kernel
theorem dX8_copy_119 : decode cX8_copy 119 = .ok (.iadd, 1) := by decide +kernel
theorem dX8_copy_120 : decode cX8_copy 120 = .ok (.aload_n 0, 1) := by decide +kernel
theorem dX8_copy_121 : decode cX8_copy 121 = .ok (.getfield 34, 3) := by decide +kernel
theorem dX8_copy_124 : decode cX8_copy 124 = .ok (.bipush 8, 2) := by decide +kernel
theorem dX8_copy_126 : decode cX8_copy 126 = .ok (.iload_n 1, 1) := by decide +kernel
theorem dX8_copy_127 : decode cX8_copy 127 = .ok (.imul, 1) := by decide +kernel
theorem dX8_copy_128 : decode cX8_copy 128 = .ok (.iload_n 3, 1) := by decide +kernel
theorem dX8_copy_129 : decode cX8_copy 129 = .ok (.iadd, 1) := by decide +kernel
theorem dX8_copy_130 : decode cX8_copy 130 = .ok (.iaload, 1) := by decide +kernel
theorem dX8_copy_131 : decode cX8_copy 131 = .ok (.iastore, 1) := by decide +kernel
theorem dX8_copy_132 : decode cX8_copy 132 = .ok (.aload_n 0, 1) := by decide +kernel
theorem dX8_copy_133 : decode cX8_copy 133 = .ok (.getfield 37, 3) := by decide +kernel
theorem dX8_copy_136 : decode cX8_copy 136 = .ok (.bipush 8, 2) := by decide +kernel
theorem dX8_copy_138 : decode cX8_copy 138 = .ok (.iload_n 2, 1) := by decide +kernel
theorem dX8_copy_139 : decode cX8_copy 139 = .ok (.imul, 1) := by decide +kernel
theorem dX8_copy_140 : decode cX8_copy 140 = .ok (.iload_n 3, 1) := by decide +kernel
theorem dX8_copy_141 : decode cX8_copy 141 = .ok (.iadd, 1) := by decide +kernel
theorem dX8_copy_142 : decode cX8_copy 142 = .ok (.aload_n 0, 1) := by decide +kernel
theorem dX8_copy_143 : decode cX8_copy 143 = .ok (.getfield 37, 3) := by decide +kernel
theorem dX8_copy_146 : decode cX8_copy 146 = .ok (.bipush 8, 2) := by decide +kernel
theorem dX8_copy_148 : decode cX8_copy 148 = .ok (.iload_n 1, 1) := by decide +kernel
theorem dX8_copy_149 : decode cX8_copy 149 = .ok (.imul, 1) := by decide +kernel
theorem dX8_copy_150 : decode cX8_copy 150 = .ok (.iload_n 3, 1) := by decide +kernel
theorem dX8_copy_151 : decode cX8_copy 151 = .ok (.iadd, 1) := by decide +kernel
theorem dX8_copy_152 : decode cX8_copy 152 = .ok (.iaload, 1) := by decide +kernel
theorem dX8_copy_153 : decode cX8_copy 153 = .ok (.iastore, 1) := by decide +kernel
theorem dX8_copy_154 : decode cX8_copy 154 = .ok (.iinc 3 1, 3) := by decide +kernel
theorem dX8_copy_157 : decode cX8_copy 157 = .ok (.goto (-119), 3) := by decide +kernel
theorem dX8_copy_160 : decode cX8_copy 160 = .ok (.return_, 1) := by decide +kernel
set_option maxRecDepth 20000 in
theorem ggX8_lay_X8_readAll : GoodIn wsX8_lay wsX8_readAll := goodIn_r _ [13, 14, 15, 16, 17, 18, 12, 19, 2, 3, 4, 1, 20, 21, 22, 23, 24, 25, 26, 27, 28, 29, 30, 31, 32, 33, 34, 35, 36, 37, 38, 39, 40, 41, 42, 43, 44, 45, 46, 47, 48, 49, 50, 51, 52, 53, 54, 55, 60, 61, 62, 63, 64, 65, 66, 67, 68, 69, 70, 71, 72, 73, 74, 75, 76, 77, 78, 79, 80, 81, 82, 83, 84, 85, 86] (by decide +kernel) (by decide +kernel)
set_option maxRecDepth 20000 in
theorem gX8_lay_X8_readAll : GoodIn wsX8_lay (wsV RX8 123 RX8 yX8_readAll wsX8_readAll) := goodIn_app (goodIn_of _ (by decide +kernel)) ggX8_lay_X8_readAll
set_option maxRecDepth 20000 in
theorem ggX8_lay_X8_copy : GoodIn wsX8_lay wsX8_copy := goodIn_r _ [59, 1, 20, 21, 51, 52, 53, 54, 55, 60, 61, 62, 63, 64, 65, 66, 67, 68, 69, 70, 71, 72, 73, 74, 75, 76, 77, 78, 79, 80, 81, 82, 83, 84, 85, 86] (by decide +kernel) (by decide +kernel)
set_option maxRecDepth 20000 in
theorem gX8_lay_X8_copy : GoodIn wsX8_lay (wsV RX8 127 RX8 yX8_copy wsX8_copy) := goodIn_app (goodIn_of _ (by decide +kernel)) ggX8_lay_X8_copy
theorem dX8_lay_0 : decode cX8_lay 0 = .ok (.aload_n 0, 1) := by decide +kernel
theorem dX8_lay_1 : decode cX8_lay 1 = .ok (.invokevirtual 123, 3) := by decide +kernel
theorem dX8_lay_4 : decode cX8_lay 4 = .ok (.bipush (-4), 2) := by decide +kernel
theorem dX8_lay_6 : decode cX8_lay 6 = .ok (.if_icmp .ne 12, 3) := by decide +kernel
theorem dX8_lay_9 : decode cX8_lay 9 = .ok (.aload_n 0, 1) := by decide +kernel
theorem dX8_lay_10 : decode cX8_lay 10 = .ok (.getfield 22, 3) := by decide +kernel
theorem dX8_lay_13 : decode cX8_lay 13 = .ok (.iconst 1, 1) := by decide +kernel
theorem dX8_lay_14 : decode cX8_lay 14 = .ok (.iaload, 1) := by decide +kernel
theorem dX8_lay_15 : decode cX8_lay 15 = .ok (.ifCond .ne 6, 3) := by decide +kernel
theorem dX8_lay_18 : decode cX8_lay 18 = .ok (.bipush (-2), 2) := by decide +kernel
theorem dX8_lay_20 : decode cX8_lay 20 = .ok (.ireturn, 1) := by decide +kernel
theorem dX8_lay_21 : decode cX8_lay 21 = .ok (.aload_n 0, 1) := by decide +kernel
theorem dX8_lay_22 : decode cX8_lay 22 = .ok (.getfield 13, 3) := by decide +kernel
theorem dX8_lay_25 : decode cX8_lay 25 = .ok (.iconst 0, 1) := by decide +kernel
theorem dX8_lay_26 : decode cX8_lay 26 = .ok (.aload_n 0, 1) := by decide +kernel
theorem dX8_lay_27 : decode cX8_lay 27 = .ok (.getfield 13, 3) := by decide +kernel
theorem dX8_lay_30 : decode cX8_lay 30 = .ok (.iconst 1, 1) := by decide +kernel
theorem dX8_lay_31 : decode cX8_lay 31 = .ok (.iaload, 1) := by decide +kernel
theorem dX8_lay_32 : decode cX8_lay 32 = .ok (.iastore, 1) := by decide +kernel
theorem dX8_lay_33 : decode cX8_lay 33 = .ok (.aload_n 0, 1) := by decide +kernel
theorem dX8_lay_34 : decode cX8_lay 34 = .ok (.getfield 16, 3) := by decide +kernel
theorem dX8_lay_37 : decode cX8_lay 37 = .ok (.iconst 0, 1) := by decide +kernel
theorem dX8_lay_38 : decode cX8_lay 38 = .ok (.aload_n 0, 1) := by decide +kernel
theorem dX8_lay_39 : decode cX8_lay 39 = .ok (.getfield 16, 3) := by decide +kernel
theorem dX8_lay_42 : decode cX8_lay 42 = .ok (.iconst 1, 1) := by decide +kernel
theorem dX8_lay_43 : decode cX8_lay 43 = .ok (.iaload, 1) := by decide +kernel
theorem dX8_lay_44 : decode cX8_lay 44 = .ok (.iastore, 1) := by decide +kernel
theorem dX8_lay_45 : decode cX8_lay 45 = .ok (.aload_n 0, 1) := by decide +kernel
theorem dX8_lay_46 : decode cX8_lay 46 = .ok (.getfield 19, 3) := by decide +kernel
theorem dX8_lay_49 : decode cX8_lay 49 = .ok (.iconst 0, 1) := by decide +kernel
theorem dX8_lay_50 : decode cX8_lay 50 = .ok (.aload_n 0, 1) := by decide +kernel
theorem dX8_lay_51 : decode cX8_lay 51 = .ok (.getfield 19, 3) := by decide +kernel
theorem dX8_lay_54 : decode cX8_lay 54 = .ok (.iconst 1, 1) := by decide +kernel
theorem dX8_lay_55 : decode cX8_lay 55 = .ok (.iaload, 1) := by decide +kernel
theorem dX8_lay_56 : decode cX8_lay 56 = .ok (.iastore, 1) := by decide +kernel
theorem dX8_lay_57 : decode cX8_lay 57 = .ok (.aload_n 0, 1) := by decide +kernel
theorem dX8_lay_58 : decode cX8_lay 58 = .ok (.iconst 1, 1) := by decide +kernel
theorem dX8_lay_59 : decode cX8_lay 59 = .ok (.iconst 0, 1) := by decide +kernel
theorem dX8_lay_60 : decode cX8_lay 60 = .ok (.invokevirtual 127, 3) := by decide +kernel
theorem dX8_lay_63 : decode cX8_lay 63 = .ok (.aload_n 0, 1) := by decide +kernel
theorem dX8_lay_64 : decode cX8_lay 64 = .ok (.iconst 0, 1) := by decide +kernel
theorem dX8_lay_65 : decode cX8_lay 65 = .ok (.putfield 131, 3) := by decide +kernel
theorem dX8_lay_68 : decode cX8_lay 68 = .ok (.aload_n 0, 1) := by decide +kernel
theorem dX8_lay_69 : decode cX8_lay 69 = .ok (.iconst 0, 1) := by decide +kernel
theorem dX8_lay_70 : decode cX8_lay 70 = .ok (.putfield 134, 3) := by decide +kernel
theorem dX8_lay_73 : decode cX8_lay 73 = .ok (.aload_n 0, 1) := by decide +kernel
theorem dX8_lay_74 : decode cX8_lay 74 = .ok (.iconst 0, 1) := by decide +kernel
theorem dX8_lay_75 : decode cX8_lay 75 = .ok (.putfield 137, 3) := by decide +kernel
theorem dX8_lay_78 : decode cX8_lay 78 = .ok (.aload_n 0, 1) := by decide +kernel
theorem dX8_lay_79 : decode cX8_lay 79 = .ok (.getfield 52, 3) := by decide +kernel
theorem dX8_lay_82 : decode cX8_lay 82 = .ok (.iconst 0, 1) := by decide +kernel
theorem dX8_lay_83 : decode cX8_lay 83 = .ok (.iconst 0, 1) := by decide +kernel
theorem dX8_lay_84 : decode cX8_lay 84 = .ok (.iastore, 1) := by decide +kernel
theorem dX8_lay_85 : decode cX8_lay 85 = .ok (.aload_n 0, 1) := by decide +kernel
theorem dX8_lay_86 : decode cX8_lay 86 = .ok (.getfield 52, 3) := by decide +kernel
theorem dX8_lay_89 : decode cX8_lay 89 = .ok (.iconst 1, 1) := by decide +kernel
theorem dX8_lay_90 : decode cX8_lay 90 = .ok (.iconst 0, 1) := by decide +kernel
theorem dX8_lay_91 : decode cX8_lay 91 = .ok (.iastore, 1) := by decide +kernel
theorem dX8_lay_92 : decode cX8_lay 92 = .ok (.aload_n 0, 1) := by decide +kernel
theorem dX8_lay_93 : decode cX8_lay 93 = .ok (.getfield 22, 3) := by decide +kernel
theorem dX8_lay_96 : decode cX8_lay 96 = .ok (.iconst 0, 1) := by decide +kernel
theorem dX8_lay_97 : decode cX8_lay 97 = .ok (.iaload, 1) := by decide +kernel
theorem dX8_lay_98 : decode cX8_lay 98 = .ok (.ireturn, 1) := by decide +kernel
set_option maxRecDepth 20000 in
theorem ggX8_isThere_X8_in : GoodIn wsX8_isThere wsX8_in := goodIn_r _ [5] (by decide +kernel) (by decide +kernel)
set_option maxRecDepth 20000 in
theorem gX8_isThere_X8_in : GoodIn wsX8_isThere (va_wsS RX8 82 yX8_in wsX8_in) := goodIn_app (goodIn_of _ (by decide +kernel)) ggX8_isThere_X8_in
theorem dX8_isThere_0 : decode cX8_isThere 0 = .ok (.iload_n 1, 1) := by decide +kernel
theorem dX8_isThere_1 : decode cX8_isThere 1 = .ok (.i2l, 1) := by decide +kernel
theorem dX8_isThere_2 : decode cX8_isThere 2 = .ok (.lconst 0, 1) := by decide +kernel
theorem dX8_isThere_3 : decode cX8_isThere 3 = .ok (.aload_n 0, 1) := by decide +kernel
theorem dX8_isThere_4 : decode cX8_isThere 4 = .ok (.getfield 22, 3) := by decide +kernel
theorem dX8_isThere_7 : decode cX8_isThere 7 = .ok (.iconst 0, 1) := by decide +kernel
theorem dX8_isThere_8 : decode cX8_isThere 8 = .ok (.iaload, 1) := by decide +kernel
theorem dX8_isThere_9 : decode cX8_isThere 9 = .ok (.iconst 1, 1) := by decide +kernel
theorem dX8_isThere_10 : decode cX8_isThere 10 = .ok (.isub, 1) := by decide +kernel
theorem dX8_isThere_11 : decode cX8_isThere 11 = .ok (.i2l, 1) := by decide +kernel
theorem dX8_isThere_12 : decode cX8_isThere 12 = .ok (.invokestatic 82, 3) := by decide +kernel
theorem dX8_isThere_15 : decode cX8_isThere 15 = .ok (.ireturn, 1) := by decide +kernel
set_option maxRecDepth 20000 in
theorem ggX8_isPerson_X8_in : GoodIn wsX8_isPerson wsX8_in := goodIn_r _ [5] (by decide +kernel) (by decide +kernel)
set_option maxRecDepth 20000 in
theorem gX8_isPerson_X8_in : GoodIn wsX8_isPerson (va_wsS RX8 82 yX8_in wsX8_in) := goodIn_app (goodIn_of _ (by decide +kernel)) ggX8_isPerson_X8_in
theorem dX8_isPerson_0 : decode cX8_isPerson 0 = .ok (.iload_n 1, 1) := by decide +kernel
theorem dX8_isPerson_1 : decode cX8_isPerson 1 = .ok (.i2l, 1) := by decide +kernel
theorem dX8_isPerson_2 : decode cX8_isPerson 2 = .ok (.lconst 0, 1) := by decide +kernel
theorem dX8_isPerson_3 : decode cX8_isPerson 3 = .ok (.aload_n 0, 1) := by decide +kernel
theorem dX8_isPerson_4 : decode cX8_isPerson 4 = .ok (.getfield 13, 3) := by decide +kernel
theorem dX8_isPerson_7 : decode cX8_isPerson 7 = .ok (.iconst 0, 1) := by decide +kernel
theorem dX8_isPerson_8 : decode cX8_isPerson 8 = .ok (.iaload, 1) := by decide +kernel
theorem dX8_isPerson_9 : decode cX8_isPerson 9 = .ok (.iconst 1, 1) := by decide +kernel
theorem dX8_isPerson_10 : decode cX8_isPerson 10 = .ok (.isub, 1) := by decide +kernel
theorem dX8_isPerson_11 : decode cX8_isPerson 11 = .ok (.i2l, 1) := by decide +kernel
theorem dX8_isPerson_12 : decode cX8_isPerson 12 = .ok (.invokestatic 82, 3) := by decide +kernel
theorem dX8_isPerson_15 : decode cX8_isPerson 15 = .ok (.ireturn, 1) := by decide +kernel
set_option maxRecDepth 20000 in
theorem ggX8_above_X8_has : GoodIn wsX8_above wsX8_has := goodIn_r _ [6] (by decide +kernel) (by decide +kernel)
set_option maxRecDepth 20000 in
theorem gX8_above_X8_has : GoodIn wsX8_above (va_wsS RX8 140 yX8_has wsX8_has) := goodIn_app (goodIn_of _ (by decide +kernel)) ggX8_above_X8_has
theorem dX8_above_0 : decode cX8_above 0 = .ok (.iconst 0, 1) := by decide +kernel
theorem dX8_above_1 : decode cX8_above 1 = .ok (.istore_n 3, 1) := by decide +kernel
theorem dX8_above_2 : decode cX8_above 2 = .ok (.iconst (-1), 1) := by decide +kernel
theorem dX8_above_3 : decode cX8_above 3 = .ok (.istore 4, 2) := by decide +kernel
theorem dX8_above_5 : decode cX8_above 5 = .ok (.iload 4, 2) := by decide +kernel
theorem dX8_above_7 : decode cX8_above 7 = .ok (.iload_n 3, 1) := by decide +kernel
theorem dX8_above_8 : decode cX8_above 8 = .ok (.if_icmp .eq 65, 3) := by decide +kernel
theorem dX8_above_11 : decode cX8_above 11 = .ok (.iload_n 3, 1) := by decide +kernel
theorem dX8_above_12 : decode cX8_above 12 = .ok (.istore 4, 2) := by decide +kernel
theorem dX8_above_14 : decode cX8_above 14 = .ok (.iconst 0, 1) := by decide +kernel
theorem dX8_above_15 : decode cX8_above 15 = .ok (.istore 5, 2) := by decide +kernel
theorem dX8_above_17 : decode cX8_above 17 = .ok (.iload 5, 2) := by decide +kernel
theorem dX8_above_19 : decode cX8_above 19 = .ok (.aload_n 0, 1) := by decide +kernel
theorem dX8_above_20 : decode cX8_above 20 = .ok (.getfield 22, 3) := by decide +kernel
theorem dX8_above_23 : decode cX8_above 23 = .ok (.iconst 0, 1) := by decide +kernel
theorem dX8_above_24 : decode cX8_above 24 = .ok (.iaload, 1) := by decide +kernel
theorem dX8_above_25 : decode cX8_above 25 = .ok (.if_icmp .ge 45, 3) := by decide +kernel
theorem dX8_above_28 : decode cX8_above 28 = .ok (.iload_n 3, 1) := by decide +kernel
theorem dX8_above_29 : decode cX8_above 29 = .ok (.iload_n 2, 1) := by decide +kernel
theorem dX8_above_30 : decode cX8_above 30 = .ok (.iload 5, 2) := by decide +kernel
theorem dX8_above_32 : decode cX8_above 32 = .ok (.invokestatic 140, 3) := by decide +kernel
theorem dX8_above_35 : decode cX8_above 35 = .ok (.ifCond .eq 26, 3) := by decide +kernel
theorem dX8_above_38 : decode cX8_above 38 = .ok (.aload_n 0, 1) := by decide +kernel
theorem dX8_above_39 : decode cX8_above 39 = .ok (.getfield 31, 3) := by decide +kernel
theorem dX8_above_42 : decode cX8_above 42 = .ok (.iload 5, 2) := by decide +kernel
theorem dX8_above_44 : decode cX8_above 44 = .ok (.iaload, 1) := by decide +kernel
theorem dX8_above_45 : decode cX8_above 45 = .ok (.iload_n 3, 1) := by decide +kernel
theorem dX8_above_46 : decode cX8_above 46 = .ok (.iconst 1, 1) := by decide +kernel
theorem dX8_above_47 : decode cX8_above 47 = .ok (.iload_n 1, 1) := by decide +kernel
theorem dX8_above_48 : decode cX8_above 48 = .ok (.ishl, 1) := by decide +kernel
theorem dX8_above_49 : decode cX8_above 49 = .ok (.ior, 1) := by decide +kernel
theorem dX8_above_50 : decode cX8_above 50 = .ok (.iand, 1) := by decide +kernel
theorem dX8_above_51 : decode cX8_above 51 = .ok (.ifCond .eq 10, 3) := by decide +kernel
theorem dX8_above_54 : decode cX8_above 54 = .ok (.iconst 1, 1) := by decide +kernel
theorem dX8_above_55 : decode cX8_above 55 = .ok (.iload 5, 2) := by decide +kernel
theorem dX8_above_57 : decode cX8_above 57 = .ok (.ishl, 1) := by decide +kernel
theorem dX8_above_58 : decode cX8_above 58 = .ok (.goto 4, 3) := by decide +kernel
theorem dX8_above_61 : decode cX8_above 61 = .ok (.iconst 0, 1) := by decide +kernel
theorem dX8_above_62 : decode cX8_above 62 = .ok (.ior, 1) := by decide +kernel
theorem dX8_above_63 : decode cX8_above 63 = .ok (.istore_n 3, 1) := by decide +kernel
theorem dX8_above_64 : decode cX8_above 64 = .ok (.iinc 5 1, 3) := by decide +kernel
theorem dX8_above_67 : decode cX8_above 67 = .ok (.goto (-50), 3) := by decide +kernel
theorem dX8_above_70 : decode cX8_above 70 = .ok (.goto (-65), 3) := by decide +kernel
theorem dX8_above_73 : decode cX8_above 73 = .ok (.iload_n 3, 1) := by decide +kernel
theorem dX8_above_74 : decode cX8_above 74 = .ok (.ireturn, 1) := by decide +kernel
set_option maxRecDepth 20000 in
theorem ggX8_knot_X8_isThere : GoodIn wsX8_knot wsX8_isThere := goodIn_r _ [12, 13, 14, 15, 11, 16, 24, 25, 26, 27, 28, 29, 30, 31, 32, 33, 34, 35, 36, 37, 38, 39, 40, 41, 42, 43, 44, 45, 46, 47, 48, 49, 50] (by decide +kernel) (by decide +kernel)
set_option maxRecDepth 20000 in
theorem gX8_knot_X8_isThere : GoodIn wsX8_knot (wsV RX8 144 RX8 yX8_isThere wsX8_isThere) := goodIn_app (goodIn_of _ (by decide +kernel)) ggX8_knot_X8_isThere
set_option maxRecDepth 20000 in
theorem ggX8_knot_X8_in : GoodIn wsX8_knot wsX8_in := goodIn_r _ [16] (by decide +kernel) (by decide +kernel)
set_option maxRecDepth 20000 in
theorem gX8_knot_X8_in : GoodIn wsX8_knot (va_wsS RX8 82 yX8_in wsX8_in) := goodIn_app (goodIn_of _ (by decide +kernel)) ggX8_knot_X8_in
set_option maxRecDepth 20000 in
theorem ggX8_knot_X8_above : GoodIn wsX8_knot wsX8_above := goodIn_r _ [20, 13, 4, 21, 22, 11, 23, 24, 25, 26, 27, 28, 29, 30, 31, 32, 33, 34, 35, 36, 37, 38, 39, 40, 41, 42, 43, 44, 45, 46, 47, 48, 49, 50] (by decide +kernel) (by decide +kernel)
set_option maxRecDepth 20000 in
theorem gX8_knot_X8_above : GoodIn wsX8_knot (wsV RX8 149 RX8 yX8_above wsX8_above) := goodIn_app (goodIn_of _ (by decide +kernel)) ggX8_knot_X8_above
theorem dX8_knot_0 : decode cX8_knot 0 = .ok (.aload_n 0, 1) := by decide +kernel
theorem dX8_knot_1 : decode cX8_knot 1 = .ok (.iload_n 1, 1) := by decide +kernel
theorem dX8_knot_2 : decode cX8_knot 2 = .ok (.invokevirtual 144, 3) := by decide +kernel
theorem dX8_knot_5 : decode cX8_knot 5 = .ok (.ifCond .eq 15, 3) := by decide +kernel
theorem dX8_knot_8 : decode cX8_knot 8 = .ok (.iload_n 2, 1) := by decide +kernel
theorem dX8_knot_9 : decode cX8_knot 9 = .ok (.i2l, 1) := by decide +kernel
theorem dX8_knot_10 : decode cX8_knot 10 = .ok (.lconst 0, 1) := by decide +kernel
theorem dX8_knot_11 : decode cX8_knot 11 = .ok (.ldc2_w 147, 3) := by decide +kernel
theorem dX8_knot_14 : decode cX8_knot 14 = .ok (.invokestatic 82, 3) := by decide +kernel
theorem dX8_knot_17 : decode cX8_knot 17 = .ok (.ifCond .ne 5, 3) := by decide +kernel
theorem dX8_knot_20 : decode cX8_knot 20 = .ok (.iconst (-1), 1) := by decide +kernel
theorem dX8_knot_21 : decode cX8_knot 21 = .ok (.ireturn, 1) := by decide +kernel
theorem dX8_knot_22 : decode cX8_knot 22 = .ok (.iload_n 2, 1) := by decide +kernel
theorem dX8_knot_23 : decode cX8_knot 23 = .ok (.tableswitch 83 0 5 #[37, 44, 51, 58, 65, 72], 37) := by decide +kernel
theorem dX8_knot_60 : decode cX8_knot 60 = .ok (.aload_n 0, 1) := by decide +kernel
theorem dX8_knot_61 : decode cX8_knot 61 = .ok (.getfield 25, 3) := by decide +kernel
theorem dX8_knot_64 : decode cX8_knot 64 = .ok (.iload_n 1, 1) := by decide +kernel
theorem dX8_knot_65 : decode cX8_knot 65 = .ok (.iaload, 1) := by decide +kernel
theorem dX8_knot_66 : decode cX8_knot 66 = .ok (.ireturn, 1) := by decide +kernel
theorem dX8_knot_67 : decode cX8_knot 67 = .ok (.aload_n 0, 1) := by decide +kernel
theorem dX8_knot_68 : decode cX8_knot 68 = .ok (.getfield 28, 3) := by decide +kernel
theorem dX8_knot_71 : decode cX8_knot 71 = .ok (.iload_n 1, 1) := by decide +kernel
theorem dX8_knot_72 : decode cX8_knot 72 = .ok (.iaload, 1) := by decide +kernel
theorem dX8_knot_73 : decode cX8_knot 73 = .ok (.ireturn, 1) := by decide +kernel
theorem dX8_knot_74 : decode cX8_knot 74 = .ok (.aload_n 0, 1) := by decide +kernel
theorem dX8_knot_75 : decode cX8_knot 75 = .ok (.getfield 31, 3) := by decide +kernel
theorem dX8_knot_78 : decode cX8_knot 78 = .ok (.iload_n 1, 1) := by decide +kernel
theorem dX8_knot_79 : decode cX8_knot 79 = .ok (.iaload, 1) := by decide +kernel
theorem dX8_knot_80 : decode cX8_knot 80 = .ok (.ireturn, 1) := by decide +kernel
theorem dX8_knot_81 : decode cX8_knot 81 = .ok (.aload_n 0, 1) := by decide +kernel
theorem dX8_knot_82 : decode cX8_knot 82 = .ok (.getfield 34, 3) := by decide +kernel
theorem dX8_knot_85 : decode cX8_knot 85 = .ok (.iload_n 1, 1) := by decide +kernel
theorem dX8_knot_86 : decode cX8_knot 86 = .ok (.iaload, 1) := by decide +kernel
theorem dX8_knot_87 : decode cX8_knot 87 = .ok (.ireturn, 1) := by decide +kernel
theorem dX8_knot_88 : decode cX8_knot 88 = .ok (.aload_n 0, 1) := by decide +kernel
theorem dX8_knot_89 : decode cX8_knot 89 = .ok (.getfield 37, 3) := by decide +kernel
theorem dX8_knot_92 : decode cX8_knot 92 = .ok (.iload_n 1, 1) := by decide +kernel
theorem dX8_knot_93 : decode cX8_knot 93 = .ok (.iaload, 1) := by decide +kernel
theorem dX8_knot_94 : decode cX8_knot 94 = .ok (.ireturn, 1) := by decide +kernel
theorem dX8_knot_95 : decode cX8_knot 95 = .ok (.aload_n 0, 1) := by decide +kernel
theorem dX8_knot_96 : decode cX8_knot 96 = .ok (.getfield 40, 3) := by decide +kernel
theorem dX8_knot_99 : decode cX8_knot 99 = .ok (.iconst 0, 1) := by decide +kernel
theorem dX8_knot_100 : decode cX8_knot 100 = .ok (.iaload, 1) := by decide +kernel
theorem dX8_knot_101 : decode cX8_knot 101 = .ok (.iload_n 1, 1) := by decide +kernel
theorem dX8_knot_102 : decode cX8_knot 102 = .ok (.ishr, 1) := by decide +kernel
theorem dX8_knot_103 : decode cX8_knot 103 = .ok (.iconst 1, 1) := by decide +kernel
theorem dX8_knot_104 : decode cX8_knot 104 = .ok (.iand, 1) := by decide +kernel
theorem dX8_knot_105 : decode cX8_knot 105 = .ok (.ireturn, 1) := by decide +kernel
theorem dX8_knot_106 : decode cX8_knot 106 = .ok (.aload_n 0, 1) := by decide +kernel
theorem dX8_knot_107 : decode cX8_knot 107 = .ok (.iload_n 1, 1) := by decide +kernel
theorem dX8_knot_108 : decode cX8_knot 108 = .ok (.aload_n 0, 1) := by decide +kernel
theorem dX8_knot_109 : decode cX8_knot 109 = .ok (.getfield 40, 3) := by decide +kernel
theorem dX8_knot_112 : decode cX8_knot 112 = .ok (.iconst 0, 1) := by decide +kernel
theorem dX8_knot_113 : decode cX8_knot 113 = .ok (.iaload, 1) := by decide +kernel
theorem dX8_knot_114 : decode cX8_knot 114 = .ok (.invokevirtual 149, 3) := by decide +kernel
theorem dX8_knot_117 : decode cX8_knot 117 = .ok (.ireturn, 1) := by decide +kernel
set_option maxRecDepth 20000 in
theorem ggX8_knotsOf_X8_has : GoodIn wsX8_knotsOf wsX8_has := goodIn_r _ [7] (by decide +kernel) (by decide +kernel)
set_option maxRecDepth 20000 in
theorem gX8_knotsOf_X8_has : GoodIn wsX8_knotsOf (va_wsS RX8 140 yX8_has wsX8_has) := goodIn_app (goodIn_of _ (by decide +kernel)) ggX8_knotsOf_X8_has
theorem dX8_knotsOf_0 : decode cX8_knotsOf 0 = .ok (.iconst 0, 1) := by decide +kernel
theorem dX8_knotsOf_1 : decode cX8_knotsOf 1 = .ok (.istore_n 3, 1) := by decide +kernel
theorem dX8_knotsOf_2 : decode cX8_knotsOf 2 = .ok (.iconst 0, 1) := by decide +kernel
theorem dX8_knotsOf_3 : decode cX8_knotsOf 3 = .ok (.istore 4, 2) := by decide +kernel
theorem dX8_knotsOf_5 : decode cX8_knotsOf 5 = .ok (.iload 4, 2) := by decide +kernel
theorem dX8_knotsOf_7 : decode cX8_knotsOf 7 = .ok (.aload_n 0, 1) := by decide +kernel
theorem dX8_knotsOf_8 : decode cX8_knotsOf 8 = .ok (.getfield 22, 3) := by decide +kernel
theorem dX8_knotsOf_11 : decode cX8_knotsOf 11 = .ok (.iconst 0, 1) := by decide +kernel
theorem dX8_knotsOf_12 : decode cX8_knotsOf 12 = .ok (.iaload, 1) := by decide +kernel
theorem dX8_knotsOf_13 : decode cX8_knotsOf 13 = .ok (.if_icmp .ge 51, 3) := by decide +kernel
theorem dX8_knotsOf_16 : decode cX8_knotsOf 16 = .ok (.iload_n 3, 1) := by decide +kernel
theorem dX8_knotsOf_17 : decode cX8_knotsOf 17 = .ok (.iload_n 2, 1) := by decide +kernel
theorem dX8_knotsOf_18 : decode cX8_knotsOf 18 = .ok (.iload 4, 2) := by decide +kernel
theorem dX8_knotsOf_20 : decode cX8_knotsOf 20 = .ok (.invokestatic 140, 3) := by decide +kernel
theorem dX8_knotsOf_23 : decode cX8_knotsOf 23 = .ok (.ifCond .eq 32, 3) := by decide +kernel
theorem dX8_knotsOf_26 : decode cX8_knotsOf 26 = .ok (.aload_n 0, 1) := by decide +kernel
theorem dX8_knotsOf_27 : decode cX8_knotsOf 27 = .ok (.getfield 25, 3) := by decide +kernel
theorem dX8_knotsOf_30 : decode cX8_knotsOf 30 = .ok (.iload 4, 2) := by decide +kernel
theorem dX8_knotsOf_32 : decode cX8_knotsOf 32 = .ok (.iaload, 1) := by decide +kernel
theorem dX8_knotsOf_33 : decode cX8_knotsOf 33 = .ok (.iload_n 1, 1) := by decide +kernel
theorem dX8_knotsOf_34 : decode cX8_knotsOf 34 = .ok (.if_icmp .eq 14, 3) := by decide +kernel
theorem dX8_knotsOf_37 : decode cX8_knotsOf 37 = .ok (.aload_n 0, 1) := by decide +kernel
theorem dX8_knotsOf_38 : decode cX8_knotsOf 38 = .ok (.getfield 28, 3) := by decide +kernel
theorem dX8_knotsOf_41 : decode cX8_knotsOf 41 = .ok (.iload 4, 2) := by decide +kernel
theorem dX8_knotsOf_43 : decode cX8_knotsOf 43 = .ok (.iaload, 1) := by decide +kernel
theorem dX8_knotsOf_44 : decode cX8_knotsOf 44 = .ok (.iload_n 1, 1) := by decide +kernel
theorem dX8_knotsOf_45 : decode cX8_knotsOf 45 = .ok (.if_icmp .ne 10, 3) := by decide +kernel
theorem dX8_knotsOf_48 : decode cX8_knotsOf 48 = .ok (.iconst 1, 1) := by decide +kernel
theorem dX8_knotsOf_49 : decode cX8_knotsOf 49 = .ok (.iload 4, 2) := by decide +kernel
theorem dX8_knotsOf_51 : decode cX8_knotsOf 51 = .ok (.ishl, 1) := by decide +kernel
theorem dX8_knotsOf_52 : decode cX8_knotsOf 52 = .ok (.goto 4, 3) := by decide +kernel
theorem dX8_knotsOf_55 : decode cX8_knotsOf 55 = .ok (.iconst 0, 1) := by decide +kernel
theorem dX8_knotsOf_56 : decode cX8_knotsOf 56 = .ok (.ior, 1) := by decide +kernel
