theorem dX8_layLoose_68 : decode cX8_layLoose 68 = .ok (.iload 4, 2) := by decide +kernel
theorem dX8_layLoose_70 : decode cX8_layLoose 70 = .ok (.iastore, 1) := by decide +kernel
theorem dX8_layLoose_71 : decode cX8_layLoose 71 = .ok (.iinc 2 1, 3) := by decide +kernel
theorem dX8_layLoose_74 : decode cX8_layLoose 74 = .ok (.iinc 3 1, 3) := by decide +kernel
theorem dX8_layLoose_77 : decode cX8_layLoose 77 = .ok (.goto (-73), 3) := by decide +kernel
theorem dX8_layLoose_80 : decode cX8_layLoose 80 = .ok (.aload_n 0, 1) := by decide +kernel
theorem dX8_layLoose_81 : decode cX8_layLoose 81 = .ok (.getfield 70, 3) := by decide +kernel
theorem dX8_layLoose_84 : decode cX8_layLoose 84 = .ok (.iload_n 1, 1) := by decide +kernel
theorem dX8_layLoose_85 : decode cX8_layLoose 85 = .ok (.iconst 0, 1) := by decide +kernel
theorem dX8_layLoose_86 : decode cX8_layLoose 86 = .ok (.iastore, 1) := by decide +kernel
theorem dX8_layLoose_87 : decode cX8_layLoose 87 = .ok (.aload_n 0, 1) := by decide +kernel
theorem dX8_layLoose_88 : decode cX8_layLoose 88 = .ok (.getfield 73, 3) := by decide +kernel
theorem dX8_layLoose_91 : decode cX8_layLoose 91 = .ok (.iload_n 1, 1) := by decide +kernel
theorem dX8_layLoose_92 : decode cX8_layLoose 92 = .ok (.iload_n 2, 1) := by decide +kernel
theorem dX8_layLoose_93 : decode cX8_layLoose 93 = .ok (.iastore, 1) := by decide +kernel
theorem dX8_layLoose_94 : decode cX8_layLoose 94 = .ok (.return_, 1) := by decide +kernel
set_option maxRecDepth 20000 in
theorem ggX8_loose_X8_in : GoodIn wsX8_loose wsX8_in := goodIn_r _ [6] (by decide +kernel) (by decide +kernel)
set_option maxRecDepth 20000 in
theorem gX8_loose_X8_in : GoodIn wsX8_loose (va_wsS RX8 82 yX8_in wsX8_in) := goodIn_app (goodIn_of _ (by decide +kernel)) ggX8_loose_X8_in
set_option maxRecDepth 20000 in
theorem ggX8_loose_X8_layLoose : GoodIn wsX8_loose wsX8_layLoose := goodIn_r _ [10, 11, 12, 2, 13, 1, 14, 15, 5, 16, 17, 18, 19, 20, 21, 22, 23, 24, 25, 26, 27, 28, 29, 30, 31, 32, 33, 34, 35, 36, 37, 38, 39, 40, 41, 42, 43] (by decide +kernel) (by decide +kernel)
set_option maxRecDepth 20000 in
theorem gX8_loose_X8_layLoose : GoodIn wsX8_loose (wsV RX8 190 RX8 yX8_layLoose wsX8_layLoose) := goodIn_app (goodIn_of _ (by decide +kernel)) ggX8_loose_X8_layLoose
theorem dX8_loose_0 : decode cX8_loose 0 = .ok (.iload_n 1, 1) := by decide +kernel
theorem dX8_loose_1 : decode cX8_loose 1 = .ok (.i2l, 1) := by decide +kernel
theorem dX8_loose_2 : decode cX8_loose 2 = .ok (.lconst 0, 1) := by decide +kernel
theorem dX8_loose_3 : decode cX8_loose 3 = .ok (.lconst 1, 1) := by decide +kernel
theorem dX8_loose_4 : decode cX8_loose 4 = .ok (.invokestatic 82, 3) := by decide +kernel
theorem dX8_loose_7 : decode cX8_loose 7 = .ok (.ifCond .eq 8, 3) := by decide +kernel
theorem dX8_loose_10 : decode cX8_loose 10 = .ok (.iload_n 2, 1) := by decide +kernel
theorem dX8_loose_11 : decode cX8_loose 11 = .ok (.iconst (-1), 1) := by decide +kernel
theorem dX8_loose_12 : decode cX8_loose 12 = .ok (.if_icmp .ge 5, 3) := by decide +kernel
theorem dX8_loose_15 : decode cX8_loose 15 = .ok (.iconst (-1), 1) := by decide +kernel
theorem dX8_loose_16 : decode cX8_loose 16 = .ok (.ireturn, 1) := by decide +kernel
theorem dX8_loose_17 : decode cX8_loose 17 = .ok (.aload_n 0, 1) := by decide +kernel
theorem dX8_loose_18 : decode cX8_loose 18 = .ok (.iload_n 1, 1) := by decide +kernel
theorem dX8_loose_19 : decode cX8_loose 19 = .ok (.invokevirtual 190, 3) := by decide +kernel
theorem dX8_loose_22 : decode cX8_loose 22 = .ok (.iload_n 2, 1) := by decide +kernel
theorem dX8_loose_23 : decode cX8_loose 23 = .ok (.ifCond .ge 12, 3) := by decide +kernel
theorem dX8_loose_26 : decode cX8_loose 26 = .ok (.aload_n 0, 1) := by decide +kernel
theorem dX8_loose_27 : decode cX8_loose 27 = .ok (.getfield 73, 3) := by decide +kernel
theorem dX8_loose_30 : decode cX8_loose 30 = .ok (.iload_n 1, 1) := by decide +kernel
theorem dX8_loose_31 : decode cX8_loose 31 = .ok (.iaload, 1) := by decide +kernel
theorem dX8_loose_32 : decode cX8_loose 32 = .ok (.goto 29, 3) := by decide +kernel
theorem dX8_loose_35 : decode cX8_loose 35 = .ok (.iload_n 2, 1) := by decide +kernel
theorem dX8_loose_36 : decode cX8_loose 36 = .ok (.aload_n 0, 1) := by decide +kernel
theorem dX8_loose_37 : decode cX8_loose 37 = .ok (.getfield 73, 3) := by decide +kernel
theorem dX8_loose_40 : decode cX8_loose 40 = .ok (.iload_n 1, 1) := by decide +kernel
theorem dX8_loose_41 : decode cX8_loose 41 = .ok (.iaload, 1) := by decide +kernel
theorem dX8_loose_42 : decode cX8_loose 42 = .ok (.if_icmp .ge 17, 3) := by decide +kernel
theorem dX8_loose_45 : decode cX8_loose 45 = .ok (.aload_n 0, 1) := by decide +kernel
theorem dX8_loose_46 : decode cX8_loose 46 = .ok (.getfield 67, 3) := by decide +kernel
theorem dX8_loose_49 : decode cX8_loose 49 = .ok (.bipush 16, 2) := by decide +kernel
theorem dX8_loose_51 : decode cX8_loose 51 = .ok (.iload_n 1, 1) := by decide +kernel
theorem dX8_loose_52 : decode cX8_loose 52 = .ok (.imul, 1) := by decide +kernel
theorem dX8_loose_53 : decode cX8_loose 53 = .ok (.iload_n 2, 1) := by decide +kernel
theorem dX8_loose_54 : decode cX8_loose 54 = .ok (.iadd, 1) := by decide +kernel
theorem dX8_loose_55 : decode cX8_loose 55 = .ok (.iaload, 1) := by decide +kernel
theorem dX8_loose_56 : decode cX8_loose 56 = .ok (.goto 5, 3) := by decide +kernel
theorem dX8_loose_59 : decode cX8_loose 59 = .ok (.bipush (-4), 2) := by decide +kernel
theorem dX8_loose_61 : decode cX8_loose 61 = .ok (.ireturn, 1) := by decide +kernel
set_option maxRecDepth 20000 in
theorem ggX8_layRound_X8_areUndone : GoodIn wsX8_layRound wsX8_areUndone := goodIn_r _ [7] (by decide +kernel) (by decide +kernel)
set_option maxRecDepth 20000 in
theorem gX8_layRound_X8_areUndone : GoodIn wsX8_layRound (va_wsS RX8 187 yX8_areUndone wsX8_areUndone) := goodIn_app (goodIn_of _ (by decide +kernel)) ggX8_layRound_X8_areUndone
theorem dX8_layRound_0 : decode cX8_layRound 0 = .ok (.aload_n 0, 1) := by decide +kernel
theorem dX8_layRound_1 : decode cX8_layRound 1 = .ok (.getfield 73, 3) := by decide +kernel
theorem dX8_layRound_4 : decode cX8_layRound 4 = .ok (.iload_n 1, 1) := by decide +kernel
theorem dX8_layRound_5 : decode cX8_layRound 5 = .ok (.iaload, 1) := by decide +kernel
theorem dX8_layRound_6 : decode cX8_layRound 6 = .ok (.iconst 1, 1) := by decide +kernel
theorem dX8_layRound_7 : decode cX8_layRound 7 = .ok (.if_icmp .le 73, 3) := by decide +kernel
theorem dX8_layRound_10 : decode cX8_layRound 10 = .ok (.aload_n 0, 1) := by decide +kernel
theorem dX8_layRound_11 : decode cX8_layRound 11 = .ok (.getfield 67, 3) := by decide +kernel
theorem dX8_layRound_14 : decode cX8_layRound 14 = .ok (.bipush 16, 2) := by decide +kernel
theorem dX8_layRound_16 : decode cX8_layRound 16 = .ok (.iload_n 1, 1) := by decide +kernel
theorem dX8_layRound_17 : decode cX8_layRound 17 = .ok (.imul, 1) := by decide +kernel
theorem dX8_layRound_18 : decode cX8_layRound 18 = .ok (.aload_n 0, 1) := by decide +kernel
theorem dX8_layRound_19 : decode cX8_layRound 19 = .ok (.getfield 70, 3) := by decide +kernel
theorem dX8_layRound_22 : decode cX8_layRound 22 = .ok (.iload_n 1, 1) := by decide +kernel
theorem dX8_layRound_23 : decode cX8_layRound 23 = .ok (.iaload, 1) := by decide +kernel
theorem dX8_layRound_24 : decode cX8_layRound 24 = .ok (.iadd, 1) := by decide +kernel
theorem dX8_layRound_25 : decode cX8_layRound 25 = .ok (.iaload, 1) := by decide +kernel
theorem dX8_layRound_26 : decode cX8_layRound 26 = .ok (.aload_n 0, 1) := by decide +kernel
theorem dX8_layRound_27 : decode cX8_layRound 27 = .ok (.getfield 67, 3) := by decide +kernel
theorem dX8_layRound_30 : decode cX8_layRound 30 = .ok (.bipush 16, 2) := by decide +kernel
theorem dX8_layRound_32 : decode cX8_layRound 32 = .ok (.iload_n 1, 1) := by decide +kernel
theorem dX8_layRound_33 : decode cX8_layRound 33 = .ok (.imul, 1) := by decide +kernel
theorem dX8_layRound_34 : decode cX8_layRound 34 = .ok (.aload_n 0, 1) := by decide +kernel
theorem dX8_layRound_35 : decode cX8_layRound 35 = .ok (.getfield 70, 3) := by decide +kernel
theorem dX8_layRound_38 : decode cX8_layRound 38 = .ok (.iload_n 1, 1) := by decide +kernel
theorem dX8_layRound_39 : decode cX8_layRound 39 = .ok (.iaload, 1) := by decide +kernel
theorem dX8_layRound_40 : decode cX8_layRound 40 = .ok (.iadd, 1) := by decide +kernel
theorem dX8_layRound_41 : decode cX8_layRound 41 = .ok (.aload_n 0, 1) := by decide +kernel
theorem dX8_layRound_42 : decode cX8_layRound 42 = .ok (.getfield 73, 3) := by decide +kernel
theorem dX8_layRound_45 : decode cX8_layRound 45 = .ok (.iload_n 1, 1) := by decide +kernel
theorem dX8_layRound_46 : decode cX8_layRound 46 = .ok (.iaload, 1) := by decide +kernel
theorem dX8_layRound_47 : decode cX8_layRound 47 = .ok (.iadd, 1) := by decide +kernel
theorem dX8_layRound_48 : decode cX8_layRound 48 = .ok (.iconst 1, 1) := by decide +kernel
theorem dX8_layRound_49 : decode cX8_layRound 49 = .ok (.isub, 1) := by decide +kernel
theorem dX8_layRound_50 : decode cX8_layRound 50 = .ok (.iaload, 1) := by decide +kernel
theorem dX8_layRound_51 : decode cX8_layRound 51 = .ok (.invokestatic 187, 3) := by decide +kernel
theorem dX8_layRound_54 : decode cX8_layRound 54 = .ok (.ifCond .eq 26, 3) := by decide +kernel
theorem dX8_layRound_57 : decode cX8_layRound 57 = .ok (.aload_n 0, 1) := by decide +kernel
theorem dX8_layRound_58 : decode cX8_layRound 58 = .ok (.getfield 70, 3) := by decide +kernel
theorem dX8_layRound_61 : decode cX8_layRound 61 = .ok (.iload_n 1, 1) := by decide +kernel
theorem dX8_layRound_62 : decode cX8_layRound 62 = .ok (.dup2, 1) := by decide +kernel
theorem dX8_layRound_63 : decode cX8_layRound 63 = .ok (.iaload, 1) := by decide +kernel
theorem dX8_layRound_64 : decode cX8_layRound 64 = .ok (.iconst 1, 1) := by decide +kernel
theorem dX8_layRound_65 : decode cX8_layRound 65 = .ok (.iadd, 1) := by decide +kernel
theorem dX8_layRound_66 : decode cX8_layRound 66 = .ok (.iastore, 1) := by decide +kernel
theorem dX8_layRound_67 : decode cX8_layRound 67 = .ok (.aload_n 0, 1) := by decide +kernel
theorem dX8_layRound_68 : decode cX8_layRound 68 = .ok (.getfield 73, 3) := by decide +kernel
theorem dX8_layRound_71 : decode cX8_layRound 71 = .ok (.iload_n 1, 1) := by decide +kernel
theorem dX8_layRound_72 : decode cX8_layRound 72 = .ok (.dup2, 1) := by decide +kernel
theorem dX8_layRound_73 : decode cX8_layRound 73 = .ok (.iaload, 1) := by decide +kernel
theorem dX8_layRound_74 : decode cX8_layRound 74 = .ok (.iconst 2, 1) := by decide +kernel
theorem dX8_layRound_75 : decode cX8_layRound 75 = .ok (.isub, 1) := by decide +kernel
theorem dX8_layRound_76 : decode cX8_layRound 76 = .ok (.iastore, 1) := by decide +kernel
theorem dX8_layRound_77 : decode cX8_layRound 77 = .ok (.goto (-77), 3) := by decide +kernel
theorem dX8_layRound_80 : decode cX8_layRound 80 = .ok (.return_, 1) := by decide +kernel
theorem dX8_isTurned_0 : decode cX8_isTurned 0 = .ok (.iconst 1, 1) := by decide +kernel
theorem dX8_isTurned_1 : decode cX8_isTurned 1 = .ok (.istore_n 2, 1) := by decide +kernel
theorem dX8_isTurned_2 : decode cX8_isTurned 2 = .ok (.iconst 0, 1) := by decide +kernel
theorem dX8_isTurned_3 : decode cX8_isTurned 3 = .ok (.istore_n 3, 1) := by decide +kernel
theorem dX8_isTurned_4 : decode cX8_isTurned 4 = .ok (.iload_n 3, 1) := by decide +kernel
theorem dX8_isTurned_5 : decode cX8_isTurned 5 = .ok (.aload_n 0, 1) := by decide +kernel
theorem dX8_isTurned_6 : decode cX8_isTurned 6 = .ok (.getfield 73, 3) := by decide +kernel
theorem dX8_isTurned_9 : decode cX8_isTurned 9 = .ok (.iconst 0, 1) := by decide +kernel
theorem dX8_isTurned_10 : decode cX8_isTurned 10 = .ok (.iaload, 1) := by decide +kernel
theorem dX8_isTurned_11 : decode cX8_isTurned 11 = .ok (.if_icmp .ge 60, 3) := by decide +kernel
theorem dX8_isTurned_14 : decode cX8_isTurned 14 = .ok (.iload_n 2, 1) := by decide +kernel
theorem dX8_isTurned_15 : decode cX8_isTurned 15 = .ok (.ifCond .eq 48, 3) := by decide +kernel
theorem dX8_isTurned_18 : decode cX8_isTurned 18 = .ok (.aload_n 0, 1) := by decide +kernel
theorem dX8_isTurned_19 : decode cX8_isTurned 19 = .ok (.getfield 67, 3) := by decide +kernel
theorem dX8_isTurned_22 : decode cX8_isTurned 22 = .ok (.aload_n 0, 1) := by decide +kernel
theorem dX8_isTurned_23 : decode cX8_isTurned 23 = .ok (.getfield 70, 3) := by decide +kernel
theorem dX8_isTurned_26 : decode cX8_isTurned 26 = .ok (.iconst 0, 1) := by decide +kernel
theorem dX8_isTurned_27 : decode cX8_isTurned 27 = .ok (.iaload, 1) := by decide +kernel
theorem dX8_isTurned_28 : decode cX8_isTurned 28 = .ok (.iload_n 3, 1) := by decide +kernel
theorem dX8_isTurned_29 : decode cX8_isTurned 29 = .ok (.iload_n 1, 1) := by decide +kernel
theorem dX8_isTurned_30 : decode cX8_isTurned 30 = .ok (.iadd, 1) := by decide +kernel
theorem dX8_isTurned_31 : decode cX8_isTurned 31 = .ok (.aload_n 0, 1) := by decide +kernel
theorem dX8_isTurned_32 : decode cX8_isTurned 32 = .ok (.getfield 73, 3) := by decide +kernel
theorem dX8_isTurned_35 : decode cX8_isTurned 35 = .ok (.iconst 0, 1) := by decide +kernel
theorem dX8_isTurned_36 : decode cX8_isTurned 36 = .ok (.iaload, 1) := by decide +kernel
theorem dX8_isTurned_37 : decode cX8_isTurned 37 = .ok (.irem, 1) := by decide +kernel
theorem dX8_isTurned_38 : decode cX8_isTurned 38 = .ok (.iadd, 1) := by decide +kernel
theorem dX8_isTurned_39 : decode cX8_isTurned 39 = .ok (.iaload, 1) := by decide +kernel
theorem dX8_isTurned_40 : decode cX8_isTurned 40 = .ok (.aload_n 0, 1) := by decide +kernel
theorem dX8_isTurned_41 : decode cX8_isTurned 41 = .ok (.getfield 67, 3) := by decide +kernel
theorem dX8_isTurned_44 : decode cX8_isTurned 44 = .ok (.bipush 16, 2) := by decide +kernel
theorem dX8_isTurned_46 : decode cX8_isTurned 46 = .ok (.aload_n 0, 1) := by decide +kernel
theorem dX8_isTurned_47 : decode cX8_isTurned 47 = .ok (.getfield 70, 3) := by decide +kernel
theorem dX8_isTurned_50 : decode cX8_isTurned 50 = .ok (.iconst 1, 1) := by decide +kernel
theorem dX8_isTurned_51 : decode cX8_isTurned 51 = .ok (.iaload, 1) := by decide +kernel
theorem dX8_isTurned_52 : decode cX8_isTurned 52 = .ok (.iadd, 1) := by decide +kernel
theorem dX8_isTurned_53 : decode cX8_isTurned 53 = .ok (.iload_n 3, 1) := by decide +kernel
theorem dX8_isTurned_54 : decode cX8_isTurned 54 = .ok (.iadd, 1) := by decide +kernel
theorem dX8_isTurned_55 : decode cX8_isTurned 55 = .ok (.iaload, 1) := by decide +kernel
theorem dX8_isTurned_56 : decode cX8_isTurned 56 = .ok (.if_icmp .ne 7, 3) := by decide +kernel
theorem dX8_isTurned_59 : decode cX8_isTurned 59 = .ok (.iconst 1, 1) := by decide +kernel
theorem dX8_isTurned_60 : decode cX8_isTurned 60 = .ok (.goto 4, 3) := by decide +kernel
theorem dX8_isTurned_63 : decode cX8_isTurned 63 = .ok (.iconst 0, 1) := by decide +kernel
theorem dX8_isTurned_64 : decode cX8_isTurned 64 = .ok (.istore_n 2, 1) := by decide +kernel
theorem dX8_isTurned_65 : decode cX8_isTurned 65 = .ok (.iinc 3 1, 3) := by decide +kernel
theorem dX8_isTurned_68 : decode cX8_isTurned 68 = .ok (.goto (-64), 3) := by decide +kernel
theorem dX8_isTurned_71 : decode cX8_isTurned 71 = .ok (.iload_n 2, 1) := by decide +kernel
theorem dX8_isTurned_72 : decode cX8_isTurned 72 = .ok (.ireturn, 1) := by decide +kernel
set_option maxRecDepth 20000 in
theorem ggX8_alike_X8_layLoose : GoodIn wsX8_alike wsX8_layLoose := goodIn_r _ [6, 7, 8, 9, 10, 1, 11, 12, 5, 13, 22, 23, 24, 25, 26, 27, 28, 29, 30, 31, 32, 33, 34, 35, 36, 37, 38, 39, 40, 41, 42, 43, 44, 45, 46, 47, 48] (by decide +kernel) (by decide +kernel)
set_option maxRecDepth 20000 in
theorem gX8_alike_X8_layLoose : GoodIn wsX8_alike (wsV RX8 190 RX8 yX8_layLoose wsX8_layLoose) := goodIn_app (goodIn_of _ (by decide +kernel)) ggX8_alike_X8_layLoose
set_option maxRecDepth 20000 in
theorem ggX8_alike_X8_isTurned : GoodIn wsX8_alike wsX8_isTurned := goodIn_r _ [17, 1, 9, 10, 22, 23, 24, 25, 26, 27, 28, 29, 30, 31, 32, 33, 34, 35, 36, 37, 38, 39, 40, 41, 42, 43, 44, 45, 46, 47, 48] (by decide +kernel) (by decide +kernel)
set_option maxRecDepth 20000 in
theorem gX8_alike_X8_isTurned : GoodIn wsX8_alike (wsV RX8 193 RX8 yX8_isTurned wsX8_isTurned) := goodIn_app (goodIn_of _ (by decide +kernel)) ggX8_alike_X8_isTurned
set_option maxRecDepth 20000 in
theorem ggX8_alike_X8_layRound : GoodIn wsX8_alike wsX8_layRound := goodIn_r _ [21, 1, 9, 10, 11, 12, 5, 13, 22, 23, 24, 25, 26, 27, 28, 29, 30, 31, 32, 33, 34, 35, 36, 37, 38, 39, 40, 41, 42, 43, 44, 45, 46, 47, 48] (by decide +kernel) (by decide +kernel)
set_option maxRecDepth 20000 in
theorem gX8_alike_X8_layRound : GoodIn wsX8_alike (wsV RX8 196 RX8 yX8_layRound wsX8_layRound) := goodIn_app (goodIn_of _ (by decide +kernel)) ggX8_alike_X8_layRound
theorem dX8_alike_0 : decode cX8_alike 0 = .ok (.aload_n 0, 1) := by decide +kernel
theorem dX8_alike_1 : decode cX8_alike 1 = .ok (.iconst 0, 1) := by decide +kernel
theorem dX8_alike_2 : decode cX8_alike 2 = .ok (.invokevirtual 190, 3) := by decide +kernel
theorem dX8_alike_5 : decode cX8_alike 5 = .ok (.aload_n 0, 1) := by decide +kernel
theorem dX8_alike_6 : decode cX8_alike 6 = .ok (.iconst 1, 1) := by decide +kernel
theorem dX8_alike_7 : decode cX8_alike 7 = .ok (.invokevirtual 190, 3) := by decide +kernel
theorem dX8_alike_10 : decode cX8_alike 10 = .ok (.aload_n 0, 1) := by decide +kernel
theorem dX8_alike_11 : decode cX8_alike 11 = .ok (.getfield 73, 3) := by decide +kernel
theorem dX8_alike_14 : decode cX8_alike 14 = .ok (.iconst 0, 1) := by decide +kernel
theorem dX8_alike_15 : decode cX8_alike 15 = .ok (.iaload, 1) := by decide +kernel
theorem dX8_alike_16 : decode cX8_alike 16 = .ok (.aload_n 0, 1) := by decide +kernel
theorem dX8_alike_17 : decode cX8_alike 17 = .ok (.getfield 73, 3) := by decide +kernel
theorem dX8_alike_20 : decode cX8_alike 20 = .ok (.iconst 1, 1) := by decide +kernel
theorem dX8_alike_21 : decode cX8_alike 21 = .ok (.iaload, 1) := by decide +kernel
theorem dX8_alike_22 : decode cX8_alike 22 = .ok (.if_icmp .ne 13, 3) := by decide +kernel
theorem dX8_alike_25 : decode cX8_alike 25 = .ok (.aload_n 0, 1) := by decide +kernel
theorem dX8_alike_26 : decode cX8_alike 26 = .ok (.iconst 0, 1) := by decide +kernel
theorem dX8_alike_27 : decode cX8_alike 27 = .ok (.invokevirtual 193, 3) := by decide +kernel
theorem dX8_alike_30 : decode cX8_alike 30 = .ok (.ifCond .eq 5, 3) := by decide +kernel
theorem dX8_alike_33 : decode cX8_alike 33 = .ok (.iconst 2, 1) := by decide +kernel
theorem dX8_alike_34 : decode cX8_alike 34 = .ok (.ireturn, 1) := by decide +kernel
theorem dX8_alike_35 : decode cX8_alike 35 = .ok (.aload_n 0, 1) := by decide +kernel
theorem dX8_alike_36 : decode cX8_alike 36 = .ok (.iconst 0, 1) := by decide +kernel
theorem dX8_alike_37 : decode cX8_alike 37 = .ok (.invokevirtual 196, 3) := by decide +kernel
theorem dX8_alike_40 : decode cX8_alike 40 = .ok (.aload_n 0, 1) := by decide +kernel
theorem dX8_alike_41 : decode cX8_alike 41 = .ok (.iconst 1, 1) := by decide +kernel
theorem dX8_alike_42 : decode cX8_alike 42 = .ok (.invokevirtual 196, 3) := by decide +kernel
theorem dX8_alike_45 : decode cX8_alike 45 = .ok (.aload_n 0, 1) := by decide +kernel
theorem dX8_alike_46 : decode cX8_alike 46 = .ok (.getfield 73, 3) := by decide +kernel
theorem dX8_alike_49 : decode cX8_alike 49 = .ok (.iconst 0, 1) := by decide +kernel
theorem dX8_alike_50 : decode cX8_alike 50 = .ok (.iaload, 1) := by decide +kernel
theorem dX8_alike_51 : decode cX8_alike 51 = .ok (.aload_n 0, 1) := by decide +kernel
theorem dX8_alike_52 : decode cX8_alike 52 = .ok (.getfield 73, 3) := by decide +kernel
theorem dX8_alike_55 : decode cX8_alike 55 = .ok (.iconst 1, 1) := by decide +kernel
theorem dX8_alike_56 : decode cX8_alike 56 = .ok (.iaload, 1) := by decide +kernel
theorem dX8_alike_57 : decode cX8_alike 57 = .ok (.if_icmp .ne 16, 3) := by decide +kernel
theorem dX8_alike_60 : decode cX8_alike 60 = .ok (.aload_n 0, 1) := by decide +kernel
theorem dX8_alike_61 : decode cX8_alike 61 = .ok (.getfield 73, 3) := by decide +kernel
theorem dX8_alike_64 : decode cX8_alike 64 = .ok (.iconst 0, 1) := by decide +kernel
theorem dX8_alike_65 : decode cX8_alike 65 = .ok (.iaload, 1) := by decide +kernel
theorem dX8_alike_66 : decode cX8_alike 66 = .ok (.ifCond .ne 7, 3) := by decide +kernel
theorem dX8_alike_69 : decode cX8_alike 69 = .ok (.iconst 1, 1) := by decide +kernel
theorem dX8_alike_70 : decode cX8_alike 70 = .ok (.goto 4, 3) := by decide +kernel
theorem dX8_alike_73 : decode cX8_alike 73 = .ok (.iconst 0, 1) := by decide +kernel
theorem dX8_alike_74 : decode cX8_alike 74 = .ok (.istore_n 1, 1) := by decide +kernel
theorem dX8_alike_75 : decode cX8_alike 75 = .ok (.iconst 0, 1) := by decide +kernel
theorem dX8_alike_76 : decode cX8_alike 76 = .ok (.istore_n 2, 1) := by decide +kernel
theorem dX8_alike_77 : decode cX8_alike 77 = .ok (.iload_n 2, 1) := by decide +kernel
theorem dX8_alike_78 : decode cX8_alike 78 = .ok (.aload_n 0, 1) := by decide +kernel
theorem dX8_alike_79 : decode cX8_alike 79 = .ok (.getfield 73, 3) := by decide +kernel
theorem dX8_alike_82 : decode cX8_alike 82 = .ok (.iconst 0, 1) := by decide +kernel
theorem dX8_alike_83 : decode cX8_alike 83 = .ok (.iaload, 1) := by decide +kernel
theorem dX8_alike_84 : decode cX8_alike 84 = .ok (.if_icmp .ge 42, 3) := by decide +kernel
theorem dX8_alike_87 : decode cX8_alike 87 = .ok (.iload_n 1, 1) := by decide +kernel
theorem dX8_alike_88 : decode cX8_alike 88 = .ok (.ifCond .ne 26, 3) := by decide +kernel
theorem dX8_alike_91 : decode cX8_alike 91 = .ok (.aload_n 0, 1) := by decide +kernel
theorem dX8_alike_92 : decode cX8_alike 92 = .ok (.getfield 73, 3) := by decide +kernel
theorem dX8_alike_95 : decode cX8_alike 95 = .ok (.iconst 0, 1) := by decide +kernel
theorem dX8_alike_96 : decode cX8_alike 96 = .ok (.iaload, 1) := by decide +kernel
theorem dX8_alike_97 : decode cX8_alike 97 = .ok (.aload_n 0, 1) := by decide +kernel
theorem dX8_alike_98 : decode cX8_alike 98 = .ok (.getfield 73, 3) := by decide +kernel
theorem dX8_alike_101 : decode cX8_alike 101 = .ok (.iconst 1, 1) := by decide +kernel
theorem dX8_alike_102 : decode cX8_alike 102 = .ok (.iaload, 1) := by decide +kernel
theorem dX8_alike_103 : decode cX8_alike 103 = .ok (.if_icmp .ne 15, 3) := by decide +kernel
theorem dX8_alike_106 : decode cX8_alike 106 = .ok (.aload_n 0, 1) := by decide +kernel
theorem dX8_alike_107 : decode cX8_alike 107 = .ok (.iload_n 2, 1) := by decide +kernel
theorem dX8_alike_108 : decode cX8_alike 108 = .ok (.invokevirtual 193, 3) := by decide +kernel
theorem dX8_alike_111 : decode cX8_alike 111 = .ok (.ifCond .eq 7, 3) := by decide +kernel
theorem dX8_alike_114 : decode cX8_alike 114 = .ok (.iconst 1, 1) := by decide +kernel
theorem dX8_alike_115 : decode cX8_alike 115 = .ok (.goto 4, 3) := by decide +kernel
theorem dX8_alike_118 : decode cX8_alike 118 = .ok (.iconst 0, 1) := by decide +kernel
theorem dX8_alike_119 : decode cX8_alike 119 = .ok (.istore_n 1, 1) := by decide +kernel
theorem dX8_alike_120 : decode cX8_alike 120 = .ok (.iinc 2 1, 3) := by decide +kernel
theorem dX8_alike_123 : decode cX8_alike 123 = .ok (.goto (-46), 3) := by decide +kernel
theorem dX8_alike_126 : decode cX8_alike 126 = .ok (.iload_n 1, 1) := by decide +kernel
theorem dX8_alike_127 : decode cX8_alike 127 = .ok (.ifCond .eq 7, 3) := by decide +kernel
theorem dX8_alike_130 : decode cX8_alike 130 = .ok (.iconst 1, 1) := by decide +kernel
theorem dX8_alike_131 : decode cX8_alike 131 = .ok (.goto 4, 3) := by decide +kernel
theorem dX8_alike_134 : decode cX8_alike 134 = .ok (.iconst 0, 1) := by decide +kernel
theorem dX8_alike_135 : decode cX8_alike 135 = .ok (.ireturn, 1) := by decide +kernel
set_option maxRecDepth 20000 in
theorem ggX8_mark_X8_in : GoodIn wsX8_mark wsX8_in := goodIn_r _ [7] (by decide +kernel) (by decide +kernel)
set_option maxRecDepth 20000 in
theorem gX8_mark_X8_in : GoodIn wsX8_mark (va_wsS RX8 82 yX8_in wsX8_in) := goodIn_app (goodIn_of _ (by decide +kernel)) ggX8_mark_X8_in
theorem dX8_mark_0 : decode cX8_mark 0 = .ok (.iload_n 1, 1) := by decide +kernel
theorem dX8_mark_1 : decode cX8_mark 1 = .ok (.i2l, 1) := by decide +kernel
theorem dX8_mark_2 : decode cX8_mark 2 = .ok (.lconst 0, 1) := by decide +kernel
theorem dX8_mark_3 : decode cX8_mark 3 = .ok (.lconst 1, 1) := by decide +kernel
theorem dX8_mark_4 : decode cX8_mark 4 = .ok (.invokestatic 82, 3) := by decide +kernel
theorem dX8_mark_7 : decode cX8_mark 7 = .ok (.ifCond .eq 15, 3) := by decide +kernel
theorem dX8_mark_10 : decode cX8_mark 10 = .ok (.iload_n 2, 1) := by decide +kernel
theorem dX8_mark_11 : decode cX8_mark 11 = .ok (.i2l, 1) := by decide +kernel
theorem dX8_mark_12 : decode cX8_mark 12 = .ok (.lconst 0, 1) := by decide +kernel
theorem dX8_mark_13 : decode cX8_mark 13 = .ok (.ldc2_w 103, 3) := by decide +kernel
theorem dX8_mark_16 : decode cX8_mark 16 = .ok (.invokestatic 82, 3) := by decide +kernel
theorem dX8_mark_19 : decode cX8_mark 19 = .ok (.ifCond .ne 5, 3) := by decide +kernel
theorem dX8_mark_22 : decode cX8_mark 22 = .ok (.iconst (-1), 1) := by decide +kernel
theorem dX8_mark_23 : decode cX8_mark 23 = .ok (.ireturn, 1) := by decide +kernel
theorem dX8_mark_24 : decode cX8_mark 24 = .ok (.bipush 100, 2) := by decide +kernel
theorem dX8_mark_26 : decode cX8_mark 26 = .ok (.istore_n 3, 1) := by decide +kernel
theorem dX8_mark_27 : decode cX8_mark 27 = .ok (.iconst 0, 1) := by decide +kernel
theorem dX8_mark_28 : decode cX8_mark 28 = .ok (.istore 4, 2) := by decide +kernel
theorem dX8_mark_30 : decode cX8_mark 30 = .ok (.iload 4, 2) := by decide +kernel
theorem dX8_mark_32 : decode cX8_mark 32 = .ok (.aload_n 0, 1) := by decide +kernel
theorem dX8_mark_33 : decode cX8_mark 33 = .ok (.getfield 52, 3) := by decide +kernel
theorem dX8_mark_36 : decode cX8_mark 36 = .ok (.iload_n 1, 1) := by decide +kernel
theorem dX8_mark_37 : decode cX8_mark 37 = .ok (.iaload, 1) := by decide +kernel
theorem dX8_mark_38 : decode cX8_mark 38 = .ok (.if_icmp .ge 50, 3) := by decide +kernel
theorem dX8_mark_41 : decode cX8_mark 41 = .ok (.aload_n 0, 1) := by decide +kernel
theorem dX8_mark_42 : decode cX8_mark 42 = .ok (.getfield 55, 3) := by decide +kernel
theorem dX8_mark_45 : decode cX8_mark 45 = .ok (.bipush 16, 2) := by decide +kernel
theorem dX8_mark_47 : decode cX8_mark 47 = .ok (.iload_n 1, 1) := by decide +kernel
theorem dX8_mark_48 : decode cX8_mark 48 = .ok (.imul, 1) := by decide +kernel
theorem dX8_mark_49 : decode cX8_mark 49 = .ok (.iload 4, 2) := by decide +kernel
theorem dX8_mark_51 : decode cX8_mark 51 = .ok (.iadd, 1) := by decide +kernel
theorem dX8_mark_52 : decode cX8_mark 52 = .ok (.iaload, 1) := by decide +kernel
theorem dX8_mark_53 : decode cX8_mark 53 = .ok (.istore 5, 2) := by decide +kernel
theorem dX8_mark_55 : decode cX8_mark 55 = .ok (.iload_n 3, 1) := by decide +kernel
theorem dX8_mark_56 : decode cX8_mark 56 = .ok (.iload 5, 2) := by decide +kernel
theorem dX8_mark_58 : decode cX8_mark 58 = .ok (.iconst 2, 1) := by decide +kernel
theorem dX8_mark_59 : decode cX8_mark 59 = .ok (.idiv, 1) := by decide +kernel
theorem dX8_mark_60 : decode cX8_mark 60 = .ok (.iload_n 2, 1) := by decide +kernel
theorem dX8_mark_61 : decode cX8_mark 61 = .ok (.if_icmp .eq 7, 3) := by decide +kernel
theorem dX8_mark_64 : decode cX8_mark 64 = .ok (.iconst 0, 1) := by decide +kernel
theorem dX8_mark_65 : decode cX8_mark 65 = .ok (.goto 15, 3) := by decide +kernel
theorem dX8_mark_68 : decode cX8_mark 68 = .ok (.iload 5, 2) := by decide +kernel
theorem dX8_mark_70 : decode cX8_mark 70 = .ok (.iconst 2, 1) := by decide +kernel
theorem dX8_mark_71 : decode cX8_mark 71 = .ok (.irem, 1) := by decide +kernel
theorem dX8_mark_72 : decode cX8_mark 72 = .ok (.ifCond .ne 7, 3) := by decide +kernel
theorem dX8_mark_75 : decode cX8_mark 75 = .ok (.iconst 1, 1) := by decide +kernel
theorem dX8_mark_76 : decode cX8_mark 76 = .ok (.goto 4, 3) := by decide +kernel
theorem dX8_mark_79 : decode cX8_mark 79 = .ok (.iconst (-1), 1) := by decide +kernel
theorem dX8_mark_80 : decode cX8_mark 80 = .ok (.iadd, 1) := by decide +kernel
theorem dX8_mark_81 : decode cX8_mark 81 = .ok (.istore_n 3, 1) := by decide +kernel
theorem dX8_mark_82 : decode cX8_mark 82 = .ok (.iinc 4 1, 3) := by decide +kernel
theorem dX8_mark_85 : decode cX8_mark 85 = .ok (.goto (-55), 3) := by decide +kernel
theorem dX8_mark_88 : decode cX8_mark 88 = .ok (.iload_n 3, 1) := by decide +kernel
theorem dX8_mark_89 : decode cX8_mark 89 = .ok (.ireturn, 1) := by decide +kernel
set_option maxRecDepth 20000 in
theorem ggX8_year_X8_in : GoodIn wsX8_year wsX8_in := goodIn_r _ [16] (by decide +kernel) (by decide +kernel)
set_option maxRecDepth 20000 in
theorem gX8_year_X8_in : GoodIn wsX8_year (va_wsS RX8 82 yX8_in wsX8_in) := goodIn_app (goodIn_of _ (by decide +kernel)) ggX8_year_X8_in
set_option maxRecDepth 20000 in
theorem ggX8_year_X8_has : GoodIn wsX8_year wsX8_has := goodIn_r _ [19] (by decide +kernel) (by decide +kernel)
set_option maxRecDepth 20000 in
theorem gX8_year_X8_has : GoodIn wsX8_year (va_wsS RX8 140 yX8_has wsX8_has) := goodIn_app (goodIn_of _ (by decide +kernel)) ggX8_year_X8_has
set_option maxRecDepth 20000 in
theorem ggX8_year_X8_mayBe : GoodIn wsX8_year wsX8_mayBe := goodIn_r _ [23, 7, 11, 9, 10, 24, 25, 26, 17, 18, 15, 19, 27, 28, 29, 30, 31, 32, 33, 34, 35, 36, 37, 38, 39, 40, 41, 42, 43, 44, 45, 46, 47, 48, 49, 50, 51, 52, 53, 54, 55, 56, 57] (by decide +kernel) (by decide +kernel)
set_option maxRecDepth 20000 in
theorem gX8_year_X8_mayBe : GoodIn wsX8_year (wsV RX8 159 RX8 yX8_mayBe wsX8_mayBe) := goodIn_app (goodIn_of _ (by decide +kernel)) ggX8_year_X8_mayBe
theorem dX8_year_0 : decode cX8_year 0 = .ok (.iload_n 1, 1) := by decide +kernel
theorem dX8_year_1 : decode cX8_year 1 = .ok (.i2l, 1) := by decide +kernel
theorem dX8_year_2 : decode cX8_year 2 = .ok (.lconst 0, 1) := by decide +kernel
theorem dX8_year_3 : decode cX8_year 3 = .ok (.ldc2_w 199, 3) := by decide +kernel
theorem dX8_year_6 : decode cX8_year 6 = .ok (.invokestatic 82, 3) := by decide +kernel
theorem dX8_year_9 : decode cX8_year 9 = .ok (.ifCond .eq 25, 3) := by decide +kernel
theorem dX8_year_12 : decode cX8_year 12 = .ok (.iload_n 2, 1) := by decide +kernel
theorem dX8_year_13 : decode cX8_year 13 = .ok (.i2l, 1) := by decide +kernel
theorem dX8_year_14 : decode cX8_year 14 = .ok (.lconst 1, 1) := by decide +kernel
theorem dX8_year_15 : decode cX8_year 15 = .ok (.ldc2_w 201, 3) := by decide +kernel
theorem dX8_year_18 : decode cX8_year 18 = .ok (.invokestatic 82, 3) := by decide +kernel
theorem dX8_year_21 : decode cX8_year 21 = .ok (.ifCond .eq 13, 3) := by decide +kernel
theorem dX8_year_24 : decode cX8_year 24 = .ok (.iload_n 3, 1) := by decide +kernel
theorem dX8_year_25 : decode cX8_year 25 = .ok (.i2l, 1) := by decide +kernel
theorem dX8_year_26 : decode cX8_year 26 = .ok (.lconst 0, 1) := by decide +kernel
theorem dX8_year_27 : decode cX8_year 27 = .ok (.lconst 1, 1) := by decide +kernel
theorem dX8_year_28 : decode cX8_year 28 = .ok (.invokestatic 82, 3) := by decide +kernel
theorem dX8_year_31 : decode cX8_year 31 = .ok (.ifCond .ne 5, 3) := by decide +kernel
theorem dX8_year_34 : decode cX8_year 34 = .ok (.iconst (-1), 1) := by decide +kernel
theorem dX8_year_35 : decode cX8_year 35 = .ok (.ireturn, 1) := by decide +kernel
theorem dX8_year_36 : decode cX8_year 36 = .ok (.aload_n 0, 1) := by decide +kernel
theorem dX8_year_37 : decode cX8_year 37 = .ok (.getfield 40, 3) := by decide +kernel
theorem dX8_year_40 : decode cX8_year 40 = .ok (.iconst 0, 1) := by decide +kernel
theorem dX8_year_41 : decode cX8_year 41 = .ok (.iaload, 1) := by decide +kernel
theorem dX8_year_42 : decode cX8_year 42 = .ok (.istore 4, 2) := by decide +kernel
theorem dX8_year_44 : decode cX8_year 44 = .ok (.iconst 0, 1) := by decide +kernel
theorem dX8_year_45 : decode cX8_year 45 = .ok (.istore 5, 2) := by decide +kernel
theorem dX8_year_47 : decode cX8_year 47 = .ok (.iconst 0, 1) := by decide +kernel
theorem dX8_year_48 : decode cX8_year 48 = .ok (.istore 6, 2) := by decide +kernel
theorem dX8_year_50 : decode cX8_year 50 = .ok (.iload 6, 2) := by decide +kernel
theorem dX8_year_52 : decode cX8_year 52 = .ok (.iload_n 2, 1) := by decide +kernel
theorem dX8_year_53 : decode cX8_year 53 = .ok (.if_icmp .ge 177, 3) := by decide +kernel
theorem dX8_year_56 : decode cX8_year 56 = .ok (.ldc2_w 203, 3) := by decide +kernel
theorem dX8_year_59 : decode cX8_year 59 = .ok (.iload_n 1, 1) := by decide +kernel
theorem dX8_year_60 : decode cX8_year 60 = .ok (.i2l, 1) := by decide +kernel
theorem dX8_year_61 : decode cX8_year 61 = .ok (.lmul, 1) := by decide +kernel
theorem dX8_year_62 : decode cX8_year 62 = .ok (.ldc2_w 205, 3) := by decide +kernel
theorem dX8_year_65 : decode cX8_year 65 = .ok (.iload 6, 2) := by decide +kernel
theorem dX8_year_67 : decode cX8_year 67 = .ok (.i2l, 1) := by decide +kernel
theorem dX8_year_68 : decode cX8_year 68 = .ok (.lmul, 1) := by decide +kernel
theorem dX8_year_69 : decode cX8_year 69 = .ok (.ladd, 1) := by decide +kernel
theorem dX8_year_70 : decode cX8_year 70 = .ok (.lconst 1, 1) := by decide +kernel
theorem dX8_year_71 : decode cX8_year 71 = .ok (.ladd, 1) := by decide +kernel
theorem dX8_year_72 : decode cX8_year 72 = .ok (.lstore 7, 2) := by decide +kernel
theorem dX8_year_74 : decode cX8_year 74 = .ok (.lload 7, 2) := by decide +kernel
theorem dX8_year_76 : decode cX8_year 76 = .ok (.lload 7, 2) := by decide +kernel
theorem dX8_year_78 : decode cX8_year 78 = .ok (.lmul, 1) := by decide +kernel
theorem dX8_year_79 : decode cX8_year 79 = .ok (.ldc2_w 207, 3) := by decide +kernel
theorem dX8_year_82 : decode cX8_year 82 = .ok (.lrem, 1) := by decide +kernel
theorem dX8_year_83 : decode cX8_year 83 = .ok (.aload_n 0, 1) := by decide +kernel
theorem dX8_year_84 : decode cX8_year 84 = .ok (.getfield 22, 3) := by decide +kernel
theorem dX8_year_87 : decode cX8_year 87 = .ok (.iconst 0, 1) := by decide +kernel
theorem dX8_year_88 : decode cX8_year 88 = .ok (.iaload, 1) := by decide +kernel
theorem dX8_year_89 : decode cX8_year 89 = .ok (.i2l, 1) := by decide +kernel
theorem dX8_year_90 : decode cX8_year 90 = .ok (.lrem, 1) := by decide +kernel
theorem dX8_year_91 : decode cX8_year 91 = .ok (.l2i, 1) := by decide +kernel
theorem dX8_year_92 : decode cX8_year 92 = .ok (.istore 9, 2) := by decide +kernel
theorem dX8_year_94 : decode cX8_year 94 = .ok (.aload_n 0, 1) := by decide +kernel
theorem dX8_year_95 : decode cX8_year 95 = .ok (.getfield 16, 3) := by decide +kernel
theorem dX8_year_98 : decode cX8_year 98 = .ok (.iconst 0, 1) := by decide +kernel
theorem dX8_year_99 : decode cX8_year 99 = .ok (.iaload, 1) := by decide +kernel
theorem dX8_year_100 : decode cX8_year 100 = .ok (.aload_n 0, 1) := by decide +kernel
theorem dX8_year_101 : decode cX8_year 101 = .ok (.getfield 25, 3) := by decide +kernel
theorem dX8_year_104 : decode cX8_year 104 = .ok (.iload 9, 2) := by decide +kernel
theorem dX8_year_106 : decode cX8_year 106 = .ok (.iaload, 1) := by decide +kernel
theorem dX8_year_107 : decode cX8_year 107 = .ok (.invokestatic 140, 3) := by decide +kernel
theorem dX8_year_110 : decode cX8_year 110 = .ok (.ifCond .eq 41, 3) := by decide +kernel
theorem dX8_year_113 : decode cX8_year 113 = .ok (.aload_n 0, 1) := by decide +kernel
theorem dX8_year_114 : decode cX8_year 114 = .ok (.getfield 16, 3) := by decide +kernel
theorem dX8_year_117 : decode cX8_year 117 = .ok (.iconst 0, 1) := by decide +kernel
theorem dX8_year_118 : decode cX8_year 118 = .ok (.iaload, 1) := by decide +kernel
theorem dX8_year_119 : decode cX8_year 119 = .ok (.aload_n 0, 1) := by decide +kernel
theorem dX8_year_120 : decode cX8_year 120 = .ok (.getfield 28, 3) := by decide +kernel
theorem dX8_year_123 : decode cX8_year 123 = .ok (.iload 9, 2) := by decide +kernel
theorem dX8_year_125 : decode cX8_year 125 = .ok (.iaload, 1) := by decide +kernel
theorem dX8_year_126 : decode cX8_year 126 = .ok (.invokestatic 140, 3) := by decide +kernel
theorem dX8_year_129 : decode cX8_year 129 = .ok (.ifCond .eq 22, 3) := by decide +kernel
theorem dX8_year_132 : decode cX8_year 132 = .ok (.aload_n 0, 1) := by decide +kernel
theorem dX8_year_133 : decode cX8_year 133 = .ok (.getfield 31, 3) := by decide +kernel
theorem dX8_year_136 : decode cX8_year 136 = .ok (.iload 9, 2) := by decide +kernel
theorem dX8_year_138 : decode cX8_year 138 = .ok (.iaload, 1) := by decide +kernel
theorem dX8_year_139 : decode cX8_year 139 = .ok (.iload 4, 2) := by decide +kernel
theorem dX8_year_141 : decode cX8_year 141 = .ok (.iconst (-1), 1) := by decide +kernel
theorem dX8_year_142 : decode cX8_year 142 = .ok (.ixor, 1) := by decide +kernel
theorem dX8_year_143 : decode cX8_year 143 = .ok (.iand, 1) := by decide +kernel
theorem dX8_year_144 : decode cX8_year 144 = .ok (.ifCond .ne 7, 3) := by decide +kernel
theorem dX8_year_147 : decode cX8_year 147 = .ok (.iconst 1, 1) := by decide +kernel
theorem dX8_year_148 : decode cX8_year 148 = .ok (.goto 4, 3) := by decide +kernel
theorem dX8_year_151 : decode cX8_year 151 = .ok (.iconst 0, 1) := by decide +kernel
theorem dX8_year_152 : decode cX8_year 152 = .ok (.istore 10, 2) := by decide +kernel
theorem dX8_year_154 : decode cX8_year 154 = .ok (.iload 4, 2) := by decide +kernel
theorem dX8_year_156 : decode cX8_year 156 = .ok (.iload 9, 2) := by decide +kernel
theorem dX8_year_158 : decode cX8_year 158 = .ok (.invokestatic 140, 3) := by decide +kernel
theorem dX8_year_161 : decode cX8_year 161 = .ok (.ifCond .eq 26, 3) := by decide +kernel
theorem dX8_year_164 : decode cX8_year 164 = .ok (.aload_n 0, 1) := by decide +kernel
theorem dX8_year_165 : decode cX8_year 165 = .ok (.iload 9, 2) := by decide +kernel
theorem dX8_year_167 : decode cX8_year 167 = .ok (.iload 4, 2) := by decide +kernel
theorem dX8_year_169 : decode cX8_year 169 = .ok (.aload_n 0, 1) := by decide +kernel
theorem dX8_year_170 : decode cX8_year 170 = .ok (.getfield 16, 3) := by decide +kernel
theorem dX8_year_173 : decode cX8_year 173 = .ok (.iconst 0, 1) := by decide +kernel
theorem dX8_year_174 : decode cX8_year 174 = .ok (.iaload, 1) := by decide +kernel
theorem dX8_year_175 : decode cX8_year 175 = .ok (.aload_n 0, 1) := by decide +kernel
theorem dX8_year_176 : decode cX8_year 176 = .ok (.getfield 43, 3) := by decide +kernel
theorem dX8_year_179 : decode cX8_year 179 = .ok (.iconst 0, 1) := by decide +kernel
theorem dX8_year_180 : decode cX8_year 180 = .ok (.iaload, 1) := by decide +kernel
theorem dX8_year_181 : decode cX8_year 181 = .ok (.invokevirtual 159, 3) := by decide +kernel
theorem dX8_year_184 : decode cX8_year 184 = .ok (.goto 5, 3) := by decide +kernel
theorem dX8_year_187 : decode cX8_year 187 = .ok (.iload 10, 2) := by decide +kernel
theorem dX8_year_189 : decode cX8_year 189 = .ok (.istore 11, 2) := by decide +kernel
theorem dX8_year_191 : decode cX8_year 191 = .ok (.iload 4, 2) := by decide +kernel
theorem dX8_year_193 : decode cX8_year 193 = .ok (.iload 11, 2) := by decide +kernel
theorem dX8_year_195 : decode cX8_year 195 = .ok (.ifCond .eq 10, 3) := by decide +kernel
theorem dX8_year_198 : decode cX8_year 198 = .ok (.iconst 1, 1) := by decide +kernel
theorem dX8_year_199 : decode cX8_year 199 = .ok (.iload 9, 2) := by decide +kernel
theorem dX8_year_201 : decode cX8_year 201 = .ok (.ishl, 1) := by decide +kernel
theorem dX8_year_202 : decode cX8_year 202 = .ok (.goto 4, 3) := by decide +kernel
theorem dX8_year_205 : decode cX8_year 205 = .ok (.iconst 0, 1) := by decide +kernel
theorem dX8_year_206 : decode cX8_year 206 = .ok (.ixor, 1) := by decide +kernel
theorem dX8_year_207 : decode cX8_year 207 = .ok (.istore 4, 2) := by decide +kernel
theorem dX8_year_209 : decode cX8_year 209 = .ok (.iload 5, 2) := by decide +kernel
theorem dX8_year_211 : decode cX8_year 211 = .ok (.iload 11, 2) := by decide +kernel
theorem dX8_year_213 : decode cX8_year 213 = .ok (.ifCond .eq 7, 3) := by decide +kernel
theorem dX8_year_216 : decode cX8_year 216 = .ok (.iconst 1, 1) := by decide +kernel
theorem dX8_year_217 : decode cX8_year 217 = .ok (.goto 4, 3) := by decide +kernel
theorem dX8_year_220 : decode cX8_year 220 = .ok (.iconst 0, 1) := by decide +kernel
theorem dX8_year_221 : decode cX8_year 221 = .ok (.iadd, 1) := by decide +kernel
theorem dX8_year_222 : decode cX8_year 222 = .ok (.istore 5, 2) := by decide +kernel
theorem dX8_year_224 : decode cX8_year 224 = .ok (.iinc 6 1, 3) := by decide +kernel
theorem dX8_year_227 : decode cX8_year 227 = .ok (.goto (-177), 3) := by decide +kernel
theorem dX8_year_230 : decode cX8_year 230 = .ok (.iload_n 3, 1) := by decide +kernel
theorem dX8_year_231 : decode cX8_year 231 = .ok (.ifCond .ne 8, 3) := by decide +kernel
theorem dX8_year_234 : decode cX8_year 234 = .ok (.iload 4, 2) := by decide +kernel
theorem dX8_year_236 : decode cX8_year 236 = .ok (.goto 5, 3) := by decide +kernel
theorem dX8_year_239 : decode cX8_year 239 = .ok (.iload 5, 2) := by decide +kernel
theorem dX8_year_241 : decode cX8_year 241 = .ok (.ireturn, 1) := by decide +kernel
set_option maxRecDepth 20000 in
theorem ggX8_keep_X8_copy : GoodIn wsX8_keep wsX8_copy := goodIn_r _ [6, 7, 8, 9, 10, 11, 12, 13, 14, 15, 16, 17, 18, 19, 20, 21, 22, 23, 24, 25, 26, 27, 28, 29, 30, 31, 32, 33, 34, 35, 36, 37, 38, 39, 40, 41] (by decide +kernel) (by decide +kernel)
set_option maxRecDepth 20000 in
theorem gX8_keep_X8_copy : GoodIn wsX8_keep (wsV RX8 127 RX8 yX8_copy wsX8_copy) := goodIn_app (goodIn_of _ (by decide +kernel)) ggX8_keep_X8_copy
theorem dX8_keep_0 : decode cX8_keep 0 = .ok (.aload_n 0, 1) := by decide +kernel
theorem dX8_keep_1 : decode cX8_keep 1 = .ok (.getfield 131, 3) := by decide +kernel
theorem dX8_keep_4 : decode cX8_keep 4 = .ok (.iconst 2, 1) := by decide +kernel
theorem dX8_keep_5 : decode cX8_keep 5 = .ok (.if_icmp .ne 6, 3) := by decide +kernel
theorem dX8_keep_8 : decode cX8_keep 8 = .ok (.bipush (-3), 2) := by decide +kernel
theorem dX8_keep_10 : decode cX8_keep 10 = .ok (.ireturn, 1) := by decide +kernel
theorem dX8_keep_11 : decode cX8_keep 11 = .ok (.aload_n 0, 1) := by decide +kernel
theorem dX8_keep_12 : decode cX8_keep 12 = .ok (.dup, 1) := by decide +kernel
theorem dX8_keep_13 : decode cX8_keep 13 = .ok (.getfield 131, 3) := by decide +kernel
theorem dX8_keep_16 : decode cX8_keep 16 = .ok (.iconst 1, 1) := by decide +kernel
theorem dX8_keep_17 : decode cX8_keep 17 = .ok (.iadd, 1) := by decide +kernel
theorem dX8_keep_18 : decode cX8_keep 18 = .ok (.putfield 131, 3) := by decide +kernel
theorem dX8_keep_21 : decode cX8_keep 21 = .ok (.aload_n 0, 1) := by decide +kernel
theorem dX8_keep_22 : decode cX8_keep 22 = .ok (.iconst 0, 1) := by decide +kernel
theorem dX8_keep_23 : decode cX8_keep 23 = .ok (.iconst 1, 1) := by decide +kernel
theorem dX8_keep_24 : decode cX8_keep 24 = .ok (.aload_n 0, 1) := by decide +kernel
theorem dX8_keep_25 : decode cX8_keep 25 = .ok (.getfield 131, 3) := by decide +kernel
theorem dX8_keep_28 : decode cX8_keep 28 = .ok (.iadd, 1) := by decide +kernel
theorem dX8_keep_29 : decode cX8_keep 29 = .ok (.invokevirtual 127, 3) := by decide +kernel
theorem dX8_keep_32 : decode cX8_keep 32 = .ok (.aload_n 0, 1) := by decide +kernel
theorem dX8_keep_33 : decode cX8_keep 33 = .ok (.getfield 131, 3) := by decide +kernel
theorem dX8_keep_36 : decode cX8_keep 36 = .ok (.ireturn, 1) := by decide +kernel
set_option maxRecDepth 20000 in
theorem ggX8_back_X8_copy : GoodIn wsX8_back wsX8_copy := goodIn_r _ [8, 9, 10, 11, 12, 13, 14, 15, 16, 17, 18, 19, 20, 21, 22, 23, 24, 25, 26, 27, 28, 29, 30, 31, 32, 33, 34, 35, 36, 37, 38, 39, 40, 41, 42, 43] (by decide +kernel) (by decide +kernel)
set_option maxRecDepth 20000 in
theorem gX8_back_X8_copy : GoodIn wsX8_back (wsV RX8 127 RX8 yX8_copy wsX8_copy) := goodIn_app (goodIn_of _ (by decide +kernel)) ggX8_back_X8_copy
theorem dX8_back_0 : decode cX8_back 0 = .ok (.aload_n 0, 1) := by decide +kernel
theorem dX8_back_1 : decode cX8_back 1 = .ok (.getfield 131, 3) := by decide +kernel
theorem dX8_back_4 : decode cX8_back 4 = .ok (.ifCond .ne 6, 3) := by decide +kernel
theorem dX8_back_7 : decode cX8_back 7 = .ok (.bipush (-2), 2) := by decide +kernel
theorem dX8_back_9 : decode cX8_back 9 = .ok (.ireturn, 1) := by decide +kernel
theorem dX8_back_10 : decode cX8_back 10 = .ok (.aload_n 0, 1) := by decide +kernel
theorem dX8_back_11 : decode cX8_back 11 = .ok (.iconst 1, 1) := by decide +kernel
theorem dX8_back_12 : decode cX8_back 12 = .ok (.aload_n 0, 1) := by decide +kernel
theorem dX8_back_13 : decode cX8_back 13 = .ok (.getfield 131, 3) := by decide +kernel
theorem dX8_back_16 : decode cX8_back 16 = .ok (.iadd, 1) := by decide +kernel
theorem dX8_back_17 : decode cX8_back 17 = .ok (.iconst 0, 1) := by decide +kernel
theorem dX8_back_18 : decode cX8_back 18 = .ok (.invokevirtual 127, 3) := by decide +kernel
theorem dX8_back_21 : decode cX8_back 21 = .ok (.aload_n 0, 1) := by decide +kernel
theorem dX8_back_22 : decode cX8_back 22 = .ok (.dup, 1) := by decide +kernel
theorem dX8_back_23 : decode cX8_back 23 = .ok (.getfield 131, 3) := by decide +kernel
theorem dX8_back_26 : decode cX8_back 26 = .ok (.iconst 1, 1) := by decide +kernel
theorem dX8_back_27 : decode cX8_back 27 = .ok (.isub, 1) := by decide +kernel
theorem dX8_back_28 : decode cX8_back 28 = .ok (.putfield 131, 3) := by decide +kernel
theorem dX8_back_31 : decode cX8_back 31 = .ok (.aload_n 0, 1) := by decide +kernel
theorem dX8_back_32 : decode cX8_back 32 = .ok (.iconst 0, 1) := by decide +kernel
theorem dX8_back_33 : decode cX8_back 33 = .ok (.putfield 134, 3) := by decide +kernel
theorem dX8_back_36 : decode cX8_back 36 = .ok (.aload_n 0, 1) := by decide +kernel
theorem dX8_back_37 : decode cX8_back 37 = .ok (.iconst 0, 1) := by decide +kernel
theorem dX8_back_38 : decode cX8_back 38 = .ok (.putfield 137, 3) := by decide +kernel
theorem dX8_back_41 : decode cX8_back 41 = .ok (.aload_n 0, 1) := by decide +kernel
theorem dX8_back_42 : decode cX8_back 42 = .ok (.getfield 131, 3) := by decide +kernel
theorem dX8_back_45 : decode cX8_back 45 = .ok (.ireturn, 1) := by decide +kernel
set_option maxRecDepth 20000 in
theorem ggX8_count_X8_bits : GoodIn wsX8_count wsX8_bits := goodIn_r _ [13] (by decide +kernel) (by decide +kernel)
set_option maxRecDepth 20000 in
theorem gX8_count_X8_bits : GoodIn wsX8_count (va_wsS RX8 166 yX8_bits wsX8_bits) := goodIn_app (goodIn_of _ (by decide +kernel)) ggX8_count_X8_bits
theorem dX8_count_0 : decode cX8_count 0 = .ok (.iload_n 1, 1) := by decide +kernel
theorem dX8_count_1 : decode cX8_count 1 = .ok (.tableswitch 109 0 8 #[51, 58, 65, 75, 82, 87, 92, 97, 102], 51) := by decide +kernel
theorem dX8_count_52 : decode cX8_count 52 = .ok (.aload_n 0, 1) := by decide +kernel
theorem dX8_count_53 : decode cX8_count 53 = .ok (.getfield 13, 3) := by decide +kernel
theorem dX8_count_56 : decode cX8_count 56 = .ok (.iconst 0, 1) := by decide +kernel
theorem dX8_count_57 : decode cX8_count 57 = .ok (.iaload, 1) := by decide +kernel
theorem dX8_count_58 : decode cX8_count 58 = .ok (.ireturn, 1) := by decide +kernel
theorem dX8_count_59 : decode cX8_count 59 = .ok (.aload_n 0, 1) := by decide +kernel
theorem dX8_count_60 : decode cX8_count 60 = .ok (.getfield 22, 3) := by decide +kernel
theorem dX8_count_63 : decode cX8_count 63 = .ok (.iconst 0, 1) := by decide +kernel
theorem dX8_count_64 : decode cX8_count 64 = .ok (.iaload, 1) := by decide +kernel
theorem dX8_count_65 : decode cX8_count 65 = .ok (.ireturn, 1) := by decide +kernel
theorem dX8_count_66 : decode cX8_count 66 = .ok (.aload_n 0, 1) := by decide +kernel
theorem dX8_count_67 : decode cX8_count 67 = .ok (.getfield 40, 3) := by decide +kernel
theorem dX8_count_70 : decode cX8_count 70 = .ok (.iconst 0, 1) := by decide +kernel
theorem dX8_count_71 : decode cX8_count 71 = .ok (.iaload, 1) := by decide +kernel
theorem dX8_count_72 : decode cX8_count 72 = .ok (.invokestatic 166, 3) := by decide +kernel
theorem dX8_count_75 : decode cX8_count 75 = .ok (.ireturn, 1) := by decide +kernel
theorem dX8_count_76 : decode cX8_count 76 = .ok (.aload_n 0, 1) := by decide +kernel
theorem dX8_count_77 : decode cX8_count 77 = .ok (.getfield 43, 3) := by decide +kernel
theorem dX8_count_80 : decode cX8_count 80 = .ok (.iconst 0, 1) := by decide +kernel
theorem dX8_count_81 : decode cX8_count 81 = .ok (.iaload, 1) := by decide +kernel
theorem dX8_count_82 : decode cX8_count 82 = .ok (.ireturn, 1) := by decide +kernel
theorem dX8_count_83 : decode cX8_count 83 = .ok (.aload_n 0, 1) := by decide +kernel
theorem dX8_count_84 : decode cX8_count 84 = .ok (.getfield 137, 3) := by decide +kernel
theorem dX8_count_87 : decode cX8_count 87 = .ok (.ireturn, 1) := by decide +kernel
theorem dX8_count_88 : decode cX8_count 88 = .ok (.aload_n 0, 1) := by decide +kernel
theorem dX8_count_89 : decode cX8_count 89 = .ok (.getfield 134, 3) := by decide +kernel
theorem dX8_count_92 : decode cX8_count 92 = .ok (.ireturn, 1) := by decide +kernel
theorem dX8_count_93 : decode cX8_count 93 = .ok (.aload_n 0, 1) := by decide +kernel
theorem dX8_count_94 : decode cX8_count 94 = .ok (.getfield 131, 3) := by decide +kernel
theorem dX8_count_97 : decode cX8_count 97 = .ok (.ireturn, 1) := by decide +kernel
theorem dX8_count_98 : decode cX8_count 98 = .ok (.aload_n 0, 1) := by decide +kernel
theorem dX8_count_99 : decode cX8_count 99 = .ok (.getfield 86, 3) := by decide +kernel
theorem dX8_count_102 : decode cX8_count 102 = .ok (.ireturn, 1) := by decide +kernel
theorem dX8_count_103 : decode cX8_count 103 = .ok (.aload_n 0, 1) := by decide +kernel
theorem dX8_count_104 : decode cX8_count 104 = .ok (.getfield 19, 3) := by decide +kernel
theorem dX8_count_107 : decode cX8_count 107 = .ok (.iconst 0, 1) := by decide +kernel
theorem dX8_count_108 : decode cX8_count 108 = .ok (.iaload, 1) := by decide +kernel
theorem dX8_count_109 : decode cX8_count 109 = .ok (.ireturn, 1) := by decide +kernel
theorem dX8_count_110 : decode cX8_count 110 = .ok (.iconst (-1), 1) := by decide +kernel
theorem dX8_count_111 : decode cX8_count 111 = .ok (.ireturn, 1) := by decide +kernel
theorem dJ6_bitCount_0f7a4_0 : decode cJ6_bitCount_0f7a4 0 = .ok (.iload_n 0, 1) := by decide +kernel
theorem dJ6_bitCount_0f7a4_1 : decode cJ6_bitCount_0f7a4 1 = .ok (.iload_n 0, 1) := by decide +kernel
theorem dJ6_bitCount_0f7a4_2 : decode cJ6_bitCount_0f7a4 2 = .ok (.iconst 1, 1) := by decide +kernel
theorem dJ6_bitCount_0f7a4_3 : decode cJ6_bitCount_0f7a4 3 = .ok (.iushr, 1) := by decide +kernel
theorem dJ6_bitCount_0f7a4_4 : decode cJ6_bitCount_0f7a4 4 = .ok (.ldc_w 265, 3) := by decide +kernel
theorem dJ6_bitCount_0f7a4_7 : decode cJ6_bitCount_0f7a4 7 = .ok (.iand, 1) := by decide +kernel
theorem dJ6_bitCount_0f7a4_8 : decode cJ6_bitCount_0f7a4 8 = .ok (.isub, 1) := by decide +kernel
theorem dJ6_bitCount_0f7a4_9 : decode cJ6_bitCount_0f7a4 9 = .ok (.istore_n 0, 1) := by decide +kernel
theorem dJ6_bitCount_0f7a4_10 : decode cJ6_bitCount_0f7a4 10 = .ok (.iload_n 0, 1) := by decide +kernel
theorem dJ6_bitCount_0f7a4_11 : decode cJ6_bitCount_0f7a4 11 = .ok (.ldc_w 266, 3) := by decide +kernel
theorem dJ6_bitCount_0f7a4_14 : decode cJ6_bitCount_0f7a4 14 = .ok (.iand, 1) := by decide +kernel
theorem dJ6_bitCount_0f7a4_15 : decode cJ6_bitCount_0f7a4 15 = .ok (.iload_n 0, 1) := by decide +kernel
theorem dJ6_bitCount_0f7a4_16 : decode cJ6_bitCount_0f7a4 16 = .ok (.iconst 2, 1) := by decide +kernel
theorem dJ6_bitCount_0f7a4_17 : decode cJ6_bitCount_0f7a4 17 = .ok (.iushr, 1) := by decide +kernel
theorem dJ6_bitCount_0f7a4_18 : decode cJ6_bitCount_0f7a4 18 = .ok (.ldc_w 266, 3) := by decide +kernel
theorem dJ6_bitCount_0f7a4_21 : decode cJ6_bitCount_0f7a4 21 = .ok (.iand, 1) := by decide +kernel
theorem dJ6_bitCount_0f7a4_22 : decode cJ6_bitCount_0f7a4 22 = .ok (.iadd, 1) := by decide +kernel
theorem dJ6_bitCount_0f7a4_23 : decode cJ6_bitCount_0f7a4 23 = .ok (.istore_n 0, 1) := by decide +kernel
theorem dJ6_bitCount_0f7a4_24 : decode cJ6_bitCount_0f7a4 24 = .ok (.iload_n 0, 1) := by decide +kernel
theorem dJ6_bitCount_0f7a4_25 : decode cJ6_bitCount_0f7a4 25 = .ok (.iload_n 0, 1) := by decide +kernel
theorem dJ6_bitCount_0f7a4_26 : decode cJ6_bitCount_0f7a4 26 = .ok (.iconst 4, 1) := by decide +kernel
theorem dJ6_bitCount_0f7a4_27 : decode cJ6_bitCount_0f7a4 27 = .ok (.iushr, 1) := by decide +kernel
theorem dJ6_bitCount_0f7a4_28 : decode cJ6_bitCount_0f7a4 28 = .ok (.iadd, 1) := by decide +kernel
theorem dJ6_bitCount_0f7a4_29 : decode cJ6_bitCount_0f7a4 29 = .ok (.ldc_w 267, 3) := by decide +kernel
theorem dJ6_bitCount_0f7a4_32 : decode cJ6_bitCount_0f7a4 32 = .ok (.iand, 1) := by decide +kernel
theorem dJ6_bitCount_0f7a4_33 : decode cJ6_bitCount_0f7a4 33 = .ok (.istore_n 0, 1) := by decide +kernel
theorem dJ6_bitCount_0f7a4_34 : decode cJ6_bitCount_0f7a4 34 = .ok (.iload_n 0, 1) := by decide +kernel
theorem dJ6_bitCount_0f7a4_35 : decode cJ6_bitCount_0f7a4 35 = .ok (.iload_n 0, 1) := by decide +kernel
theorem dJ6_bitCount_0f7a4_36 : decode cJ6_bitCount_0f7a4 36 = .ok (.bipush 8, 2) := by decide +kernel
theorem dJ6_bitCount_0f7a4_38 : decode cJ6_bitCount_0f7a4 38 = .ok (.iushr, 1) := by decide +kernel
theorem dJ6_bitCount_0f7a4_39 : decode cJ6_bitCount_0f7a4 39 = .ok (.iadd, 1) := by decide +kernel
theorem dJ6_bitCount_0f7a4_40 : decode cJ6_bitCount_0f7a4 40 = .ok (.istore_n 0, 1) := by decide +kernel
theorem dJ6_bitCount_0f7a4_41 : decode cJ6_bitCount_0f7a4 41 = .ok (.iload_n 0, 1) := by decide +kernel
theorem dJ6_bitCount_0f7a4_42 : decode cJ6_bitCount_0f7a4 42 = .ok (.iload_n 0, 1) := by decide +kernel
theorem dJ6_bitCount_0f7a4_43 : decode cJ6_bitCount_0f7a4 43 = .ok (.bipush 16, 2) := by decide +kernel
theorem dJ6_bitCount_0f7a4_45 : decode cJ6_bitCount_0f7a4 45 = .ok (.iushr, 1) := by decide +kernel
theorem dJ6_bitCount_0f7a4_46 : decode cJ6_bitCount_0f7a4 46 = .ok (.iadd, 1) := by decide +kernel
theorem dJ6_bitCount_0f7a4_47 : decode cJ6_bitCount_0f7a4 47 = .ok (.istore_n 0, 1) := by decide +kernel
theorem dJ6_bitCount_0f7a4_48 : decode cJ6_bitCount_0f7a4 48 = .ok (.iload_n 0, 1) := by decide +kernel
theorem dJ6_bitCount_0f7a4_49 : decode cJ6_bitCount_0f7a4 49 = .ok (.bipush 63, 2) := by decide +kernel
theorem dJ6_bitCount_0f7a4_51 : decode cJ6_bitCount_0f7a4 51 = .ok (.iand, 1) := by decide +kernel
theorem dJ6_bitCount_0f7a4_52 : decode cJ6_bitCount_0f7a4 52 = .ok (.ireturn, 1) := by decide +kernel
theorem dJ9_min_7cf53_0 : decode cJ9_min_7cf53 0 = .ok (.iload_n 0, 1) := by decide +kernel
theorem dJ9_min_7cf53_1 : decode cJ9_min_7cf53 1 = .ok (.iload_n 1, 1) := by decide +kernel
theorem dJ9_min_7cf53_2 : decode cJ9_min_7cf53 2 = .ok (.if_icmp .gt 7, 3) := by decide +kernel
theorem dJ9_min_7cf53_5 : decode cJ9_min_7cf53 5 = .ok (.iload_n 0, 1) := by decide +kernel
theorem dJ9_min_7cf53_6 : decode cJ9_min_7cf53 6 = .ok (.goto 4, 3) := by decide +kernel
theorem dJ9_min_7cf53_9 : decode cJ9_min_7cf53 9 = .ok (.iload_n 1, 1) := by decide +kernel
theorem dJ9_min_7cf53_10 : decode cJ9_min_7cf53 10 = .ok (.ireturn, 1) := by decide +kernel
set_option maxRecDepth 20000 in
theorem ggL_law_X7_init : GoodIn wsL_law wsX7_init := goodIn_r _ [9, 10, 11, 12, 13, 14, 15, 16, 17, 18, 19, 20, 21, 22, 23, 24, 25, 26, 27, 28, 29, 30, 31, 32, 33, 34, 35, 36, 37, 38, 39, 40, 41, 42, 43, 44, 45, 46, 47, 48, 49, 50, 51, 52, 53, 54, 55, 56, 57, 58, 59, 60, 61, 62, 63, 64, 65, 66, 67, 68, 69, 70, 71, 72, 73, 74, 75, 76, 77, 78, 79, 80, 81, 82, 83, 84, 85, 86, 87, 88, 89, 90, 91, 92, 93, 94, 95, 96, 97, 98, 99, 100, 101, 102, 103, 104, 105, 106, 107, 108, 2, 109, 824, 825, 785, 786, 787, 788, 789, 790, 791, 792, 793, 794, 795, 796, 826, 827, 828, 829, 830, 831, 832, 833, 834, 835, 836, 837, 838, 839, 840, 841, 842, 843, 844, 845, 846, 847, 848, 849] (by decide +kernel) (by decide +kernel)
set_option maxRecDepth 20000 in
theorem gL_law_X7_init : GoodIn wsL_law (wsX7_init) := ggL_law_X7_init
set_option maxRecDepth 20000 in
theorem ggL_law_X8_init : GoodIn wsL_law wsX8_init := goodIn_r _ [112, 113, 11, 12, 49, 114, 115, 116, 117, 118, 119, 120, 121, 122, 123, 124, 125, 126, 127, 128, 129, 130, 131, 132, 133, 134, 135, 136, 137, 138, 5, 139, 797, 798, 799, 800, 801, 802, 803, 804, 805, 806, 807, 808, 809, 810, 811, 812, 813, 814, 815, 816, 817, 818, 819, 820, 821, 822, 823] (by decide +kernel) (by decide +kernel)
set_option maxRecDepth 20000 in
theorem gL_law_X8_init : GoodIn wsL_law (wsX8_init) := ggL_law_X8_init
set_option maxRecDepth 20000 in
theorem ggL_law_X7_write : GoodIn wsL_law wsX7_write := goodIn_r _ [143, 16, 144, 145, 146, 15, 147, 148, 149, 150, 151, 152, 50, 785, 786, 787, 788, 789, 790, 791, 792, 793, 794, 795, 796, 824, 825] (by decide +kernel) (by decide +kernel)
set_option maxRecDepth 20000 in
theorem gL_law_X7_write : GoodIn wsL_law (wsV RL 15 RX7 yX7_write wsX7_write) := goodIn_app (goodIn_of _ (by decide +kernel)) ggL_law_X7_write
set_option maxRecDepth 20000 in
theorem ggL_law_X8_write : GoodIn wsL_law wsX8_write := goodIn_r _ [156, 157, 158, 114, 159, 160, 161, 5, 162, 797, 798, 799, 800, 801, 802, 803, 804, 805, 806, 807, 808, 809, 810, 811, 812, 813, 814, 815, 816, 817, 818, 819, 820, 821, 822, 823] (by decide +kernel) (by decide +kernel)
set_option maxRecDepth 20000 in
theorem gL_law_X8_write : GoodIn wsL_law (wsV RL 19 RX8 yX8_write wsX8_write) := goodIn_app (goodIn_of _ (by decide +kernel)) ggL_law_X8_write
set_option maxRecDepth 20000 in
theorem ggL_law_X7_wipe : GoodIn wsL_law wsX7_wipe := goodIn_r _ [166, 16, 144, 145, 146, 15, 147, 148, 167, 168, 169, 170, 785, 786, 787, 788, 789, 790, 791, 792, 793, 794, 795, 796, 824, 825] (by decide +kernel) (by decide +kernel)
set_option maxRecDepth 20000 in
theorem gL_law_X7_wipe : GoodIn wsL_law (wsV RL 20 RX7 yX7_wipe wsX7_wipe) := goodIn_app (goodIn_of _ (by decide +kernel)) ggL_law_X7_wipe
set_option maxRecDepth 20000 in
theorem ggL_law_X8_wipe : GoodIn wsL_law wsX8_wipe := goodIn_r _ [174, 158, 797, 798, 799, 800, 801, 802, 803, 804, 805, 806, 807, 808, 809, 810, 811, 812, 813, 814, 815, 816, 817, 818, 819, 820, 821, 822, 823] (by decide +kernel) (by decide +kernel)
set_option maxRecDepth 20000 in
theorem gL_law_X8_wipe : GoodIn wsL_law (wsV RL 24 RX8 yX8_wipe wsX8_wipe) := goodIn_app (goodIn_of _ (by decide +kernel)) ggL_law_X8_wipe
set_option maxRecDepth 20000 in
theorem ggL_law_X7_fault : GoodIn wsL_law wsX7_fault := goodIn_r _ [178, 20, 16, 25, 179, 180, 181, 19, 182, 183, 184, 185, 23, 186, 88, 89, 187, 94, 95, 188, 189, 145, 146, 15, 147, 148, 190, 191, 192, 193, 50, 194, 195, 196, 197, 198, 199, 200, 54, 201, 202, 203, 204, 205, 206, 207, 208, 209, 210, 211, 85, 86, 87, 212, 213, 214, 215, 216, 91, 92, 93, 58, 59, 60, 61, 62, 63, 96, 97, 98, 99, 100, 101, 102, 103, 104, 105, 106, 107, 108, 2, 109, 785, 786, 787, 788, 789, 790, 791, 792, 793, 794, 795, 796, 827, 828, 829, 830, 831, 832, 833, 834, 835, 836, 837, 838, 824, 825, 826] (by decide +kernel) (by decide +kernel)
set_option maxRecDepth 20000 in
theorem gL_law_X7_fault : GoodIn wsL_law (wsV RL 25 RX7 yX7_fault wsX7_fault) := goodIn_app (goodIn_of _ (by decide +kernel)) ggL_law_X7_fault
set_option maxRecDepth 20000 in
theorem ggL_law_X8_fault : GoodIn wsL_law wsX8_fault := goodIn_r _ [220, 221, 222, 223, 5, 224, 225, 158, 136, 137, 138, 139, 115, 116, 117, 118, 124, 125, 226, 227, 228, 229, 130, 230, 231, 232, 233, 114, 234, 235, 236, 237, 238, 239, 240, 160, 161, 162, 241, 242, 243, 244, 245, 246, 247, 248, 249, 119, 120, 121, 122, 123, 797, 798, 799, 800, 801, 802, 803, 804, 805, 806, 807, 808, 809, 810, 811, 812, 813, 814, 815, 816, 817, 818, 819, 820, 821, 822, 823] (by decide +kernel) (by decide +kernel)
set_option maxRecDepth 20000 in
theorem gL_law_X8_fault : GoodIn wsL_law (wsV RL 28 RX8 yX8_fault wsX8_fault) := goodIn_app (goodIn_of _ (by decide +kernel)) ggL_law_X8_fault
set_option maxRecDepth 20000 in
theorem ggL_law_X7_lay : GoodIn wsL_law wsX7_lay := goodIn_r _ [253, 20, 16, 25, 24, 40, 44, 45, 32, 28, 179, 180, 181, 19, 182, 183, 184, 185, 23, 186, 88, 89, 187, 94, 95, 188, 189, 145, 146, 15, 147, 148, 190, 191, 192, 193, 50, 194, 195, 196, 197, 198, 199, 200, 54, 201, 202, 203, 204, 205, 206, 207, 208, 209, 210, 211, 85, 86, 87, 212, 213, 214, 215, 216, 91, 92, 93, 58, 59, 60, 61, 62, 63, 96, 97, 98, 99, 100, 101, 102, 103, 104, 105, 106, 107, 108, 2, 109, 254, 255, 256, 257, 258, 259, 260, 39, 261, 262, 263, 264, 265, 43, 266, 267, 268, 269, 270, 271, 31, 272, 273, 785, 786, 787, 788, 789, 790, 791, 792, 793, 794, 795, 796, 827, 828, 829, 830, 831, 832, 833, 834, 835, 836, 837, 838, 824, 825, 826, 845, 846, 847, 848, 849, 839, 840, 841, 842] (by decide +kernel) (by decide +kernel)
set_option maxRecDepth 20000 in
theorem gL_law_X7_lay : GoodIn wsL_law (wsV RL 29 RX7 yX7_lay wsX7_lay) := goodIn_app (goodIn_of _ (by decide +kernel)) ggL_law_X7_lay
set_option maxRecDepth 20000 in
theorem ggL_law_X8_lay : GoodIn wsL_law wsX8_lay := goodIn_r _ [277, 118, 115, 116, 117, 278, 279, 280, 128, 221, 222, 223, 5, 224, 225, 158, 136, 137, 138, 139, 124, 125, 226, 227, 228, 229, 130, 230, 231, 232, 233, 114, 234, 235, 236, 237, 238, 239, 240, 160, 161, 162, 241, 242, 243, 244, 245, 246, 247, 248, 249, 119, 120, 121, 122, 123, 281, 282, 283, 284, 797, 798, 799, 800, 801, 802, 803, 804, 805, 806, 807, 808, 809, 810, 811, 812, 813, 814, 815, 816, 817, 818, 819, 820, 821, 822, 823] (by decide +kernel) (by decide +kernel)
set_option maxRecDepth 20000 in
theorem gL_law_X8_lay : GoodIn wsL_law (wsV RL 32 RX8 yX8_lay wsX8_lay) := goodIn_app (goodIn_of _ (by decide +kernel)) ggL_law_X8_lay
set_option maxRecDepth 20000 in
theorem ggL_law_X7_knot : GoodIn wsL_law wsX7_knot := goodIn_r _ [288, 24, 289, 290, 291, 23, 292, 94, 293, 294, 2, 295, 296, 297, 298, 299, 300, 301, 302, 95, 61, 108, 109, 785, 786, 787, 788, 789, 790, 791, 792, 793, 794, 795, 796, 827, 828, 829, 830, 831, 832, 833, 834, 835, 836, 837, 838] (by decide +kernel) (by decide +kernel)
set_option maxRecDepth 20000 in
theorem gL_law_X7_knot : GoodIn wsL_law (wsV RL 33 RX7 yX7_knot wsX7_knot) := goodIn_app (goodIn_of _ (by decide +kernel)) ggL_law_X7_knot
set_option maxRecDepth 20000 in
theorem ggL_law_X8_knot : GoodIn wsL_law wsX8_knot := goodIn_r _ [306, 307, 119, 120, 121, 122, 123, 124, 308, 309, 310, 5, 311, 118, 160, 161, 162, 312, 313, 314, 315, 316, 317, 318, 797, 798, 799, 800, 801, 802, 803, 804, 805, 806, 807, 808, 809, 810, 811, 812, 813, 814, 815, 816, 817, 818, 819, 820, 821, 822, 823] (by decide +kernel) (by decide +kernel)
set_option maxRecDepth 20000 in
theorem gL_law_X8_knot : GoodIn wsL_law (wsV RL 37 RX8 yX8_knot wsX8_knot) := goodIn_app (goodIn_of _ (by decide +kernel)) ggL_law_X8_knot
set_option maxRecDepth 20000 in
theorem ggL_law_X7_person : GoodIn wsL_law wsX7_person := goodIn_r _ [322, 24, 323, 101, 102, 23, 103, 88, 293, 294, 2, 295, 296, 297, 298, 324, 325, 326, 327, 95, 60, 108, 109, 785, 786, 787, 788, 789, 790, 791, 792, 793, 794, 795, 796, 827, 828, 829, 830, 831, 832, 833, 834, 835, 836, 837, 838] (by decide +kernel) (by decide +kernel)
set_option maxRecDepth 20000 in
theorem gL_law_X7_person : GoodIn wsL_law (wsV RL 38 RX7 yX7_person wsX7_person) := goodIn_app (goodIn_of _ (by decide +kernel)) ggL_law_X7_person
set_option maxRecDepth 20000 in
theorem ggL_law_X8_person : GoodIn wsL_law wsX8_person := goodIn_r _ [331, 116, 124, 332, 333, 334, 5, 335, 115, 160, 161, 162, 336, 337, 338, 339, 118, 119, 120, 316, 317, 318, 797, 798, 799, 800, 801, 802, 803, 804, 805, 806, 807, 808, 809, 810, 811, 812, 813, 814, 815, 816, 817, 818, 819, 820, 821, 822, 823] (by decide +kernel) (by decide +kernel)
set_option maxRecDepth 20000 in
theorem gL_law_X8_person : GoodIn wsL_law (wsV RL 41 RX8 yX8_person wsX8_person) := goodIn_app (goodIn_of _ (by decide +kernel)) ggL_law_X8_person
set_option maxRecDepth 20000 in
theorem ggL_law_X7_may : GoodIn wsL_law wsX7_may := goodIn_r _ [343, 24, 289, 290, 291, 23, 292, 94, 344, 345, 346, 347, 188, 89, 348, 349, 350, 351, 60, 63, 62, 352, 294, 2, 295, 353, 354, 355, 356, 187, 357, 358, 359, 360, 361, 362, 61, 108, 109, 296, 297, 298, 785, 786, 787, 788, 789, 790, 791, 792, 793, 794, 795, 796, 827, 828, 829, 830, 831, 832, 833, 834, 835, 836, 837, 838] (by decide +kernel) (by decide +kernel)
set_option maxRecDepth 20000 in
theorem gL_law_X7_may : GoodIn wsL_law (wsV RL 42 RX7 yX7_may wsX7_may) := goodIn_app (goodIn_of _ (by decide +kernel)) ggL_law_X7_may
set_option maxRecDepth 20000 in
theorem ggL_law_X8_may : GoodIn wsL_law wsX8_may := goodIn_r _ [366, 124, 116, 125, 308, 309, 310, 5, 311, 118, 160, 161, 162, 367, 368, 369, 370, 121, 119, 120, 117, 123, 122, 316, 317, 318, 336, 337, 338, 339, 797, 798, 799, 800, 801, 802, 803, 804, 805, 806, 807, 808, 809, 810, 811, 812, 813, 814, 815, 816, 817, 818, 819, 820, 821, 822, 823] (by decide +kernel) (by decide +kernel)
set_option maxRecDepth 20000 in
theorem gL_law_X8_may : GoodIn wsL_law (wsV RL 46 RX8 yX8_may wsX8_may) := goodIn_app (goodIn_of _ (by decide +kernel)) ggL_law_X8_may
set_option maxRecDepth 20000 in
theorem ggL_law_X7_undo : GoodIn wsL_law wsX7_undo := goodIn_r _ [374, 24, 289, 290, 291, 23, 292, 94, 344, 345, 346, 347, 188, 89, 348, 349, 350, 351, 60, 63, 62, 352, 294, 2, 295, 353, 354, 355, 356, 187, 357, 358, 359, 360, 361, 362, 61, 108, 109, 375, 376, 377, 378, 379, 32, 380, 381, 382, 31, 383, 273, 67, 68, 69, 384, 385, 386, 387, 388, 389, 390, 391, 392, 393, 394, 785, 786, 787, 788, 789, 790, 791, 792, 793, 794, 795, 796, 827, 828, 829, 830, 831, 832, 833, 834, 835, 836, 837, 838, 839, 840, 841, 842] (by decide +kernel) (by decide +kernel)
set_option maxRecDepth 20000 in
theorem gL_law_X7_undo : GoodIn wsL_law (wsV RL 47 RX7 yX7_undo wsX7_undo) := goodIn_app (goodIn_of _ (by decide +kernel)) ggL_law_X7_undo
set_option maxRecDepth 20000 in
theorem ggL_law_X8_undo : GoodIn wsL_law wsX8_undo := goodIn_r _ [398, 124, 116, 125, 308, 309, 310, 5, 311, 118, 160, 161, 162, 367, 368, 369, 370, 121, 119, 120, 117, 123, 122, 316, 317, 318, 336, 337, 338, 339, 399, 400, 401, 402, 403, 404, 405, 406, 279, 126, 407, 408, 409, 797, 798, 799, 800, 801, 802, 803, 804, 805, 806, 807, 808, 809, 810, 811, 812, 813, 814, 815, 816, 817, 818, 819, 820, 821, 822, 823] (by decide +kernel) (by decide +kernel)
set_option maxRecDepth 20000 in
theorem gL_law_X8_undo : GoodIn wsL_law (wsV RL 50 RX8 yX8_undo wsX8_undo) := goodIn_app (goodIn_of _ (by decide +kernel)) ggL_law_X8_undo
set_option maxRecDepth 20000 in
theorem ggL_law_X7_tie : GoodIn wsL_law wsX7_tie := goodIn_r _ [413, 24, 32, 40, 414, 97, 98, 23, 99, 100, 101, 102, 103, 88, 104, 105, 106, 107, 94, 108, 2, 109, 375, 415, 357, 358, 380, 381, 382, 31, 383, 273, 67, 68, 69, 384, 385, 386, 387, 258, 259, 260, 39, 261, 262, 90, 91, 92, 93, 58, 59, 60, 61, 62, 63, 95, 96, 785, 786, 787, 788, 789, 790, 791, 792, 793, 794, 795, 796, 827, 828, 829, 830, 831, 832, 833, 834, 835, 836, 837, 838, 839, 840, 841, 842, 845, 846] (by decide +kernel) (by decide +kernel)
set_option maxRecDepth 20000 in
theorem gL_law_X7_tie : GoodIn wsL_law (wsV RL 51 RX7 yX7_tie wsX7_tie) := goodIn_app (goodIn_of _ (by decide +kernel)) ggL_law_X7_tie
set_option maxRecDepth 20000 in
theorem ggL_law_X8_tie : GoodIn wsL_law wsX8_tie := goodIn_r _ [419, 116, 124, 118, 280, 241, 242, 243, 5, 244, 115, 245, 240, 160, 161, 162, 316, 317, 318, 403, 404, 405, 406, 279, 126, 125, 246, 247, 248, 249, 119, 120, 121, 122, 123, 797, 798, 799, 800, 801, 802, 803, 804, 805, 806, 807, 808, 809, 810, 811, 812, 813, 814, 815, 816, 817, 818, 819, 820, 821, 822, 823] (by decide +kernel) (by decide +kernel)
set_option maxRecDepth 20000 in
theorem gL_law_X8_tie : GoodIn wsL_law (wsV RL 55 RX8 yX8_tie wsX8_tie) := goodIn_app (goodIn_of _ (by decide +kernel)) ggL_law_X8_tie
set_option maxRecDepth 20000 in
theorem ggL_law_X7_pull : GoodIn wsL_law wsX7_pull := goodIn_r _ [423, 24, 289, 290, 291, 23, 292, 94, 375, 108, 2, 109, 299, 300, 301, 302, 95, 61, 294, 295, 293, 424, 425, 426, 427, 63, 415, 357, 358, 376, 377, 378, 379, 32, 380, 381, 382, 31, 383, 273, 67, 68, 69, 384, 385, 386, 387, 388, 389, 390, 391, 392, 393, 394, 785, 786, 787, 788, 789, 790, 791, 792, 793, 794, 795, 796, 827, 828, 829, 830, 831, 832, 833, 834, 835, 836, 837, 838, 839, 840, 841, 842] (by decide +kernel) (by decide +kernel)
set_option maxRecDepth 20000 in
theorem gL_law_X7_pull : GoodIn wsL_law (wsV RL 56 RX7 yX7_pull wsX7_pull) := goodIn_app (goodIn_of _ (by decide +kernel)) ggL_law_X7_pull
set_option maxRecDepth 20000 in
theorem ggL_law_X8_pull : GoodIn wsL_law wsX8_pull := goodIn_r _ [431, 124, 118, 123, 308, 309, 310, 5, 311, 160, 161, 162, 312, 313, 314, 315, 121, 316, 317, 318, 399, 400, 401, 402, 403, 404, 405, 406, 279, 126, 125, 407, 408, 409, 797, 798, 799, 800, 801, 802, 803, 804, 805, 806, 807, 808, 809, 810, 811, 812, 813, 814, 815, 816, 817, 818, 819, 820, 821, 822, 823] (by decide +kernel) (by decide +kernel)
set_option maxRecDepth 20000 in
theorem gL_law_X8_pull : GoodIn wsL_law (wsV RL 59 RX8 yX8_pull wsX8_pull) := goodIn_app (goodIn_of _ (by decide +kernel)) ggL_law_X8_pull
set_option maxRecDepth 20000 in
theorem ggL_law_X7_cut : GoodIn wsL_law wsX7_cut := goodIn_r _ [435, 24, 289, 290, 291, 23, 292, 94, 293, 294, 2, 295, 375, 108, 109, 299, 300, 301, 302, 95, 61, 376, 377, 378, 379, 32, 380, 381, 382, 31, 383, 273, 67, 68, 69, 384, 385, 386, 387, 388, 389, 390, 391, 392, 393, 394, 785, 786, 787, 788, 789, 790, 791, 792, 793, 794, 795, 796, 827, 828, 829, 830, 831, 832, 833, 834, 835, 836, 837, 838, 839, 840, 841, 842] (by decide +kernel) (by decide +kernel)
set_option maxRecDepth 20000 in
theorem gL_law_X7_cut : GoodIn wsL_law (wsV RL 60 RX7 yX7_cut wsX7_cut) := goodIn_app (goodIn_of _ (by decide +kernel)) ggL_law_X7_cut
set_option maxRecDepth 20000 in
theorem ggL_law_X8_cut : GoodIn wsL_law wsX8_cut := goodIn_r _ [439, 124, 308, 309, 310, 5, 311, 118, 160, 161, 162, 316, 317, 318, 312, 313, 314, 315, 121, 399, 400, 401, 402, 403, 404, 405, 406, 279, 126, 125, 407, 408, 409, 797, 798, 799, 800, 801, 802, 803, 804, 805, 806, 807, 808, 809, 810, 811, 812, 813, 814, 815, 816, 817, 818, 819, 820, 821, 822, 823] (by decide +kernel) (by decide +kernel)
set_option maxRecDepth 20000 in
theorem gL_law_X8_cut : GoodIn wsL_law (wsV RL 63 RX8 yX8_cut wsX8_cut) := goodIn_app (goodIn_of _ (by decide +kernel)) ggL_law_X8_cut
set_option maxRecDepth 20000 in
theorem ggL_law_X7_days : GoodIn wsL_law wsX7_days := goodIn_r _ [443, 24, 32, 380, 381, 382, 31, 383, 273, 67, 68, 69, 384, 385, 386, 387, 785, 786, 787, 788, 789, 790, 791, 792, 793, 794, 795, 796, 827, 828, 829, 830, 831, 832, 833, 834, 835, 836, 837, 838, 839, 840, 841, 842] (by decide +kernel) (by decide +kernel)
set_option maxRecDepth 20000 in
theorem gL_law_X7_days : GoodIn wsL_law (wsV RL 64 RX7 yX7_days wsX7_days) := goodIn_app (goodIn_of _ (by decide +kernel)) ggL_law_X7_days
set_option maxRecDepth 20000 in
theorem ggL_law_X8_days : GoodIn wsL_law wsX8_days := goodIn_r _ [447, 245, 125, 160, 161, 5, 162, 403, 404, 405, 406, 279, 126, 118, 124, 797, 798, 799, 800, 801, 802, 803, 804, 805, 806, 807, 808, 809, 810, 811, 812, 813, 814, 815, 816, 817, 818, 819, 820, 821, 822, 823] (by decide +kernel) (by decide +kernel)
set_option maxRecDepth 20000 in
theorem gL_law_X8_days : GoodIn wsL_law (wsV RL 67 RX8 yX8_days wsX8_days) := goodIn_app (goodIn_of _ (by decide +kernel)) ggL_law_X8_days
set_option maxRecDepth 20000 in
theorem ggL_law_X7_takeBack : GoodIn wsL_law wsX7_takeBack := goodIn_r _ [451, 32, 24, 40, 452, 453, 454, 31, 455, 273, 456, 457, 458, 459, 67, 68, 69, 258, 259, 260, 39, 261, 262, 785, 786, 787, 788, 789, 790, 791, 792, 793, 794, 795, 796, 839, 840, 841, 842, 827, 828, 829, 830, 831, 832, 833, 834, 835, 836, 837, 838, 845, 846] (by decide +kernel) (by decide +kernel)
set_option maxRecDepth 20000 in
theorem gL_law_X7_takeBack : GoodIn wsL_law (wsV RL 68 RX7 yX7_takeBack wsX7_takeBack) := goodIn_app (goodIn_of _ (by decide +kernel)) ggL_law_X7_takeBack
set_option maxRecDepth 20000 in
theorem ggL_law_X8_takeBack : GoodIn wsL_law wsX8_takeBack := goodIn_r _ [463, 279, 118, 126, 124, 125, 280, 797, 798, 799, 800, 801, 802, 803, 804, 805, 806, 807, 808, 809, 810, 811, 812, 813, 814, 815, 816, 817, 818, 819, 820, 821, 822, 823] (by decide +kernel) (by decide +kernel)
set_option maxRecDepth 20000 in
theorem gL_law_X8_takeBack : GoodIn wsL_law (wsV RL 71 RX8 yX8_takeBack wsX8_takeBack) := goodIn_app (goodIn_of _ (by decide +kernel)) ggL_law_X8_takeBack
set_option maxRecDepth 20000 in
theorem ggL_law_X7_loosen : GoodIn wsL_law wsX7_loosen := goodIn_r _ [467, 24, 36, 289, 290, 291, 23, 292, 94, 293, 294, 2, 295, 468, 469, 470, 35, 471, 75, 472, 473, 474, 475, 476, 349, 350, 351, 60, 63, 62, 352, 353, 354, 355, 356, 187, 357, 358, 359, 360, 361, 362, 61, 108, 109, 375, 477, 478, 479, 480, 481, 785, 786, 787, 788, 789, 790, 791, 792, 793, 794, 795, 796, 827, 828, 829, 830, 831, 832, 833, 834, 835, 836, 837, 838, 843, 844] (by decide +kernel) (by decide +kernel)
set_option maxRecDepth 20000 in
theorem gL_law_X7_loosen : GoodIn wsL_law (wsV RL 72 RX7 yX7_loosen wsX7_loosen) := goodIn_app (goodIn_of _ (by decide +kernel)) ggL_law_X7_loosen
set_option maxRecDepth 20000 in
theorem ggL_law_X8_loosen : GoodIn wsL_law wsX8_loosen := goodIn_r _ [485, 124, 308, 309, 310, 5, 311, 118, 160, 161, 162, 316, 317, 318, 486, 487, 488, 489, 116, 125, 407, 408, 409, 490, 491, 492, 493, 131, 367, 368, 369, 370, 121, 119, 120, 117, 123, 122, 336, 337, 338, 339, 797, 798, 799, 800, 801, 802, 803, 804, 805, 806, 807, 808, 809, 810, 811, 812, 813, 814, 815, 816, 817, 818, 819, 820, 821, 822, 823] (by decide +kernel) (by decide +kernel)
set_option maxRecDepth 20000 in
theorem gL_law_X8_loosen : GoodIn wsL_law (wsV RL 75 RX8 yX8_loosen wsX8_loosen) := goodIn_app (goodIn_of _ (by decide +kernel)) ggL_law_X8_loosen
set_option maxRecDepth 20000 in
theorem ggL_law_X7_pay : GoodIn wsL_law wsX7_pay := goodIn_r _ [497, 24, 36, 498, 499, 500, 23, 501, 95, 62, 188, 294, 2, 295, 108, 109, 468, 469, 470, 35, 471, 75, 472, 473, 474, 475, 476, 349, 350, 351, 60, 63, 352, 290, 291, 292, 94, 353, 354, 355, 356, 187, 357, 358, 359, 360, 361, 362, 61, 477, 478, 479, 480, 481, 388, 389, 390, 391, 392, 393, 394, 502, 503, 504, 505, 506, 507, 508, 509, 510, 345, 346, 347, 89, 348, 785, 786, 787, 788, 789, 790, 791, 792, 793, 794, 795, 796, 827, 828, 829, 830, 831, 832, 833, 834, 835, 836, 837, 838, 843, 844] (by decide +kernel) (by decide +kernel)
set_option maxRecDepth 20000 in
theorem gL_law_X7_pay : GoodIn wsL_law (wsV RL 76 RX7 yX7_pay wsX7_pay) := goodIn_app (goodIn_of _ (by decide +kernel)) ggL_law_X7_pay
set_option maxRecDepth 20000 in
theorem ggL_law_X8_pay : GoodIn wsL_law wsX8_pay := goodIn_r _ [514, 118, 124, 122, 125, 116, 131, 316, 317, 5, 318, 486, 487, 488, 489, 407, 408, 409, 490, 491, 492, 493, 367, 368, 369, 370, 121, 119, 120, 117, 123, 336, 337, 338, 339, 797, 798, 799, 800, 801, 802, 803, 804, 805, 806, 807, 808, 809, 810, 811, 812, 813, 814, 815, 816, 817, 818, 819, 820, 821, 822, 823] (by decide +kernel) (by decide +kernel)
set_option maxRecDepth 20000 in
theorem gL_law_X8_pay : GoodIn wsL_law (wsV RL 79 RX8 yX8_pay wsX8_pay) := goodIn_app (goodIn_of _ (by decide +kernel)) ggL_law_X8_pay
set_option maxRecDepth 20000 in
theorem ggL_law_X7_forEver : GoodIn wsL_law wsX7_forEver := goodIn_r _ [518, 36, 24, 519, 520, 521, 35, 522, 472, 473, 474, 475, 75, 476, 349, 350, 23, 351, 60, 63, 62, 352, 290, 291, 292, 94, 294, 2, 295, 353, 354, 355, 356, 187, 357, 358, 359, 360, 361, 362, 61, 108, 109, 785, 786, 787, 788, 789, 790, 791, 792, 793, 794, 795, 796, 827, 828, 829, 830, 831, 832, 833, 834, 835, 836, 837, 838, 843, 844] (by decide +kernel) (by decide +kernel)
set_option maxRecDepth 20000 in
theorem gL_law_X7_forEver : GoodIn wsL_law (wsV RL 80 RX7 yX7_forEver wsX7_forEver) := goodIn_app (goodIn_of _ (by decide +kernel)) ggL_law_X7_forEver
set_option maxRecDepth 20000 in
theorem ggL_law_X8_forEver : GoodIn wsL_law wsX8_forEver := goodIn_r _ [526, 116, 527, 528, 529, 5, 530, 124, 131, 490, 491, 492, 493, 118, 316, 317, 318, 367, 368, 369, 370, 121, 119, 120, 117, 123, 122, 336, 337, 338, 339, 797, 798, 799, 800, 801, 802, 803, 804, 805, 806, 807, 808, 809, 810, 811, 812, 813, 814, 815, 816, 817, 818, 819, 820, 821, 822, 823] (by decide +kernel) (by decide +kernel)
set_option maxRecDepth 20000 in
theorem gL_law_X8_forEver : GoodIn wsL_law (wsV RL 83 RX8 yX8_forEver wsX8_forEver) := goodIn_app (goodIn_of _ (by decide +kernel)) ggL_law_X8_forEver
set_option maxRecDepth 20000 in
theorem ggL_law_X7_frees : GoodIn wsL_law wsX7_frees := goodIn_r _ [534, 24, 36, 323, 101, 102, 23, 103, 88, 519, 520, 521, 35, 522, 472, 473, 474, 475, 75, 476, 349, 350, 351, 60, 63, 62, 352, 290, 291, 292, 94, 294, 2, 295, 353, 354, 355, 356, 187, 357, 358, 359, 360, 361, 362, 61, 108, 109, 375, 388, 389, 390, 391, 392, 393, 394, 785, 786, 787, 788, 789, 790, 791, 792, 793, 794, 795, 796, 827, 828, 829, 830, 831, 832, 833, 834, 835, 836, 837, 838, 843, 844] (by decide +kernel) (by decide +kernel)
set_option maxRecDepth 20000 in
theorem gL_law_X7_frees : GoodIn wsL_law (wsV RL 84 RX7 yX7_frees wsX7_frees) := goodIn_app (goodIn_of _ (by decide +kernel)) ggL_law_X7_frees
set_option maxRecDepth 20000 in
theorem ggL_law_X8_frees : GoodIn wsL_law wsX8_frees := goodIn_r _ [538, 116, 332, 333, 334, 5, 335, 115, 160, 161, 162, 527, 528, 529, 530, 124, 131, 490, 491, 492, 493, 118, 316, 317, 318, 367, 368, 369, 370, 121, 119, 120, 117, 123, 122, 336, 337, 338, 339, 407, 408, 409, 797, 798, 799, 800, 801, 802, 803, 804, 805, 806, 807, 808, 809, 810, 811, 812, 813, 814, 815, 816, 817, 818, 819, 820, 821, 822, 823] (by decide +kernel) (by decide +kernel)
set_option maxRecDepth 20000 in
theorem gL_law_X8_frees : GoodIn wsL_law (wsV RL 87 RX8 yX8_frees wsX8_frees) := goodIn_app (goodIn_of _ (by decide +kernel)) ggL_law_X8_frees
set_option maxRecDepth 20000 in
theorem ggL_law_X7_fresh : GoodIn wsL_law wsX7_fresh := goodIn_r _ [542, 24, 36, 543, 105, 106, 23, 107, 94, 108, 2, 109, 544, 545, 546, 35, 547, 75, 294, 295, 548, 300, 301, 302, 95, 61, 549, 550, 551, 552, 74, 553, 389, 390, 391, 392, 393, 394, 357, 358, 554, 555, 556, 557, 558, 559, 293, 560, 785, 786, 787, 788, 789, 790, 791, 792, 793, 794, 795, 796, 827, 828, 829, 830, 831, 832, 833, 834, 835, 836, 837, 838, 843, 844] (by decide +kernel) (by decide +kernel)
set_option maxRecDepth 20000 in
theorem gL_law_X7_fresh : GoodIn wsL_law (wsV RL 88 RX7 yX7_fresh wsX7_fresh) := goodIn_app (goodIn_of _ (by decide +kernel)) ggL_law_X7_fresh
set_option maxRecDepth 20000 in
theorem ggL_law_X8_fresh : GoodIn wsL_law wsX8_fresh := goodIn_r _ [564, 157, 118, 124, 160, 161, 5, 162, 316, 317, 318, 312, 313, 314, 315, 121, 407, 408, 409, 565, 566, 567, 797, 798, 799, 800, 801, 802, 803, 804, 805, 806, 807, 808, 809, 810, 811, 812, 813, 814, 815, 816, 817, 818, 819, 820, 821, 822, 823] (by decide +kernel) (by decide +kernel)
set_option maxRecDepth 20000 in
theorem gL_law_X8_fresh : GoodIn wsL_law (wsV RL 92 RX8 yX8_fresh wsX8_fresh) := goodIn_app (goodIn_of _ (by decide +kernel)) ggL_law_X8_fresh
set_option maxRecDepth 20000 in
theorem ggL_law_X7_orders : GoodIn wsL_law wsX7_orders := goodIn_r _ [571, 36, 572, 573, 574, 35, 575, 74, 75, 357, 2, 358, 576, 577, 578, 579, 294, 295, 108, 109, 785, 786, 787, 788, 789, 790, 791, 792, 793, 794, 795, 796, 843, 844, 827, 828, 829, 830, 831, 832, 833, 834, 835, 836, 837, 838] (by decide +kernel) (by decide +kernel)
set_option maxRecDepth 20000 in
theorem gL_law_X7_orders : GoodIn wsL_law (wsV RL 93 RX7 yX7_orders wsX7_orders) := goodIn_app (goodIn_of _ (by decide +kernel)) ggL_law_X7_orders
set_option maxRecDepth 20000 in
theorem ggL_law_X8_orders : GoodIn wsL_law wsX8_orders := goodIn_r _ [583, 132, 118, 124, 121, 316, 317, 5, 318, 797, 798, 799, 800, 801, 802, 803, 804, 805, 806, 807, 808, 809, 810, 811, 812, 813, 814, 815, 816, 817, 818, 819, 820, 821, 822, 823] (by decide +kernel) (by decide +kernel)
set_option maxRecDepth 20000 in
theorem gL_law_X8_orders : GoodIn wsL_law (wsV RL 96 RX8 yX8_orders wsX8_orders) := goodIn_app (goodIn_of _ (by decide +kernel)) ggL_law_X8_orders
set_option maxRecDepth 20000 in
theorem ggL_law_X7_tell : GoodIn wsL_law wsX7_tell := goodIn_r _ [587, 24, 40, 289, 290, 291, 23, 292, 94, 588, 589, 590, 39, 591, 592, 593, 594, 595, 262, 79, 108, 2, 109, 294, 295, 596, 597, 598, 599, 600, 601, 602, 603, 785, 786, 787, 788, 789, 790, 791, 792, 793, 794, 795, 796, 827, 828, 829, 830, 831, 832, 833, 834, 835, 836, 837, 838, 845, 846] (by decide +kernel) (by decide +kernel)
set_option maxRecDepth 20000 in
theorem gL_law_X7_tell : GoodIn wsL_law (wsV RL 97 RX7 yX7_tell wsX7_tell) := goodIn_app (goodIn_of _ (by decide +kernel)) ggL_law_X7_tell
set_option maxRecDepth 20000 in
theorem ggL_law_X8_tell : GoodIn wsL_law wsX8_tell := goodIn_r _ [607, 280, 127, 308, 309, 310, 5, 311, 118, 160, 161, 162, 797, 798, 799, 800, 801, 802, 803, 804, 805, 806, 807, 808, 809, 810, 811, 812, 813, 814, 815, 816, 817, 818, 819, 820, 821, 822, 823] (by decide +kernel) (by decide +kernel)
set_option maxRecDepth 20000 in
theorem gL_law_X8_tell : GoodIn wsL_law (wsV RL 100 RX8 yX8_tell wsX8_tell) := goodIn_app (goodIn_of _ (by decide +kernel)) ggL_law_X8_tell
set_option maxRecDepth 20000 in
theorem ggL_law_X7_noRow : GoodIn wsL_law wsX7_noRow := goodIn_r _ [611, 40, 600, 601, 602, 39, 603, 262, 258, 259, 260, 261, 785, 786, 787, 788, 789, 790, 791, 792, 793, 794, 795, 796, 845, 846] (by decide +kernel) (by decide +kernel)
set_option maxRecDepth 20000 in
theorem gL_law_X7_noRow : GoodIn wsL_law (wsV RL 101 RX7 yX7_noRow wsX7_noRow) := goodIn_app (goodIn_of _ (by decide +kernel)) ggL_law_X7_noRow
set_option maxRecDepth 20000 in
theorem ggL_law_X8_noRow : GoodIn wsL_law wsX8_noRow := goodIn_r _ [615, 280, 797, 798, 799, 800, 801, 802, 803, 804, 805, 806, 807, 808, 809, 810, 811, 812, 813, 814, 815, 816, 817, 818, 819, 820, 821, 822, 823] (by decide +kernel) (by decide +kernel)
set_option maxRecDepth 20000 in
theorem gL_law_X8_noRow : GoodIn wsL_law (wsV RL 104 RX8 yX8_noRow wsX8_noRow) := goodIn_app (goodIn_of _ (by decide +kernel)) ggL_law_X8_noRow
set_option maxRecDepth 20000 in
theorem ggL_law_X7_judge : GoodIn wsL_law wsX7_judge := goodIn_r _ [619, 40, 24, 620, 621, 622, 39, 623, 262, 79, 624, 290, 291, 23, 292, 94, 592, 593, 594, 595, 108, 2, 109, 785, 786, 787, 788, 789, 790, 791, 792, 793, 794, 795, 796, 845, 846, 827, 828, 829, 830, 831, 832, 833, 834, 835, 836, 837, 838] (by decide +kernel) (by decide +kernel)
set_option maxRecDepth 20000 in
theorem gL_law_X7_judge : GoodIn wsL_law (wsV RL 105 RX7 yX7_judge wsX7_judge) := goodIn_app (goodIn_of _ (by decide +kernel)) ggL_law_X7_judge
set_option maxRecDepth 20000 in
theorem ggL_law_X8_judge : GoodIn wsL_law wsX8_judge := goodIn_r _ [628, 280, 121, 127, 316, 317, 5, 318, 797, 798, 799, 800, 801, 802, 803, 804, 805, 806, 807, 808, 809, 810, 811, 812, 813, 814, 815, 816, 817, 818, 819, 820, 821, 822, 823] (by decide +kernel) (by decide +kernel)
set_option maxRecDepth 20000 in
theorem gL_law_X8_judge : GoodIn wsL_law (wsV RL 108 RX8 yX8_judge wsX8_judge) := goodIn_app (goodIn_of _ (by decide +kernel)) ggL_law_X8_judge
set_option maxRecDepth 20000 in
theorem ggL_law_X7_cross : GoodIn wsL_law wsX7_cross := goodIn_r _ [632, 633, 634, 2, 635, 636, 637, 638, 639, 44, 45, 640, 641, 642, 43, 643, 268, 644, 645, 646, 647, 267, 83, 648, 649, 650, 651, 652, 653, 654, 785, 786, 787, 788, 789, 790, 791, 792, 793, 794, 795, 796, 847, 848, 849] (by decide +kernel) (by decide +kernel)
set_option maxRecDepth 20000 in
theorem gL_law_X7_cross : GoodIn wsL_law (wsV RL 109 RX7 yX7_cross wsX7_cross) := goodIn_app (goodIn_of _ (by decide +kernel)) ggL_law_X7_cross
set_option maxRecDepth 20000 in
theorem ggL_law_X8_cross : GoodIn wsL_law wsX8_cross := goodIn_r _ [658, 659, 128, 129, 160, 161, 5, 162, 797, 798, 799, 800, 801, 802, 803, 804, 805, 806, 807, 808, 809, 810, 811, 812, 813, 814, 815, 816, 817, 818, 819, 820, 821, 822, 823] (by decide +kernel) (by decide +kernel)
set_option maxRecDepth 20000 in
theorem gL_law_X8_cross : GoodIn wsL_law (wsV RL 112 RX8 yX8_cross wsX8_cross) := goodIn_app (goodIn_of _ (by decide +kernel)) ggL_law_X8_cross
set_option maxRecDepth 20000 in
theorem ggL_law_X7_smooth : GoodIn wsL_law wsX7_smooth := goodIn_r _ [663, 633, 634, 2, 635, 636, 637, 638, 639, 44, 45, 640, 641, 642, 43, 643, 268, 263, 264, 265, 266, 267, 785, 786, 787, 788, 789, 790, 791, 792, 793, 794, 795, 796, 847, 848, 849] (by decide +kernel) (by decide +kernel)
set_option maxRecDepth 20000 in
theorem gL_law_X7_smooth : GoodIn wsL_law (wsV RL 113 RX7 yX7_smooth wsX7_smooth) := goodIn_app (goodIn_of _ (by decide +kernel)) ggL_law_X7_smooth
set_option maxRecDepth 20000 in
theorem ggL_law_X8_smooth : GoodIn wsL_law wsX8_smooth := goodIn_r _ [667, 128, 160, 161, 5, 162, 797, 798, 799, 800, 801, 802, 803, 804, 805, 806, 807, 808, 809, 810, 811, 812, 813, 814, 815, 816, 817, 818, 819, 820, 821, 822, 823] (by decide +kernel) (by decide +kernel)
set_option maxRecDepth 20000 in
theorem gL_law_X8_smooth : GoodIn wsL_law (wsV RL 116 RX8 yX8_smooth wsX8_smooth) := goodIn_app (goodIn_of _ (by decide +kernel)) ggL_law_X8_smooth
set_option maxRecDepth 20000 in
theorem ggL_law_X7_loose : GoodIn wsL_law wsX7_loose := goodIn_r _ [671, 633, 634, 2, 635, 636, 637, 638, 639, 44, 45, 672, 673, 674, 43, 675, 267, 676, 649, 650, 651, 83, 785, 786, 787, 788, 789, 790, 791, 792, 793, 794, 795, 796, 847, 848, 849] (by decide +kernel) (by decide +kernel)
set_option maxRecDepth 20000 in
theorem gL_law_X7_loose : GoodIn wsL_law (wsV RL 117 RX7 yX7_loose wsX7_loose) := goodIn_app (goodIn_of _ (by decide +kernel)) ggL_law_X7_loose
set_option maxRecDepth 20000 in
theorem ggL_law_X8_loose : GoodIn wsL_law wsX8_loose := goodIn_r _ [680, 135, 133, 160, 161, 5, 162, 681, 682, 683, 684, 128, 129, 134, 685, 686, 687, 797, 798, 799, 800, 801, 802, 803, 804, 805, 806, 807, 808, 809, 810, 811, 812, 813, 814, 815, 816, 817, 818, 819, 820, 821, 822, 823] (by decide +kernel) (by decide +kernel)
set_option maxRecDepth 20000 in
theorem gL_law_X8_loose : GoodIn wsL_law (wsV RL 120 RX8 yX8_loose wsX8_loose) := goodIn_app (goodIn_of _ (by decide +kernel)) ggL_law_X8_loose
set_option maxRecDepth 20000 in
theorem ggL_law_X7_alike : GoodIn wsL_law wsX7_alike := goodIn_r _ [691, 44, 45, 692, 693, 694, 43, 695, 267, 696, 697, 698, 699, 648, 649, 650, 651, 83, 700, 701, 702, 703, 704, 705, 706, 707, 652, 653, 654, 296, 297, 2, 298, 785, 786, 787, 788, 789, 790, 791, 792, 793, 794, 795, 796, 847, 848, 849] (by decide +kernel) (by decide +kernel)
set_option maxRecDepth 20000 in
theorem gL_law_X7_alike : GoodIn wsL_law (wsV RL 121 RX7 yX7_alike wsX7_alike) := goodIn_app (goodIn_of _ (by decide +kernel)) ggL_law_X7_alike
set_option maxRecDepth 20000 in
theorem ggL_law_X8_alike : GoodIn wsL_law wsX8_alike := goodIn_r _ [711, 135, 681, 682, 683, 5, 684, 128, 129, 133, 134, 685, 686, 687, 712, 713, 714, 715, 716, 717, 718, 719, 797, 798, 799, 800, 801, 802, 803, 804, 805, 806, 807, 808, 809, 810, 811, 812, 813, 814, 815, 816, 817, 818, 819, 820, 821, 822, 823] (by decide +kernel) (by decide +kernel)
set_option maxRecDepth 20000 in
theorem gL_law_X8_alike : GoodIn wsL_law (wsV RL 124 RX8 yX8_alike wsX8_alike) := goodIn_app (goodIn_of _ (by decide +kernel)) ggL_law_X8_alike
set_option maxRecDepth 20000 in
theorem ggL_law_X7_mark : GoodIn wsL_law wsX7_mark := goodIn_r _ [723, 633, 634, 2, 635, 636, 637, 638, 639, 44, 45, 724, 725, 726, 43, 727, 267, 648, 649, 650, 651, 83, 785, 786, 787, 788, 789, 790, 791, 792, 793, 794, 795, 796, 847, 848, 849] (by decide +kernel) (by decide +kernel)
set_option maxRecDepth 20000 in
theorem gL_law_X7_mark : GoodIn wsL_law (wsV RL 125 RX7 yX7_mark wsX7_mark) := goodIn_app (goodIn_of _ (by decide +kernel)) ggL_law_X7_mark
set_option maxRecDepth 20000 in
theorem ggL_law_X8_mark : GoodIn wsL_law wsX8_mark := goodIn_r _ [731, 240, 128, 129, 160, 161, 5, 162, 797, 798, 799, 800, 801, 802, 803, 804, 805, 806, 807, 808, 809, 810, 811, 812, 813, 814, 815, 816, 817, 818, 819, 820, 821, 822, 823] (by decide +kernel) (by decide +kernel)
set_option maxRecDepth 20000 in
theorem gL_law_X8_mark : GoodIn wsL_law (wsV RL 128 RX8 yX8_mark wsX8_mark) := goodIn_app (goodIn_of _ (by decide +kernel)) ggL_law_X8_mark
set_option maxRecDepth 20000 in
theorem ggL_law_X7_year : GoodIn wsL_law wsX7_year := goodIn_r _ [735, 24, 36, 736, 737, 738, 35, 739, 740, 741, 75, 742, 743, 744, 745, 746, 747, 290, 291, 23, 292, 94, 294, 2, 295, 510, 345, 346, 347, 188, 89, 348, 349, 350, 351, 60, 63, 62, 352, 353, 354, 355, 356, 187, 357, 358, 359, 360, 361, 362, 61, 108, 109, 785, 786, 787, 788, 789, 790, 791, 792, 793, 794, 795, 796, 827, 828, 829, 830, 831, 832, 833, 834, 835, 836, 837, 838, 843, 844] (by decide +kernel) (by decide +kernel)
set_option maxRecDepth 20000 in
theorem gL_law_X7_year : GoodIn wsL_law (wsV RL 129 RX7 yX7_year wsX7_year) := goodIn_app (goodIn_of _ (by decide +kernel)) ggL_law_X7_year
set_option maxRecDepth 20000 in
theorem ggL_law_X8_year : GoodIn wsL_law wsX8_year := goodIn_r _ [751, 752, 753, 124, 754, 755, 756, 118, 116, 119, 120, 121, 125, 160, 161, 5, 162, 316, 317, 318, 367, 368, 369, 370, 117, 123, 122, 336, 337, 338, 339, 797, 798, 799, 800, 801, 802, 803, 804, 805, 806, 807, 808, 809, 810, 811, 812, 813, 814, 815, 816, 817, 818, 819, 820, 821, 822, 823] (by decide +kernel) (by decide +kernel)
set_option maxRecDepth 20000 in
theorem gL_law_X8_year : GoodIn wsL_law (wsV RL 132 RX8 yX8_year wsX8_year) := goodIn_app (goodIn_of _ (by decide +kernel)) ggL_law_X8_year
set_option maxRecDepth 20000 in
theorem ggL_law_X7_keep : GoodIn wsL_law wsX7_keep := goodIn_r _ [760, 28, 24, 761, 762, 763, 2, 764, 26, 27, 254, 255, 256, 23, 257, 58, 59, 60, 61, 62, 63, 88, 89, 187, 94, 95, 188, 785, 786, 787, 788, 789, 790, 791, 792, 793, 794, 795, 796, 827, 828, 829, 830, 831, 832, 833, 834, 835, 836, 837, 838] (by decide +kernel) (by decide +kernel)
set_option maxRecDepth 20000 in
theorem gL_law_X7_keep : GoodIn wsL_law (wsV RL 133 RX7 yX7_keep wsX7_keep) := goodIn_app (goodIn_of _ (by decide +kernel)) ggL_law_X7_keep
set_option maxRecDepth 20000 in
theorem ggL_law_X8_keep : GoodIn wsL_law wsX8_keep := goodIn_r _ [768, 278, 281, 282, 283, 5, 284, 118, 124, 125, 119, 120, 121, 122, 123, 797, 798, 799, 800, 801, 802, 803, 804, 805, 806, 807, 808, 809, 810, 811, 812, 813, 814, 815, 816, 817, 818, 819, 820, 821, 822, 823] (by decide +kernel) (by decide +kernel)
set_option maxRecDepth 20000 in
theorem gL_law_X8_keep : GoodIn wsL_law (wsV RL 136 RX8 yX8_keep wsX8_keep) := goodIn_app (goodIn_of _ (by decide +kernel)) ggL_law_X8_keep
set_option maxRecDepth 20000 in
theorem ggL_law_X7_back : GoodIn wsL_law wsX7_back := goodIn_r _ [772, 28, 24, 32, 40, 761, 762, 763, 2, 764, 26, 27, 254, 255, 256, 23, 257, 58, 59, 60, 61, 62, 63, 88, 89, 187, 94, 95, 188, 269, 270, 271, 31, 272, 273, 258, 259, 260, 39, 261, 262, 785, 786, 787, 788, 789, 790, 791, 792, 793, 794, 795, 796, 827, 828, 829, 830, 831, 832, 833, 834, 835, 836, 837, 838, 839, 840, 841, 842, 845, 846] (by decide +kernel) (by decide +kernel)
set_option maxRecDepth 20000 in
theorem gL_law_X7_back : GoodIn wsL_law (wsV RL 137 RX7 yX7_back wsX7_back) := goodIn_app (goodIn_of _ (by decide +kernel)) ggL_law_X7_back
set_option maxRecDepth 20000 in
theorem ggL_law_X8_back : GoodIn wsL_law wsX8_back := goodIn_r _ [776, 278, 279, 280, 281, 282, 283, 5, 284, 118, 124, 125, 119, 120, 121, 122, 123, 797, 798, 799, 800, 801, 802, 803, 804, 805, 806, 807, 808, 809, 810, 811, 812, 813, 814, 815, 816, 817, 818, 819, 820, 821, 822, 823] (by decide +kernel) (by decide +kernel)
set_option maxRecDepth 20000 in
theorem gL_law_X8_back : GoodIn wsL_law (wsV RL 140 RX8 yX8_back wsX8_back) := goodIn_app (goodIn_of _ (by decide +kernel)) ggL_law_X8_back
set_option maxRecDepth 20000 in
theorem ggL_law_X7_count : GoodIn wsL_law wsX7_count := goodIn_r _ [780, 24, 40, 32, 28, 16, 388, 389, 390, 391, 392, 393, 394, 600, 601, 602, 39, 603, 262, 452, 453, 454, 31, 455, 273, 144, 145, 146, 15, 147, 148, 785, 786, 787, 788, 789, 790, 791, 792, 793, 794, 795, 796, 827, 828, 829, 830, 831, 832, 833, 834, 835, 836, 837, 838, 845, 846, 839, 840, 841, 842, 824, 825] (by decide +kernel) (by decide +kernel)
set_option maxRecDepth 20000 in
theorem gL_law_X7_count : GoodIn wsL_law (wsV RL 141 RX7 yX7_count wsX7_count) := goodIn_app (goodIn_of _ (by decide +kernel)) ggL_law_X7_count
set_option maxRecDepth 20000 in
theorem ggL_law_X8_count : GoodIn wsL_law wsX8_count := goodIn_r _ [784, 115, 118, 124, 125, 280, 279, 278, 158, 117, 407, 408, 5, 409, 797, 798, 799, 800, 801, 802, 803, 804, 805, 806, 807, 808, 809, 810, 811, 812, 813, 814, 815, 816, 817, 818, 819, 820, 821, 822, 823] (by decide +kernel) (by decide +kernel)
set_option maxRecDepth 20000 in
theorem gL_law_X8_count : GoodIn wsL_law (wsV RL 144 RX8 yX8_count wsX8_count) := goodIn_app (goodIn_of _ (by decide +kernel)) ggL_law_X8_count
theorem dL_law_0 : decode cL_law 0 = .ok (.new 7, 3) := by decide +kernel
theorem dL_law_3 : decode cL_law 3 = .ok (.dup, 1) := by decide +kernel
theorem dL_law_4 : decode cL_law 4 = .ok (.invokespecial 9, 3) := by decide +kernel
theorem dL_law_7 : decode cL_law 7 = .ok (.astore_n 1, 1) := by decide +kernel
theorem dL_law_8 : decode cL_law 8 = .ok (.new 10, 3) := by decide +kernel
theorem dL_law_11 : decode cL_law 11 = .ok (.dup, 1) := by decide +kernel
theorem dL_law_12 : decode cL_law 12 = .ok (.invokespecial 12, 3) := by decide +kernel
theorem dL_law_15 : decode cL_law 15 = .ok (.astore_n 2, 1) := by decide +kernel
theorem dL_law_16 : decode cL_law 16 = .ok (.iconst 0, 1) := by decide +kernel
theorem dL_law_17 : decode cL_law 17 = .ok (.istore_n 3, 1) := by decide +kernel
theorem dL_law_18 : decode cL_law 18 = .ok (.iload_n 3, 1) := by decide +kernel
theorem dL_law_19 : decode cL_law 19 = .ok (.aload_n 0, 1) := by decide +kernel
theorem dL_law_20 : decode cL_law 20 = .ok (.arraylength, 1) := by decide +kernel
theorem dL_law_21 : decode cL_law 21 = .ok (.bipush 6, 2) := by decide +kernel
theorem dL_law_23 : decode cL_law 23 = .ok (.isub, 1) := by decide +kernel
theorem dL_law_24 : decode cL_law 24 = .ok (.if_icmp .gt 927, 3) := by decide +kernel
theorem dL_law_27 : decode cL_law 27 = .ok (.aload_n 0, 1) := by decide +kernel
theorem dL_law_28 : decode cL_law 28 = .ok (.iload_n 3, 1) := by decide +kernel
theorem dL_law_29 : decode cL_law 29 = .ok (.iaload, 1) := by decide +kernel
theorem dL_law_30 : decode cL_law 30 = .ok (.bipush 31, 2) := by decide +kernel
theorem dL_law_32 : decode cL_law 32 = .ok (.iand, 1) := by decide +kernel
theorem dL_law_33 : decode cL_law 33 = .ok (.tableswitch 912 0 30 #[139, 202, 215, 228, 241, 274, 307, 330, 353, 416, 439, 462, 485, 498, 521, 544, 557, 580, 623, 636, 659, 672, 685, 718, 741, 774, 787, 820, 863, 876, 889], 139) := by decide +kernel
theorem dL_law_172 : decode cL_law 172 = .ok (.aload_n 1, 1) := by decide +kernel
theorem dL_law_173 : decode cL_law 173 = .ok (.aload_n 0, 1) := by decide +kernel
theorem dL_law_174 : decode cL_law 174 = .ok (.iload_n 3, 1) := by decide +kernel
theorem dL_law_175 : decode cL_law 175 = .ok (.iconst 1, 1) := by decide +kernel
theorem dL_law_176 : decode cL_law 176 = .ok (.iadd, 1) := by decide +kernel
theorem dL_law_177 : decode cL_law 177 = .ok (.iaload, 1) := by decide +kernel
theorem dL_law_178 : decode cL_law 178 = .ok (.aload_n 0, 1) := by decide +kernel
theorem dL_law_179 : decode cL_law 179 = .ok (.iload_n 3, 1) := by decide +kernel
theorem dL_law_180 : decode cL_law 180 = .ok (.iconst 2, 1) := by decide +kernel
theorem dL_law_181 : decode cL_law 181 = .ok (.iadd, 1) := by decide +kernel
theorem dL_law_182 : decode cL_law 182 = .ok (.iaload, 1) := by decide +kernel
theorem dL_law_183 : decode cL_law 183 = .ok (.i2l, 1) := by decide +kernel
theorem dL_law_184 : decode cL_law 184 = .ok (.bipush 32, 2) := by decide +kernel
theorem dL_law_186 : decode cL_law 186 = .ok (.lshl, 1) := by decide +kernel
theorem dL_law_187 : decode cL_law 187 = .ok (.aload_n 0, 1) := by decide +kernel
theorem dL_law_188 : decode cL_law 188 = .ok (.iload_n 3, 1) := by decide +kernel
theorem dL_law_189 : decode cL_law 189 = .ok (.iconst 3, 1) := by decide +kernel
theorem dL_law_190 : decode cL_law 190 = .ok (.iadd, 1) := by decide +kernel
theorem dL_law_191 : decode cL_law 191 = .ok (.iaload, 1) := by decide +kernel
theorem dL_law_192 : decode cL_law 192 = .ok (.i2l, 1) := by decide +kernel
theorem dL_law_193 : decode cL_law 193 = .ok (.ldc2_w 13, 3) := by decide +kernel
theorem dL_law_196 : decode cL_law 196 = .ok (.land, 1) := by decide +kernel
theorem dL_law_197 : decode cL_law 197 = .ok (.lor, 1) := by decide +kernel
theorem dL_law_198 : decode cL_law 198 = .ok (.invokevirtual 15, 3) := by decide +kernel
theorem dL_law_201 : decode cL_law 201 = .ok (.aload_n 2, 1) := by decide +kernel
theorem dL_law_202 : decode cL_law 202 = .ok (.aload_n 0, 1) := by decide +kernel
theorem dL_law_203 : decode cL_law 203 = .ok (.iload_n 3, 1) := by decide +kernel
theorem dL_law_204 : decode cL_law 204 = .ok (.iconst 1, 1) := by decide +kernel
theorem dL_law_205 : decode cL_law 205 = .ok (.iadd, 1) := by decide +kernel
theorem dL_law_206 : decode cL_law 206 = .ok (.iaload, 1) := by decide +kernel
theorem dL_law_207 : decode cL_law 207 = .ok (.aload_n 0, 1) := by decide +kernel
theorem dL_law_208 : decode cL_law 208 = .ok (.iload_n 3, 1) := by decide +kernel
theorem dL_law_209 : decode cL_law 209 = .ok (.iconst 2, 1) := by decide +kernel
theorem dL_law_210 : decode cL_law 210 = .ok (.iadd, 1) := by decide +kernel
theorem dL_law_211 : decode cL_law 211 = .ok (.iaload, 1) := by decide +kernel
theorem dL_law_212 : decode cL_law 212 = .ok (.i2l, 1) := by decide +kernel
theorem dL_law_213 : decode cL_law 213 = .ok (.bipush 32, 2) := by decide +kernel
theorem dL_law_215 : decode cL_law 215 = .ok (.lshl, 1) := by decide +kernel
theorem dL_law_216 : decode cL_law 216 = .ok (.aload_n 0, 1) := by decide +kernel
theorem dL_law_217 : decode cL_law 217 = .ok (.iload_n 3, 1) := by decide +kernel
theorem dL_law_218 : decode cL_law 218 = .ok (.iconst 3, 1) := by decide +kernel
theorem dL_law_219 : decode cL_law 219 = .ok (.iadd, 1) := by decide +kernel
theorem dL_law_220 : decode cL_law 220 = .ok (.iaload, 1) := by decide +kernel
theorem dL_law_221 : decode cL_law 221 = .ok (.i2l, 1) := by decide +kernel
theorem dL_law_222 : decode cL_law 222 = .ok (.ldc2_w 13, 3) := by decide +kernel
theorem dL_law_225 : decode cL_law 225 = .ok (.land, 1) := by decide +kernel
theorem dL_law_226 : decode cL_law 226 = .ok (.lor, 1) := by decide +kernel
theorem dL_law_227 : decode cL_law 227 = .ok (.invokevirtual 19, 3) := by decide +kernel
theorem dL_law_230 : decode cL_law 230 = .ok (.if_icmp .eq 715, 3) := by decide +kernel
theorem dL_law_233 : decode cL_law 233 = .ok (.iconst 0, 1) := by decide +kernel
theorem dL_law_234 : decode cL_law 234 = .ok (.ireturn, 1) := by decide +kernel
theorem dL_law_235 : decode cL_law 235 = .ok (.aload_n 1, 1) := by decide +kernel
theorem dL_law_236 : decode cL_law 236 = .ok (.invokevirtual 20, 3) := by decide +kernel
theorem dL_law_239 : decode cL_law 239 = .ok (.aload_n 2, 1) := by decide +kernel
theorem dL_law_240 : decode cL_law 240 = .ok (.invokevirtual 24, 3) := by decide +kernel
theorem dL_law_243 : decode cL_law 243 = .ok (.if_icmp .eq 702, 3) := by decide +kernel
theorem dL_law_246 : decode cL_law 246 = .ok (.iconst 0, 1) := by decide +kernel
theorem dL_law_247 : decode cL_law 247 = .ok (.ireturn, 1) := by decide +kernel
theorem dL_law_248 : decode cL_law 248 = .ok (.aload_n 1, 1) := by decide +kernel
theorem dL_law_249 : decode cL_law 249 = .ok (.invokevirtual 25, 3) := by decide +kernel
theorem dL_law_252 : decode cL_law 252 = .ok (.aload_n 2, 1) := by decide +kernel
theorem dL_law_253 : decode cL_law 253 = .ok (.invokevirtual 28, 3) := by decide +kernel
theorem dL_law_256 : decode cL_law 256 = .ok (.if_icmp .eq 689, 3) := by decide +kernel
theorem dL_law_259 : decode cL_law 259 = .ok (.iconst 0, 1) := by decide +kernel
theorem dL_law_260 : decode cL_law 260 = .ok (.ireturn, 1) := by decide +kernel
theorem dL_law_261 : decode cL_law 261 = .ok (.aload_n 1, 1) := by decide +kernel
theorem dL_law_262 : decode cL_law 262 = .ok (.invokevirtual 29, 3) := by decide +kernel
theorem dL_law_265 : decode cL_law 265 = .ok (.aload_n 2, 1) := by decide +kernel
theorem dL_law_266 : decode cL_law 266 = .ok (.invokevirtual 32, 3) := by decide +kernel
theorem dL_law_269 : decode cL_law 269 = .ok (.if_icmp .eq 676, 3) := by decide +kernel
theorem dL_law_272 : decode cL_law 272 = .ok (.iconst 0, 1) := by decide +kernel
theorem dL_law_273 : decode cL_law 273 = .ok (.ireturn, 1) := by decide +kernel
theorem dL_law_274 : decode cL_law 274 = .ok (.aload_n 1, 1) := by decide +kernel
theorem dL_law_275 : decode cL_law 275 = .ok (.aload_n 0, 1) := by decide +kernel
theorem dL_law_276 : decode cL_law 276 = .ok (.iload_n 3, 1) := by decide +kernel
theorem dL_law_277 : decode cL_law 277 = .ok (.iconst 1, 1) := by decide +kernel
theorem dL_law_278 : decode cL_law 278 = .ok (.iadd, 1) := by decide +kernel
theorem dL_law_279 : decode cL_law 279 = .ok (.iaload, 1) := by decide +kernel
theorem dL_law_280 : decode cL_law 280 = .ok (.aload_n 0, 1) := by decide +kernel
theorem dL_law_281 : decode cL_law 281 = .ok (.iload_n 3, 1) := by decide +kernel
theorem dL_law_282 : decode cL_law 282 = .ok (.iconst 2, 1) := by decide +kernel
theorem dL_law_283 : decode cL_law 283 = .ok (.iadd, 1) := by decide +kernel
theorem dL_law_284 : decode cL_law 284 = .ok (.iaload, 1) := by decide +kernel
theorem dL_law_285 : decode cL_law 285 = .ok (.invokevirtual 33, 3) := by decide +kernel
theorem dL_law_288 : decode cL_law 288 = .ok (.aload_n 2, 1) := by decide +kernel
theorem dL_law_289 : decode cL_law 289 = .ok (.aload_n 0, 1) := by decide +kernel
theorem dL_law_290 : decode cL_law 290 = .ok (.iload_n 3, 1) := by decide +kernel
theorem dL_law_291 : decode cL_law 291 = .ok (.iconst 1, 1) := by decide +kernel
theorem dL_law_292 : decode cL_law 292 = .ok (.iadd, 1) := by decide +kernel
theorem dL_law_293 : decode cL_law 293 = .ok (.iaload, 1) := by decide +kernel
theorem dL_law_294 : decode cL_law 294 = .ok (.aload_n 0, 1) := by decide +kernel
theorem dL_law_295 : decode cL_law 295 = .ok (.iload_n 3, 1) := by decide +kernel
theorem dL_law_296 : decode cL_law 296 = .ok (.iconst 2, 1) := by decide +kernel
theorem dL_law_297 : decode cL_law 297 = .ok (.iadd, 1) := by decide +kernel
theorem dL_law_298 : decode cL_law 298 = .ok (.iaload, 1) := by decide +kernel
theorem dL_law_299 : decode cL_law 299 = .ok (.invokevirtual 37, 3) := by decide +kernel
theorem dL_law_302 : decode cL_law 302 = .ok (.if_icmp .eq 643, 3) := by decide +kernel
theorem dL_law_305 : decode cL_law 305 = .ok (.iconst 0, 1) := by decide +kernel
theorem dL_law_306 : decode cL_law 306 = .ok (.ireturn, 1) := by decide +kernel
theorem dL_law_307 : decode cL_law 307 = .ok (.aload_n 1, 1) := by decide +kernel
theorem dL_law_308 : decode cL_law 308 = .ok (.aload_n 0, 1) := by decide +kernel
theorem dL_law_309 : decode cL_law 309 = .ok (.iload_n 3, 1) := by decide +kernel
theorem dL_law_310 : decode cL_law 310 = .ok (.iconst 1, 1) := by decide +kernel
theorem dL_law_311 : decode cL_law 311 = .ok (.iadd, 1) := by decide +kernel
theorem dL_law_312 : decode cL_law 312 = .ok (.iaload, 1) := by decide +kernel
theorem dL_law_313 : decode cL_law 313 = .ok (.aload_n 0, 1) := by decide +kernel
theorem dL_law_314 : decode cL_law 314 = .ok (.iload_n 3, 1) := by decide +kernel
theorem dL_law_315 : decode cL_law 315 = .ok (.iconst 2, 1) := by decide +kernel
theorem dL_law_316 : decode cL_law 316 = .ok (.iadd, 1) := by decide +kernel
theorem dL_law_317 : decode cL_law 317 = .ok (.iaload, 1) := by decide +kernel
theorem dL_law_318 : decode cL_law 318 = .ok (.invokevirtual 38, 3) := by decide +kernel
theorem dL_law_321 : decode cL_law 321 = .ok (.aload_n 2, 1) := by decide +kernel
theorem dL_law_322 : decode cL_law 322 = .ok (.aload_n 0, 1) := by decide +kernel
theorem dL_law_323 : decode cL_law 323 = .ok (.iload_n 3, 1) := by decide +kernel
theorem dL_law_324 : decode cL_law 324 = .ok (.iconst 1, 1) := by decide +kernel
theorem dL_law_325 : decode cL_law 325 = .ok (.iadd, 1) := by decide +kernel
theorem dL_law_326 : decode cL_law 326 = .ok (.iaload, 1) := by decide +kernel
theorem dL_law_327 : decode cL_law 327 = .ok (.aload_n 0, 1) := by decide +kernel
theorem dL_law_328 : decode cL_law 328 = .ok (.iload_n 3, 1) := by decide +kernel
theorem dL_law_329 : decode cL_law 329 = .ok (.iconst 2, 1) := by decide +kernel
theorem dL_law_330 : decode cL_law 330 = .ok (.iadd, 1) := by decide +kernel
theorem dL_law_331 : decode cL_law 331 = .ok (.iaload, 1) := by decide +kernel
theorem dL_law_332 : decode cL_law 332 = .ok (.invokevirtual 41, 3) := by decide +kernel
theorem dL_law_335 : decode cL_law 335 = .ok (.if_icmp .eq 610, 3) := by decide +kernel
theorem dL_law_338 : decode cL_law 338 = .ok (.iconst 0, 1) := by decide +kernel
theorem dL_law_339 : decode cL_law 339 = .ok (.ireturn, 1) := by decide +kernel
theorem dL_law_340 : decode cL_law 340 = .ok (.aload_n 1, 1) := by decide +kernel
theorem dL_law_341 : decode cL_law 341 = .ok (.aload_n 0, 1) := by decide +kernel
theorem dL_law_342 : decode cL_law 342 = .ok (.iload_n 3, 1) := by decide +kernel
theorem dL_law_343 : decode cL_law 343 = .ok (.iconst 1, 1) := by decide +kernel
theorem dL_law_344 : decode cL_law 344 = .ok (.iadd, 1) := by decide +kernel
theorem dL_law_345 : decode cL_law 345 = .ok (.iaload, 1) := by decide +kernel
theorem dL_law_346 : decode cL_law 346 = .ok (.invokevirtual 42, 3) := by decide +kernel
theorem dL_law_349 : decode cL_law 349 = .ok (.aload_n 2, 1) := by decide +kernel
theorem dL_law_350 : decode cL_law 350 = .ok (.aload_n 0, 1) := by decide +kernel
theorem dL_law_351 : decode cL_law 351 = .ok (.iload_n 3, 1) := by decide +kernel
theorem dL_law_352 : decode cL_law 352 = .ok (.iconst 1, 1) := by decide +kernel
theorem dL_law_353 : decode cL_law 353 = .ok (.iadd, 1) := by decide +kernel
theorem dL_law_354 : decode cL_law 354 = .ok (.iaload, 1) := by decide +kernel
theorem dL_law_355 : decode cL_law 355 = .ok (.invokevirtual 46, 3) := by decide +kernel
theorem dL_law_358 : decode cL_law 358 = .ok (.if_icmp .eq 587, 3) := by decide +kernel
theorem dL_law_361 : decode cL_law 361 = .ok (.iconst 0, 1) := by decide +kernel
theorem dL_law_362 : decode cL_law 362 = .ok (.ireturn, 1) := by decide +kernel
theorem dL_law_363 : decode cL_law 363 = .ok (.aload_n 1, 1) := by decide +kernel
theorem dL_law_364 : decode cL_law 364 = .ok (.aload_n 0, 1) := by decide +kernel
theorem dL_law_365 : decode cL_law 365 = .ok (.iload_n 3, 1) := by decide +kernel
theorem dL_law_366 : decode cL_law 366 = .ok (.iconst 1, 1) := by decide +kernel
theorem dL_law_367 : decode cL_law 367 = .ok (.iadd, 1) := by decide +kernel
theorem dL_law_368 : decode cL_law 368 = .ok (.iaload, 1) := by decide +kernel
theorem dL_law_369 : decode cL_law 369 = .ok (.invokevirtual 47, 3) := by decide +kernel
theorem dL_law_372 : decode cL_law 372 = .ok (.aload_n 2, 1) := by decide +kernel
theorem dL_law_373 : decode cL_law 373 = .ok (.aload_n 0, 1) := by decide +kernel
theorem dL_law_374 : decode cL_law 374 = .ok (.iload_n 3, 1) := by decide +kernel
theorem dL_law_375 : decode cL_law 375 = .ok (.iconst 1, 1) := by decide +kernel
theorem dL_law_376 : decode cL_law 376 = .ok (.iadd, 1) := by decide +kernel
theorem dL_law_377 : decode cL_law 377 = .ok (.iaload, 1) := by decide +kernel
theorem dL_law_378 : decode cL_law 378 = .ok (.invokevirtual 50, 3) := by decide +kernel
theorem dL_law_381 : decode cL_law 381 = .ok (.if_icmp .eq 564, 3) := by decide +kernel
theorem dL_law_384 : decode cL_law 384 = .ok (.iconst 0, 1) := by decide +kernel
theorem dL_law_385 : decode cL_law 385 = .ok (.ireturn, 1) := by decide +kernel
theorem dL_law_386 : decode cL_law 386 = .ok (.aload_n 1, 1) := by decide +kernel
theorem dL_law_387 : decode cL_law 387 = .ok (.aload_n 0, 1) := by decide +kernel
theorem dL_law_388 : decode cL_law 388 = .ok (.iload_n 3, 1) := by decide +kernel
theorem dL_law_389 : decode cL_law 389 = .ok (.iconst 1, 1) := by decide +kernel
theorem dL_law_390 : decode cL_law 390 = .ok (.iadd, 1) := by decide +kernel
theorem dL_law_391 : decode cL_law 391 = .ok (.iaload, 1) := by decide +kernel
theorem dL_law_392 : decode cL_law 392 = .ok (.aload_n 0, 1) := by decide +kernel
theorem dL_law_393 : decode cL_law 393 = .ok (.iload_n 3, 1) := by decide +kernel
theorem dL_law_394 : decode cL_law 394 = .ok (.iconst 2, 1) := by decide +kernel
theorem dL_law_395 : decode cL_law 395 = .ok (.iadd, 1) := by decide +kernel
theorem dL_law_396 : decode cL_law 396 = .ok (.iaload, 1) := by decide +kernel
theorem dL_law_397 : decode cL_law 397 = .ok (.aload_n 0, 1) := by decide +kernel
theorem dL_law_398 : decode cL_law 398 = .ok (.iload_n 3, 1) := by decide +kernel
theorem dL_law_399 : decode cL_law 399 = .ok (.iconst 3, 1) := by decide +kernel
theorem dL_law_400 : decode cL_law 400 = .ok (.iadd, 1) := by decide +kernel
theorem dL_law_401 : decode cL_law 401 = .ok (.iaload, 1) := by decide +kernel
theorem dL_law_402 : decode cL_law 402 = .ok (.aload_n 0, 1) := by decide +kernel
theorem dL_law_403 : decode cL_law 403 = .ok (.iload_n 3, 1) := by decide +kernel
theorem dL_law_404 : decode cL_law 404 = .ok (.iconst 4, 1) := by decide +kernel
theorem dL_law_405 : decode cL_law 405 = .ok (.iadd, 1) := by decide +kernel
theorem dL_law_406 : decode cL_law 406 = .ok (.iaload, 1) := by decide +kernel
theorem dL_law_407 : decode cL_law 407 = .ok (.aload_n 0, 1) := by decide +kernel
theorem dL_law_408 : decode cL_law 408 = .ok (.iload_n 3, 1) := by decide +kernel
theorem dL_law_409 : decode cL_law 409 = .ok (.iconst 5, 1) := by decide +kernel
theorem dL_law_410 : decode cL_law 410 = .ok (.iadd, 1) := by decide +kernel
theorem dL_law_411 : decode cL_law 411 = .ok (.iaload, 1) := by decide +kernel
theorem dL_law_412 : decode cL_law 412 = .ok (.invokevirtual 51, 3) := by decide +kernel
theorem dL_law_415 : decode cL_law 415 = .ok (.aload_n 2, 1) := by decide +kernel
theorem dL_law_416 : decode cL_law 416 = .ok (.aload_n 0, 1) := by decide +kernel
theorem dL_law_417 : decode cL_law 417 = .ok (.iload_n 3, 1) := by decide +kernel
theorem dL_law_418 : decode cL_law 418 = .ok (.iconst 1, 1) := by decide +kernel
theorem dL_law_419 : decode cL_law 419 = .ok (.iadd, 1) := by decide +kernel
theorem dL_law_420 : decode cL_law 420 = .ok (.iaload, 1) := by decide +kernel
theorem dL_law_421 : decode cL_law 421 = .ok (.aload_n 0, 1) := by decide +kernel
theorem dL_law_422 : decode cL_law 422 = .ok (.iload_n 3, 1) := by decide +kernel
theorem dL_law_423 : decode cL_law 423 = .ok (.iconst 2, 1) := by decide +kernel
theorem dL_law_424 : decode cL_law 424 = .ok (.iadd, 1) := by decide +kernel
theorem dL_law_425 : decode cL_law 425 = .ok (.iaload, 1) := by decide +kernel
theorem dL_law_426 : decode cL_law 426 = .ok (.aload_n 0, 1) := by decide +kernel
theorem dL_law_427 : decode cL_law 427 = .ok (.iload_n 3, 1) := by decide +kernel
theorem dL_law_428 : decode cL_law 428 = .ok (.iconst 3, 1) := by decide +kernel
theorem dL_law_429 : decode cL_law 429 = .ok (.iadd, 1) := by decide +kernel
theorem dL_law_430 : decode cL_law 430 = .ok (.iaload, 1) := by decide +kernel
theorem dL_law_431 : decode cL_law 431 = .ok (.aload_n 0, 1) := by decide +kernel
theorem dL_law_432 : decode cL_law 432 = .ok (.iload_n 3, 1) := by decide +kernel
theorem dL_law_433 : decode cL_law 433 = .ok (.iconst 4, 1) := by decide +kernel
theorem dL_law_434 : decode cL_law 434 = .ok (.iadd, 1) := by decide +kernel
theorem dL_law_435 : decode cL_law 435 = .ok (.iaload, 1) := by decide +kernel
theorem dL_law_436 : decode cL_law 436 = .ok (.aload_n 0, 1) := by decide +kernel
theorem dL_law_437 : decode cL_law 437 = .ok (.iload_n 3, 1) := by decide +kernel
theorem dL_law_438 : decode cL_law 438 = .ok (.iconst 5, 1) := by decide +kernel
theorem dL_law_439 : decode cL_law 439 = .ok (.iadd, 1) := by decide +kernel
theorem dL_law_440 : decode cL_law 440 = .ok (.iaload, 1) := by decide +kernel
theorem dL_law_441 : decode cL_law 441 = .ok (.invokevirtual 55, 3) := by decide +kernel
theorem dL_law_444 : decode cL_law 444 = .ok (.if_icmp .eq 501, 3) := by decide +kernel
theorem dL_law_447 : decode cL_law 447 = .ok (.iconst 0, 1) := by decide +kernel
theorem dL_law_448 : decode cL_law 448 = .ok (.ireturn, 1) := by decide +kernel
theorem dL_law_449 : decode cL_law 449 = .ok (.aload_n 1, 1) := by decide +kernel
theorem dL_law_450 : decode cL_law 450 = .ok (.aload_n 0, 1) := by decide +kernel
theorem dL_law_451 : decode cL_law 451 = .ok (.iload_n 3, 1) := by decide +kernel
theorem dL_law_452 : decode cL_law 452 = .ok (.iconst 1, 1) := by decide +kernel
theorem dL_law_453 : decode cL_law 453 = .ok (.iadd, 1) := by decide +kernel
theorem dL_law_454 : decode cL_law 454 = .ok (.iaload, 1) := by decide +kernel
theorem dL_law_455 : decode cL_law 455 = .ok (.invokevirtual 56, 3) := by decide +kernel
theorem dL_law_458 : decode cL_law 458 = .ok (.aload_n 2, 1) := by decide +kernel
theorem dL_law_459 : decode cL_law 459 = .ok (.aload_n 0, 1) := by decide +kernel
theorem dL_law_460 : decode cL_law 460 = .ok (.iload_n 3, 1) := by decide +kernel
theorem dL_law_461 : decode cL_law 461 = .ok (.iconst 1, 1) := by decide +kernel
theorem dL_law_462 : decode cL_law 462 = .ok (.iadd, 1) := by decide +kernel
theorem dL_law_463 : decode cL_law 463 = .ok (.iaload, 1) := by decide +kernel
theorem dL_law_464 : decode cL_law 464 = .ok (.invokevirtual 59, 3) := by decide +kernel
theorem dL_law_467 : decode cL_law 467 = .ok (.if_icmp .eq 478, 3) := by decide +kernel
theorem dL_law_470 : decode cL_law 470 = .ok (.iconst 0, 1) := by decide +kernel
theorem dL_law_471 : decode cL_law 471 = .ok (.ireturn, 1) := by decide +kernel
theorem dL_law_472 : decode cL_law 472 = .ok (.aload_n 1, 1) := by decide +kernel
theorem dL_law_473 : decode cL_law 473 = .ok (.aload_n 0, 1) := by decide +kernel
theorem dL_law_474 : decode cL_law 474 = .ok (.iload_n 3, 1) := by decide +kernel
theorem dL_law_475 : decode cL_law 475 = .ok (.iconst 1, 1) := by decide +kernel
theorem dL_law_476 : decode cL_law 476 = .ok (.iadd, 1) := by decide +kernel
theorem dL_law_477 : decode cL_law 477 = .ok (.iaload, 1) := by decide +kernel
theorem dL_law_478 : decode cL_law 478 = .ok (.invokevirtual 60, 3) := by decide +kernel
theorem dL_law_481 : decode cL_law 481 = .ok (.aload_n 2, 1) := by decide +kernel
theorem dL_law_482 : decode cL_law 482 = .ok (.aload_n 0, 1) := by decide +kernel
theorem dL_law_483 : decode cL_law 483 = .ok (.iload_n 3, 1) := by decide +kernel
theorem dL_law_484 : decode cL_law 484 = .ok (.iconst 1, 1) := by decide +kernel
theorem dL_law_485 : decode cL_law 485 = .ok (.iadd, 1) := by decide +kernel
theorem dL_law_486 : decode cL_law 486 = .ok (.iaload, 1) := by decide +kernel
theorem dL_law_487 : decode cL_law 487 = .ok (.invokevirtual 63, 3) := by decide +kernel
theorem dL_law_490 : decode cL_law 490 = .ok (.if_icmp .eq 455, 3) := by decide +kernel
theorem dL_law_493 : decode cL_law 493 = .ok (.iconst 0, 1) := by decide +kernel
theorem dL_law_494 : decode cL_law 494 = .ok (.ireturn, 1) := by decide +kernel
theorem dL_law_495 : decode cL_law 495 = .ok (.aload_n 1, 1) := by decide +kernel
theorem dL_law_496 : decode cL_law 496 = .ok (.aload_n 0, 1) := by decide +kernel
theorem dL_law_497 : decode cL_law 497 = .ok (.iload_n 3, 1) := by decide +kernel
theorem dL_law_498 : decode cL_law 498 = .ok (.iconst 1, 1) := by decide +kernel
theorem dL_law_499 : decode cL_law 499 = .ok (.iadd, 1) := by decide +kernel
theorem dL_law_500 : decode cL_law 500 = .ok (.iaload, 1) := by decide +kernel
theorem dL_law_501 : decode cL_law 501 = .ok (.invokevirtual 64, 3) := by decide +kernel
theorem dL_law_504 : decode cL_law 504 = .ok (.aload_n 2, 1) := by decide +kernel
theorem dL_law_505 : decode cL_law 505 = .ok (.aload_n 0, 1) := by decide +kernel
theorem dL_law_506 : decode cL_law 506 = .ok (.iload_n 3, 1) := by decide +kernel
theorem dL_law_507 : decode cL_law 507 = .ok (.iconst 1, 1) := by decide +kernel
theorem dL_law_508 : decode cL_law 508 = .ok (.iadd, 1) := by decide +kernel
theorem dL_law_509 : decode cL_law 509 = .ok (.iaload, 1) := by decide +kernel
theorem dL_law_510 : decode cL_law 510 = .ok (.invokevirtual 67, 3) := by decide +kernel
theorem dL_law_513 : decode cL_law 513 = .ok (.if_icmp .eq 432, 3) := by decide +kernel
theorem dL_law_516 : decode cL_law 516 = .ok (.iconst 0, 1) := by decide +kernel
theorem dL_law_517 : decode cL_law 517 = .ok (.ireturn, 1) := by decide +kernel
theorem dL_law_518 : decode cL_law 518 = .ok (.aload_n 1, 1) := by decide +kernel
theorem dL_law_519 : decode cL_law 519 = .ok (.invokevirtual 68, 3) := by decide +kernel
theorem dL_law_522 : decode cL_law 522 = .ok (.aload_n 2, 1) := by decide +kernel
theorem dL_law_523 : decode cL_law 523 = .ok (.invokevirtual 71, 3) := by decide +kernel
theorem dL_law_526 : decode cL_law 526 = .ok (.if_icmp .eq 419, 3) := by decide +kernel
theorem dL_law_529 : decode cL_law 529 = .ok (.iconst 0, 1) := by decide +kernel
theorem dL_law_530 : decode cL_law 530 = .ok (.ireturn, 1) := by decide +kernel
theorem dL_law_531 : decode cL_law 531 = .ok (.aload_n 1, 1) := by decide +kernel
theorem dL_law_532 : decode cL_law 532 = .ok (.aload_n 0, 1) := by decide +kernel
theorem dL_law_533 : decode cL_law 533 = .ok (.iload_n 3, 1) := by decide +kernel
theorem dL_law_534 : decode cL_law 534 = .ok (.iconst 1, 1) := by decide +kernel
theorem dL_law_535 : decode cL_law 535 = .ok (.iadd, 1) := by decide +kernel
theorem dL_law_536 : decode cL_law 536 = .ok (.iaload, 1) := by decide +kernel
theorem dL_law_537 : decode cL_law 537 = .ok (.invokevirtual 72, 3) := by decide +kernel
theorem dL_law_540 : decode cL_law 540 = .ok (.aload_n 2, 1) := by decide +kernel
theorem dL_law_541 : decode cL_law 541 = .ok (.aload_n 0, 1) := by decide +kernel
theorem dL_law_542 : decode cL_law 542 = .ok (.iload_n 3, 1) := by decide +kernel
theorem dL_law_543 : decode cL_law 543 = .ok (.iconst 1, 1) := by decide +kernel
theorem dL_law_544 : decode cL_law 544 = .ok (.iadd, 1) := by decide +kernel
theorem dL_law_545 : decode cL_law 545 = .ok (.iaload, 1) := by decide +kernel
theorem dL_law_546 : decode cL_law 546 = .ok (.invokevirtual 75, 3) := by decide +kernel
theorem dL_law_549 : decode cL_law 549 = .ok (.if_icmp .eq 396, 3) := by decide +kernel
theorem dL_law_552 : decode cL_law 552 = .ok (.iconst 0, 1) := by decide +kernel
theorem dL_law_553 : decode cL_law 553 = .ok (.ireturn, 1) := by decide +kernel
theorem dL_law_554 : decode cL_law 554 = .ok (.aload_n 1, 1) := by decide +kernel
theorem dL_law_555 : decode cL_law 555 = .ok (.aload_n 0, 1) := by decide +kernel
theorem dL_law_556 : decode cL_law 556 = .ok (.iload_n 3, 1) := by decide +kernel
theorem dL_law_557 : decode cL_law 557 = .ok (.iconst 1, 1) := by decide +kernel
theorem dL_law_558 : decode cL_law 558 = .ok (.iadd, 1) := by decide +kernel
theorem dL_law_559 : decode cL_law 559 = .ok (.iaload, 1) := by decide +kernel
theorem dL_law_560 : decode cL_law 560 = .ok (.invokevirtual 76, 3) := by decide +kernel
theorem dL_law_563 : decode cL_law 563 = .ok (.aload_n 2, 1) := by decide +kernel
theorem dL_law_564 : decode cL_law 564 = .ok (.aload_n 0, 1) := by decide +kernel
theorem dL_law_565 : decode cL_law 565 = .ok (.iload_n 3, 1) := by decide +kernel
theorem dL_law_566 : decode cL_law 566 = .ok (.iconst 1, 1) := by decide +kernel
theorem dL_law_567 : decode cL_law 567 = .ok (.iadd, 1) := by decide +kernel
theorem dL_law_568 : decode cL_law 568 = .ok (.iaload, 1) := by decide +kernel
theorem dL_law_569 : decode cL_law 569 = .ok (.invokevirtual 79, 3) := by decide +kernel
theorem dL_law_572 : decode cL_law 572 = .ok (.if_icmp .eq 373, 3) := by decide +kernel
theorem dL_law_575 : decode cL_law 575 = .ok (.iconst 0, 1) := by decide +kernel
theorem dL_law_576 : decode cL_law 576 = .ok (.ireturn, 1) := by decide +kernel
theorem dL_law_577 : decode cL_law 577 = .ok (.aload_n 1, 1) := by decide +kernel
theorem dL_law_578 : decode cL_law 578 = .ok (.invokevirtual 80, 3) := by decide +kernel
theorem dL_law_581 : decode cL_law 581 = .ok (.aload_n 2, 1) := by decide +kernel
theorem dL_law_582 : decode cL_law 582 = .ok (.invokevirtual 83, 3) := by decide +kernel
theorem dL_law_585 : decode cL_law 585 = .ok (.if_icmp .eq 360, 3) := by decide +kernel
theorem dL_law_588 : decode cL_law 588 = .ok (.iconst 0, 1) := by decide +kernel
theorem dL_law_589 : decode cL_law 589 = .ok (.ireturn, 1) := by decide +kernel
theorem dL_law_590 : decode cL_law 590 = .ok (.aload_n 1, 1) := by decide +kernel
theorem dL_law_591 : decode cL_law 591 = .ok (.aload_n 0, 1) := by decide +kernel
theorem dL_law_592 : decode cL_law 592 = .ok (.iload_n 3, 1) := by decide +kernel
theorem dL_law_593 : decode cL_law 593 = .ok (.iconst 1, 1) := by decide +kernel
theorem dL_law_594 : decode cL_law 594 = .ok (.iadd, 1) := by decide +kernel
theorem dL_law_595 : decode cL_law 595 = .ok (.iaload, 1) := by decide +kernel
theorem dL_law_596 : decode cL_law 596 = .ok (.invokevirtual 84, 3) := by decide +kernel
theorem dL_law_599 : decode cL_law 599 = .ok (.aload_n 2, 1) := by decide +kernel
theorem dL_law_600 : decode cL_law 600 = .ok (.aload_n 0, 1) := by decide +kernel
theorem dL_law_601 : decode cL_law 601 = .ok (.iload_n 3, 1) := by decide +kernel
theorem dL_law_602 : decode cL_law 602 = .ok (.iconst 1, 1) := by decide +kernel
theorem dL_law_603 : decode cL_law 603 = .ok (.iadd, 1) := by decide +kernel
theorem dL_law_604 : decode cL_law 604 = .ok (.iaload, 1) := by decide +kernel
theorem dL_law_605 : decode cL_law 605 = .ok (.invokevirtual 87, 3) := by decide +kernel
theorem dL_law_608 : decode cL_law 608 = .ok (.if_icmp .eq 337, 3) := by decide +kernel
theorem dL_law_611 : decode cL_law 611 = .ok (.iconst 0, 1) := by decide +kernel
theorem dL_law_612 : decode cL_law 612 = .ok (.ireturn, 1) := by decide +kernel
theorem dL_law_613 : decode cL_law 613 = .ok (.aload_n 1, 1) := by decide +kernel
theorem dL_law_614 : decode cL_law 614 = .ok (.aload_n 0, 1) := by decide +kernel
theorem dL_law_615 : decode cL_law 615 = .ok (.iload_n 3, 1) := by decide +kernel
theorem dL_law_616 : decode cL_law 616 = .ok (.iconst 1, 1) := by decide +kernel
theorem dL_law_617 : decode cL_law 617 = .ok (.iadd, 1) := by decide +kernel
theorem dL_law_618 : decode cL_law 618 = .ok (.iaload, 1) := by decide +kernel
theorem dL_law_619 : decode cL_law 619 = .ok (.aload_n 0, 1) := by decide +kernel
theorem dL_law_620 : decode cL_law 620 = .ok (.iload_n 3, 1) := by decide +kernel
theorem dL_law_621 : decode cL_law 621 = .ok (.iconst 2, 1) := by decide +kernel
theorem dL_law_622 : decode cL_law 622 = .ok (.iadd, 1) := by decide +kernel
theorem dL_law_623 : decode cL_law 623 = .ok (.iaload, 1) := by decide +kernel
theorem dL_law_624 : decode cL_law 624 = .ok (.aload_n 0, 1) := by decide +kernel
theorem dL_law_625 : decode cL_law 625 = .ok (.iload_n 3, 1) := by decide +kernel
theorem dL_law_626 : decode cL_law 626 = .ok (.iconst 3, 1) := by decide +kernel
theorem dL_law_627 : decode cL_law 627 = .ok (.iadd, 1) := by decide +kernel
theorem dL_law_628 : decode cL_law 628 = .ok (.iaload, 1) := by decide +kernel
theorem dL_law_629 : decode cL_law 629 = .ok (.invokevirtual 88, 3) := by decide +kernel
theorem dL_law_632 : decode cL_law 632 = .ok (.aload_n 2, 1) := by decide +kernel
theorem dL_law_633 : decode cL_law 633 = .ok (.aload_n 0, 1) := by decide +kernel
theorem dL_law_634 : decode cL_law 634 = .ok (.iload_n 3, 1) := by decide +kernel
theorem dL_law_635 : decode cL_law 635 = .ok (.iconst 1, 1) := by decide +kernel
theorem dL_law_636 : decode cL_law 636 = .ok (.iadd, 1) := by decide +kernel
theorem dL_law_637 : decode cL_law 637 = .ok (.iaload, 1) := by decide +kernel
theorem dL_law_638 : decode cL_law 638 = .ok (.aload_n 0, 1) := by decide +kernel
theorem dL_law_639 : decode cL_law 639 = .ok (.iload_n 3, 1) := by decide +kernel
theorem dL_law_640 : decode cL_law 640 = .ok (.iconst 2, 1) := by decide +kernel
theorem dL_law_641 : decode cL_law 641 = .ok (.iadd, 1) := by decide +kernel
theorem dL_law_642 : decode cL_law 642 = .ok (.iaload, 1) := by decide +kernel
theorem dL_law_643 : decode cL_law 643 = .ok (.aload_n 0, 1) := by decide +kernel
theorem dL_law_644 : decode cL_law 644 = .ok (.iload_n 3, 1) := by decide +kernel
theorem dL_law_645 : decode cL_law 645 = .ok (.iconst 3, 1) := by decide +kernel
theorem dL_law_646 : decode cL_law 646 = .ok (.iadd, 1) := by decide +kernel
theorem dL_law_647 : decode cL_law 647 = .ok (.iaload, 1) := by decide +kernel
theorem dL_law_648 : decode cL_law 648 = .ok (.invokevirtual 92, 3) := by decide +kernel
theorem dL_law_651 : decode cL_law 651 = .ok (.if_icmp .eq 294, 3) := by decide +kernel
theorem dL_law_654 : decode cL_law 654 = .ok (.iconst 0, 1) := by decide +kernel
theorem dL_law_655 : decode cL_law 655 = .ok (.ireturn, 1) := by decide +kernel
theorem dL_law_656 : decode cL_law 656 = .ok (.aload_n 1, 1) := by decide +kernel
theorem dL_law_657 : decode cL_law 657 = .ok (.invokevirtual 93, 3) := by decide +kernel
theorem dL_law_660 : decode cL_law 660 = .ok (.aload_n 2, 1) := by decide +kernel
theorem dL_law_661 : decode cL_law 661 = .ok (.invokevirtual 96, 3) := by decide +kernel
theorem dL_law_664 : decode cL_law 664 = .ok (.if_icmp .eq 281, 3) := by decide +kernel
theorem dL_law_667 : decode cL_law 667 = .ok (.iconst 0, 1) := by decide +kernel
theorem dL_law_668 : decode cL_law 668 = .ok (.ireturn, 1) := by decide +kernel
theorem dL_law_669 : decode cL_law 669 = .ok (.aload_n 1, 1) := by decide +kernel
theorem dL_law_670 : decode cL_law 670 = .ok (.aload_n 0, 1) := by decide +kernel
theorem dL_law_671 : decode cL_law 671 = .ok (.iload_n 3, 1) := by decide +kernel
theorem dL_law_672 : decode cL_law 672 = .ok (.iconst 1, 1) := by decide +kernel
theorem dL_law_673 : decode cL_law 673 = .ok (.iadd, 1) := by decide +kernel
theorem dL_law_674 : decode cL_law 674 = .ok (.iaload, 1) := by decide +kernel
theorem dL_law_675 : decode cL_law 675 = .ok (.invokevirtual 97, 3) := by decide +kernel
theorem dL_law_678 : decode cL_law 678 = .ok (.aload_n 2, 1) := by decide +kernel
theorem dL_law_679 : decode cL_law 679 = .ok (.aload_n 0, 1) := by decide +kernel
theorem dL_law_680 : decode cL_law 680 = .ok (.iload_n 3, 1) := by decide +kernel
theorem dL_law_681 : decode cL_law 681 = .ok (.iconst 1, 1) := by decide +kernel
theorem dL_law_682 : decode cL_law 682 = .ok (.iadd, 1) := by decide +kernel
theorem dL_law_683 : decode cL_law 683 = .ok (.iaload, 1) := by decide +kernel
theorem dL_law_684 : decode cL_law 684 = .ok (.invokevirtual 100, 3) := by decide +kernel
theorem dL_law_687 : decode cL_law 687 = .ok (.if_icmp .eq 258, 3) := by decide +kernel
theorem dL_law_690 : decode cL_law 690 = .ok (.iconst 0, 1) := by decide +kernel
theorem dL_law_691 : decode cL_law 691 = .ok (.ireturn, 1) := by decide +kernel
theorem dL_law_692 : decode cL_law 692 = .ok (.aload_n 1, 1) := by decide +kernel
theorem dL_law_693 : decode cL_law 693 = .ok (.invokevirtual 101, 3) := by decide +kernel
theorem dL_law_696 : decode cL_law 696 = .ok (.aload_n 2, 1) := by decide +kernel
theorem dL_law_697 : decode cL_law 697 = .ok (.invokevirtual 104, 3) := by decide +kernel
theorem dL_law_700 : decode cL_law 700 = .ok (.if_icmp .eq 245, 3) := by decide +kernel
theorem dL_law_703 : decode cL_law 703 = .ok (.iconst 0, 1) := by decide +kernel
theorem dL_law_704 : decode cL_law 704 = .ok (.ireturn, 1) := by decide +kernel
theorem dL_law_705 : decode cL_law 705 = .ok (.aload_n 1, 1) := by decide +kernel
theorem dL_law_706 : decode cL_law 706 = .ok (.invokevirtual 105, 3) := by decide +kernel
theorem dL_law_709 : decode cL_law 709 = .ok (.aload_n 2, 1) := by decide +kernel
theorem dL_law_710 : decode cL_law 710 = .ok (.invokevirtual 108, 3) := by decide +kernel
theorem dL_law_713 : decode cL_law 713 = .ok (.if_icmp .eq 232, 3) := by decide +kernel
theorem dL_law_716 : decode cL_law 716 = .ok (.iconst 0, 1) := by decide +kernel
theorem dL_law_717 : decode cL_law 717 = .ok (.ireturn, 1) := by decide +kernel
theorem dL_law_718 : decode cL_law 718 = .ok (.aload_n 1, 1) := by decide +kernel
theorem dL_law_719 : decode cL_law 719 = .ok (.aload_n 0, 1) := by decide +kernel
theorem dL_law_720 : decode cL_law 720 = .ok (.iload_n 3, 1) := by decide +kernel
theorem dL_law_721 : decode cL_law 721 = .ok (.iconst 1, 1) := by decide +kernel
theorem dL_law_722 : decode cL_law 722 = .ok (.iadd, 1) := by decide +kernel
theorem dL_law_723 : decode cL_law 723 = .ok (.iaload, 1) := by decide +kernel
theorem dL_law_724 : decode cL_law 724 = .ok (.aload_n 0, 1) := by decide +kernel
theorem dL_law_725 : decode cL_law 725 = .ok (.iload_n 3, 1) := by decide +kernel
theorem dL_law_726 : decode cL_law 726 = .ok (.iconst 2, 1) := by decide +kernel
theorem dL_law_727 : decode cL_law 727 = .ok (.iadd, 1) := by decide +kernel
theorem dL_law_728 : decode cL_law 728 = .ok (.iaload, 1) := by decide +kernel
theorem dL_law_729 : decode cL_law 729 = .ok (.invokevirtual 109, 3) := by decide +kernel
theorem dL_law_732 : decode cL_law 732 = .ok (.aload_n 2, 1) := by decide +kernel
theorem dL_law_733 : decode cL_law 733 = .ok (.aload_n 0, 1) := by decide +kernel
theorem dL_law_734 : decode cL_law 734 = .ok (.iload_n 3, 1) := by decide +kernel
theorem dL_law_735 : decode cL_law 735 = .ok (.iconst 1, 1) := by decide +kernel
theorem dL_law_736 : decode cL_law 736 = .ok (.iadd, 1) := by decide +kernel
theorem dL_law_737 : decode cL_law 737 = .ok (.iaload, 1) := by decide +kernel
theorem dL_law_738 : decode cL_law 738 = .ok (.aload_n 0, 1) := by decide +kernel
theorem dL_law_739 : decode cL_law 739 = .ok (.iload_n 3, 1) := by decide +kernel
theorem dL_law_740 : decode cL_law 740 = .ok (.iconst 2, 1) := by decide +kernel
theorem dL_law_741 : decode cL_law 741 = .ok (.iadd, 1) := by decide +kernel
theorem dL_law_742 : decode cL_law 742 = .ok (.iaload, 1) := by decide +kernel
theorem dL_law_743 : decode cL_law 743 = .ok (.invokevirtual 112, 3) := by decide +kernel
theorem dL_law_746 : decode cL_law 746 = .ok (.if_icmp .eq 199, 3) := by decide +kernel
theorem dL_law_749 : decode cL_law 749 = .ok (.iconst 0, 1) := by decide +kernel
theorem dL_law_750 : decode cL_law 750 = .ok (.ireturn, 1) := by decide +kernel
theorem dL_law_751 : decode cL_law 751 = .ok (.aload_n 1, 1) := by decide +kernel
theorem dL_law_752 : decode cL_law 752 = .ok (.aload_n 0, 1) := by decide +kernel
theorem dL_law_753 : decode cL_law 753 = .ok (.iload_n 3, 1) := by decide +kernel
theorem dL_law_754 : decode cL_law 754 = .ok (.iconst 1, 1) := by decide +kernel
theorem dL_law_755 : decode cL_law 755 = .ok (.iadd, 1) := by decide +kernel
theorem dL_law_756 : decode cL_law 756 = .ok (.iaload, 1) := by decide +kernel
theorem dL_law_757 : decode cL_law 757 = .ok (.invokevirtual 113, 3) := by decide +kernel
theorem dL_law_760 : decode cL_law 760 = .ok (.aload_n 2, 1) := by decide +kernel
theorem dL_law_761 : decode cL_law 761 = .ok (.aload_n 0, 1) := by decide +kernel
theorem dL_law_762 : decode cL_law 762 = .ok (.iload_n 3, 1) := by decide +kernel
theorem dL_law_763 : decode cL_law 763 = .ok (.iconst 1, 1) := by decide +kernel
theorem dL_law_764 : decode cL_law 764 = .ok (.iadd, 1) := by decide +kernel
theorem dL_law_765 : decode cL_law 765 = .ok (.iaload, 1) := by decide +kernel
theorem dL_law_766 : decode cL_law 766 = .ok (.invokevirtual 116, 3) := by decide +kernel
theorem dL_law_769 : decode cL_law 769 = .ok (.if_icmp .eq 176, 3) := by decide +kernel
theorem dL_law_772 : decode cL_law 772 = .ok (.iconst 0, 1) := by decide +kernel
theorem dL_law_773 : decode cL_law 773 = .ok (.ireturn, 1) := by decide +kernel
theorem dL_law_774 : decode cL_law 774 = .ok (.aload_n 1, 1) := by decide +kernel
theorem dL_law_775 : decode cL_law 775 = .ok (.aload_n 0, 1) := by decide +kernel
theorem dL_law_776 : decode cL_law 776 = .ok (.iload_n 3, 1) := by decide +kernel
theorem dL_law_777 : decode cL_law 777 = .ok (.iconst 1, 1) := by decide +kernel
theorem dL_law_778 : decode cL_law 778 = .ok (.iadd, 1) := by decide +kernel
theorem dL_law_779 : decode cL_law 779 = .ok (.iaload, 1) := by decide +kernel
theorem dL_law_780 : decode cL_law 780 = .ok (.aload_n 0, 1) := by decide +kernel
theorem dL_law_781 : decode cL_law 781 = .ok (.iload_n 3, 1) := by decide +kernel
theorem dL_law_782 : decode cL_law 782 = .ok (.iconst 2, 1) := by decide +kernel
theorem dL_law_783 : decode cL_law 783 = .ok (.iadd, 1) := by decide +kernel
theorem dL_law_784 : decode cL_law 784 = .ok (.iaload, 1) := by decide +kernel
theorem dL_law_785 : decode cL_law 785 = .ok (.invokevirtual 117, 3) := by decide +kernel
theorem dL_law_788 : decode cL_law 788 = .ok (.aload_n 2, 1) := by decide +kernel
theorem dL_law_789 : decode cL_law 789 = .ok (.aload_n 0, 1) := by decide +kernel
theorem dL_law_790 : decode cL_law 790 = .ok (.iload_n 3, 1) := by decide +kernel
theorem dL_law_791 : decode cL_law 791 = .ok (.iconst 1, 1) := by decide +kernel
theorem dL_law_792 : decode cL_law 792 = .ok (.iadd, 1) := by decide +kernel
theorem dL_law_793 : decode cL_law 793 = .ok (.iaload, 1) := by decide +kernel
theorem dL_law_794 : decode cL_law 794 = .ok (.aload_n 0, 1) := by decide +kernel
theorem dL_law_795 : decode cL_law 795 = .ok (.iload_n 3, 1) := by decide +kernel
theorem dL_law_796 : decode cL_law 796 = .ok (.iconst 2, 1) := by decide +kernel
theorem dL_law_797 : decode cL_law 797 = .ok (.iadd, 1) := by decide +kernel
theorem dL_law_798 : decode cL_law 798 = .ok (.iaload, 1) := by decide +kernel
theorem dL_law_799 : decode cL_law 799 = .ok (.invokevirtual 120, 3) := by decide +kernel
theorem dL_law_802 : decode cL_law 802 = .ok (.if_icmp .eq 143, 3) := by decide +kernel
theorem dL_law_805 : decode cL_law 805 = .ok (.iconst 0, 1) := by decide +kernel
theorem dL_law_806 : decode cL_law 806 = .ok (.ireturn, 1) := by decide +kernel
theorem dL_law_807 : decode cL_law 807 = .ok (.aload_n 1, 1) := by decide +kernel
theorem dL_law_808 : decode cL_law 808 = .ok (.invokevirtual 121, 3) := by decide +kernel
theorem dL_law_811 : decode cL_law 811 = .ok (.aload_n 2, 1) := by decide +kernel
theorem dL_law_812 : decode cL_law 812 = .ok (.invokevirtual 124, 3) := by decide +kernel
theorem dL_law_815 : decode cL_law 815 = .ok (.if_icmp .eq 130, 3) := by decide +kernel
theorem dL_law_818 : decode cL_law 818 = .ok (.iconst 0, 1) := by decide +kernel
theorem dL_law_819 : decode cL_law 819 = .ok (.ireturn, 1) := by decide +kernel
theorem dL_law_820 : decode cL_law 820 = .ok (.aload_n 1, 1) := by decide +kernel
theorem dL_law_821 : decode cL_law 821 = .ok (.aload_n 0, 1) := by decide +kernel
theorem dL_law_822 : decode cL_law 822 = .ok (.iload_n 3, 1) := by decide +kernel
theorem dL_law_823 : decode cL_law 823 = .ok (.iconst 1, 1) := by decide +kernel
theorem dL_law_824 : decode cL_law 824 = .ok (.iadd, 1) := by decide +kernel
theorem dL_law_825 : decode cL_law 825 = .ok (.iaload, 1) := by decide +kernel
theorem dL_law_826 : decode cL_law 826 = .ok (.aload_n 0, 1) := by decide +kernel
theorem dL_law_827 : decode cL_law 827 = .ok (.iload_n 3, 1) := by decide +kernel
theorem dL_law_828 : decode cL_law 828 = .ok (.iconst 2, 1) := by decide +kernel
theorem dL_law_829 : decode cL_law 829 = .ok (.iadd, 1) := by decide +kernel
theorem dL_law_830 : decode cL_law 830 = .ok (.iaload, 1) := by decide +kernel
theorem dL_law_831 : decode cL_law 831 = .ok (.invokevirtual 125, 3) := by decide +kernel
theorem dL_law_834 : decode cL_law 834 = .ok (.aload_n 2, 1) := by decide +kernel
theorem dL_law_835 : decode cL_law 835 = .ok (.aload_n 0, 1) := by decide +kernel
theorem dL_law_836 : decode cL_law 836 = .ok (.iload_n 3, 1) := by decide +kernel
theorem dL_law_837 : decode cL_law 837 = .ok (.iconst 1, 1) := by decide +kernel
theorem dL_law_838 : decode cL_law 838 = .ok (.iadd, 1) := by decide +kernel
theorem dL_law_839 : decode cL_law 839 = .ok (.iaload, 1) := by decide +kernel
theorem dL_law_840 : decode cL_law 840 = .ok (.aload_n 0, 1) := by decide +kernel
theorem dL_law_841 : decode cL_law 841 = .ok (.iload_n 3, 1) := by decide +kernel
theorem dL_law_842 : decode cL_law 842 = .ok (.iconst 2, 1) := by decide +kernel
theorem dL_law_843 : decode cL_law 843 = .ok (.iadd, 1) := by decide +kernel
theorem dL_law_844 : decode cL_law 844 = .ok (.iaload, 1) := by decide +kernel
theorem dL_law_845 : decode cL_law 845 = .ok (.invokevirtual 128, 3) := by decide +kernel
theorem dL_law_848 : decode cL_law 848 = .ok (.if_icmp .eq 97, 3) := by decide +kernel
theorem dL_law_851 : decode cL_law 851 = .ok (.iconst 0, 1) := by decide +kernel
theorem dL_law_852 : decode cL_law 852 = .ok (.ireturn, 1) := by decide +kernel
theorem dL_law_853 : decode cL_law 853 = .ok (.aload_n 1, 1) := by decide +kernel
theorem dL_law_854 : decode cL_law 854 = .ok (.aload_n 0, 1) := by decide +kernel
theorem dL_law_855 : decode cL_law 855 = .ok (.iload_n 3, 1) := by decide +kernel
theorem dL_law_856 : decode cL_law 856 = .ok (.iconst 1, 1) := by decide +kernel
theorem dL_law_857 : decode cL_law 857 = .ok (.iadd, 1) := by decide +kernel
theorem dL_law_858 : decode cL_law 858 = .ok (.iaload, 1) := by decide +kernel
theorem dL_law_859 : decode cL_law 859 = .ok (.aload_n 0, 1) := by decide +kernel
theorem dL_law_860 : decode cL_law 860 = .ok (.iload_n 3, 1) := by decide +kernel
theorem dL_law_861 : decode cL_law 861 = .ok (.iconst 2, 1) := by decide +kernel
theorem dL_law_862 : decode cL_law 862 = .ok (.iadd, 1) := by decide +kernel
theorem dL_law_863 : decode cL_law 863 = .ok (.iaload, 1) := by decide +kernel
theorem dL_law_864 : decode cL_law 864 = .ok (.aload_n 0, 1) := by decide +kernel
theorem dL_law_865 : decode cL_law 865 = .ok (.iload_n 3, 1) := by decide +kernel
theorem dL_law_866 : decode cL_law 866 = .ok (.iconst 3, 1) := by decide +kernel
theorem dL_law_867 : decode cL_law 867 = .ok (.iadd, 1) := by decide +kernel
theorem dL_law_868 : decode cL_law 868 = .ok (.iaload, 1) := by decide +kernel
theorem dL_law_869 : decode cL_law 869 = .ok (.invokevirtual 129, 3) := by decide +kernel
theorem dL_law_872 : decode cL_law 872 = .ok (.aload_n 2, 1) := by decide +kernel
theorem dL_law_873 : decode cL_law 873 = .ok (.aload_n 0, 1) := by decide +kernel
theorem dL_law_874 : decode cL_law 874 = .ok (.iload_n 3, 1) := by decide +kernel
theorem dL_law_875 : decode cL_law 875 = .ok (.iconst 1, 1) := by decide +kernel
theorem dL_law_876 : decode cL_law 876 = .ok (.iadd, 1) := by decide +kernel
theorem dL_law_877 : decode cL_law 877 = .ok (.iaload, 1) := by decide +kernel
theorem dL_law_878 : decode cL_law 878 = .ok (.aload_n 0, 1) := by decide +kernel
theorem dL_law_879 : decode cL_law 879 = .ok (.iload_n 3, 1) := by decide +kernel
theorem dL_law_880 : decode cL_law 880 = .ok (.iconst 2, 1) := by decide +kernel
theorem dL_law_881 : decode cL_law 881 = .ok (.iadd, 1) := by decide +kernel
theorem dL_law_882 : decode cL_law 882 = .ok (.iaload, 1) := by decide +kernel
theorem dL_law_883 : decode cL_law 883 = .ok (.aload_n 0, 1) := by decide +kernel
theorem dL_law_884 : decode cL_law 884 = .ok (.iload_n 3, 1) := by decide +kernel
theorem dL_law_885 : decode cL_law 885 = .ok (.iconst 3, 1) := by decide +kernel
theorem dL_law_886 : decode cL_law 886 = .ok (.iadd, 1) := by decide +kernel
theorem dL_law_887 : decode cL_law 887 = .ok (.iaload, 1) := by decide +kernel
theorem dL_law_888 : decode cL_law 888 = .ok (.invokevirtual 132, 3) := by decide +kernel
theorem dL_law_891 : decode cL_law 891 = .ok (.if_icmp .eq 54, 3) := by decide +kernel
theorem dL_law_894 : decode cL_law 894 = .ok (.iconst 0, 1) := by decide +kernel
theorem dL_law_895 : decode cL_law 895 = .ok (.ireturn, 1) := by decide +kernel
theorem dL_law_896 : decode cL_law 896 = .ok (.aload_n 1, 1) := by decide +kernel
theorem dL_law_897 : decode cL_law 897 = .ok (.invokevirtual 133, 3) := by decide +kernel
theorem dL_law_900 : decode cL_law 900 = .ok (.aload_n 2, 1) := by decide +kernel
theorem dL_law_901 : decode cL_law 901 = .ok (.invokevirtual 136, 3) := by decide +kernel
theorem dL_law_904 : decode cL_law 904 = .ok (.if_icmp .eq 41, 3) := by decide +kernel
theorem dL_law_907 : decode cL_law 907 = .ok (.iconst 0, 1) := by decide +kernel
theorem dL_law_908 : decode cL_law 908 = .ok (.ireturn, 1) := by decide +kernel
theorem dL_law_909 : decode cL_law 909 = .ok (.aload_n 1, 1) := by decide +kernel
theorem dL_law_910 : decode cL_law 910 = .ok (.invokevirtual 137, 3) := by decide +kernel
theorem dL_law_913 : decode cL_law 913 = .ok (.aload_n 2, 1) := by decide +kernel
theorem dL_law_914 : decode cL_law 914 = .ok (.invokevirtual 140, 3) := by decide +kernel
theorem dL_law_917 : decode cL_law 917 = .ok (.if_icmp .eq 28, 3) := by decide +kernel
theorem dL_law_920 : decode cL_law 920 = .ok (.iconst 0, 1) := by decide +kernel
theorem dL_law_921 : decode cL_law 921 = .ok (.ireturn, 1) := by decide +kernel
theorem dL_law_922 : decode cL_law 922 = .ok (.aload_n 1, 1) := by decide +kernel
theorem dL_law_923 : decode cL_law 923 = .ok (.aload_n 0, 1) := by decide +kernel
theorem dL_law_924 : decode cL_law 924 = .ok (.iload_n 3, 1) := by decide +kernel
theorem dL_law_925 : decode cL_law 925 = .ok (.iconst 1, 1) := by decide +kernel
theorem dL_law_926 : decode cL_law 926 = .ok (.iadd, 1) := by decide +kernel
theorem dL_law_927 : decode cL_law 927 = .ok (.iaload, 1) := by decide +kernel
theorem dL_law_928 : decode cL_law 928 = .ok (.invokevirtual 141, 3) := by decide +kernel
theorem dL_law_931 : decode cL_law 931 = .ok (.aload_n 2, 1) := by decide +kernel
theorem dL_law_932 : decode cL_law 932 = .ok (.aload_n 0, 1) := by decide +kernel
theorem dL_law_933 : decode cL_law 933 = .ok (.iload_n 3, 1) := by decide +kernel
theorem dL_law_934 : decode cL_law 934 = .ok (.iconst 1, 1) := by decide +kernel
theorem dL_law_935 : decode cL_law 935 = .ok (.iadd, 1) := by decide +kernel
theorem dL_law_936 : decode cL_law 936 = .ok (.iaload, 1) := by decide +kernel
theorem dL_law_937 : decode cL_law 937 = .ok (.invokevirtual 144, 3) := by decide +kernel
theorem dL_law_940 : decode cL_law 940 = .ok (.if_icmp .eq 5, 3) := by decide +kernel
theorem dL_law_943 : decode cL_law 943 = .ok (.iconst 0, 1) := by decide +kernel
theorem dL_law_944 : decode cL_law 944 = .ok (.ireturn, 1) := by decide +kernel
theorem dL_law_945 : decode cL_law 945 = .ok (.iinc 3 6, 3) := by decide +kernel
theorem dL_law_948 : decode cL_law 948 = .ok (.goto (-930), 3) := by decide +kernel
theorem dL_law_951 : decode cL_law 951 = .ok (.iconst 1, 1) := by decide +kernel
theorem dL_law_952 : decode cL_law 952 = .ok (.ireturn, 1) := by decide +kernel
abbrev vwCl : List vw_C := [(RX0, TX0, 2), (RX1, TX1, 4), (RX2, TX2, 1), (RX3, TX3, 3), (RX4, TX4, 2), (RX5, TX5, 2), (RX6, TX6, 12), (RX7, TX7, 12), (RX8, TX8, 27)]
