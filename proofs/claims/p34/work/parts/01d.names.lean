theorem dX6_isSet_1 : decode cX6_isSet 1 = .ok (.ifCond .lt 18, 3) := by decide +kernel
theorem dX6_isSet_4 : decode cX6_isSet 4 = .ok (.iload_n 1, 1) := by decide +kernel
theorem dX6_isSet_5 : decode cX6_isSet 5 = .ok (.aload_n 0, 1) := by decide +kernel
theorem dX6_isSet_6 : decode cX6_isSet 6 = .ok (.getfield 40, 3) := by decide +kernel
theorem dX6_isSet_9 : decode cX6_isSet 9 = .ok (.invokestatic 49, 3) := by decide +kernel
theorem dX6_isSet_12 : decode cX6_isSet 12 = .ok (.if_icmp .ge 7, 3) := by decide +kernel
theorem dX6_isSet_15 : decode cX6_isSet 15 = .ok (.iconst 1, 1) := by decide +kernel
theorem dX6_isSet_16 : decode cX6_isSet 16 = .ok (.goto 4, 3) := by decide +kernel
theorem dX6_isSet_19 : decode cX6_isSet 19 = .ok (.iconst 0, 1) := by decide +kernel
theorem dX6_isSet_20 : decode cX6_isSet 20 = .ok (.ireturn, 1) := by decide +kernel
theorem dX6_addPerson_0 : decode cX6_addPerson 0 = .ok (.iload_n 1, 1) := by decide +kernel
theorem dX6_addPerson_1 : decode cX6_addPerson 1 = .ok (.ifCond .lt 17, 3) := by decide +kernel
theorem dX6_addPerson_4 : decode cX6_addPerson 4 = .ok (.iload_n 1, 1) := by decide +kernel
theorem dX6_addPerson_5 : decode cX6_addPerson 5 = .ok (.iconst 1, 1) := by decide +kernel
theorem dX6_addPerson_6 : decode cX6_addPerson 6 = .ok (.if_icmp .gt 12, 3) := by decide +kernel
theorem dX6_addPerson_9 : decode cX6_addPerson 9 = .ok (.aload_n 0, 1) := by decide +kernel
theorem dX6_addPerson_10 : decode cX6_addPerson 10 = .ok (.getfield 30, 3) := by decide +kernel
theorem dX6_addPerson_13 : decode cX6_addPerson 13 = .ok (.bipush 6, 2) := by decide +kernel
theorem dX6_addPerson_15 : decode cX6_addPerson 15 = .ok (.if_icmp .lt 5, 3) := by decide +kernel
theorem dX6_addPerson_18 : decode cX6_addPerson 18 = .ok (.iconst 0, 1) := by decide +kernel
theorem dX6_addPerson_19 : decode cX6_addPerson 19 = .ok (.ireturn, 1) := by decide +kernel
theorem dX6_addPerson_20 : decode cX6_addPerson 20 = .ok (.aload_n 0, 1) := by decide +kernel
theorem dX6_addPerson_21 : decode cX6_addPerson 21 = .ok (.dup, 1) := by decide +kernel
theorem dX6_addPerson_22 : decode cX6_addPerson 22 = .ok (.getfield 34, 3) := by decide +kernel
theorem dX6_addPerson_25 : decode cX6_addPerson 25 = .ok (.iload_n 1, 1) := by decide +kernel
theorem dX6_addPerson_26 : decode cX6_addPerson 26 = .ok (.aload_n 0, 1) := by decide +kernel
theorem dX6_addPerson_27 : decode cX6_addPerson 27 = .ok (.getfield 30, 3) := by decide +kernel
theorem dX6_addPerson_30 : decode cX6_addPerson 30 = .ok (.ishl, 1) := by decide +kernel
theorem dX6_addPerson_31 : decode cX6_addPerson 31 = .ok (.ior, 1) := by decide +kernel
theorem dX6_addPerson_32 : decode cX6_addPerson 32 = .ok (.putfield 34, 3) := by decide +kernel
theorem dX6_addPerson_35 : decode cX6_addPerson 35 = .ok (.aload_n 0, 1) := by decide +kernel
theorem dX6_addPerson_36 : decode cX6_addPerson 36 = .ok (.dup, 1) := by decide +kernel
theorem dX6_addPerson_37 : decode cX6_addPerson 37 = .ok (.getfield 30, 3) := by decide +kernel
theorem dX6_addPerson_40 : decode cX6_addPerson 40 = .ok (.iconst 1, 1) := by decide +kernel
theorem dX6_addPerson_41 : decode cX6_addPerson 41 = .ok (.iadd, 1) := by decide +kernel
theorem dX6_addPerson_42 : decode cX6_addPerson 42 = .ok (.putfield 30, 3) := by decide +kernel
theorem dX6_addPerson_45 : decode cX6_addPerson 45 = .ok (.iconst 1, 1) := by decide +kernel
theorem dX6_addPerson_46 : decode cX6_addPerson 46 = .ok (.ireturn, 1) := by decide +kernel
theorem dX6_setLaw_0 : decode cX6_setLaw 0 = .ok (.iload_n 1, 1) := by decide +kernel
theorem dX6_setLaw_1 : decode cX6_setLaw 1 = .ok (.ifCond .lt 8, 3) := by decide +kernel
theorem dX6_setLaw_4 : decode cX6_setLaw 4 = .ok (.iload_n 1, 1) := by decide +kernel
theorem dX6_setLaw_5 : decode cX6_setLaw 5 = .ok (.iconst 2, 1) := by decide +kernel
theorem dX6_setLaw_6 : decode cX6_setLaw 6 = .ok (.if_icmp .le 5, 3) := by decide +kernel
theorem dX6_setLaw_9 : decode cX6_setLaw 9 = .ok (.iconst 0, 1) := by decide +kernel
theorem dX6_setLaw_10 : decode cX6_setLaw 10 = .ok (.ireturn, 1) := by decide +kernel
theorem dX6_setLaw_11 : decode cX6_setLaw 11 = .ok (.aload_n 0, 1) := by decide +kernel
theorem dX6_setLaw_12 : decode cX6_setLaw 12 = .ok (.iload_n 1, 1) := by decide +kernel
theorem dX6_setLaw_13 : decode cX6_setLaw 13 = .ok (.putfield 37, 3) := by decide +kernel
theorem dX6_setLaw_16 : decode cX6_setLaw 16 = .ok (.iconst 1, 1) := by decide +kernel
theorem dX6_setLaw_17 : decode cX6_setLaw 17 = .ok (.ireturn, 1) := by decide +kernel
set_option maxRecDepth 20000 in
theorem ggX6_suits_X6_isPerson : GoodIn wsX6_suits wsX6_isPerson := goodIn_r _ [5, 6, 15, 16, 17, 18, 19, 20, 21, 22, 23, 24, 25, 26] (by decide +kernel) (by decide +kernel)
set_option maxRecDepth 20000 in
theorem gX6_suits_X6_isPerson : GoodIn wsX6_suits (wsV RX6 53 RX6 yX6_isPerson wsX6_isPerson) := goodIn_app (goodIn_of _ (by decide +kernel)) ggX6_suits_X6_isPerson
set_option maxRecDepth 20000 in
theorem ggX6_suits_X6_isSet : GoodIn wsX6_suits wsX6_isSet := goodIn_r _ [10, 11, 12, 13, 14, 15, 16, 17, 18, 19, 20, 21, 22, 23, 24, 25, 26] (by decide +kernel) (by decide +kernel)
set_option maxRecDepth 20000 in
theorem gX6_suits_X6_isSet : GoodIn wsX6_suits (wsV RX6 57 RX6 yX6_isSet wsX6_isSet) := goodIn_app (goodIn_of _ (by decide +kernel)) ggX6_suits_X6_isSet
theorem dX6_suits_0 : decode cX6_suits 0 = .ok (.aload_n 0, 1) := by decide +kernel
theorem dX6_suits_1 : decode cX6_suits 1 = .ok (.iload_n 1, 1) := by decide +kernel
theorem dX6_suits_2 : decode cX6_suits 2 = .ok (.invokevirtual 53, 3) := by decide +kernel
theorem dX6_suits_5 : decode cX6_suits 5 = .ok (.ifCond .eq 51, 3) := by decide +kernel
theorem dX6_suits_8 : decode cX6_suits 8 = .ok (.aload_n 0, 1) := by decide +kernel
theorem dX6_suits_9 : decode cX6_suits 9 = .ok (.iload_n 2, 1) := by decide +kernel
theorem dX6_suits_10 : decode cX6_suits 10 = .ok (.invokevirtual 53, 3) := by decide +kernel
theorem dX6_suits_13 : decode cX6_suits 13 = .ok (.ifCond .eq 43, 3) := by decide +kernel
theorem dX6_suits_16 : decode cX6_suits 16 = .ok (.iload_n 1, 1) := by decide +kernel
theorem dX6_suits_17 : decode cX6_suits 17 = .ok (.iload_n 2, 1) := by decide +kernel
theorem dX6_suits_18 : decode cX6_suits 18 = .ok (.if_icmp .eq 38, 3) := by decide +kernel
theorem dX6_suits_21 : decode cX6_suits 21 = .ok (.aload_n 0, 1) := by decide +kernel
theorem dX6_suits_22 : decode cX6_suits 22 = .ok (.iload_n 3, 1) := by decide +kernel
theorem dX6_suits_23 : decode cX6_suits 23 = .ok (.invokevirtual 57, 3) := by decide +kernel
theorem dX6_suits_26 : decode cX6_suits 26 = .ok (.ifCond .eq 30, 3) := by decide +kernel
theorem dX6_suits_29 : decode cX6_suits 29 = .ok (.iload 4, 2) := by decide +kernel
theorem dX6_suits_31 : decode cX6_suits 31 = .ok (.ifCond .lt 25, 3) := by decide +kernel
theorem dX6_suits_34 : decode cX6_suits 34 = .ok (.iload 4, 2) := by decide +kernel
theorem dX6_suits_36 : decode cX6_suits 36 = .ok (.bipush 99, 2) := by decide +kernel
theorem dX6_suits_38 : decode cX6_suits 38 = .ok (.if_icmp .gt 18, 3) := by decide +kernel
theorem dX6_suits_41 : decode cX6_suits 41 = .ok (.iload 5, 2) := by decide +kernel
theorem dX6_suits_43 : decode cX6_suits 43 = .ok (.ifCond .lt 13, 3) := by decide +kernel
theorem dX6_suits_46 : decode cX6_suits 46 = .ok (.iload 5, 2) := by decide +kernel
theorem dX6_suits_48 : decode cX6_suits 48 = .ok (.iconst 3, 1) := by decide +kernel
theorem dX6_suits_49 : decode cX6_suits 49 = .ok (.if_icmp .gt 7, 3) := by decide +kernel
theorem dX6_suits_52 : decode cX6_suits 52 = .ok (.iconst 1, 1) := by decide +kernel
theorem dX6_suits_53 : decode cX6_suits 53 = .ok (.goto 4, 3) := by decide +kernel
theorem dX6_suits_56 : decode cX6_suits 56 = .ok (.iconst 0, 1) := by decide +kernel
theorem dX6_suits_57 : decode cX6_suits 57 = .ok (.ireturn, 1) := by decide +kernel
set_option maxRecDepth 20000 in
theorem ggX6_addKnot_X6_suits : GoodIn wsX6_addKnot wsX6_suits := goodIn_r _ [13, 14, 15, 16, 12, 17, 18, 19, 20, 21, 22, 1, 23, 24, 25, 26, 27, 28, 29, 30, 31, 32, 33, 34, 35, 36, 37] (by decide +kernel) (by decide +kernel)
set_option maxRecDepth 20000 in
theorem gX6_addKnot_X6_suits : GoodIn wsX6_addKnot (wsV RX6 60 RX6 yX6_suits wsX6_suits) := goodIn_app (goodIn_of _ (by decide +kernel)) ggX6_addKnot_X6_suits
set_option maxRecDepth 20000 in
theorem ggX6_addKnot_X7_bit : GoodIn wsX6_addKnot wsX7_bit := goodIn_r _ [25] (by decide +kernel) (by decide +kernel)
set_option maxRecDepth 20000 in
theorem gX6_addKnot_X7_bit_n49 : GoodIn wsX6_addKnot (wsX7_bit) := ggX6_addKnot_X7_bit
theorem dX6_addKnot_0 : decode cX6_addKnot 0 = .ok (.aload_n 0, 1) := by decide +kernel
theorem dX6_addKnot_1 : decode cX6_addKnot 1 = .ok (.getfield 40, 3) := by decide +kernel
theorem dX6_addKnot_4 : decode cX6_addKnot 4 = .ok (.bipush 8, 2) := by decide +kernel
theorem dX6_addKnot_6 : decode cX6_addKnot 6 = .ok (.if_icmp .ge 17, 3) := by decide +kernel
theorem dX6_addKnot_9 : decode cX6_addKnot 9 = .ok (.aload_n 0, 1) := by decide +kernel
theorem dX6_addKnot_10 : decode cX6_addKnot 10 = .ok (.iload_n 1, 1) := by decide +kernel
theorem dX6_addKnot_11 : decode cX6_addKnot 11 = .ok (.iload_n 2, 1) := by decide +kernel
theorem dX6_addKnot_12 : decode cX6_addKnot 12 = .ok (.iload_n 3, 1) := by decide +kernel
theorem dX6_addKnot_13 : decode cX6_addKnot 13 = .ok (.iload 4, 2) := by decide +kernel
theorem dX6_addKnot_15 : decode cX6_addKnot 15 = .ok (.iload 5, 2) := by decide +kernel
theorem dX6_addKnot_17 : decode cX6_addKnot 17 = .ok (.invokevirtual 60, 3) := by decide +kernel
theorem dX6_addKnot_20 : decode cX6_addKnot 20 = .ok (.ifCond .ne 5, 3) := by decide +kernel
theorem dX6_addKnot_23 : decode cX6_addKnot 23 = .ok (.iconst 0, 1) := by decide +kernel
theorem dX6_addKnot_24 : decode cX6_addKnot 24 = .ok (.ireturn, 1) := by decide +kernel
theorem dX6_addKnot_25 : decode cX6_addKnot 25 = .ok (.aload_n 0, 1) := by decide +kernel
theorem dX6_addKnot_26 : decode cX6_addKnot 26 = .ok (.getfield 9, 3) := by decide +kernel
theorem dX6_addKnot_29 : decode cX6_addKnot 29 = .ok (.aload_n 0, 1) := by decide +kernel
theorem dX6_addKnot_30 : decode cX6_addKnot 30 = .ok (.getfield 40, 3) := by decide +kernel
theorem dX6_addKnot_33 : decode cX6_addKnot 33 = .ok (.iload_n 1, 1) := by decide +kernel
theorem dX6_addKnot_34 : decode cX6_addKnot 34 = .ok (.iastore, 1) := by decide +kernel
theorem dX6_addKnot_35 : decode cX6_addKnot 35 = .ok (.aload_n 0, 1) := by decide +kernel
theorem dX6_addKnot_36 : decode cX6_addKnot 36 = .ok (.getfield 15, 3) := by decide +kernel
theorem dX6_addKnot_39 : decode cX6_addKnot 39 = .ok (.aload_n 0, 1) := by decide +kernel
theorem dX6_addKnot_40 : decode cX6_addKnot 40 = .ok (.getfield 40, 3) := by decide +kernel
theorem dX6_addKnot_43 : decode cX6_addKnot 43 = .ok (.iload_n 2, 1) := by decide +kernel
theorem dX6_addKnot_44 : decode cX6_addKnot 44 = .ok (.iastore, 1) := by decide +kernel
theorem dX6_addKnot_45 : decode cX6_addKnot 45 = .ok (.aload_n 0, 1) := by decide +kernel
theorem dX6_addKnot_46 : decode cX6_addKnot 46 = .ok (.getfield 18, 3) := by decide +kernel
theorem dX6_addKnot_49 : decode cX6_addKnot 49 = .ok (.aload_n 0, 1) := by decide +kernel
theorem dX6_addKnot_50 : decode cX6_addKnot 50 = .ok (.getfield 40, 3) := by decide +kernel
theorem dX6_addKnot_53 : decode cX6_addKnot 53 = .ok (.iload_n 1, 1) := by decide +kernel
theorem dX6_addKnot_54 : decode cX6_addKnot 54 = .ok (.invokestatic 49, 3) := by decide +kernel
theorem dX6_addKnot_57 : decode cX6_addKnot 57 = .ok (.iload_n 2, 1) := by decide +kernel
theorem dX6_addKnot_58 : decode cX6_addKnot 58 = .ok (.invokestatic 49, 3) := by decide +kernel
theorem dX6_addKnot_61 : decode cX6_addKnot 61 = .ok (.ior, 1) := by decide +kernel
theorem dX6_addKnot_62 : decode cX6_addKnot 62 = .ok (.iastore, 1) := by decide +kernel
theorem dX6_addKnot_63 : decode cX6_addKnot 63 = .ok (.aload_n 0, 1) := by decide +kernel
theorem dX6_addKnot_64 : decode cX6_addKnot 64 = .ok (.getfield 21, 3) := by decide +kernel
theorem dX6_addKnot_67 : decode cX6_addKnot 67 = .ok (.aload_n 0, 1) := by decide +kernel
theorem dX6_addKnot_68 : decode cX6_addKnot 68 = .ok (.getfield 40, 3) := by decide +kernel
theorem dX6_addKnot_71 : decode cX6_addKnot 71 = .ok (.iload_n 3, 1) := by decide +kernel
theorem dX6_addKnot_72 : decode cX6_addKnot 72 = .ok (.iastore, 1) := by decide +kernel
theorem dX6_addKnot_73 : decode cX6_addKnot 73 = .ok (.aload_n 0, 1) := by decide +kernel
theorem dX6_addKnot_74 : decode cX6_addKnot 74 = .ok (.getfield 24, 3) := by decide +kernel
theorem dX6_addKnot_77 : decode cX6_addKnot 77 = .ok (.aload_n 0, 1) := by decide +kernel
theorem dX6_addKnot_78 : decode cX6_addKnot 78 = .ok (.getfield 40, 3) := by decide +kernel
theorem dX6_addKnot_81 : decode cX6_addKnot 81 = .ok (.iload 4, 2) := by decide +kernel
theorem dX6_addKnot_83 : decode cX6_addKnot 83 = .ok (.iastore, 1) := by decide +kernel
theorem dX6_addKnot_84 : decode cX6_addKnot 84 = .ok (.aload_n 0, 1) := by decide +kernel
theorem dX6_addKnot_85 : decode cX6_addKnot 85 = .ok (.getfield 27, 3) := by decide +kernel
theorem dX6_addKnot_88 : decode cX6_addKnot 88 = .ok (.aload_n 0, 1) := by decide +kernel
theorem dX6_addKnot_89 : decode cX6_addKnot 89 = .ok (.getfield 40, 3) := by decide +kernel
theorem dX6_addKnot_92 : decode cX6_addKnot 92 = .ok (.iload 5, 2) := by decide +kernel
theorem dX6_addKnot_94 : decode cX6_addKnot 94 = .ok (.iastore, 1) := by decide +kernel
theorem dX6_addKnot_95 : decode cX6_addKnot 95 = .ok (.aload_n 0, 1) := by decide +kernel
theorem dX6_addKnot_96 : decode cX6_addKnot 96 = .ok (.dup, 1) := by decide +kernel
theorem dX6_addKnot_97 : decode cX6_addKnot 97 = .ok (.getfield 43, 3) := by decide +kernel
theorem dX6_addKnot_100 : decode cX6_addKnot 100 = .ok (.aload_n 0, 1) := by decide +kernel
theorem dX6_addKnot_101 : decode cX6_addKnot 101 = .ok (.getfield 40, 3) := by decide +kernel
theorem dX6_addKnot_104 : decode cX6_addKnot 104 = .ok (.invokestatic 49, 3) := by decide +kernel
theorem dX6_addKnot_107 : decode cX6_addKnot 107 = .ok (.ior, 1) := by decide +kernel
theorem dX6_addKnot_108 : decode cX6_addKnot 108 = .ok (.putfield 43, 3) := by decide +kernel
theorem dX6_addKnot_111 : decode cX6_addKnot 111 = .ok (.aload_n 0, 1) := by decide +kernel
theorem dX6_addKnot_112 : decode cX6_addKnot 112 = .ok (.dup, 1) := by decide +kernel
theorem dX6_addKnot_113 : decode cX6_addKnot 113 = .ok (.getfield 40, 3) := by decide +kernel
theorem dX6_addKnot_116 : decode cX6_addKnot 116 = .ok (.iconst 1, 1) := by decide +kernel
theorem dX6_addKnot_117 : decode cX6_addKnot 117 = .ok (.iadd, 1) := by decide +kernel
theorem dX6_addKnot_118 : decode cX6_addKnot 118 = .ok (.putfield 40, 3) := by decide +kernel
theorem dX6_addKnot_121 : decode cX6_addKnot 121 = .ok (.iconst 1, 1) := by decide +kernel
theorem dX6_addKnot_122 : decode cX6_addKnot 122 = .ok (.ireturn, 1) := by decide +kernel
set_option maxRecDepth 20000 in
theorem ggX6_ofKind_X7_bit : GoodIn wsX6_ofKind wsX7_bit := goodIn_r _ [5] (by decide +kernel) (by decide +kernel)
set_option maxRecDepth 20000 in
theorem gX6_ofKind_X7_bit_n49 : GoodIn wsX6_ofKind (wsX7_bit) := ggX6_ofKind_X7_bit
theorem dX6_ofKind_0 : decode cX6_ofKind 0 = .ok (.iconst 0, 1) := by decide +kernel
theorem dX6_ofKind_1 : decode cX6_ofKind 1 = .ok (.istore_n 2, 1) := by decide +kernel
theorem dX6_ofKind_2 : decode cX6_ofKind 2 = .ok (.iconst 0, 1) := by decide +kernel
theorem dX6_ofKind_3 : decode cX6_ofKind 3 = .ok (.istore_n 3, 1) := by decide +kernel
theorem dX6_ofKind_4 : decode cX6_ofKind 4 = .ok (.iload_n 3, 1) := by decide +kernel
theorem dX6_ofKind_5 : decode cX6_ofKind 5 = .ok (.bipush 8, 2) := by decide +kernel
theorem dX6_ofKind_7 : decode cX6_ofKind 7 = .ok (.if_icmp .ge 34, 3) := by decide +kernel
theorem dX6_ofKind_10 : decode cX6_ofKind 10 = .ok (.iload_n 3, 1) := by decide +kernel
theorem dX6_ofKind_11 : decode cX6_ofKind 11 = .ok (.aload_n 0, 1) := by decide +kernel
theorem dX6_ofKind_12 : decode cX6_ofKind 12 = .ok (.getfield 40, 3) := by decide +kernel
theorem dX6_ofKind_15 : decode cX6_ofKind 15 = .ok (.if_icmp .ge 20, 3) := by decide +kernel
theorem dX6_ofKind_18 : decode cX6_ofKind 18 = .ok (.aload_n 0, 1) := by decide +kernel
theorem dX6_ofKind_19 : decode cX6_ofKind 19 = .ok (.getfield 27, 3) := by decide +kernel
theorem dX6_ofKind_22 : decode cX6_ofKind 22 = .ok (.iload_n 3, 1) := by decide +kernel
theorem dX6_ofKind_23 : decode cX6_ofKind 23 = .ok (.iaload, 1) := by decide +kernel
theorem dX6_ofKind_24 : decode cX6_ofKind 24 = .ok (.iload_n 1, 1) := by decide +kernel
theorem dX6_ofKind_25 : decode cX6_ofKind 25 = .ok (.if_icmp .ne 10, 3) := by decide +kernel
theorem dX6_ofKind_28 : decode cX6_ofKind 28 = .ok (.iload_n 2, 1) := by decide +kernel
theorem dX6_ofKind_29 : decode cX6_ofKind 29 = .ok (.iload_n 3, 1) := by decide +kernel
theorem dX6_ofKind_30 : decode cX6_ofKind 30 = .ok (.invokestatic 49, 3) := by decide +kernel
theorem dX6_ofKind_33 : decode cX6_ofKind 33 = .ok (.ior, 1) := by decide +kernel
theorem dX6_ofKind_34 : decode cX6_ofKind 34 = .ok (.istore_n 2, 1) := by decide +kernel
theorem dX6_ofKind_35 : decode cX6_ofKind 35 = .ok (.iinc 3 1, 3) := by decide +kernel
theorem dX6_ofKind_38 : decode cX6_ofKind 38 = .ok (.goto (-34), 3) := by decide +kernel
theorem dX6_ofKind_41 : decode cX6_ofKind 41 = .ok (.iload_n 2, 1) := by decide +kernel
theorem dX6_ofKind_42 : decode cX6_ofKind 42 = .ok (.ireturn, 1) := by decide +kernel
set_option maxRecDepth 20000 in
theorem ggX6_ofPerson_X7_has : GoodIn wsX6_ofPerson wsX7_has := goodIn_r _ [5] (by decide +kernel) (by decide +kernel)
set_option maxRecDepth 20000 in
theorem gX6_ofPerson_X7_has_n64 : GoodIn wsX6_ofPerson (wsX7_has) := ggX6_ofPerson_X7_has
set_option maxRecDepth 20000 in
theorem ggX6_ofPerson_X7_bit : GoodIn wsX6_ofPerson wsX7_bit := goodIn_r _ [7] (by decide +kernel) (by decide +kernel)
set_option maxRecDepth 20000 in
theorem gX6_ofPerson_X7_bit_n49 : GoodIn wsX6_ofPerson (wsX7_bit) := ggX6_ofPerson_X7_bit
theorem dX6_ofPerson_0 : decode cX6_ofPerson 0 = .ok (.iconst 0, 1) := by decide +kernel
theorem dX6_ofPerson_1 : decode cX6_ofPerson 1 = .ok (.istore_n 2, 1) := by decide +kernel
theorem dX6_ofPerson_2 : decode cX6_ofPerson 2 = .ok (.iconst 0, 1) := by decide +kernel
theorem dX6_ofPerson_3 : decode cX6_ofPerson 3 = .ok (.istore_n 3, 1) := by decide +kernel
theorem dX6_ofPerson_4 : decode cX6_ofPerson 4 = .ok (.iload_n 3, 1) := by decide +kernel
theorem dX6_ofPerson_5 : decode cX6_ofPerson 5 = .ok (.bipush 8, 2) := by decide +kernel
theorem dX6_ofPerson_7 : decode cX6_ofPerson 7 = .ok (.if_icmp .ge 40, 3) := by decide +kernel
theorem dX6_ofPerson_10 : decode cX6_ofPerson 10 = .ok (.aload_n 0, 1) := by decide +kernel
theorem dX6_ofPerson_11 : decode cX6_ofPerson 11 = .ok (.getfield 43, 3) := by decide +kernel
theorem dX6_ofPerson_14 : decode cX6_ofPerson 14 = .ok (.iload_n 3, 1) := by decide +kernel
theorem dX6_ofPerson_15 : decode cX6_ofPerson 15 = .ok (.invokestatic 64, 3) := by decide +kernel
theorem dX6_ofPerson_18 : decode cX6_ofPerson 18 = .ok (.ifCond .eq 23, 3) := by decide +kernel
theorem dX6_ofPerson_21 : decode cX6_ofPerson 21 = .ok (.aload_n 0, 1) := by decide +kernel
theorem dX6_ofPerson_22 : decode cX6_ofPerson 22 = .ok (.getfield 18, 3) := by decide +kernel
theorem dX6_ofPerson_25 : decode cX6_ofPerson 25 = .ok (.iload_n 3, 1) := by decide +kernel
theorem dX6_ofPerson_26 : decode cX6_ofPerson 26 = .ok (.iaload, 1) := by decide +kernel
theorem dX6_ofPerson_27 : decode cX6_ofPerson 27 = .ok (.iload_n 1, 1) := by decide +kernel
theorem dX6_ofPerson_28 : decode cX6_ofPerson 28 = .ok (.invokestatic 64, 3) := by decide +kernel
theorem dX6_ofPerson_31 : decode cX6_ofPerson 31 = .ok (.ifCond .eq 10, 3) := by decide +kernel
theorem dX6_ofPerson_34 : decode cX6_ofPerson 34 = .ok (.iload_n 2, 1) := by decide +kernel
theorem dX6_ofPerson_35 : decode cX6_ofPerson 35 = .ok (.iload_n 3, 1) := by decide +kernel
theorem dX6_ofPerson_36 : decode cX6_ofPerson 36 = .ok (.invokestatic 49, 3) := by decide +kernel
theorem dX6_ofPerson_39 : decode cX6_ofPerson 39 = .ok (.ior, 1) := by decide +kernel
theorem dX6_ofPerson_40 : decode cX6_ofPerson 40 = .ok (.istore_n 2, 1) := by decide +kernel
theorem dX6_ofPerson_41 : decode cX6_ofPerson 41 = .ok (.iinc 3 1, 3) := by decide +kernel
theorem dX6_ofPerson_44 : decode cX6_ofPerson 44 = .ok (.goto (-40), 3) := by decide +kernel
theorem dX6_ofPerson_47 : decode cX6_ofPerson 47 = .ok (.iload_n 2, 1) := by decide +kernel
theorem dX6_ofPerson_48 : decode cX6_ofPerson 48 = .ok (.ireturn, 1) := by decide +kernel
set_option maxRecDepth 20000 in
theorem ggX6_dueToday_X7_has : GoodIn wsX6_dueToday wsX7_has := goodIn_r _ [6] (by decide +kernel) (by decide +kernel)
set_option maxRecDepth 20000 in
theorem gX6_dueToday_X7_has_n64 : GoodIn wsX6_dueToday (wsX7_has) := ggX6_dueToday_X7_has
set_option maxRecDepth 20000 in
theorem ggX6_dueToday_X7_bit : GoodIn wsX6_dueToday wsX7_bit := goodIn_r _ [8] (by decide +kernel) (by decide +kernel)
set_option maxRecDepth 20000 in
theorem gX6_dueToday_X7_bit_n49 : GoodIn wsX6_dueToday (wsX7_bit) := ggX6_dueToday_X7_bit
theorem dX6_dueToday_0 : decode cX6_dueToday 0 = .ok (.iconst 0, 1) := by decide +kernel
theorem dX6_dueToday_1 : decode cX6_dueToday 1 = .ok (.istore_n 1, 1) := by decide +kernel
theorem dX6_dueToday_2 : decode cX6_dueToday 2 = .ok (.iconst 0, 1) := by decide +kernel
theorem dX6_dueToday_3 : decode cX6_dueToday 3 = .ok (.istore_n 2, 1) := by decide +kernel
theorem dX6_dueToday_4 : decode cX6_dueToday 4 = .ok (.iload_n 2, 1) := by decide +kernel
theorem dX6_dueToday_5 : decode cX6_dueToday 5 = .ok (.bipush 8, 2) := by decide +kernel
theorem dX6_dueToday_7 : decode cX6_dueToday 7 = .ok (.if_icmp .ge 40, 3) := by decide +kernel
theorem dX6_dueToday_10 : decode cX6_dueToday 10 = .ok (.aload_n 0, 1) := by decide +kernel
theorem dX6_dueToday_11 : decode cX6_dueToday 11 = .ok (.getfield 43, 3) := by decide +kernel
theorem dX6_dueToday_14 : decode cX6_dueToday 14 = .ok (.iload_n 2, 1) := by decide +kernel
theorem dX6_dueToday_15 : decode cX6_dueToday 15 = .ok (.invokestatic 64, 3) := by decide +kernel
theorem dX6_dueToday_18 : decode cX6_dueToday 18 = .ok (.ifCond .eq 23, 3) := by decide +kernel
theorem dX6_dueToday_21 : decode cX6_dueToday 21 = .ok (.aload_n 0, 1) := by decide +kernel
theorem dX6_dueToday_22 : decode cX6_dueToday 22 = .ok (.getfield 24, 3) := by decide +kernel
theorem dX6_dueToday_25 : decode cX6_dueToday 25 = .ok (.iload_n 2, 1) := by decide +kernel
theorem dX6_dueToday_26 : decode cX6_dueToday 26 = .ok (.iaload, 1) := by decide +kernel
theorem dX6_dueToday_27 : decode cX6_dueToday 27 = .ok (.aload_n 0, 1) := by decide +kernel
theorem dX6_dueToday_28 : decode cX6_dueToday 28 = .ok (.getfield 46, 3) := by decide +kernel
theorem dX6_dueToday_31 : decode cX6_dueToday 31 = .ok (.if_icmp .gt 10, 3) := by decide +kernel
theorem dX6_dueToday_34 : decode cX6_dueToday 34 = .ok (.iload_n 1, 1) := by decide +kernel
theorem dX6_dueToday_35 : decode cX6_dueToday 35 = .ok (.iload_n 2, 1) := by decide +kernel
theorem dX6_dueToday_36 : decode cX6_dueToday 36 = .ok (.invokestatic 49, 3) := by decide +kernel
theorem dX6_dueToday_39 : decode cX6_dueToday 39 = .ok (.ior, 1) := by decide +kernel
theorem dX6_dueToday_40 : decode cX6_dueToday 40 = .ok (.istore_n 1, 1) := by decide +kernel
theorem dX6_dueToday_41 : decode cX6_dueToday 41 = .ok (.iinc 2 1, 3) := by decide +kernel
theorem dX6_dueToday_44 : decode cX6_dueToday 44 = .ok (.goto (-40), 3) := by decide +kernel
theorem dX6_dueToday_47 : decode cX6_dueToday 47 = .ok (.iload_n 1, 1) := by decide +kernel
theorem dX6_dueToday_48 : decode cX6_dueToday 48 = .ok (.ireturn, 1) := by decide +kernel
set_option maxRecDepth 20000 in
theorem ggX6_above_X7_has : GoodIn wsX6_above wsX7_has := goodIn_r _ [5] (by decide +kernel) (by decide +kernel)
set_option maxRecDepth 20000 in
theorem gX6_above_X7_has_n64 : GoodIn wsX6_above (wsX7_has) := ggX6_above_X7_has
set_option maxRecDepth 20000 in
theorem ggX6_above_X7_bit : GoodIn wsX6_above wsX7_bit := goodIn_r _ [7] (by decide +kernel) (by decide +kernel)
set_option maxRecDepth 20000 in
theorem gX6_above_X7_bit_n49 : GoodIn wsX6_above (wsX7_bit) := ggX6_above_X7_bit
theorem dX6_above_0 : decode cX6_above 0 = .ok (.iconst 0, 1) := by decide +kernel
theorem dX6_above_1 : decode cX6_above 1 = .ok (.istore_n 2, 1) := by decide +kernel
theorem dX6_above_2 : decode cX6_above 2 = .ok (.iconst 0, 1) := by decide +kernel
theorem dX6_above_3 : decode cX6_above 3 = .ok (.istore_n 3, 1) := by decide +kernel
theorem dX6_above_4 : decode cX6_above 4 = .ok (.iload_n 3, 1) := by decide +kernel
theorem dX6_above_5 : decode cX6_above 5 = .ok (.bipush 8, 2) := by decide +kernel
theorem dX6_above_7 : decode cX6_above 7 = .ok (.if_icmp .ge 43, 3) := by decide +kernel
theorem dX6_above_10 : decode cX6_above 10 = .ok (.aload_n 0, 1) := by decide +kernel
theorem dX6_above_11 : decode cX6_above 11 = .ok (.getfield 43, 3) := by decide +kernel
theorem dX6_above_14 : decode cX6_above 14 = .ok (.iload_n 3, 1) := by decide +kernel
theorem dX6_above_15 : decode cX6_above 15 = .ok (.invokestatic 64, 3) := by decide +kernel
theorem dX6_above_18 : decode cX6_above 18 = .ok (.ifCond .eq 26, 3) := by decide +kernel
theorem dX6_above_21 : decode cX6_above 21 = .ok (.aload_n 0, 1) := by decide +kernel
theorem dX6_above_22 : decode cX6_above 22 = .ok (.getfield 21, 3) := by decide +kernel
theorem dX6_above_25 : decode cX6_above 25 = .ok (.iload_n 3, 1) := by decide +kernel
theorem dX6_above_26 : decode cX6_above 26 = .ok (.iaload, 1) := by decide +kernel
theorem dX6_above_27 : decode cX6_above 27 = .ok (.iload_n 2, 1) := by decide +kernel
theorem dX6_above_28 : decode cX6_above 28 = .ok (.iload_n 1, 1) := by decide +kernel
theorem dX6_above_29 : decode cX6_above 29 = .ok (.invokestatic 49, 3) := by decide +kernel
theorem dX6_above_32 : decode cX6_above 32 = .ok (.ior, 1) := by decide +kernel
theorem dX6_above_33 : decode cX6_above 33 = .ok (.iand, 1) := by decide +kernel
theorem dX6_above_34 : decode cX6_above 34 = .ok (.ifCond .eq 10, 3) := by decide +kernel
theorem dX6_above_37 : decode cX6_above 37 = .ok (.iload_n 2, 1) := by decide +kernel
theorem dX6_above_38 : decode cX6_above 38 = .ok (.iload_n 3, 1) := by decide +kernel
theorem dX6_above_39 : decode cX6_above 39 = .ok (.invokestatic 49, 3) := by decide +kernel
theorem dX6_above_42 : decode cX6_above 42 = .ok (.ior, 1) := by decide +kernel
theorem dX6_above_43 : decode cX6_above 43 = .ok (.istore_n 2, 1) := by decide +kernel
theorem dX6_above_44 : decode cX6_above 44 = .ok (.iinc 3 1, 3) := by decide +kernel
theorem dX6_above_47 : decode cX6_above 47 = .ok (.goto (-43), 3) := by decide +kernel
theorem dX6_above_50 : decode cX6_above 50 = .ok (.iload_n 2, 1) := by decide +kernel
theorem dX6_above_51 : decode cX6_above 51 = .ok (.ireturn, 1) := by decide +kernel
set_option maxRecDepth 20000 in
theorem ggX6_inTheWay_X6_isKnot : GoodIn wsX6_inTheWay wsX6_isKnot := goodIn_r _ [8, 9, 15, 16, 17, 18, 19, 20, 21, 22, 23, 24, 25, 26] (by decide +kernel) (by decide +kernel)
set_option maxRecDepth 20000 in
theorem gX6_inTheWay_X6_isKnot : GoodIn wsX6_inTheWay (wsV RX6 68 RX6 yX6_isKnot wsX6_isKnot) := goodIn_app (goodIn_of _ (by decide +kernel)) ggX6_inTheWay_X6_isKnot
set_option maxRecDepth 20000 in
theorem ggX6_inTheWay_X7_has : GoodIn wsX6_inTheWay wsX7_has := goodIn_r _ [12] (by decide +kernel) (by decide +kernel)
set_option maxRecDepth 20000 in
theorem gX6_inTheWay_X7_has_n64 : GoodIn wsX6_inTheWay (wsX7_has) := ggX6_inTheWay_X7_has
set_option maxRecDepth 20000 in
theorem ggX6_inTheWay_X7_bit : GoodIn wsX6_inTheWay wsX7_bit := goodIn_r _ [14] (by decide +kernel) (by decide +kernel)
set_option maxRecDepth 20000 in
theorem gX6_inTheWay_X7_bit_n49 : GoodIn wsX6_inTheWay (wsX7_bit) := ggX6_inTheWay_X7_bit
theorem dX6_inTheWay_0 : decode cX6_inTheWay 0 = .ok (.aload_n 0, 1) := by decide +kernel
theorem dX6_inTheWay_1 : decode cX6_inTheWay 1 = .ok (.iload_n 1, 1) := by decide +kernel
theorem dX6_inTheWay_2 : decode cX6_inTheWay 2 = .ok (.invokevirtual 68, 3) := by decide +kernel
theorem dX6_inTheWay_5 : decode cX6_inTheWay 5 = .ok (.ifCond .ne 5, 3) := by decide +kernel
theorem dX6_inTheWay_8 : decode cX6_inTheWay 8 = .ok (.iconst 0, 1) := by decide +kernel
theorem dX6_inTheWay_9 : decode cX6_inTheWay 9 = .ok (.ireturn, 1) := by decide +kernel
theorem dX6_inTheWay_10 : decode cX6_inTheWay 10 = .ok (.iconst 0, 1) := by decide +kernel
theorem dX6_inTheWay_11 : decode cX6_inTheWay 11 = .ok (.istore_n 3, 1) := by decide +kernel
theorem dX6_inTheWay_12 : decode cX6_inTheWay 12 = .ok (.iconst 0, 1) := by decide +kernel
theorem dX6_inTheWay_13 : decode cX6_inTheWay 13 = .ok (.istore 4, 2) := by decide +kernel
theorem dX6_inTheWay_15 : decode cX6_inTheWay 15 = .ok (.iload 4, 2) := by decide +kernel
theorem dX6_inTheWay_17 : decode cX6_inTheWay 17 = .ok (.bipush 8, 2) := by decide +kernel
theorem dX6_inTheWay_19 : decode cX6_inTheWay 19 = .ok (.if_icmp .ge 85, 3) := by decide +kernel
theorem dX6_inTheWay_22 : decode cX6_inTheWay 22 = .ok (.aload_n 0, 1) := by decide +kernel
theorem dX6_inTheWay_23 : decode cX6_inTheWay 23 = .ok (.getfield 21, 3) := by decide +kernel
theorem dX6_inTheWay_26 : decode cX6_inTheWay 26 = .ok (.iload 4, 2) := by decide +kernel
theorem dX6_inTheWay_28 : decode cX6_inTheWay 28 = .ok (.iaload, 1) := by decide +kernel
theorem dX6_inTheWay_29 : decode cX6_inTheWay 29 = .ok (.iload_n 1, 1) := by decide +kernel
theorem dX6_inTheWay_30 : decode cX6_inTheWay 30 = .ok (.invokestatic 64, 3) := by decide +kernel
theorem dX6_inTheWay_33 : decode cX6_inTheWay 33 = .ok (.ifCond .ne 30, 3) := by decide +kernel
theorem dX6_inTheWay_36 : decode cX6_inTheWay 36 = .ok (.aload_n 0, 1) := by decide +kernel
theorem dX6_inTheWay_37 : decode cX6_inTheWay 37 = .ok (.getfield 27, 3) := by decide +kernel
theorem dX6_inTheWay_40 : decode cX6_inTheWay 40 = .ok (.iload_n 1, 1) := by decide +kernel
theorem dX6_inTheWay_41 : decode cX6_inTheWay 41 = .ok (.iaload, 1) := by decide +kernel
theorem dX6_inTheWay_42 : decode cX6_inTheWay 42 = .ok (.iconst 3, 1) := by decide +kernel
theorem dX6_inTheWay_43 : decode cX6_inTheWay 43 = .ok (.if_icmp .ne 24, 3) := by decide +kernel
theorem dX6_inTheWay_46 : decode cX6_inTheWay 46 = .ok (.aload_n 0, 1) := by decide +kernel
theorem dX6_inTheWay_47 : decode cX6_inTheWay 47 = .ok (.getfield 18, 3) := by decide +kernel
theorem dX6_inTheWay_50 : decode cX6_inTheWay 50 = .ok (.iload 4, 2) := by decide +kernel
theorem dX6_inTheWay_52 : decode cX6_inTheWay 52 = .ok (.iaload, 1) := by decide +kernel
theorem dX6_inTheWay_53 : decode cX6_inTheWay 53 = .ok (.aload_n 0, 1) := by decide +kernel
theorem dX6_inTheWay_54 : decode cX6_inTheWay 54 = .ok (.getfield 18, 3) := by decide +kernel
theorem dX6_inTheWay_57 : decode cX6_inTheWay 57 = .ok (.iload_n 1, 1) := by decide +kernel
theorem dX6_inTheWay_58 : decode cX6_inTheWay 58 = .ok (.iaload, 1) := by decide +kernel
theorem dX6_inTheWay_59 : decode cX6_inTheWay 59 = .ok (.iand, 1) := by decide +kernel
theorem dX6_inTheWay_60 : decode cX6_inTheWay 60 = .ok (.ifCond .eq 7, 3) := by decide +kernel
theorem dX6_inTheWay_63 : decode cX6_inTheWay 63 = .ok (.iconst 1, 1) := by decide +kernel
theorem dX6_inTheWay_64 : decode cX6_inTheWay 64 = .ok (.goto 4, 3) := by decide +kernel
theorem dX6_inTheWay_67 : decode cX6_inTheWay 67 = .ok (.iconst 0, 1) := by decide +kernel
theorem dX6_inTheWay_68 : decode cX6_inTheWay 68 = .ok (.istore 5, 2) := by decide +kernel
theorem dX6_inTheWay_70 : decode cX6_inTheWay 70 = .ok (.iload 4, 2) := by decide +kernel
theorem dX6_inTheWay_72 : decode cX6_inTheWay 72 = .ok (.iload_n 1, 1) := by decide +kernel
theorem dX6_inTheWay_73 : decode cX6_inTheWay 73 = .ok (.if_icmp .eq 25, 3) := by decide +kernel
theorem dX6_inTheWay_76 : decode cX6_inTheWay 76 = .ok (.iload_n 2, 1) := by decide +kernel
theorem dX6_inTheWay_77 : decode cX6_inTheWay 77 = .ok (.iload 4, 2) := by decide +kernel
theorem dX6_inTheWay_79 : decode cX6_inTheWay 79 = .ok (.invokestatic 64, 3) := by decide +kernel
theorem dX6_inTheWay_82 : decode cX6_inTheWay 82 = .ok (.ifCond .eq 16, 3) := by decide +kernel
theorem dX6_inTheWay_85 : decode cX6_inTheWay 85 = .ok (.iload 5, 2) := by decide +kernel
theorem dX6_inTheWay_87 : decode cX6_inTheWay 87 = .ok (.ifCond .eq 11, 3) := by decide +kernel
theorem dX6_inTheWay_90 : decode cX6_inTheWay 90 = .ok (.iload_n 3, 1) := by decide +kernel
theorem dX6_inTheWay_91 : decode cX6_inTheWay 91 = .ok (.iload 4, 2) := by decide +kernel
theorem dX6_inTheWay_93 : decode cX6_inTheWay 93 = .ok (.invokestatic 49, 3) := by decide +kernel
theorem dX6_inTheWay_96 : decode cX6_inTheWay 96 = .ok (.ior, 1) := by decide +kernel
theorem dX6_inTheWay_97 : decode cX6_inTheWay 97 = .ok (.istore_n 3, 1) := by decide +kernel
theorem dX6_inTheWay_98 : decode cX6_inTheWay 98 = .ok (.iinc 4 1, 3) := by decide +kernel
theorem dX6_inTheWay_101 : decode cX6_inTheWay 101 = .ok (.goto (-86), 3) := by decide +kernel
theorem dX6_inTheWay_104 : decode cX6_inTheWay 104 = .ok (.iload_n 3, 1) := by decide +kernel
theorem dX6_inTheWay_105 : decode cX6_inTheWay 105 = .ok (.ireturn, 1) := by decide +kernel
set_option maxRecDepth 20000 in
theorem ggX6_mayToday_X6_mayBe : GoodIn wsX6_mayToday wsX6_mayBe := goodIn_r _ [7, 8, 9, 10, 11, 12, 13, 6, 14, 15, 16, 17, 18, 19, 20, 21, 22, 23, 24, 25, 26, 27, 28, 29, 30, 31, 32, 33, 34, 35, 36, 37, 38, 39, 40, 41, 42, 43, 44] (by decide +kernel) (by decide +kernel)
set_option maxRecDepth 20000 in
theorem gX6_mayToday_X6_mayBe : GoodIn wsX6_mayToday (wsV RX6 71 RX6 yX6_mayBe wsX6_mayBe) := goodIn_app (goodIn_of _ (by decide +kernel)) ggX6_mayToday_X6_mayBe
theorem dX6_mayToday_0 : decode cX6_mayToday 0 = .ok (.aload_n 0, 1) := by decide +kernel
theorem dX6_mayToday_1 : decode cX6_mayToday 1 = .ok (.iload_n 1, 1) := by decide +kernel
theorem dX6_mayToday_2 : decode cX6_mayToday 2 = .ok (.iload_n 2, 1) := by decide +kernel
theorem dX6_mayToday_3 : decode cX6_mayToday 3 = .ok (.aload_n 0, 1) := by decide +kernel
theorem dX6_mayToday_4 : decode cX6_mayToday 4 = .ok (.getfield 46, 3) := by decide +kernel
theorem dX6_mayToday_7 : decode cX6_mayToday 7 = .ok (.aload_n 0, 1) := by decide +kernel
theorem dX6_mayToday_8 : decode cX6_mayToday 8 = .ok (.getfield 34, 3) := by decide +kernel
theorem dX6_mayToday_11 : decode cX6_mayToday 11 = .ok (.invokevirtual 71, 3) := by decide +kernel
theorem dX6_mayToday_14 : decode cX6_mayToday 14 = .ok (.ireturn, 1) := by decide +kernel
set_option maxRecDepth 20000 in
theorem ggX6_mayBe_X6_isKnot : GoodIn wsX6_mayBe wsX6_isKnot := goodIn_r _ [8, 9, 27, 28, 29, 30, 31, 32, 33, 34, 35, 36, 37, 38] (by decide +kernel) (by decide +kernel)
set_option maxRecDepth 20000 in
theorem gX6_mayBe_X6_isKnot : GoodIn wsX6_mayBe (wsV RX6 68 RX6 yX6_isKnot wsX6_isKnot) := goodIn_app (goodIn_of _ (by decide +kernel)) ggX6_mayBe_X6_isKnot
set_option maxRecDepth 20000 in
theorem ggX6_mayBe_X7_has : GoodIn wsX6_mayBe wsX7_has := goodIn_r _ [12] (by decide +kernel) (by decide +kernel)
set_option maxRecDepth 20000 in
theorem gX6_mayBe_X7_has_n64 : GoodIn wsX6_mayBe (wsX7_has) := ggX6_mayBe_X7_has
set_option maxRecDepth 20000 in
theorem ggX6_mayBe_X6_isLawful : GoodIn wsX6_mayBe wsX6_isLawful := goodIn_r _ [16, 17, 18, 11, 19, 27, 28, 29, 30, 31, 32, 33, 34, 35, 36, 37, 38] (by decide +kernel) (by decide +kernel)
set_option maxRecDepth 20000 in
theorem gX6_mayBe_X6_isLawful : GoodIn wsX6_mayBe (wsV RX6 75 RX6 yX6_isLawful wsX6_isLawful) := goodIn_app (goodIn_of _ (by decide +kernel)) ggX6_mayBe_X6_isLawful
set_option maxRecDepth 20000 in
theorem ggX6_mayBe_X6_inTheWay : GoodIn wsX6_mayBe wsX6_inTheWay := goodIn_r _ [23, 24, 2, 1, 4, 5, 6, 7, 8, 9, 10, 11, 12, 25, 26, 27, 28, 29, 30, 31, 32, 33, 34, 35, 36, 37, 38] (by decide +kernel) (by decide +kernel)
set_option maxRecDepth 20000 in
theorem gX6_mayBe_X6_inTheWay : GoodIn wsX6_mayBe (wsV RX6 78 RX6 yX6_inTheWay wsX6_inTheWay) := goodIn_app (goodIn_of _ (by decide +kernel)) ggX6_mayBe_X6_inTheWay
theorem dX6_mayBe_0 : decode cX6_mayBe 0 = .ok (.aload_n 0, 1) := by decide +kernel
theorem dX6_mayBe_1 : decode cX6_mayBe 1 = .ok (.iload_n 1, 1) := by decide +kernel
theorem dX6_mayBe_2 : decode cX6_mayBe 2 = .ok (.invokevirtual 68, 3) := by decide +kernel
theorem dX6_mayBe_5 : decode cX6_mayBe 5 = .ok (.ifCond .eq 59, 3) := by decide +kernel
theorem dX6_mayBe_8 : decode cX6_mayBe 8 = .ok (.iload_n 2, 1) := by decide +kernel
theorem dX6_mayBe_9 : decode cX6_mayBe 9 = .ok (.iload_n 1, 1) := by decide +kernel
theorem dX6_mayBe_10 : decode cX6_mayBe 10 = .ok (.invokestatic 64, 3) := by decide +kernel
theorem dX6_mayBe_13 : decode cX6_mayBe 13 = .ok (.ifCond .eq 51, 3) := by decide +kernel
theorem dX6_mayBe_16 : decode cX6_mayBe 16 = .ok (.aload_n 0, 1) := by decide +kernel
theorem dX6_mayBe_17 : decode cX6_mayBe 17 = .ok (.aload_n 0, 1) := by decide +kernel
theorem dX6_mayBe_18 : decode cX6_mayBe 18 = .ok (.getfield 18, 3) := by decide +kernel
theorem dX6_mayBe_21 : decode cX6_mayBe 21 = .ok (.iload_n 1, 1) := by decide +kernel
theorem dX6_mayBe_22 : decode cX6_mayBe 22 = .ok (.iaload, 1) := by decide +kernel
theorem dX6_mayBe_23 : decode cX6_mayBe 23 = .ok (.iload 4, 2) := by decide +kernel
theorem dX6_mayBe_25 : decode cX6_mayBe 25 = .ok (.invokevirtual 75, 3) := by decide +kernel
theorem dX6_mayBe_28 : decode cX6_mayBe 28 = .ok (.ifCond .eq 36, 3) := by decide +kernel
theorem dX6_mayBe_31 : decode cX6_mayBe 31 = .ok (.aload_n 0, 1) := by decide +kernel
theorem dX6_mayBe_32 : decode cX6_mayBe 32 = .ok (.getfield 27, 3) := by decide +kernel
theorem dX6_mayBe_35 : decode cX6_mayBe 35 = .ok (.iload_n 1, 1) := by decide +kernel
theorem dX6_mayBe_36 : decode cX6_mayBe 36 = .ok (.iaload, 1) := by decide +kernel
theorem dX6_mayBe_37 : decode cX6_mayBe 37 = .ok (.iconst 2, 1) := by decide +kernel
theorem dX6_mayBe_38 : decode cX6_mayBe 38 = .ok (.if_icmp .ne 13, 3) := by decide +kernel
theorem dX6_mayBe_41 : decode cX6_mayBe 41 = .ok (.aload_n 0, 1) := by decide +kernel
theorem dX6_mayBe_42 : decode cX6_mayBe 42 = .ok (.getfield 24, 3) := by decide +kernel
theorem dX6_mayBe_45 : decode cX6_mayBe 45 = .ok (.iload_n 1, 1) := by decide +kernel
theorem dX6_mayBe_46 : decode cX6_mayBe 46 = .ok (.iaload, 1) := by decide +kernel
theorem dX6_mayBe_47 : decode cX6_mayBe 47 = .ok (.iload_n 3, 1) := by decide +kernel
theorem dX6_mayBe_48 : decode cX6_mayBe 48 = .ok (.if_icmp .gt 16, 3) := by decide +kernel
theorem dX6_mayBe_51 : decode cX6_mayBe 51 = .ok (.aload_n 0, 1) := by decide +kernel
theorem dX6_mayBe_52 : decode cX6_mayBe 52 = .ok (.iload_n 1, 1) := by decide +kernel
theorem dX6_mayBe_53 : decode cX6_mayBe 53 = .ok (.iload_n 2, 1) := by decide +kernel
theorem dX6_mayBe_54 : decode cX6_mayBe 54 = .ok (.invokevirtual 78, 3) := by decide +kernel
theorem dX6_mayBe_57 : decode cX6_mayBe 57 = .ok (.ifCond .ne 7, 3) := by decide +kernel
theorem dX6_mayBe_60 : decode cX6_mayBe 60 = .ok (.iconst 1, 1) := by decide +kernel
theorem dX6_mayBe_61 : decode cX6_mayBe 61 = .ok (.goto 4, 3) := by decide +kernel
theorem dX6_mayBe_64 : decode cX6_mayBe 64 = .ok (.iconst 0, 1) := by decide +kernel
theorem dX6_mayBe_65 : decode cX6_mayBe 65 = .ok (.ireturn, 1) := by decide +kernel
set_option maxRecDepth 20000 in
theorem ggX6_isLawful_X7_isWithin : GoodIn wsX6_isLawful wsX7_isWithin := goodIn_r _ [4] (by decide +kernel) (by decide +kernel)
set_option maxRecDepth 20000 in
theorem gX6_isLawful_X7_isWithin_n82 : GoodIn wsX6_isLawful (wsX7_isWithin) := ggX6_isLawful_X7_isWithin
theorem dX6_isLawful_0 : decode cX6_isLawful 0 = .ok (.aload_n 0, 1) := by decide +kernel
theorem dX6_isLawful_1 : decode cX6_isLawful 1 = .ok (.getfield 37, 3) := by decide +kernel
theorem dX6_isLawful_4 : decode cX6_isLawful 4 = .ok (.iconst 2, 1) := by decide +kernel
theorem dX6_isLawful_5 : decode cX6_isLawful 5 = .ok (.if_icmp .eq 25, 3) := by decide +kernel
theorem dX6_isLawful_8 : decode cX6_isLawful 8 = .ok (.iload_n 1, 1) := by decide +kernel
theorem dX6_isLawful_9 : decode cX6_isLawful 9 = .ok (.iload_n 2, 1) := by decide +kernel
theorem dX6_isLawful_10 : decode cX6_isLawful 10 = .ok (.invokestatic 82, 3) := by decide +kernel
theorem dX6_isLawful_13 : decode cX6_isLawful 13 = .ok (.ifCond .ne 17, 3) := by decide +kernel
theorem dX6_isLawful_16 : decode cX6_isLawful 16 = .ok (.aload_n 0, 1) := by decide +kernel
theorem dX6_isLawful_17 : decode cX6_isLawful 17 = .ok (.getfield 37, 3) := by decide +kernel
theorem dX6_isLawful_20 : decode cX6_isLawful 20 = .ok (.iconst 1, 1) := by decide +kernel
theorem dX6_isLawful_21 : decode cX6_isLawful 21 = .ok (.if_icmp .ne 13, 3) := by decide +kernel
theorem dX6_isLawful_24 : decode cX6_isLawful 24 = .ok (.iload_n 1, 1) := by decide +kernel
theorem dX6_isLawful_25 : decode cX6_isLawful 25 = .ok (.iload_n 2, 1) := by decide +kernel
theorem dX6_isLawful_26 : decode cX6_isLawful 26 = .ok (.iand, 1) := by decide +kernel
theorem dX6_isLawful_27 : decode cX6_isLawful 27 = .ok (.ifCond .eq 7, 3) := by decide +kernel
theorem dX6_isLawful_30 : decode cX6_isLawful 30 = .ok (.iconst 1, 1) := by decide +kernel
theorem dX6_isLawful_31 : decode cX6_isLawful 31 = .ok (.goto 4, 3) := by decide +kernel
theorem dX6_isLawful_34 : decode cX6_isLawful 34 = .ok (.iconst 0, 1) := by decide +kernel
theorem dX6_isLawful_35 : decode cX6_isLawful 35 = .ok (.ireturn, 1) := by decide +kernel
set_option maxRecDepth 20000 in
theorem ggX7_init_X5_init : GoodIn wsX7_init wsX5_init := goodIn_r _ [38, 39, 2, 3, 40, 41, 102, 103] (by decide +kernel) (by decide +kernel)
set_option maxRecDepth 20000 in
theorem gX7_init_X5_init_n9 : GoodIn wsX7_init (wsX5_init) := ggX7_init_X5_init
set_option maxRecDepth 20000 in
theorem ggX7_init_X2_init : GoodIn wsX7_init wsX2_init := goodIn_r _ [43, 44, 2, 3, 40, 45, 116] (by decide +kernel) (by decide +kernel)
set_option maxRecDepth 20000 in
theorem gX7_init_X2_init_n18 : GoodIn wsX7_init (wsX2_init) := ggX7_init_X2_init
set_option maxRecDepth 20000 in
theorem ggX7_init_X6_init : GoodIn wsX7_init wsX6_init := goodIn_r _ [47, 48, 2, 3, 40, 49, 50, 51, 52, 53, 54, 117, 118, 119, 120, 121, 122, 123, 124, 125, 126, 127, 128] (by decide +kernel) (by decide +kernel)
set_option maxRecDepth 20000 in
theorem gX7_init_X6_init_n25 : GoodIn wsX7_init (wsX6_init) := ggX7_init_X6_init
set_option maxRecDepth 20000 in
theorem ggX7_init_X1_init : GoodIn wsX7_init wsX1_init := goodIn_r _ [56, 57, 2, 3, 40, 58, 59, 60, 129, 130, 131, 132] (by decide +kernel) (by decide +kernel)
set_option maxRecDepth 20000 in
theorem gX7_init_X1_init_n45 : GoodIn wsX7_init (wsX1_init) := ggX7_init_X1_init
set_option maxRecDepth 20000 in
theorem ggX7_init_X0_init : GoodIn wsX7_init wsX0_init := goodIn_r _ [63, 64, 2, 3, 40, 65, 66, 133, 134] (by decide +kernel) (by decide +kernel)
set_option maxRecDepth 20000 in
theorem gX7_init_X0_init : GoodIn wsX7_init (wsX0_init) := ggX7_init_X0_init
set_option maxRecDepth 20000 in
theorem ggX7_init_X4_init : GoodIn wsX7_init wsX4_init := goodIn_r _ [68, 69, 2, 3, 40, 70, 135, 136] (by decide +kernel) (by decide +kernel)
set_option maxRecDepth 20000 in
theorem gX7_init_X4_init_n61 : GoodIn wsX7_init (wsX4_init) := ggX7_init_X4_init
set_option maxRecDepth 20000 in
theorem ggX7_init_X3_init : GoodIn wsX7_init wsX3_init := goodIn_r _ [72, 73, 2, 3, 40, 74, 137, 138, 139] (by decide +kernel) (by decide +kernel)
set_option maxRecDepth 20000 in
theorem gX7_init_X3_init_n68 : GoodIn wsX7_init (wsX3_init) := ggX7_init_X3_init
set_option maxRecDepth 20000 in
theorem ggX7_init_X6_addPerson : GoodIn wsX7_init wsX6_addPerson := goodIn_r _ [78, 79, 80, 117, 118, 119, 120, 121, 122, 123, 124, 125, 126, 127, 128] (by decide +kernel) (by decide +kernel)
set_option maxRecDepth 20000 in
theorem gX7_init_X6_addPerson : GoodIn wsX7_init (wsV RX7 76 RX6 yX6_addPerson wsX6_addPerson) := goodIn_app (goodIn_of _ (by decide +kernel)) ggX7_init_X6_addPerson
set_option maxRecDepth 20000 in
theorem ggX7_init_X6_addKnot : GoodIn wsX7_init wsX6_addKnot := goodIn_r _ [84, 85, 49, 50, 51, 52, 53, 54, 86, 87, 88, 89, 14, 90, 91, 92, 93, 94, 79, 95, 96, 97, 98, 99, 100, 101, 117, 118, 119, 120, 121, 122, 123, 124, 125, 126, 127, 128] (by decide +kernel) (by decide +kernel)
set_option maxRecDepth 20000 in
theorem gX7_init_X6_addKnot : GoodIn wsX7_init (wsV RX7 80 RX6 yX6_addKnot wsX6_addKnot) := goodIn_app (goodIn_of _ (by decide +kernel)) ggX7_init_X6_addKnot
theorem dX7_init_0 : decode cX7_init 0 = .ok (.aload_n 0, 1) := by decide +kernel
theorem dX7_init_1 : decode cX7_init 1 = .ok (.invokespecial 1, 3) := by decide +kernel
theorem dX7_init_4 : decode cX7_init 4 = .ok (.aload_n 0, 1) := by decide +kernel
theorem dX7_init_5 : decode cX7_init 5 = .ok (.new 7, 3) := by decide +kernel
theorem dX7_init_8 : decode cX7_init 8 = .ok (.dup, 1) := by decide +kernel
theorem dX7_init_9 : decode cX7_init 9 = .ok (.invokespecial 9, 3) := by decide +kernel
theorem dX7_init_12 : decode cX7_init 12 = .ok (.putfield 10, 3) := by decide +kernel
theorem dX7_init_15 : decode cX7_init 15 = .ok (.aload_n 0, 1) := by decide +kernel
theorem dX7_init_16 : decode cX7_init 16 = .ok (.new 16, 3) := by decide +kernel
theorem dX7_init_19 : decode cX7_init 19 = .ok (.dup, 1) := by decide +kernel
theorem dX7_init_20 : decode cX7_init 20 = .ok (.invokespecial 18, 3) := by decide +kernel
theorem dX7_init_23 : decode cX7_init 23 = .ok (.putfield 19, 3) := by decide +kernel
theorem dX7_init_26 : decode cX7_init 26 = .ok (.aload_n 0, 1) := by decide +kernel
theorem dX7_init_27 : decode cX7_init 27 = .ok (.new 23, 3) := by decide +kernel
theorem dX7_init_30 : decode cX7_init 30 = .ok (.dup, 1) := by decide +kernel
theorem dX7_init_31 : decode cX7_init 31 = .ok (.invokespecial 25, 3) := by decide +kernel
theorem dX7_init_34 : decode cX7_init 34 = .ok (.putfield 26, 3) := by decide +kernel
theorem dX7_init_37 : decode cX7_init 37 = .ok (.aload_n 0, 1) := by decide +kernel
theorem dX7_init_38 : decode cX7_init 38 = .ok (.new 23, 3) := by decide +kernel
theorem dX7_init_41 : decode cX7_init 41 = .ok (.dup, 1) := by decide +kernel
theorem dX7_init_42 : decode cX7_init 42 = .ok (.invokespecial 25, 3) := by decide +kernel
theorem dX7_init_45 : decode cX7_init 45 = .ok (.putfield 30, 3) := by decide +kernel
theorem dX7_init_48 : decode cX7_init 48 = .ok (.aload_n 0, 1) := by decide +kernel
theorem dX7_init_49 : decode cX7_init 49 = .ok (.new 23, 3) := by decide +kernel
theorem dX7_init_52 : decode cX7_init 52 = .ok (.dup, 1) := by decide +kernel
theorem dX7_init_53 : decode cX7_init 53 = .ok (.invokespecial 25, 3) := by decide +kernel
theorem dX7_init_56 : decode cX7_init 56 = .ok (.putfield 33, 3) := by decide +kernel
theorem dX7_init_59 : decode cX7_init 59 = .ok (.aload_n 0, 1) := by decide +kernel
theorem dX7_init_60 : decode cX7_init 60 = .ok (.new 23, 3) := by decide +kernel
theorem dX7_init_63 : decode cX7_init 63 = .ok (.dup, 1) := by decide +kernel
theorem dX7_init_64 : decode cX7_init 64 = .ok (.invokespecial 25, 3) := by decide +kernel
theorem dX7_init_67 : decode cX7_init 67 = .ok (.putfield 36, 3) := by decide +kernel
theorem dX7_init_70 : decode cX7_init 70 = .ok (.aload_n 0, 1) := by decide +kernel
theorem dX7_init_71 : decode cX7_init 71 = .ok (.iconst 0, 1) := by decide +kernel
theorem dX7_init_72 : decode cX7_init 72 = .ok (.putfield 39, 3) := by decide +kernel
theorem dX7_init_75 : decode cX7_init 75 = .ok (.aload_n 0, 1) := by decide +kernel
theorem dX7_init_76 : decode cX7_init 76 = .ok (.new 43, 3) := by decide +kernel
theorem dX7_init_79 : decode cX7_init 79 = .ok (.dup, 1) := by decide +kernel
theorem dX7_init_80 : decode cX7_init 80 = .ok (.invokespecial 45, 3) := by decide +kernel
theorem dX7_init_83 : decode cX7_init 83 = .ok (.putfield 46, 3) := by decide +kernel
theorem dX7_init_86 : decode cX7_init 86 = .ok (.aload_n 0, 1) := by decide +kernel
theorem dX7_init_87 : decode cX7_init 87 = .ok (.new 50, 3) := by decide +kernel
theorem dX7_init_90 : decode cX7_init 90 = .ok (.dup, 1) := by decide +kernel
theorem dX7_init_91 : decode cX7_init 91 = .ok (.aload_n 0, 1) := by decide +kernel
theorem dX7_init_92 : decode cX7_init 92 = .ok (.getfield 26, 3) := by decide +kernel
theorem dX7_init_95 : decode cX7_init 95 = .ok (.invokespecial 52, 3) := by decide +kernel
theorem dX7_init_98 : decode cX7_init 98 = .ok (.putfield 55, 3) := by decide +kernel
theorem dX7_init_101 : decode cX7_init 101 = .ok (.aload_n 0, 1) := by decide +kernel
theorem dX7_init_102 : decode cX7_init 102 = .ok (.new 59, 3) := by decide +kernel
theorem dX7_init_105 : decode cX7_init 105 = .ok (.dup, 1) := by decide +kernel
theorem dX7_init_106 : decode cX7_init 106 = .ok (.invokespecial 61, 3) := by decide +kernel
theorem dX7_init_109 : decode cX7_init 109 = .ok (.putfield 62, 3) := by decide +kernel
theorem dX7_init_112 : decode cX7_init 112 = .ok (.aload_n 0, 1) := by decide +kernel
theorem dX7_init_113 : decode cX7_init 113 = .ok (.new 66, 3) := by decide +kernel
theorem dX7_init_116 : decode cX7_init 116 = .ok (.dup, 1) := by decide +kernel
theorem dX7_init_117 : decode cX7_init 117 = .ok (.invokespecial 68, 3) := by decide +kernel
theorem dX7_init_120 : decode cX7_init 120 = .ok (.putfield 69, 3) := by decide +kernel
theorem dX7_init_123 : decode cX7_init 123 = .ok (.aload_n 0, 1) := by decide +kernel
theorem dX7_init_124 : decode cX7_init 124 = .ok (.new 66, 3) := by decide +kernel
theorem dX7_init_127 : decode cX7_init 127 = .ok (.dup, 1) := by decide +kernel
theorem dX7_init_128 : decode cX7_init 128 = .ok (.invokespecial 68, 3) := by decide +kernel
theorem dX7_init_131 : decode cX7_init 131 = .ok (.putfield 73, 3) := by decide +kernel
theorem dX7_init_134 : decode cX7_init 134 = .ok (.aload_n 0, 1) := by decide +kernel
theorem dX7_init_135 : decode cX7_init 135 = .ok (.getfield 26, 3) := by decide +kernel
theorem dX7_init_138 : decode cX7_init 138 = .ok (.iconst 1, 1) := by decide +kernel
theorem dX7_init_139 : decode cX7_init 139 = .ok (.invokevirtual 76, 3) := by decide +kernel
theorem dX7_init_142 : decode cX7_init 142 = .ok (.pop, 1) := by decide +kernel
theorem dX7_init_143 : decode cX7_init 143 = .ok (.aload_n 0, 1) := by decide +kernel
theorem dX7_init_144 : decode cX7_init 144 = .ok (.getfield 26, 3) := by decide +kernel
theorem dX7_init_147 : decode cX7_init 147 = .ok (.iconst 1, 1) := by decide +kernel
theorem dX7_init_148 : decode cX7_init 148 = .ok (.invokevirtual 76, 3) := by decide +kernel
theorem dX7_init_151 : decode cX7_init 151 = .ok (.pop, 1) := by decide +kernel
theorem dX7_init_152 : decode cX7_init 152 = .ok (.aload_n 0, 1) := by decide +kernel
theorem dX7_init_153 : decode cX7_init 153 = .ok (.getfield 26, 3) := by decide +kernel
theorem dX7_init_156 : decode cX7_init 156 = .ok (.iconst 1, 1) := by decide +kernel
theorem dX7_init_157 : decode cX7_init 157 = .ok (.invokevirtual 76, 3) := by decide +kernel
theorem dX7_init_160 : decode cX7_init 160 = .ok (.pop, 1) := by decide +kernel
theorem dX7_init_161 : decode cX7_init 161 = .ok (.aload_n 0, 1) := by decide +kernel
theorem dX7_init_162 : decode cX7_init 162 = .ok (.getfield 26, 3) := by decide +kernel
theorem dX7_init_165 : decode cX7_init 165 = .ok (.iconst 0, 1) := by decide +kernel
theorem dX7_init_166 : decode cX7_init 166 = .ok (.iconst 1, 1) := by decide +kernel
theorem dX7_init_167 : decode cX7_init 167 = .ok (.iconst 0, 1) := by decide +kernel
theorem dX7_init_168 : decode cX7_init 168 = .ok (.iconst 5, 1) := by decide +kernel
theorem dX7_init_169 : decode cX7_init 169 = .ok (.iconst 0, 1) := by decide +kernel
theorem dX7_init_170 : decode cX7_init 170 = .ok (.invokevirtual 80, 3) := by decide +kernel
theorem dX7_init_173 : decode cX7_init 173 = .ok (.pop, 1) := by decide +kernel
theorem dX7_init_174 : decode cX7_init 174 = .ok (.aload_n 0, 1) := by decide +kernel
theorem dX7_init_175 : decode cX7_init 175 = .ok (.getfield 26, 3) := by decide +kernel
theorem dX7_init_178 : decode cX7_init 178 = .ok (.iconst 1, 1) := by decide +kernel
theorem dX7_init_179 : decode cX7_init 179 = .ok (.iconst 2, 1) := by decide +kernel
theorem dX7_init_180 : decode cX7_init 180 = .ok (.iconst 1, 1) := by decide +kernel
theorem dX7_init_181 : decode cX7_init 181 = .ok (.bipush 9, 2) := by decide +kernel
theorem dX7_init_183 : decode cX7_init 183 = .ok (.iconst 0, 1) := by decide +kernel
theorem dX7_init_184 : decode cX7_init 184 = .ok (.invokevirtual 80, 3) := by decide +kernel
theorem dX7_init_187 : decode cX7_init 187 = .ok (.pop, 1) := by decide +kernel
theorem dX7_init_188 : decode cX7_init 188 = .ok (.return_, 1) := by decide +kernel
set_option maxRecDepth 20000 in
theorem ggX7_write_X5_size : GoodIn wsX7_write wsX5_size := goodIn_r _ [6, 7, 25, 26] (by decide +kernel) (by decide +kernel)
set_option maxRecDepth 20000 in
theorem gX7_write_X5_size : GoodIn wsX7_write (wsV RX7 84 RX5 yX5_size wsX5_size) := goodIn_app (goodIn_of _ (by decide +kernel)) ggX7_write_X5_size
set_option maxRecDepth 20000 in
theorem ggX7_write_X5_append : GoodIn wsX7_write wsX5_append := goodIn_r _ [11, 7, 12, 25, 26] (by decide +kernel) (by decide +kernel)
set_option maxRecDepth 20000 in
theorem gX7_write_X5_append : GoodIn wsX7_write (wsV RX7 88 RX5 yX5_append wsX5_append) := goodIn_app (goodIn_of _ (by decide +kernel)) ggX7_write_X5_append
theorem dX7_write_0 : decode cX7_write 0 = .ok (.iload_n 1, 1) := by decide +kernel
theorem dX7_write_1 : decode cX7_write 1 = .ok (.iconst 1, 1) := by decide +kernel
theorem dX7_write_2 : decode cX7_write 2 = .ok (.if_icmp .lt 9, 3) := by decide +kernel
theorem dX7_write_5 : decode cX7_write 5 = .ok (.iload_n 1, 1) := by decide +kernel
theorem dX7_write_6 : decode cX7_write 6 = .ok (.bipush 8, 2) := by decide +kernel
theorem dX7_write_8 : decode cX7_write 8 = .ok (.if_icmp .le 5, 3) := by decide +kernel
theorem dX7_write_11 : decode cX7_write 11 = .ok (.iconst (-1), 1) := by decide +kernel
theorem dX7_write_12 : decode cX7_write 12 = .ok (.ireturn, 1) := by decide +kernel
theorem dX7_write_13 : decode cX7_write 13 = .ok (.aload_n 0, 1) := by decide +kernel
theorem dX7_write_14 : decode cX7_write 14 = .ok (.getfield 10, 3) := by decide +kernel
theorem dX7_write_17 : decode cX7_write 17 = .ok (.invokevirtual 84, 3) := by decide +kernel
theorem dX7_write_20 : decode cX7_write 20 = .ok (.iload_n 1, 1) := by decide +kernel
theorem dX7_write_21 : decode cX7_write 21 = .ok (.iadd, 1) := by decide +kernel
theorem dX7_write_22 : decode cX7_write 22 = .ok (.sipush 300, 3) := by decide +kernel
theorem dX7_write_25 : decode cX7_write 25 = .ok (.if_icmp .le 6, 3) := by decide +kernel
theorem dX7_write_28 : decode cX7_write 28 = .ok (.bipush (-3), 2) := by decide +kernel
theorem dX7_write_30 : decode cX7_write 30 = .ok (.ireturn, 1) := by decide +kernel
theorem dX7_write_31 : decode cX7_write 31 = .ok (.iload_n 1, 1) := by decide +kernel
theorem dX7_write_32 : decode cX7_write 32 = .ok (.iconst 1, 1) := by decide +kernel
theorem dX7_write_33 : decode cX7_write 33 = .ok (.isub, 1) := by decide +kernel
theorem dX7_write_34 : decode cX7_write 34 = .ok (.istore 4, 2) := by decide +kernel
theorem dX7_write_36 : decode cX7_write 36 = .ok (.iload 4, 2) := by decide +kernel
theorem dX7_write_38 : decode cX7_write 38 = .ok (.ifCond .lt 28, 3) := by decide +kernel
theorem dX7_write_41 : decode cX7_write 41 = .ok (.aload_n 0, 1) := by decide +kernel
theorem dX7_write_42 : decode cX7_write 42 = .ok (.getfield 10, 3) := by decide +kernel
theorem dX7_write_45 : decode cX7_write 45 = .ok (.lload_n 2, 1) := by decide +kernel
theorem dX7_write_46 : decode cX7_write 46 = .ok (.bipush 8, 2) := by decide +kernel
theorem dX7_write_48 : decode cX7_write 48 = .ok (.iload 4, 2) := by decide +kernel
theorem dX7_write_50 : decode cX7_write 50 = .ok (.imul, 1) := by decide +kernel
theorem dX7_write_51 : decode cX7_write 51 = .ok (.lushr, 1) := by decide +kernel
theorem dX7_write_52 : decode cX7_write 52 = .ok (.l2i, 1) := by decide +kernel
theorem dX7_write_53 : decode cX7_write 53 = .ok (.sipush 255, 3) := by decide +kernel
theorem dX7_write_56 : decode cX7_write 56 = .ok (.iand, 1) := by decide +kernel
theorem dX7_write_57 : decode cX7_write 57 = .ok (.invokevirtual 88, 3) := by decide +kernel
theorem dX7_write_60 : decode cX7_write 60 = .ok (.iinc 4 (-1), 3) := by decide +kernel
theorem dX7_write_63 : decode cX7_write 63 = .ok (.goto (-27), 3) := by decide +kernel
theorem dX7_write_66 : decode cX7_write 66 = .ok (.aload_n 0, 1) := by decide +kernel
theorem dX7_write_67 : decode cX7_write 67 = .ok (.getfield 10, 3) := by decide +kernel
theorem dX7_write_70 : decode cX7_write 70 = .ok (.invokevirtual 84, 3) := by decide +kernel
theorem dX7_write_73 : decode cX7_write 73 = .ok (.ireturn, 1) := by decide +kernel
set_option maxRecDepth 20000 in
theorem ggX7_wipe_X5_size : GoodIn wsX7_wipe wsX5_size := goodIn_r _ [6, 7, 24, 25] (by decide +kernel) (by decide +kernel)
set_option maxRecDepth 20000 in
theorem gX7_wipe_X5_size : GoodIn wsX7_wipe (wsV RX7 84 RX5 yX5_size wsX5_size) := goodIn_app (goodIn_of _ (by decide +kernel)) ggX7_wipe_X5_size
set_option maxRecDepth 20000 in
theorem ggX7_wipe_X5_empty : GoodIn wsX7_wipe wsX5_empty := goodIn_r _ [11, 7, 24, 25] (by decide +kernel) (by decide +kernel)
set_option maxRecDepth 20000 in
theorem gX7_wipe_X5_empty : GoodIn wsX7_wipe (wsV RX7 92 RX5 yX5_empty wsX5_empty) := goodIn_app (goodIn_of _ (by decide +kernel)) ggX7_wipe_X5_empty
theorem dX7_wipe_0 : decode cX7_wipe 0 = .ok (.aload_n 0, 1) := by decide +kernel
theorem dX7_wipe_1 : decode cX7_wipe 1 = .ok (.getfield 10, 3) := by decide +kernel
theorem dX7_wipe_4 : decode cX7_wipe 4 = .ok (.invokevirtual 84, 3) := by decide +kernel
theorem dX7_wipe_7 : decode cX7_wipe 7 = .ok (.istore_n 1, 1) := by decide +kernel
theorem dX7_wipe_8 : decode cX7_wipe 8 = .ok (.aload_n 0, 1) := by decide +kernel
theorem dX7_wipe_9 : decode cX7_wipe 9 = .ok (.getfield 10, 3) := by decide +kernel
theorem dX7_wipe_12 : decode cX7_wipe 12 = .ok (.invokevirtual 92, 3) := by decide +kernel
theorem dX7_wipe_15 : decode cX7_wipe 15 = .ok (.iload_n 1, 1) := by decide +kernel
theorem dX7_wipe_16 : decode cX7_wipe 16 = .ok (.ireturn, 1) := by decide +kernel
set_option maxRecDepth 20000 in
theorem ggX7_fault_X2_read : GoodIn wsX7_fault wsX2_read := goodIn_r _ [8, 9, 10, 11, 12, 13, 14, 15, 16, 17, 18, 19, 20, 21, 22, 23, 24, 25, 26, 27, 28, 29, 30, 31, 32, 7, 33, 34, 35, 36, 37, 38, 39, 40, 41, 42, 43, 44, 45, 46, 47, 48, 49, 50, 51, 52, 53, 54, 55, 56, 57, 58, 59, 60, 61, 62, 63, 64, 65, 66, 67, 68, 69, 70, 71, 72, 73, 74, 75, 76, 77, 78, 79, 80, 81, 94, 95, 96, 97, 98, 99, 100, 101, 102, 103, 104, 105, 106, 107, 108] (by decide +kernel) (by decide +kernel)
set_option maxRecDepth 20000 in
theorem gX7_fault_X2_read : GoodIn wsX7_fault (wsV RX7 95 RX2 yX2_read wsX2_read) := goodIn_app (goodIn_of _ (by decide +kernel)) ggX7_fault_X2_read
theorem dX7_fault_0 : decode cX7_fault 0 = .ok (.aload_n 0, 1) := by decide +kernel
theorem dX7_fault_1 : decode cX7_fault 1 = .ok (.getfield 19, 3) := by decide +kernel
theorem dX7_fault_4 : decode cX7_fault 4 = .ok (.aload_n 0, 1) := by decide +kernel
theorem dX7_fault_5 : decode cX7_fault 5 = .ok (.getfield 10, 3) := by decide +kernel
theorem dX7_fault_8 : decode cX7_fault 8 = .ok (.aload_n 0, 1) := by decide +kernel
theorem dX7_fault_9 : decode cX7_fault 9 = .ok (.getfield 30, 3) := by decide +kernel
theorem dX7_fault_12 : decode cX7_fault 12 = .ok (.invokevirtual 95, 3) := by decide +kernel
theorem dX7_fault_15 : decode cX7_fault 15 = .ok (.ireturn, 1) := by decide +kernel
set_option maxRecDepth 20000 in
theorem ggX7_lay_X2_read : GoodIn wsX7_lay wsX2_read := goodIn_r _ [14, 15, 16, 17, 18, 19, 20, 21, 22, 23, 24, 25, 26, 27, 28, 29, 30, 31, 32, 33, 34, 35, 36, 37, 38, 13, 39, 40, 41, 42, 43, 44, 45, 46, 47, 48, 49, 50, 51, 52, 53, 54, 55, 56, 57, 58, 59, 60, 61, 62, 63, 64, 65, 66, 67, 68, 69, 70, 71, 72, 73, 74, 75, 76, 77, 78, 79, 80, 81, 82, 83, 84, 85, 86, 87, 123, 124, 125, 126, 127, 128, 129, 130, 131, 132, 133, 134, 135, 136, 137] (by decide +kernel) (by decide +kernel)
set_option maxRecDepth 20000 in
theorem gX7_lay_X2_read : GoodIn wsX7_lay (wsV RX7 95 RX2 yX2_read wsX2_read) := goodIn_app (goodIn_of _ (by decide +kernel)) ggX7_lay_X2_read
set_option maxRecDepth 20000 in
theorem ggX7_lay_X6_copy : GoodIn wsX7_lay wsX6_copy := goodIn_r _ [91, 67, 68, 69, 70, 71, 72, 20, 21, 22, 23, 24, 25, 123, 124, 125, 126, 127, 128, 129, 130, 131, 132, 133, 134] (by decide +kernel) (by decide +kernel)
set_option maxRecDepth 20000 in
theorem gX7_lay_X6_copy : GoodIn wsX7_lay (wsV RX7 102 RX6 yX6_copy wsX6_copy) := goodIn_app (goodIn_of _ (by decide +kernel)) ggX7_lay_X6_copy
set_option maxRecDepth 20000 in
theorem ggX7_lay_X4_empty : GoodIn wsX7_lay wsX4_empty := goodIn_r _ [96, 97, 138, 139] (by decide +kernel) (by decide +kernel)
set_option maxRecDepth 20000 in
theorem gX7_lay_X4_empty : GoodIn wsX7_lay (wsV RX7 105 RX4 yX4_empty wsX4_empty) := goodIn_app (goodIn_of _ (by decide +kernel)) ggX7_lay_X4_empty
set_option maxRecDepth 20000 in
theorem ggX7_lay_X3_empty : GoodIn wsX7_lay wsX3_empty := goodIn_r _ [102, 103, 104, 140, 141, 142] (by decide +kernel) (by decide +kernel)
set_option maxRecDepth 20000 in
theorem gX7_lay_X3_empty : GoodIn wsX7_lay (wsV RX7 106 RX3 yX3_empty wsX3_empty) := goodIn_app (goodIn_of _ (by decide +kernel)) ggX7_lay_X3_empty
set_option maxRecDepth 20000 in
theorem ggX7_lay_X1_empty : GoodIn wsX7_lay wsX1_empty := goodIn_r _ [109, 110, 143, 144, 145, 146] (by decide +kernel) (by decide +kernel)
set_option maxRecDepth 20000 in
theorem gX7_lay_X1_empty : GoodIn wsX7_lay (wsV RX7 107 RX1 yX1_empty wsX1_empty) := goodIn_app (goodIn_of _ (by decide +kernel)) ggX7_lay_X1_empty
theorem dX7_lay_0 : decode cX7_lay 0 = .ok (.aload_n 0, 1) := by decide +kernel
theorem dX7_lay_1 : decode cX7_lay 1 = .ok (.getfield 19, 3) := by decide +kernel
theorem dX7_lay_4 : decode cX7_lay 4 = .ok (.aload_n 0, 1) := by decide +kernel
theorem dX7_lay_5 : decode cX7_lay 5 = .ok (.getfield 10, 3) := by decide +kernel
theorem dX7_lay_8 : decode cX7_lay 8 = .ok (.aload_n 0, 1) := by decide +kernel
theorem dX7_lay_9 : decode cX7_lay 9 = .ok (.getfield 30, 3) := by decide +kernel
theorem dX7_lay_12 : decode cX7_lay 12 = .ok (.invokevirtual 95, 3) := by decide +kernel
theorem dX7_lay_15 : decode cX7_lay 15 = .ok (.bipush (-4), 2) := by decide +kernel
theorem dX7_lay_17 : decode cX7_lay 17 = .ok (.if_icmp .ne 14, 3) := by decide +kernel
theorem dX7_lay_20 : decode cX7_lay 20 = .ok (.aload_n 0, 1) := by decide +kernel
theorem dX7_lay_21 : decode cX7_lay 21 = .ok (.getfield 30, 3) := by decide +kernel
theorem dX7_lay_24 : decode cX7_lay 24 = .ok (.getfield 99, 3) := by decide +kernel
theorem dX7_lay_27 : decode cX7_lay 27 = .ok (.iconst 1, 1) := by decide +kernel
theorem dX7_lay_28 : decode cX7_lay 28 = .ok (.if_icmp .ge 6, 3) := by decide +kernel
theorem dX7_lay_31 : decode cX7_lay 31 = .ok (.bipush (-2), 2) := by decide +kernel
theorem dX7_lay_33 : decode cX7_lay 33 = .ok (.ireturn, 1) := by decide +kernel
theorem dX7_lay_34 : decode cX7_lay 34 = .ok (.aload_n 0, 1) := by decide +kernel
theorem dX7_lay_35 : decode cX7_lay 35 = .ok (.getfield 26, 3) := by decide +kernel
theorem dX7_lay_38 : decode cX7_lay 38 = .ok (.aload_n 0, 1) := by decide +kernel
theorem dX7_lay_39 : decode cX7_lay 39 = .ok (.getfield 30, 3) := by decide +kernel
theorem dX7_lay_42 : decode cX7_lay 42 = .ok (.invokevirtual 102, 3) := by decide +kernel
theorem dX7_lay_45 : decode cX7_lay 45 = .ok (.aload_n 0, 1) := by decide +kernel
theorem dX7_lay_46 : decode cX7_lay 46 = .ok (.getfield 62, 3) := by decide +kernel
theorem dX7_lay_49 : decode cX7_lay 49 = .ok (.invokevirtual 105, 3) := by decide +kernel
theorem dX7_lay_52 : decode cX7_lay 52 = .ok (.aload_n 0, 1) := by decide +kernel
theorem dX7_lay_53 : decode cX7_lay 53 = .ok (.getfield 69, 3) := by decide +kernel
theorem dX7_lay_56 : decode cX7_lay 56 = .ok (.invokevirtual 106, 3) := by decide +kernel
theorem dX7_lay_59 : decode cX7_lay 59 = .ok (.aload_n 0, 1) := by decide +kernel
theorem dX7_lay_60 : decode cX7_lay 60 = .ok (.getfield 73, 3) := by decide +kernel
theorem dX7_lay_63 : decode cX7_lay 63 = .ok (.invokevirtual 106, 3) := by decide +kernel
theorem dX7_lay_66 : decode cX7_lay 66 = .ok (.aload_n 0, 1) := by decide +kernel
theorem dX7_lay_67 : decode cX7_lay 67 = .ok (.getfield 46, 3) := by decide +kernel
theorem dX7_lay_70 : decode cX7_lay 70 = .ok (.invokevirtual 107, 3) := by decide +kernel
theorem dX7_lay_73 : decode cX7_lay 73 = .ok (.aload_n 0, 1) := by decide +kernel
theorem dX7_lay_74 : decode cX7_lay 74 = .ok (.iconst 0, 1) := by decide +kernel
theorem dX7_lay_75 : decode cX7_lay 75 = .ok (.putfield 39, 3) := by decide +kernel
theorem dX7_lay_78 : decode cX7_lay 78 = .ok (.aload_n 0, 1) := by decide +kernel
theorem dX7_lay_79 : decode cX7_lay 79 = .ok (.getfield 26, 3) := by decide +kernel
theorem dX7_lay_82 : decode cX7_lay 82 = .ok (.getfield 99, 3) := by decide +kernel
theorem dX7_lay_85 : decode cX7_lay 85 = .ok (.ireturn, 1) := by decide +kernel
set_option maxRecDepth 20000 in
theorem ggX7_knot_X6_isKnot : GoodIn wsX7_knot wsX6_isKnot := goodIn_r _ [6, 7, 35, 36, 37, 38, 39, 40, 41, 42, 43, 44, 45, 46] (by decide +kernel) (by decide +kernel)
set_option maxRecDepth 20000 in
theorem gX7_knot_X6_isKnot : GoodIn wsX7_knot (wsV RX7 108 RX6 yX6_isKnot wsX6_isKnot) := goodIn_app (goodIn_of _ (by decide +kernel)) ggX7_knot_X6_isKnot
set_option maxRecDepth 20000 in
theorem ggX7_knot_X7_has : GoodIn wsX7_knot wsX7_has := goodIn_r _ [11] (by decide +kernel) (by decide +kernel)
set_option maxRecDepth 20000 in
theorem gX7_knot_X7_has : GoodIn wsX7_knot (va_wsS RX7 130 yX7_has wsX7_has) := goodIn_app (goodIn_of _ (by decide +kernel)) ggX7_knot_X7_has
set_option maxRecDepth 20000 in
theorem ggX7_knot_X7_asNumber : GoodIn wsX7_knot wsX7_asNumber := goodIn_r _ [14] (by decide +kernel) (by decide +kernel)
set_option maxRecDepth 20000 in
theorem gX7_knot_X7_asNumber : GoodIn wsX7_knot (va_wsS RX7 134 yX7_asNumber wsX7_asNumber) := goodIn_app (goodIn_of _ (by decide +kernel)) ggX7_knot_X7_asNumber
set_option maxRecDepth 20000 in
theorem ggX7_knot_X6_above : GoodIn wsX7_knot wsX6_above := goodIn_r _ [18, 19, 20, 9, 10, 11, 21, 22, 35, 36, 37, 38, 39, 40, 41, 42, 43, 44, 45, 46] (by decide +kernel) (by decide +kernel)
set_option maxRecDepth 20000 in
theorem gX7_knot_X6_above : GoodIn wsX7_knot (wsV RX7 138 RX6 yX6_above wsX6_above) := goodIn_app (goodIn_of _ (by decide +kernel)) ggX7_knot_X6_above
theorem dX7_knot_0 : decode cX7_knot 0 = .ok (.aload_n 0, 1) := by decide +kernel
theorem dX7_knot_1 : decode cX7_knot 1 = .ok (.getfield 26, 3) := by decide +kernel
theorem dX7_knot_4 : decode cX7_knot 4 = .ok (.iload_n 1, 1) := by decide +kernel
theorem dX7_knot_5 : decode cX7_knot 5 = .ok (.invokevirtual 108, 3) := by decide +kernel
theorem dX7_knot_8 : decode cX7_knot 8 = .ok (.ifCond .eq 13, 3) := by decide +kernel
theorem dX7_knot_11 : decode cX7_knot 11 = .ok (.iload_n 2, 1) := by decide +kernel
theorem dX7_knot_12 : decode cX7_knot 12 = .ok (.ifCond .lt 9, 3) := by decide +kernel
theorem dX7_knot_15 : decode cX7_knot 15 = .ok (.iload_n 2, 1) := by decide +kernel
theorem dX7_knot_16 : decode cX7_knot 16 = .ok (.bipush 6, 2) := by decide +kernel
theorem dX7_knot_18 : decode cX7_knot 18 = .ok (.if_icmp .le 5, 3) := by decide +kernel
theorem dX7_knot_21 : decode cX7_knot 21 = .ok (.iconst (-1), 1) := by decide +kernel
theorem dX7_knot_22 : decode cX7_knot 22 = .ok (.ireturn, 1) := by decide +kernel
theorem dX7_knot_23 : decode cX7_knot 23 = .ok (.iload_n 2, 1) := by decide +kernel
theorem dX7_knot_24 : decode cX7_knot 24 = .ok (.tableswitch 105 0 5 #[40, 50, 60, 70, 80, 90], 40) := by decide +kernel
theorem dX7_knot_64 : decode cX7_knot 64 = .ok (.aload_n 0, 1) := by decide +kernel
theorem dX7_knot_65 : decode cX7_knot 65 = .ok (.getfield 26, 3) := by decide +kernel
theorem dX7_knot_68 : decode cX7_knot 68 = .ok (.getfield 111, 3) := by decide +kernel
theorem dX7_knot_71 : decode cX7_knot 71 = .ok (.iload_n 1, 1) := by decide +kernel
theorem dX7_knot_72 : decode cX7_knot 72 = .ok (.iaload, 1) := by decide +kernel
theorem dX7_knot_73 : decode cX7_knot 73 = .ok (.ireturn, 1) := by decide +kernel
theorem dX7_knot_74 : decode cX7_knot 74 = .ok (.aload_n 0, 1) := by decide +kernel
theorem dX7_knot_75 : decode cX7_knot 75 = .ok (.getfield 26, 3) := by decide +kernel
theorem dX7_knot_78 : decode cX7_knot 78 = .ok (.getfield 115, 3) := by decide +kernel
theorem dX7_knot_81 : decode cX7_knot 81 = .ok (.iload_n 1, 1) := by decide +kernel
theorem dX7_knot_82 : decode cX7_knot 82 = .ok (.iaload, 1) := by decide +kernel
theorem dX7_knot_83 : decode cX7_knot 83 = .ok (.ireturn, 1) := by decide +kernel
theorem dX7_knot_84 : decode cX7_knot 84 = .ok (.aload_n 0, 1) := by decide +kernel
theorem dX7_knot_85 : decode cX7_knot 85 = .ok (.getfield 26, 3) := by decide +kernel
theorem dX7_knot_88 : decode cX7_knot 88 = .ok (.getfield 118, 3) := by decide +kernel
theorem dX7_knot_91 : decode cX7_knot 91 = .ok (.iload_n 1, 1) := by decide +kernel
theorem dX7_knot_92 : decode cX7_knot 92 = .ok (.iaload, 1) := by decide +kernel
theorem dX7_knot_93 : decode cX7_knot 93 = .ok (.ireturn, 1) := by decide +kernel
theorem dX7_knot_94 : decode cX7_knot 94 = .ok (.aload_n 0, 1) := by decide +kernel
theorem dX7_knot_95 : decode cX7_knot 95 = .ok (.getfield 26, 3) := by decide +kernel
theorem dX7_knot_98 : decode cX7_knot 98 = .ok (.getfield 121, 3) := by decide +kernel
theorem dX7_knot_101 : decode cX7_knot 101 = .ok (.iload_n 1, 1) := by decide +kernel
theorem dX7_knot_102 : decode cX7_knot 102 = .ok (.iaload, 1) := by decide +kernel
theorem dX7_knot_103 : decode cX7_knot 103 = .ok (.ireturn, 1) := by decide +kernel
theorem dX7_knot_104 : decode cX7_knot 104 = .ok (.aload_n 0, 1) := by decide +kernel
theorem dX7_knot_105 : decode cX7_knot 105 = .ok (.getfield 26, 3) := by decide +kernel
theorem dX7_knot_108 : decode cX7_knot 108 = .ok (.getfield 124, 3) := by decide +kernel
theorem dX7_knot_111 : decode cX7_knot 111 = .ok (.iload_n 1, 1) := by decide +kernel
theorem dX7_knot_112 : decode cX7_knot 112 = .ok (.iaload, 1) := by decide +kernel
theorem dX7_knot_113 : decode cX7_knot 113 = .ok (.ireturn, 1) := by decide +kernel
theorem dX7_knot_114 : decode cX7_knot 114 = .ok (.aload_n 0, 1) := by decide +kernel
theorem dX7_knot_115 : decode cX7_knot 115 = .ok (.getfield 26, 3) := by decide +kernel
theorem dX7_knot_118 : decode cX7_knot 118 = .ok (.getfield 127, 3) := by decide +kernel
theorem dX7_knot_121 : decode cX7_knot 121 = .ok (.iload_n 1, 1) := by decide +kernel
theorem dX7_knot_122 : decode cX7_knot 122 = .ok (.invokestatic 130, 3) := by decide +kernel
theorem dX7_knot_125 : decode cX7_knot 125 = .ok (.invokestatic 134, 3) := by decide +kernel
theorem dX7_knot_128 : decode cX7_knot 128 = .ok (.ireturn, 1) := by decide +kernel
theorem dX7_knot_129 : decode cX7_knot 129 = .ok (.aload_n 0, 1) := by decide +kernel
theorem dX7_knot_130 : decode cX7_knot 130 = .ok (.getfield 26, 3) := by decide +kernel
theorem dX7_knot_133 : decode cX7_knot 133 = .ok (.iload_n 1, 1) := by decide +kernel
theorem dX7_knot_134 : decode cX7_knot 134 = .ok (.invokevirtual 138, 3) := by decide +kernel
theorem dX7_knot_137 : decode cX7_knot 137 = .ok (.ireturn, 1) := by decide +kernel
set_option maxRecDepth 20000 in
theorem ggX7_person_X6_isPerson : GoodIn wsX7_person wsX6_isPerson := goodIn_r _ [6, 7, 35, 36, 37, 38, 39, 40, 41, 42, 43, 44, 45, 46] (by decide +kernel) (by decide +kernel)
set_option maxRecDepth 20000 in
theorem gX7_person_X6_isPerson : GoodIn wsX7_person (wsV RX7 142 RX6 yX6_isPerson wsX6_isPerson) := goodIn_app (goodIn_of _ (by decide +kernel)) ggX7_person_X6_isPerson
set_option maxRecDepth 20000 in
theorem ggX7_person_X7_has : GoodIn wsX7_person wsX7_has := goodIn_r _ [11] (by decide +kernel) (by decide +kernel)
set_option maxRecDepth 20000 in
theorem gX7_person_X7_has : GoodIn wsX7_person (va_wsS RX7 130 yX7_has wsX7_has) := goodIn_app (goodIn_of _ (by decide +kernel)) ggX7_person_X7_has
set_option maxRecDepth 20000 in
theorem ggX7_person_X7_asNumber : GoodIn wsX7_person wsX7_asNumber := goodIn_r _ [14] (by decide +kernel) (by decide +kernel)
set_option maxRecDepth 20000 in
theorem gX7_person_X7_asNumber : GoodIn wsX7_person (va_wsS RX7 134 yX7_asNumber wsX7_asNumber) := goodIn_app (goodIn_of _ (by decide +kernel)) ggX7_person_X7_asNumber
set_option maxRecDepth 20000 in
theorem ggX7_person_X6_ofPerson : GoodIn wsX7_person wsX6_ofPerson := goodIn_r _ [18, 19, 20, 9, 10, 11, 21, 22, 35, 36, 37, 38, 39, 40, 41, 42, 43, 44, 45, 46] (by decide +kernel) (by decide +kernel)
set_option maxRecDepth 20000 in
theorem gX7_person_X6_ofPerson : GoodIn wsX7_person (wsV RX7 148 RX6 yX6_ofPerson wsX6_ofPerson) := goodIn_app (goodIn_of _ (by decide +kernel)) ggX7_person_X6_ofPerson
theorem dX7_person_0 : decode cX7_person 0 = .ok (.aload_n 0, 1) := by decide +kernel
theorem dX7_person_1 : decode cX7_person 1 = .ok (.getfield 26, 3) := by decide +kernel
theorem dX7_person_4 : decode cX7_person 4 = .ok (.iload_n 1, 1) := by decide +kernel
theorem dX7_person_5 : decode cX7_person 5 = .ok (.invokevirtual 142, 3) := by decide +kernel
theorem dX7_person_8 : decode cX7_person 8 = .ok (.ifCond .eq 12, 3) := by decide +kernel
theorem dX7_person_11 : decode cX7_person 11 = .ok (.iload_n 2, 1) := by decide +kernel
theorem dX7_person_12 : decode cX7_person 12 = .ok (.ifCond .lt 8, 3) := by decide +kernel
theorem dX7_person_15 : decode cX7_person 15 = .ok (.iload_n 2, 1) := by decide +kernel
theorem dX7_person_16 : decode cX7_person 16 = .ok (.iconst 1, 1) := by decide +kernel
theorem dX7_person_17 : decode cX7_person 17 = .ok (.if_icmp .le 5, 3) := by decide +kernel
theorem dX7_person_20 : decode cX7_person 20 = .ok (.iconst (-1), 1) := by decide +kernel
theorem dX7_person_21 : decode cX7_person 21 = .ok (.ireturn, 1) := by decide +kernel
theorem dX7_person_22 : decode cX7_person 22 = .ok (.iload_n 2, 1) := by decide +kernel
theorem dX7_person_23 : decode cX7_person 23 = .ok (.ifCond .ne 20, 3) := by decide +kernel
theorem dX7_person_26 : decode cX7_person 26 = .ok (.aload_n 0, 1) := by decide +kernel
theorem dX7_person_27 : decode cX7_person 27 = .ok (.getfield 26, 3) := by decide +kernel
theorem dX7_person_30 : decode cX7_person 30 = .ok (.getfield 145, 3) := by decide +kernel
theorem dX7_person_33 : decode cX7_person 33 = .ok (.iload_n 1, 1) := by decide +kernel
theorem dX7_person_34 : decode cX7_person 34 = .ok (.invokestatic 130, 3) := by decide +kernel
theorem dX7_person_37 : decode cX7_person 37 = .ok (.invokestatic 134, 3) := by decide +kernel
theorem dX7_person_40 : decode cX7_person 40 = .ok (.goto 11, 3) := by decide +kernel
theorem dX7_person_43 : decode cX7_person 43 = .ok (.aload_n 0, 1) := by decide +kernel
theorem dX7_person_44 : decode cX7_person 44 = .ok (.getfield 26, 3) := by decide +kernel
theorem dX7_person_47 : decode cX7_person 47 = .ok (.iload_n 1, 1) := by decide +kernel
theorem dX7_person_48 : decode cX7_person 48 = .ok (.invokevirtual 148, 3) := by decide +kernel
theorem dX7_person_51 : decode cX7_person 51 = .ok (.ireturn, 1) := by decide +kernel
set_option maxRecDepth 20000 in
theorem ggX7_may_X6_isKnot : GoodIn wsX7_may wsX6_isKnot := goodIn_r _ [6, 7, 54, 55, 56, 57, 58, 59, 60, 61, 62, 63, 64, 65] (by decide +kernel) (by decide +kernel)
set_option maxRecDepth 20000 in
theorem gX7_may_X6_isKnot : GoodIn wsX7_may (wsV RX7 108 RX6 yX6_isKnot wsX6_isKnot) := goodIn_app (goodIn_of _ (by decide +kernel)) ggX7_may_X6_isKnot
set_option maxRecDepth 20000 in
theorem ggX7_may_X6_mayToday : GoodIn wsX7_may wsX6_mayToday := goodIn_r _ [11, 12, 13, 14, 15, 16, 5, 17, 18, 19, 20, 21, 3, 4, 6, 7, 22, 23, 24, 25, 26, 27, 28, 29, 30, 31, 32, 33, 34, 35, 36, 37, 38, 54, 55, 56, 57, 58, 59, 60, 61, 62, 63, 64, 65] (by decide +kernel) (by decide +kernel)
set_option maxRecDepth 20000 in
theorem gX7_may_X6_mayToday : GoodIn wsX7_may (wsV RX7 151 RX6 yX6_mayToday wsX6_mayToday) := goodIn_app (goodIn_of _ (by decide +kernel)) ggX7_may_X6_mayToday
set_option maxRecDepth 20000 in
theorem ggX7_may_X7_asNumber : GoodIn wsX7_may wsX7_asNumber := goodIn_r _ [41] (by decide +kernel) (by decide +kernel)
set_option maxRecDepth 20000 in
theorem gX7_may_X7_asNumber : GoodIn wsX7_may (va_wsS RX7 134 yX7_asNumber wsX7_asNumber) := goodIn_app (goodIn_of _ (by decide +kernel)) ggX7_may_X7_asNumber
theorem dX7_may_0 : decode cX7_may 0 = .ok (.aload_n 0, 1) := by decide +kernel
theorem dX7_may_1 : decode cX7_may 1 = .ok (.getfield 26, 3) := by decide +kernel
theorem dX7_may_4 : decode cX7_may 4 = .ok (.iload_n 1, 1) := by decide +kernel
theorem dX7_may_5 : decode cX7_may 5 = .ok (.invokevirtual 108, 3) := by decide +kernel
theorem dX7_may_8 : decode cX7_may 8 = .ok (.ifCond .ne 5, 3) := by decide +kernel
theorem dX7_may_11 : decode cX7_may 11 = .ok (.iconst (-1), 1) := by decide +kernel
theorem dX7_may_12 : decode cX7_may 12 = .ok (.ireturn, 1) := by decide +kernel
theorem dX7_may_13 : decode cX7_may 13 = .ok (.aload_n 0, 1) := by decide +kernel
theorem dX7_may_14 : decode cX7_may 14 = .ok (.getfield 26, 3) := by decide +kernel
theorem dX7_may_17 : decode cX7_may 17 = .ok (.iload_n 1, 1) := by decide +kernel
theorem dX7_may_18 : decode cX7_may 18 = .ok (.aload_n 0, 1) := by decide +kernel
theorem dX7_may_19 : decode cX7_may 19 = .ok (.getfield 26, 3) := by decide +kernel
theorem dX7_may_22 : decode cX7_may 22 = .ok (.getfield 127, 3) := by decide +kernel
theorem dX7_may_25 : decode cX7_may 25 = .ok (.invokevirtual 151, 3) := by decide +kernel
theorem dX7_may_28 : decode cX7_may 28 = .ok (.invokestatic 134, 3) := by decide +kernel
theorem dX7_may_31 : decode cX7_may 31 = .ok (.ireturn, 1) := by decide +kernel
set_option maxRecDepth 20000 in
theorem ggX7_undo_X6_isKnot : GoodIn wsX7_undo wsX6_isKnot := goodIn_r _ [6, 7, 77, 78, 79, 80, 81, 82, 83, 84, 85, 86, 87, 88] (by decide +kernel) (by decide +kernel)
set_option maxRecDepth 20000 in
theorem gX7_undo_X6_isKnot : GoodIn wsX7_undo (wsV RX7 108 RX6 yX6_isKnot wsX6_isKnot) := goodIn_app (goodIn_of _ (by decide +kernel)) ggX7_undo_X6_isKnot
set_option maxRecDepth 20000 in
theorem ggX7_undo_X6_mayToday : GoodIn wsX7_undo wsX6_mayToday := goodIn_r _ [11, 12, 13, 14, 15, 16, 5, 17, 18, 19, 20, 21, 3, 4, 6, 7, 22, 23, 24, 25, 26, 27, 28, 29, 30, 31, 32, 33, 34, 35, 36, 37, 38, 77, 78, 79, 80, 81, 82, 83, 84, 85, 86, 87, 88] (by decide +kernel) (by decide +kernel)
set_option maxRecDepth 20000 in
theorem gX7_undo_X6_mayToday : GoodIn wsX7_undo (wsV RX7 151 RX6 yX6_mayToday wsX6_mayToday) := goodIn_app (goodIn_of _ (by decide +kernel)) ggX7_undo_X6_mayToday
set_option maxRecDepth 20000 in
theorem ggX7_undo_X7_bit : GoodIn wsX7_undo wsX7_bit := goodIn_r _ [38] (by decide +kernel) (by decide +kernel)
set_option maxRecDepth 20000 in
theorem gX7_undo_X7_bit : GoodIn wsX7_undo (va_wsS RX7 154 yX7_bit wsX7_bit) := goodIn_app (goodIn_of _ (by decide +kernel)) ggX7_undo_X7_bit
set_option maxRecDepth 20000 in
theorem ggX7_undo_X7_removeTied : GoodIn wsX7_undo wsX7_removeTied := goodIn_r _ [43, 44, 1, 45, 46, 47, 48, 49, 50, 51, 52, 53, 54, 55, 56, 57, 58, 59, 60, 61, 62, 63, 64, 65, 66, 67, 68, 69, 70, 71, 72, 73, 74, 75, 76, 77, 78, 79, 80, 81, 82, 83, 84, 85, 86, 87, 88, 89, 90, 91, 92] (by decide +kernel) (by decide +kernel)
set_option maxRecDepth 20000 in
theorem gX7_undo_X7_removeTied : GoodIn wsX7_undo (wsV RX7 157 RX7 yX7_removeTied wsX7_removeTied) := goodIn_app (goodIn_of _ (by decide +kernel)) ggX7_undo_X7_removeTied
set_option maxRecDepth 20000 in
theorem ggX7_undo_J6_bitCount_0f7a4 : GoodIn wsX7_undo wsJ6_bitCount_0f7a4 := goodIn_r _ [61, 62, 63, 64] (by decide +kernel) (by decide +kernel)
set_option maxRecDepth 20000 in
theorem gX7_undo_J6_bitCount_0f7a4 : GoodIn wsX7_undo (va_wsS RX7 160 yJ6_bitCount_0f7a4 wsJ6_bitCount_0f7a4) := goodIn_app (goodIn_of _ (by decide +kernel)) ggX7_undo_J6_bitCount_0f7a4
theorem dX7_undo_0 : decode cX7_undo 0 = .ok (.aload_n 0, 1) := by decide +kernel
theorem dX7_undo_1 : decode cX7_undo 1 = .ok (.getfield 26, 3) := by decide +kernel
theorem dX7_undo_4 : decode cX7_undo 4 = .ok (.iload_n 1, 1) := by decide +kernel
theorem dX7_undo_5 : decode cX7_undo 5 = .ok (.invokevirtual 108, 3) := by decide +kernel
theorem dX7_undo_8 : decode cX7_undo 8 = .ok (.ifCond .ne 5, 3) := by decide +kernel
theorem dX7_undo_11 : decode cX7_undo 11 = .ok (.iconst (-1), 1) := by decide +kernel
theorem dX7_undo_12 : decode cX7_undo 12 = .ok (.ireturn, 1) := by decide +kernel
theorem dX7_undo_13 : decode cX7_undo 13 = .ok (.aload_n 0, 1) := by decide +kernel
theorem dX7_undo_14 : decode cX7_undo 14 = .ok (.getfield 26, 3) := by decide +kernel
theorem dX7_undo_17 : decode cX7_undo 17 = .ok (.iload_n 1, 1) := by decide +kernel
theorem dX7_undo_18 : decode cX7_undo 18 = .ok (.aload_n 0, 1) := by decide +kernel
theorem dX7_undo_19 : decode cX7_undo 19 = .ok (.getfield 26, 3) := by decide +kernel
theorem dX7_undo_22 : decode cX7_undo 22 = .ok (.getfield 127, 3) := by decide +kernel
theorem dX7_undo_25 : decode cX7_undo 25 = .ok (.invokevirtual 151, 3) := by decide +kernel
theorem dX7_undo_28 : decode cX7_undo 28 = .ok (.ifCond .ne 6, 3) := by decide +kernel
theorem dX7_undo_31 : decode cX7_undo 31 = .ok (.bipush (-2), 2) := by decide +kernel
theorem dX7_undo_33 : decode cX7_undo 33 = .ok (.ireturn, 1) := by decide +kernel
theorem dX7_undo_34 : decode cX7_undo 34 = .ok (.aload_n 0, 1) := by decide +kernel
theorem dX7_undo_35 : decode cX7_undo 35 = .ok (.iload_n 1, 1) := by decide +kernel
theorem dX7_undo_36 : decode cX7_undo 36 = .ok (.invokestatic 154, 3) := by decide +kernel
theorem dX7_undo_39 : decode cX7_undo 39 = .ok (.invokevirtual 157, 3) := by decide +kernel
theorem dX7_undo_42 : decode cX7_undo 42 = .ok (.pop, 1) := by decide +kernel
theorem dX7_undo_43 : decode cX7_undo 43 = .ok (.aload_n 0, 1) := by decide +kernel
theorem dX7_undo_44 : decode cX7_undo 44 = .ok (.getfield 26, 3) := by decide +kernel
theorem dX7_undo_47 : decode cX7_undo 47 = .ok (.getfield 127, 3) := by decide +kernel
theorem dX7_undo_50 : decode cX7_undo 50 = .ok (.invokestatic 160, 3) := by decide +kernel
theorem dX7_undo_53 : decode cX7_undo 53 = .ok (.ireturn, 1) := by decide +kernel
set_option maxRecDepth 20000 in
theorem ggX7_tie_X6_suits : GoodIn wsX7_tie wsX6_suits := goodIn_r _ [8, 9, 10, 11, 7, 12, 13, 14, 15, 16, 17, 18, 19, 20, 21, 69, 70, 71, 72, 73, 74, 75, 76, 77, 78, 79, 80] (by decide +kernel) (by decide +kernel)
set_option maxRecDepth 20000 in
theorem gX7_tie_X6_suits : GoodIn wsX7_tie (wsV RX7 165 RX6 yX6_suits wsX6_suits) := goodIn_app (goodIn_of _ (by decide +kernel)) ggX7_tie_X6_suits
set_option maxRecDepth 20000 in
theorem ggX7_tie_X7_bit : GoodIn wsX7_tie wsX7_bit := goodIn_r _ [21] (by decide +kernel) (by decide +kernel)
set_option maxRecDepth 20000 in
theorem gX7_tie_X7_bit : GoodIn wsX7_tie (va_wsS RX7 154 yX7_bit wsX7_bit) := goodIn_app (goodIn_of _ (by decide +kernel)) ggX7_tie_X7_bit
set_option maxRecDepth 20000 in
theorem ggX7_tie_X7_isWithin : GoodIn wsX7_tie wsX7_isWithin := goodIn_r _ [25] (by decide +kernel) (by decide +kernel)
set_option maxRecDepth 20000 in
theorem gX7_tie_X7_isWithin : GoodIn wsX7_tie (va_wsS RX7 168 yX7_isWithin wsX7_isWithin) := goodIn_app (goodIn_of _ (by decide +kernel)) ggX7_tie_X7_isWithin
set_option maxRecDepth 20000 in
theorem ggX7_tie_X1_note : GoodIn wsX7_tie wsX1_note := goodIn_r _ [30, 31, 32, 33, 34, 35, 36, 37, 29, 38, 81, 82, 83, 84, 69, 70, 71, 72, 73, 74, 75, 76, 77, 78, 79, 80] (by decide +kernel) (by decide +kernel)
set_option maxRecDepth 20000 in
theorem gX7_tie_X1_note : GoodIn wsX7_tie (wsV RX7 171 RX1 yX1_note wsX1_note) := goodIn_app (goodIn_of _ (by decide +kernel)) ggX7_tie_X1_note
set_option maxRecDepth 20000 in
theorem ggX7_tie_X4_empty : GoodIn wsX7_tie wsX4_empty := goodIn_r _ [43, 44, 85, 86] (by decide +kernel) (by decide +kernel)
set_option maxRecDepth 20000 in
theorem gX7_tie_X4_empty : GoodIn wsX7_tie (wsV RX7 105 RX4 yX4_empty wsX4_empty) := goodIn_app (goodIn_of _ (by decide +kernel)) ggX7_tie_X4_empty
set_option maxRecDepth 20000 in
theorem ggX7_tie_X6_addKnot : GoodIn wsX7_tie wsX6_addKnot := goodIn_r _ [48, 18, 49, 50, 51, 52, 53, 54, 55, 56, 5, 6, 7, 8, 9, 10, 11, 12, 13, 14, 15, 16, 17, 19, 20, 21, 69, 70, 71, 72, 73, 74, 75, 76, 77, 78, 79, 80] (by decide +kernel) (by decide +kernel)
set_option maxRecDepth 20000 in
theorem gX7_tie_X6_addKnot : GoodIn wsX7_tie (wsV RX7 80 RX6 yX6_addKnot wsX6_addKnot) := goodIn_app (goodIn_of _ (by decide +kernel)) ggX7_tie_X6_addKnot
theorem dX7_tie_0 : decode cX7_tie 0 = .ok (.aload_n 0, 1) := by decide +kernel
theorem dX7_tie_1 : decode cX7_tie 1 = .ok (.getfield 26, 3) := by decide +kernel
theorem dX7_tie_4 : decode cX7_tie 4 = .ok (.iload_n 1, 1) := by decide +kernel
theorem dX7_tie_5 : decode cX7_tie 5 = .ok (.iload_n 2, 1) := by decide +kernel
theorem dX7_tie_6 : decode cX7_tie 6 = .ok (.iload_n 3, 1) := by decide +kernel
theorem dX7_tie_7 : decode cX7_tie 7 = .ok (.iload 4, 2) := by decide +kernel
theorem dX7_tie_9 : decode cX7_tie 9 = .ok (.iload 5, 2) := by decide +kernel
theorem dX7_tie_11 : decode cX7_tie 11 = .ok (.invokevirtual 165, 3) := by decide +kernel
theorem dX7_tie_14 : decode cX7_tie 14 = .ok (.ifCond .ne 5, 3) := by decide +kernel
theorem dX7_tie_17 : decode cX7_tie 17 = .ok (.iconst (-1), 1) := by decide +kernel
theorem dX7_tie_18 : decode cX7_tie 18 = .ok (.ireturn, 1) := by decide +kernel
theorem dX7_tie_19 : decode cX7_tie 19 = .ok (.iload_n 1, 1) := by decide +kernel
theorem dX7_tie_20 : decode cX7_tie 20 = .ok (.invokestatic 154, 3) := by decide +kernel
theorem dX7_tie_23 : decode cX7_tie 23 = .ok (.iload_n 2, 1) := by decide +kernel
theorem dX7_tie_24 : decode cX7_tie 24 = .ok (.invokestatic 154, 3) := by decide +kernel
theorem dX7_tie_27 : decode cX7_tie 27 = .ok (.ior, 1) := by decide +kernel
theorem dX7_tie_28 : decode cX7_tie 28 = .ok (.aload_n 0, 1) := by decide +kernel
theorem dX7_tie_29 : decode cX7_tie 29 = .ok (.getfield 26, 3) := by decide +kernel
theorem dX7_tie_32 : decode cX7_tie 32 = .ok (.getfield 145, 3) := by decide +kernel
theorem dX7_tie_35 : decode cX7_tie 35 = .ok (.invokestatic 168, 3) := by decide +kernel
theorem dX7_tie_38 : decode cX7_tie 38 = .ok (.ifCond .eq 17, 3) := by decide +kernel
theorem dX7_tie_41 : decode cX7_tie 41 = .ok (.iload_n 3, 1) := by decide +kernel
theorem dX7_tie_42 : decode cX7_tie 42 = .ok (.aload_n 0, 1) := by decide +kernel
theorem dX7_tie_43 : decode cX7_tie 43 = .ok (.getfield 26, 3) := by decide +kernel
theorem dX7_tie_46 : decode cX7_tie 46 = .ok (.getfield 127, 3) := by decide +kernel
theorem dX7_tie_49 : decode cX7_tie 49 = .ok (.invokestatic 168, 3) := by decide +kernel
theorem dX7_tie_52 : decode cX7_tie 52 = .ok (.ifCond .ne 6, 3) := by decide +kernel
theorem dX7_tie_55 : decode cX7_tie 55 = .ok (.bipush (-2), 2) := by decide +kernel
theorem dX7_tie_57 : decode cX7_tie 57 = .ok (.ireturn, 1) := by decide +kernel
theorem dX7_tie_58 : decode cX7_tie 58 = .ok (.aload_n 0, 1) := by decide +kernel
theorem dX7_tie_59 : decode cX7_tie 59 = .ok (.getfield 26, 3) := by decide +kernel
theorem dX7_tie_62 : decode cX7_tie 62 = .ok (.getfield 99, 3) := by decide +kernel
theorem dX7_tie_65 : decode cX7_tie 65 = .ok (.bipush 8, 2) := by decide +kernel
theorem dX7_tie_67 : decode cX7_tie 67 = .ok (.if_icmp .lt 6, 3) := by decide +kernel
theorem dX7_tie_70 : decode cX7_tie 70 = .ok (.bipush (-3), 2) := by decide +kernel
theorem dX7_tie_72 : decode cX7_tie 72 = .ok (.ireturn, 1) := by decide +kernel
theorem dX7_tie_73 : decode cX7_tie 73 = .ok (.aload_n 0, 1) := by decide +kernel
theorem dX7_tie_74 : decode cX7_tie 74 = .ok (.getfield 46, 3) := by decide +kernel
theorem dX7_tie_77 : decode cX7_tie 77 = .ok (.aload_n 0, 1) := by decide +kernel
theorem dX7_tie_78 : decode cX7_tie 78 = .ok (.getfield 26, 3) := by decide +kernel
theorem dX7_tie_81 : decode cX7_tie 81 = .ok (.invokevirtual 171, 3) := by decide +kernel
theorem dX7_tie_84 : decode cX7_tie 84 = .ok (.aload_n 0, 1) := by decide +kernel
theorem dX7_tie_85 : decode cX7_tie 85 = .ok (.getfield 62, 3) := by decide +kernel
theorem dX7_tie_88 : decode cX7_tie 88 = .ok (.invokevirtual 105, 3) := by decide +kernel
theorem dX7_tie_91 : decode cX7_tie 91 = .ok (.aload_n 0, 1) := by decide +kernel
theorem dX7_tie_92 : decode cX7_tie 92 = .ok (.getfield 26, 3) := by decide +kernel
theorem dX7_tie_95 : decode cX7_tie 95 = .ok (.iload_n 1, 1) := by decide +kernel
theorem dX7_tie_96 : decode cX7_tie 96 = .ok (.iload_n 2, 1) := by decide +kernel
theorem dX7_tie_97 : decode cX7_tie 97 = .ok (.iload_n 3, 1) := by decide +kernel
theorem dX7_tie_98 : decode cX7_tie 98 = .ok (.iload 4, 2) := by decide +kernel
theorem dX7_tie_100 : decode cX7_tie 100 = .ok (.iload 5, 2) := by decide +kernel
theorem dX7_tie_102 : decode cX7_tie 102 = .ok (.invokevirtual 80, 3) := by decide +kernel
theorem dX7_tie_105 : decode cX7_tie 105 = .ok (.pop, 1) := by decide +kernel
theorem dX7_tie_106 : decode cX7_tie 106 = .ok (.aload_n 0, 1) := by decide +kernel
theorem dX7_tie_107 : decode cX7_tie 107 = .ok (.getfield 26, 3) := by decide +kernel
theorem dX7_tie_110 : decode cX7_tie 110 = .ok (.getfield 99, 3) := by decide +kernel
theorem dX7_tie_113 : decode cX7_tie 113 = .ok (.iconst 1, 1) := by decide +kernel
theorem dX7_tie_114 : decode cX7_tie 114 = .ok (.isub, 1) := by decide +kernel
theorem dX7_tie_115 : decode cX7_tie 115 = .ok (.ireturn, 1) := by decide +kernel
set_option maxRecDepth 20000 in
theorem ggX7_pull_X6_isKnot : GoodIn wsX7_pull wsX6_isKnot := goodIn_r _ [6, 7, 66, 67, 68, 69, 70, 71, 72, 73, 74, 75, 76, 77] (by decide +kernel) (by decide +kernel)
set_option maxRecDepth 20000 in
theorem gX7_pull_X6_isKnot : GoodIn wsX7_pull (wsV RX7 108 RX6 yX6_isKnot wsX6_isKnot) := goodIn_app (goodIn_of _ (by decide +kernel)) ggX7_pull_X6_isKnot
set_option maxRecDepth 20000 in
theorem ggX7_pull_X7_bit : GoodIn wsX7_pull wsX7_bit := goodIn_r _ [11] (by decide +kernel) (by decide +kernel)
set_option maxRecDepth 20000 in
theorem gX7_pull_X7_bit : GoodIn wsX7_pull (va_wsS RX7 154 yX7_bit wsX7_bit) := goodIn_app (goodIn_of _ (by decide +kernel)) ggX7_pull_X7_bit
set_option maxRecDepth 20000 in
theorem ggX7_pull_X6_above : GoodIn wsX7_pull wsX6_above := goodIn_r _ [15, 16, 17, 18, 10, 19, 9, 11, 66, 67, 68, 69, 70, 71, 72, 73, 74, 75, 76, 77] (by decide +kernel) (by decide +kernel)
set_option maxRecDepth 20000 in
theorem gX7_pull_X6_above : GoodIn wsX7_pull (wsV RX7 138 RX6 yX6_above wsX6_above) := goodIn_app (goodIn_of _ (by decide +kernel)) ggX7_pull_X6_above
set_option maxRecDepth 20000 in
theorem ggX7_pull_X7_has : GoodIn wsX7_pull wsX7_has := goodIn_r _ [19] (by decide +kernel) (by decide +kernel)
set_option maxRecDepth 20000 in
theorem gX7_pull_X7_has : GoodIn wsX7_pull (va_wsS RX7 130 yX7_has wsX7_has) := goodIn_app (goodIn_of _ (by decide +kernel)) ggX7_pull_X7_has
set_option maxRecDepth 20000 in
theorem ggX7_pull_X6_ofKind : GoodIn wsX7_pull wsX6_ofKind := goodIn_r _ [24, 7, 25, 9, 10, 11, 66, 67, 68, 69, 70, 71, 72, 73, 74, 75, 76, 77] (by decide +kernel) (by decide +kernel)
set_option maxRecDepth 20000 in
theorem gX7_pull_X6_ofKind : GoodIn wsX7_pull (wsV RX7 174 RX6 yX6_ofKind wsX6_ofKind) := goodIn_app (goodIn_of _ (by decide +kernel)) ggX7_pull_X6_ofKind
set_option maxRecDepth 20000 in
theorem ggX7_pull_X7_isWithin : GoodIn wsX7_pull wsX7_isWithin := goodIn_r _ [28] (by decide +kernel) (by decide +kernel)
set_option maxRecDepth 20000 in
theorem gX7_pull_X7_isWithin : GoodIn wsX7_pull (va_wsS RX7 168 yX7_isWithin wsX7_isWithin) := goodIn_app (goodIn_of _ (by decide +kernel)) ggX7_pull_X7_isWithin
set_option maxRecDepth 20000 in
theorem ggX7_pull_X7_removeTied : GoodIn wsX7_pull wsX7_removeTied := goodIn_r _ [32, 33, 1, 34, 35, 36, 37, 38, 39, 40, 41, 42, 43, 44, 45, 46, 47, 48, 49, 50, 51, 52, 53, 54, 55, 56, 57, 58, 59, 60, 61, 62, 63, 64, 65, 66, 67, 68, 69, 70, 71, 72, 73, 74, 75, 76, 77, 78, 79, 80, 81] (by decide +kernel) (by decide +kernel)
set_option maxRecDepth 20000 in
theorem gX7_pull_X7_removeTied : GoodIn wsX7_pull (wsV RX7 157 RX7 yX7_removeTied wsX7_removeTied) := goodIn_app (goodIn_of _ (by decide +kernel)) ggX7_pull_X7_removeTied
theorem dX7_pull_0 : decode cX7_pull 0 = .ok (.aload_n 0, 1) := by decide +kernel
theorem dX7_pull_1 : decode cX7_pull 1 = .ok (.getfield 26, 3) := by decide +kernel
theorem dX7_pull_4 : decode cX7_pull 4 = .ok (.iload_n 1, 1) := by decide +kernel
theorem dX7_pull_5 : decode cX7_pull 5 = .ok (.invokevirtual 108, 3) := by decide +kernel
theorem dX7_pull_8 : decode cX7_pull 8 = .ok (.ifCond .ne 5, 3) := by decide +kernel
theorem dX7_pull_11 : decode cX7_pull 11 = .ok (.iconst (-1), 1) := by decide +kernel
theorem dX7_pull_12 : decode cX7_pull 12 = .ok (.ireturn, 1) := by decide +kernel
theorem dX7_pull_13 : decode cX7_pull 13 = .ok (.iload_n 1, 1) := by decide +kernel
theorem dX7_pull_14 : decode cX7_pull 14 = .ok (.invokestatic 154, 3) := by decide +kernel
theorem dX7_pull_17 : decode cX7_pull 17 = .ok (.aload_n 0, 1) := by decide +kernel
theorem dX7_pull_18 : decode cX7_pull 18 = .ok (.getfield 26, 3) := by decide +kernel
theorem dX7_pull_21 : decode cX7_pull 21 = .ok (.iload_n 1, 1) := by decide +kernel
theorem dX7_pull_22 : decode cX7_pull 22 = .ok (.invokevirtual 138, 3) := by decide +kernel
theorem dX7_pull_25 : decode cX7_pull 25 = .ok (.ior, 1) := by decide +kernel
theorem dX7_pull_26 : decode cX7_pull 26 = .ok (.istore_n 2, 1) := by decide +kernel
theorem dX7_pull_27 : decode cX7_pull 27 = .ok (.aload_n 0, 1) := by decide +kernel
theorem dX7_pull_28 : decode cX7_pull 28 = .ok (.getfield 26, 3) := by decide +kernel
theorem dX7_pull_31 : decode cX7_pull 31 = .ok (.getfield 127, 3) := by decide +kernel
theorem dX7_pull_34 : decode cX7_pull 34 = .ok (.iload_n 1, 1) := by decide +kernel
theorem dX7_pull_35 : decode cX7_pull 35 = .ok (.invokestatic 130, 3) := by decide +kernel
theorem dX7_pull_38 : decode cX7_pull 38 = .ok (.ifCond .eq 18, 3) := by decide +kernel
theorem dX7_pull_41 : decode cX7_pull 41 = .ok (.iload_n 2, 1) := by decide +kernel
theorem dX7_pull_42 : decode cX7_pull 42 = .ok (.aload_n 0, 1) := by decide +kernel
theorem dX7_pull_43 : decode cX7_pull 43 = .ok (.getfield 26, 3) := by decide +kernel
theorem dX7_pull_46 : decode cX7_pull 46 = .ok (.iconst 1, 1) := by decide +kernel
theorem dX7_pull_47 : decode cX7_pull 47 = .ok (.invokevirtual 174, 3) := by decide +kernel
theorem dX7_pull_50 : decode cX7_pull 50 = .ok (.invokestatic 168, 3) := by decide +kernel
theorem dX7_pull_53 : decode cX7_pull 53 = .ok (.ifCond .ne 6, 3) := by decide +kernel
theorem dX7_pull_56 : decode cX7_pull 56 = .ok (.bipush (-2), 2) := by decide +kernel
theorem dX7_pull_58 : decode cX7_pull 58 = .ok (.ireturn, 1) := by decide +kernel
theorem dX7_pull_59 : decode cX7_pull 59 = .ok (.aload_n 0, 1) := by decide +kernel
theorem dX7_pull_60 : decode cX7_pull 60 = .ok (.iload_n 2, 1) := by decide +kernel
theorem dX7_pull_61 : decode cX7_pull 61 = .ok (.invokevirtual 157, 3) := by decide +kernel
theorem dX7_pull_64 : decode cX7_pull 64 = .ok (.ireturn, 1) := by decide +kernel
set_option maxRecDepth 20000 in
theorem ggX7_cut_X6_isKnot : GoodIn wsX7_cut wsX6_isKnot := goodIn_r _ [6, 7, 58, 59, 60, 61, 62, 63, 64, 65, 66, 67, 68, 69] (by decide +kernel) (by decide +kernel)
set_option maxRecDepth 20000 in
theorem gX7_cut_X6_isKnot : GoodIn wsX7_cut (wsV RX7 108 RX6 yX6_isKnot wsX6_isKnot) := goodIn_app (goodIn_of _ (by decide +kernel)) ggX7_cut_X6_isKnot
set_option maxRecDepth 20000 in
theorem ggX7_cut_X7_has : GoodIn wsX7_cut wsX7_has := goodIn_r _ [11] (by decide +kernel) (by decide +kernel)
set_option maxRecDepth 20000 in
theorem gX7_cut_X7_has : GoodIn wsX7_cut (va_wsS RX7 130 yX7_has wsX7_has) := goodIn_app (goodIn_of _ (by decide +kernel)) ggX7_cut_X7_has
set_option maxRecDepth 20000 in
theorem ggX7_cut_X7_bit : GoodIn wsX7_cut wsX7_bit := goodIn_r _ [14] (by decide +kernel) (by decide +kernel)
set_option maxRecDepth 20000 in
theorem gX7_cut_X7_bit : GoodIn wsX7_cut (va_wsS RX7 154 yX7_bit wsX7_bit) := goodIn_app (goodIn_of _ (by decide +kernel)) ggX7_cut_X7_bit
set_option maxRecDepth 20000 in
theorem ggX7_cut_X6_above : GoodIn wsX7_cut wsX6_above := goodIn_r _ [18, 19, 20, 9, 10, 11, 13, 14, 58, 59, 60, 61, 62, 63, 64, 65, 66, 67, 68, 69] (by decide +kernel) (by decide +kernel)
set_option maxRecDepth 20000 in
theorem gX7_cut_X6_above : GoodIn wsX7_cut (wsV RX7 138 RX6 yX6_above wsX6_above) := goodIn_app (goodIn_of _ (by decide +kernel)) ggX7_cut_X6_above
set_option maxRecDepth 20000 in
theorem ggX7_cut_X7_removeTied : GoodIn wsX7_cut wsX7_removeTied := goodIn_r _ [24, 25, 1, 26, 27, 28, 29, 30, 31, 32, 33, 34, 35, 36, 37, 38, 39, 40, 41, 42, 43, 44, 45, 46, 47, 48, 49, 50, 51, 52, 53, 54, 55, 56, 57, 58, 59, 60, 61, 62, 63, 64, 65, 66, 67, 68, 69, 70, 71, 72, 73] (by decide +kernel) (by decide +kernel)
set_option maxRecDepth 20000 in
theorem gX7_cut_X7_removeTied : GoodIn wsX7_cut (wsV RX7 157 RX7 yX7_removeTied wsX7_removeTied) := goodIn_app (goodIn_of _ (by decide +kernel)) ggX7_cut_X7_removeTied
theorem dX7_cut_0 : decode cX7_cut 0 = .ok (.aload_n 0, 1) := by decide +kernel
theorem dX7_cut_1 : decode cX7_cut 1 = .ok (.getfield 26, 3) := by decide +kernel
theorem dX7_cut_4 : decode cX7_cut 4 = .ok (.iload_n 1, 1) := by decide +kernel
theorem dX7_cut_5 : decode cX7_cut 5 = .ok (.invokevirtual 108, 3) := by decide +kernel
theorem dX7_cut_8 : decode cX7_cut 8 = .ok (.ifCond .ne 5, 3) := by decide +kernel
theorem dX7_cut_11 : decode cX7_cut 11 = .ok (.iconst (-1), 1) := by decide +kernel
theorem dX7_cut_12 : decode cX7_cut 12 = .ok (.ireturn, 1) := by decide +kernel
theorem dX7_cut_13 : decode cX7_cut 13 = .ok (.aload_n 0, 1) := by decide +kernel
theorem dX7_cut_14 : decode cX7_cut 14 = .ok (.getfield 26, 3) := by decide +kernel
theorem dX7_cut_17 : decode cX7_cut 17 = .ok (.getfield 127, 3) := by decide +kernel
theorem dX7_cut_20 : decode cX7_cut 20 = .ok (.iload_n 1, 1) := by decide +kernel
theorem dX7_cut_21 : decode cX7_cut 21 = .ok (.invokestatic 130, 3) := by decide +kernel
theorem dX7_cut_24 : decode cX7_cut 24 = .ok (.ifCond .ne 6, 3) := by decide +kernel
theorem dX7_cut_27 : decode cX7_cut 27 = .ok (.bipush (-2), 2) := by decide +kernel
theorem dX7_cut_29 : decode cX7_cut 29 = .ok (.ireturn, 1) := by decide +kernel
theorem dX7_cut_30 : decode cX7_cut 30 = .ok (.aload_n 0, 1) := by decide +kernel
theorem dX7_cut_31 : decode cX7_cut 31 = .ok (.iload_n 1, 1) := by decide +kernel
theorem dX7_cut_32 : decode cX7_cut 32 = .ok (.invokestatic 154, 3) := by decide +kernel
theorem dX7_cut_35 : decode cX7_cut 35 = .ok (.aload_n 0, 1) := by decide +kernel
theorem dX7_cut_36 : decode cX7_cut 36 = .ok (.getfield 26, 3) := by decide +kernel
theorem dX7_cut_39 : decode cX7_cut 39 = .ok (.iload_n 1, 1) := by decide +kernel
theorem dX7_cut_40 : decode cX7_cut 40 = .ok (.invokevirtual 138, 3) := by decide +kernel
theorem dX7_cut_43 : decode cX7_cut 43 = .ok (.ior, 1) := by decide +kernel
theorem dX7_cut_44 : decode cX7_cut 44 = .ok (.invokevirtual 157, 3) := by decide +kernel
theorem dX7_cut_47 : decode cX7_cut 47 = .ok (.ireturn, 1) := by decide +kernel
set_option maxRecDepth 20000 in
theorem ggX7_days_X1_note : GoodIn wsX7_days wsX1_note := goodIn_r _ [7, 8, 9, 10, 11, 12, 13, 14, 6, 15, 40, 41, 42, 43, 28, 29, 30, 31, 32, 33, 34, 35, 36, 37, 38, 39] (by decide +kernel) (by decide +kernel)
set_option maxRecDepth 20000 in
theorem gX7_days_X1_note : GoodIn wsX7_days (wsV RX7 171 RX1 yX1_note wsX1_note) := goodIn_app (goodIn_of _ (by decide +kernel)) ggX7_days_X1_note
theorem dX7_days_0 : decode cX7_days 0 = .ok (.iload_n 1, 1) := by decide +kernel
theorem dX7_days_1 : decode cX7_days 1 = .ok (.iconst 1, 1) := by decide +kernel
theorem dX7_days_2 : decode cX7_days 2 = .ok (.if_icmp .lt 9, 3) := by decide +kernel
theorem dX7_days_5 : decode cX7_days 5 = .ok (.iload_n 1, 1) := by decide +kernel
theorem dX7_days_6 : decode cX7_days 6 = .ok (.bipush 99, 2) := by decide +kernel
theorem dX7_days_8 : decode cX7_days 8 = .ok (.if_icmp .le 5, 3) := by decide +kernel
theorem dX7_days_11 : decode cX7_days 11 = .ok (.iconst (-1), 1) := by decide +kernel
theorem dX7_days_12 : decode cX7_days 12 = .ok (.ireturn, 1) := by decide +kernel
theorem dX7_days_13 : decode cX7_days 13 = .ok (.aload_n 0, 1) := by decide +kernel
theorem dX7_days_14 : decode cX7_days 14 = .ok (.getfield 26, 3) := by decide +kernel
theorem dX7_days_17 : decode cX7_days 17 = .ok (.getfield 177, 3) := by decide +kernel
theorem dX7_days_20 : decode cX7_days 20 = .ok (.iload_n 1, 1) := by decide +kernel
theorem dX7_days_21 : decode cX7_days 21 = .ok (.iadd, 1) := by decide +kernel
theorem dX7_days_22 : decode cX7_days 22 = .ok (.bipush 99, 2) := by decide +kernel
theorem dX7_days_24 : decode cX7_days 24 = .ok (.if_icmp .le 6, 3) := by decide +kernel
theorem dX7_days_27 : decode cX7_days 27 = .ok (.bipush (-2), 2) := by decide +kernel
theorem dX7_days_29 : decode cX7_days 29 = .ok (.ireturn, 1) := by decide +kernel
theorem dX7_days_30 : decode cX7_days 30 = .ok (.aload_n 0, 1) := by decide +kernel
theorem dX7_days_31 : decode cX7_days 31 = .ok (.getfield 46, 3) := by decide +kernel
theorem dX7_days_34 : decode cX7_days 34 = .ok (.aload_n 0, 1) := by decide +kernel
theorem dX7_days_35 : decode cX7_days 35 = .ok (.getfield 26, 3) := by decide +kernel
theorem dX7_days_38 : decode cX7_days 38 = .ok (.invokevirtual 171, 3) := by decide +kernel
theorem dX7_days_41 : decode cX7_days 41 = .ok (.aload_n 0, 1) := by decide +kernel
theorem dX7_days_42 : decode cX7_days 42 = .ok (.getfield 26, 3) := by decide +kernel
theorem dX7_days_45 : decode cX7_days 45 = .ok (.dup, 1) := by decide +kernel
theorem dX7_days_46 : decode cX7_days 46 = .ok (.getfield 177, 3) := by decide +kernel
theorem dX7_days_49 : decode cX7_days 49 = .ok (.iload_n 1, 1) := by decide +kernel
theorem dX7_days_50 : decode cX7_days 50 = .ok (.iadd, 1) := by decide +kernel
theorem dX7_days_51 : decode cX7_days 51 = .ok (.putfield 177, 3) := by decide +kernel
theorem dX7_days_54 : decode cX7_days 54 = .ok (.aload_n 0, 1) := by decide +kernel
theorem dX7_days_55 : decode cX7_days 55 = .ok (.getfield 26, 3) := by decide +kernel
theorem dX7_days_58 : decode cX7_days 58 = .ok (.getfield 177, 3) := by decide +kernel
theorem dX7_days_61 : decode cX7_days 61 = .ok (.ireturn, 1) := by decide +kernel
set_option maxRecDepth 20000 in
theorem ggX7_takeBack_X1_size : GoodIn wsX7_takeBack wsX1_size := goodIn_r _ [8, 9, 35, 36, 37, 38] (by decide +kernel) (by decide +kernel)
set_option maxRecDepth 20000 in
theorem gX7_takeBack_X1_size : GoodIn wsX7_takeBack (wsV RX7 180 RX1 yX1_size wsX1_size) := goodIn_app (goodIn_of _ (by decide +kernel)) ggX7_takeBack_X1_size
set_option maxRecDepth 20000 in
theorem ggX7_takeBack_X1_restore : GoodIn wsX7_takeBack wsX1_restore := goodIn_r _ [13, 9, 14, 15, 16, 35, 36, 37, 38, 39, 40, 41, 42, 43, 44, 45, 46, 47, 48, 49, 50] (by decide +kernel) (by decide +kernel)
set_option maxRecDepth 20000 in
theorem gX7_takeBack_X1_restore : GoodIn wsX7_takeBack (wsV RX7 181 RX1 yX1_restore wsX1_restore) := goodIn_app (goodIn_of _ (by decide +kernel)) ggX7_takeBack_X1_restore
set_option maxRecDepth 20000 in
theorem ggX7_takeBack_X4_empty : GoodIn wsX7_takeBack wsX4_empty := goodIn_r _ [21, 22, 51, 52] (by decide +kernel) (by decide +kernel)
set_option maxRecDepth 20000 in
theorem gX7_takeBack_X4_empty : GoodIn wsX7_takeBack (wsV RX7 105 RX4 yX4_empty wsX4_empty) := goodIn_app (goodIn_of _ (by decide +kernel)) ggX7_takeBack_X4_empty
theorem dX7_takeBack_0 : decode cX7_takeBack 0 = .ok (.aload_n 0, 1) := by decide +kernel
theorem dX7_takeBack_1 : decode cX7_takeBack 1 = .ok (.getfield 46, 3) := by decide +kernel
theorem dX7_takeBack_4 : decode cX7_takeBack 4 = .ok (.invokevirtual 180, 3) := by decide +kernel
theorem dX7_takeBack_7 : decode cX7_takeBack 7 = .ok (.ifCond .ne 6, 3) := by decide +kernel
theorem dX7_takeBack_10 : decode cX7_takeBack 10 = .ok (.bipush (-2), 2) := by decide +kernel
theorem dX7_takeBack_12 : decode cX7_takeBack 12 = .ok (.ireturn, 1) := by decide +kernel
theorem dX7_takeBack_13 : decode cX7_takeBack 13 = .ok (.aload_n 0, 1) := by decide +kernel
theorem dX7_takeBack_14 : decode cX7_takeBack 14 = .ok (.getfield 46, 3) := by decide +kernel
theorem dX7_takeBack_17 : decode cX7_takeBack 17 = .ok (.aload_n 0, 1) := by decide +kernel
theorem dX7_takeBack_18 : decode cX7_takeBack 18 = .ok (.getfield 26, 3) := by decide +kernel
theorem dX7_takeBack_21 : decode cX7_takeBack 21 = .ok (.invokevirtual 181, 3) := by decide +kernel
theorem dX7_takeBack_24 : decode cX7_takeBack 24 = .ok (.aload_n 0, 1) := by decide +kernel
theorem dX7_takeBack_25 : decode cX7_takeBack 25 = .ok (.getfield 62, 3) := by decide +kernel
theorem dX7_takeBack_28 : decode cX7_takeBack 28 = .ok (.invokevirtual 105, 3) := by decide +kernel
theorem dX7_takeBack_31 : decode cX7_takeBack 31 = .ok (.aload_n 0, 1) := by decide +kernel
theorem dX7_takeBack_32 : decode cX7_takeBack 32 = .ok (.getfield 46, 3) := by decide +kernel
theorem dX7_takeBack_35 : decode cX7_takeBack 35 = .ok (.invokevirtual 180, 3) := by decide +kernel
theorem dX7_takeBack_38 : decode cX7_takeBack 38 = .ok (.ireturn, 1) := by decide +kernel
set_option maxRecDepth 20000 in
theorem ggX7_removeTied_X1_note : GoodIn wsX7_removeTied wsX1_note := goodIn_r _ [7, 8, 9, 10, 11, 12, 13, 14, 6, 15, 47, 48, 49, 50, 35, 36, 37, 38, 39, 40, 41, 42, 43, 44, 45, 46] (by decide +kernel) (by decide +kernel)
set_option maxRecDepth 20000 in
theorem gX7_removeTied_X1_note : GoodIn wsX7_removeTied (wsV RX7 171 RX1 yX1_note wsX1_note) := goodIn_app (goodIn_of _ (by decide +kernel)) ggX7_removeTied_X1_note
set_option maxRecDepth 20000 in
theorem ggX7_removeTied_J6_bitCount_0f7a4 : GoodIn wsX7_removeTied wsJ6_bitCount_0f7a4 := goodIn_r _ [19, 20, 21, 22] (by decide +kernel) (by decide +kernel)
set_option maxRecDepth 20000 in
theorem gX7_removeTied_J6_bitCount_0f7a4 : GoodIn wsX7_removeTied (va_wsS RX7 160 yJ6_bitCount_0f7a4 wsJ6_bitCount_0f7a4) := goodIn_app (goodIn_of _ (by decide +kernel)) ggX7_removeTied_J6_bitCount_0f7a4
theorem dX7_removeTied_0 : decode cX7_removeTied 0 = .ok (.aload_n 0, 1) := by decide +kernel
theorem dX7_removeTied_1 : decode cX7_removeTied 1 = .ok (.getfield 46, 3) := by decide +kernel
theorem dX7_removeTied_4 : decode cX7_removeTied 4 = .ok (.aload_n 0, 1) := by decide +kernel
theorem dX7_removeTied_5 : decode cX7_removeTied 5 = .ok (.getfield 26, 3) := by decide +kernel
theorem dX7_removeTied_8 : decode cX7_removeTied 8 = .ok (.invokevirtual 171, 3) := by decide +kernel
theorem dX7_removeTied_11 : decode cX7_removeTied 11 = .ok (.aload_n 0, 1) := by decide +kernel
theorem dX7_removeTied_12 : decode cX7_removeTied 12 = .ok (.getfield 26, 3) := by decide +kernel
theorem dX7_removeTied_15 : decode cX7_removeTied 15 = .ok (.dup, 1) := by decide +kernel
theorem dX7_removeTied_16 : decode cX7_removeTied 16 = .ok (.getfield 127, 3) := by decide +kernel
theorem dX7_removeTied_19 : decode cX7_removeTied 19 = .ok (.iload_n 1, 1) := by decide +kernel
theorem dX7_removeTied_20 : decode cX7_removeTied 20 = .ok (.iconst (-1), 1) := by decide +kernel
theorem dX7_removeTied_21 : decode cX7_removeTied 21 = .ok (.ixor, 1) := by decide +kernel
theorem dX7_removeTied_22 : decode cX7_removeTied 22 = .ok (.iand, 1) := by decide +kernel
theorem dX7_removeTied_23 : decode cX7_removeTied 23 = .ok (.putfield 127, 3) := by decide +kernel
theorem dX7_removeTied_26 : decode cX7_removeTied 26 = .ok (.iload_n 1, 1) := by decide +kernel
theorem dX7_removeTied_27 : decode cX7_removeTied 27 = .ok (.invokestatic 160, 3) := by decide +kernel
theorem dX7_removeTied_30 : decode cX7_removeTied 30 = .ok (.ireturn, 1) := by decide +kernel
set_option maxRecDepth 20000 in
theorem ggX7_loosen_X6_isKnot : GoodIn wsX7_loosen wsX6_isKnot := goodIn_r _ [7, 8, 63, 64, 65, 66, 67, 68, 69, 70, 71, 72, 73, 74] (by decide +kernel) (by decide +kernel)
set_option maxRecDepth 20000 in
theorem gX7_loosen_X6_isKnot : GoodIn wsX7_loosen (wsV RX7 108 RX6 yX6_isKnot wsX6_isKnot) := goodIn_app (goodIn_of _ (by decide +kernel)) ggX7_loosen_X6_isKnot
set_option maxRecDepth 20000 in
theorem ggX7_loosen_X7_has : GoodIn wsX7_loosen wsX7_has := goodIn_r _ [12] (by decide +kernel) (by decide +kernel)
set_option maxRecDepth 20000 in
theorem gX7_loosen_X7_has : GoodIn wsX7_loosen (va_wsS RX7 130 yX7_has wsX7_has) := goodIn_app (goodIn_of _ (by decide +kernel)) ggX7_loosen_X7_has
set_option maxRecDepth 20000 in
theorem ggX7_loosen_X0_stuckToday : GoodIn wsX7_loosen wsX0_stuckToday := goodIn_r _ [17, 18, 19, 20, 21, 16, 22, 23, 24, 25, 6, 26, 27, 28, 29, 30, 4, 5, 7, 8, 10, 11, 12, 31, 32, 33, 34, 35, 36, 37, 38, 39, 40, 41, 42, 43, 44, 75, 76, 63, 64, 65, 66, 67, 68, 69, 70, 71, 72, 73, 74] (by decide +kernel) (by decide +kernel)
set_option maxRecDepth 20000 in
theorem gX7_loosen_X0_stuckToday : GoodIn wsX7_loosen (wsV RX7 184 RX0 yX0_stuckToday wsX0_stuckToday) := goodIn_app (goodIn_of _ (by decide +kernel)) ggX7_loosen_X0_stuckToday
set_option maxRecDepth 20000 in
theorem ggX7_loosen_X7_bit : GoodIn wsX7_loosen wsX7_bit := goodIn_r _ [44] (by decide +kernel) (by decide +kernel)
set_option maxRecDepth 20000 in
theorem gX7_loosen_X7_bit : GoodIn wsX7_loosen (va_wsS RX7 154 yX7_bit wsX7_bit) := goodIn_app (goodIn_of _ (by decide +kernel)) ggX7_loosen_X7_bit
set_option maxRecDepth 20000 in
theorem ggX7_loosen_X0_withAhead : GoodIn wsX7_loosen wsX0_withAhead := goodIn_r _ [49, 18, 10, 11, 12, 50, 39, 40, 6, 41, 42, 28, 27, 30, 4, 5, 7, 8, 43, 44, 75, 76, 63, 64, 65, 66, 67, 68, 69, 70, 71, 72, 73, 74] (by decide +kernel) (by decide +kernel)
set_option maxRecDepth 20000 in
theorem gX7_loosen_X0_withAhead : GoodIn wsX7_loosen (wsV RX7 187 RX0 yX0_withAhead wsX0_withAhead) := goodIn_app (goodIn_of _ (by decide +kernel)) ggX7_loosen_X0_withAhead
theorem dX7_loosen_0 : decode cX7_loosen 0 = .ok (.aload_n 0, 1) := by decide +kernel
theorem dX7_loosen_1 : decode cX7_loosen 1 = .ok (.getfield 26, 3) := by decide +kernel
theorem dX7_loosen_4 : decode cX7_loosen 4 = .ok (.iload_n 1, 1) := by decide +kernel
theorem dX7_loosen_5 : decode cX7_loosen 5 = .ok (.invokevirtual 108, 3) := by decide +kernel
theorem dX7_loosen_8 : decode cX7_loosen 8 = .ok (.ifCond .ne 5, 3) := by decide +kernel
theorem dX7_loosen_11 : decode cX7_loosen 11 = .ok (.iconst (-1), 1) := by decide +kernel
theorem dX7_loosen_12 : decode cX7_loosen 12 = .ok (.ireturn, 1) := by decide +kernel
theorem dX7_loosen_13 : decode cX7_loosen 13 = .ok (.aload_n 0, 1) := by decide +kernel
theorem dX7_loosen_14 : decode cX7_loosen 14 = .ok (.getfield 26, 3) := by decide +kernel
theorem dX7_loosen_17 : decode cX7_loosen 17 = .ok (.getfield 127, 3) := by decide +kernel
theorem dX7_loosen_20 : decode cX7_loosen 20 = .ok (.iload_n 1, 1) := by decide +kernel
theorem dX7_loosen_21 : decode cX7_loosen 21 = .ok (.invokestatic 130, 3) := by decide +kernel
theorem dX7_loosen_24 : decode cX7_loosen 24 = .ok (.ifCond .ne 6, 3) := by decide +kernel
theorem dX7_loosen_27 : decode cX7_loosen 27 = .ok (.bipush (-2), 2) := by decide +kernel
theorem dX7_loosen_29 : decode cX7_loosen 29 = .ok (.ireturn, 1) := by decide +kernel
theorem dX7_loosen_30 : decode cX7_loosen 30 = .ok (.aload_n 0, 1) := by decide +kernel
theorem dX7_loosen_31 : decode cX7_loosen 31 = .ok (.getfield 55, 3) := by decide +kernel
theorem dX7_loosen_34 : decode cX7_loosen 34 = .ok (.invokevirtual 184, 3) := by decide +kernel
theorem dX7_loosen_37 : decode cX7_loosen 37 = .ok (.iload_n 1, 1) := by decide +kernel
theorem dX7_loosen_38 : decode cX7_loosen 38 = .ok (.invokestatic 130, 3) := by decide +kernel
theorem dX7_loosen_41 : decode cX7_loosen 41 = .ok (.ifCond .eq 8, 3) := by decide +kernel
theorem dX7_loosen_44 : decode cX7_loosen 44 = .ok (.bipush (-4), 2) := by decide +kernel
theorem dX7_loosen_46 : decode cX7_loosen 46 = .ok (.goto 21, 3) := by decide +kernel
theorem dX7_loosen_49 : decode cX7_loosen 49 = .ok (.aload_n 0, 1) := by decide +kernel
theorem dX7_loosen_50 : decode cX7_loosen 50 = .ok (.getfield 55, 3) := by decide +kernel
theorem dX7_loosen_53 : decode cX7_loosen 53 = .ok (.iload_n 1, 1) := by decide +kernel
theorem dX7_loosen_54 : decode cX7_loosen 54 = .ok (.invokestatic 154, 3) := by decide +kernel
theorem dX7_loosen_57 : decode cX7_loosen 57 = .ok (.invokevirtual 187, 3) := by decide +kernel
theorem dX7_loosen_60 : decode cX7_loosen 60 = .ok (.iload_n 1, 1) := by decide +kernel
theorem dX7_loosen_61 : decode cX7_loosen 61 = .ok (.invokestatic 154, 3) := by decide +kernel
theorem dX7_loosen_64 : decode cX7_loosen 64 = .ok (.iconst (-1), 1) := by decide +kernel
theorem dX7_loosen_65 : decode cX7_loosen 65 = .ok (.ixor, 1) := by decide +kernel
theorem dX7_loosen_66 : decode cX7_loosen 66 = .ok (.iand, 1) := by decide +kernel
theorem dX7_loosen_67 : decode cX7_loosen 67 = .ok (.ireturn, 1) := by decide +kernel
set_option maxRecDepth 20000 in
theorem ggX7_pay_X6_dueToday : GoodIn wsX7_pay wsX6_dueToday := goodIn_r _ [7, 8, 9, 10, 11, 12, 13, 14, 15, 87, 88, 89, 90, 91, 92, 93, 94, 95, 96, 97, 98] (by decide +kernel) (by decide +kernel)
set_option maxRecDepth 20000 in
theorem gX7_pay_X6_dueToday : GoodIn wsX7_pay (wsV RX7 190 RX6 yX6_dueToday wsX6_dueToday) := goodIn_app (goodIn_of _ (by decide +kernel)) ggX7_pay_X6_dueToday
set_option maxRecDepth 20000 in
theorem ggX7_pay_X0_stuckToday : GoodIn wsX7_pay wsX0_stuckToday := goodIn_r _ [20, 21, 22, 23, 24, 19, 25, 26, 27, 28, 6, 29, 30, 31, 9, 32, 33, 34, 35, 36, 11, 12, 13, 37, 38, 39, 40, 41, 42, 43, 44, 45, 46, 47, 48, 14, 15, 99, 100, 87, 88, 89, 90, 91, 92, 93, 94, 95, 96, 97, 98] (by decide +kernel) (by decide +kernel)
set_option maxRecDepth 20000 in
theorem gX7_pay_X0_stuckToday : GoodIn wsX7_pay (wsV RX7 184 RX0 yX0_stuckToday wsX0_stuckToday) := goodIn_app (goodIn_of _ (by decide +kernel)) ggX7_pay_X0_stuckToday
set_option maxRecDepth 20000 in
theorem ggX7_pay_X0_withAhead : GoodIn wsX7_pay wsX0_withAhead := goodIn_r _ [52, 21, 11, 12, 13, 53, 45, 46, 6, 47, 48, 31, 30, 32, 33, 34, 35, 36, 14, 15, 99, 100, 87, 88, 89, 90, 91, 92, 93, 94, 95, 96, 97, 98] (by decide +kernel) (by decide +kernel)
set_option maxRecDepth 20000 in
theorem gX7_pay_X0_withAhead : GoodIn wsX7_pay (wsV RX7 187 RX0 yX0_withAhead wsX0_withAhead) := goodIn_app (goodIn_of _ (by decide +kernel)) ggX7_pay_X0_withAhead
set_option maxRecDepth 20000 in
theorem ggX7_pay_J6_bitCount_0f7a4 : GoodIn wsX7_pay wsJ6_bitCount_0f7a4 := goodIn_r _ [57, 58, 59, 60] (by decide +kernel) (by decide +kernel)
set_option maxRecDepth 20000 in
theorem gX7_pay_J6_bitCount_0f7a4 : GoodIn wsX7_pay (va_wsS RX7 160 yJ6_bitCount_0f7a4 wsJ6_bitCount_0f7a4) := goodIn_app (goodIn_of _ (by decide +kernel)) ggX7_pay_J6_bitCount_0f7a4
set_option maxRecDepth 20000 in
theorem ggX7_pay_X0_inTurn : GoodIn wsX7_pay wsX0_inTurn := goodIn_r _ [64, 21, 65, 66, 67, 19, 68, 11, 12, 13, 69, 70, 71, 6, 72, 10, 73, 74, 27, 28, 29, 30, 31, 9, 32, 33, 34, 35, 36, 37, 38, 39, 40, 41, 42, 43, 44, 45, 46, 47, 48, 14, 15, 99, 100, 87, 88, 89, 90, 91, 92, 93, 94, 95, 96, 97, 98] (by decide +kernel) (by decide +kernel)
set_option maxRecDepth 20000 in
theorem gX7_pay_X0_inTurn : GoodIn wsX7_pay (wsV RX7 193 RX0 yX0_inTurn wsX0_inTurn) := goodIn_app (goodIn_of _ (by decide +kernel)) ggX7_pay_X0_inTurn
theorem dX7_pay_0 : decode cX7_pay 0 = .ok (.iload_n 1, 1) := by decide +kernel
theorem dX7_pay_1 : decode cX7_pay 1 = .ok (.iconst (-1), 1) := by decide +kernel
theorem dX7_pay_2 : decode cX7_pay 2 = .ok (.if_icmp .ge 5, 3) := by decide +kernel
theorem dX7_pay_5 : decode cX7_pay 5 = .ok (.iconst (-1), 1) := by decide +kernel
theorem dX7_pay_6 : decode cX7_pay 6 = .ok (.ireturn, 1) := by decide +kernel
theorem dX7_pay_7 : decode cX7_pay 7 = .ok (.aload_n 0, 1) := by decide +kernel
theorem dX7_pay_8 : decode cX7_pay 8 = .ok (.getfield 26, 3) := by decide +kernel
theorem dX7_pay_11 : decode cX7_pay 11 = .ok (.invokevirtual 190, 3) := by decide +kernel
theorem dX7_pay_14 : decode cX7_pay 14 = .ok (.istore_n 2, 1) := by decide +kernel
theorem dX7_pay_15 : decode cX7_pay 15 = .ok (.iload_n 2, 1) := by decide +kernel
theorem dX7_pay_16 : decode cX7_pay 16 = .ok (.aload_n 0, 1) := by decide +kernel
theorem dX7_pay_17 : decode cX7_pay 17 = .ok (.getfield 55, 3) := by decide +kernel
theorem dX7_pay_20 : decode cX7_pay 20 = .ok (.invokevirtual 184, 3) := by decide +kernel
theorem dX7_pay_23 : decode cX7_pay 23 = .ok (.iand, 1) := by decide +kernel
theorem dX7_pay_24 : decode cX7_pay 24 = .ok (.ifCond .eq 6, 3) := by decide +kernel
theorem dX7_pay_27 : decode cX7_pay 27 = .ok (.bipush (-4), 2) := by decide +kernel
theorem dX7_pay_29 : decode cX7_pay 29 = .ok (.ireturn, 1) := by decide +kernel
theorem dX7_pay_30 : decode cX7_pay 30 = .ok (.aload_n 0, 1) := by decide +kernel
theorem dX7_pay_31 : decode cX7_pay 31 = .ok (.getfield 55, 3) := by decide +kernel
theorem dX7_pay_34 : decode cX7_pay 34 = .ok (.iload_n 2, 1) := by decide +kernel
theorem dX7_pay_35 : decode cX7_pay 35 = .ok (.invokevirtual 187, 3) := by decide +kernel
theorem dX7_pay_38 : decode cX7_pay 38 = .ok (.istore_n 3, 1) := by decide +kernel
theorem dX7_pay_39 : decode cX7_pay 39 = .ok (.iload_n 1, 1) := by decide +kernel
theorem dX7_pay_40 : decode cX7_pay 40 = .ok (.iconst (-1), 1) := by decide +kernel
theorem dX7_pay_41 : decode cX7_pay 41 = .ok (.if_icmp .ne 10, 3) := by decide +kernel
theorem dX7_pay_44 : decode cX7_pay 44 = .ok (.iload_n 3, 1) := by decide +kernel
theorem dX7_pay_45 : decode cX7_pay 45 = .ok (.invokestatic 160, 3) := by decide +kernel
theorem dX7_pay_48 : decode cX7_pay 48 = .ok (.goto 12, 3) := by decide +kernel
theorem dX7_pay_51 : decode cX7_pay 51 = .ok (.aload_n 0, 1) := by decide +kernel
theorem dX7_pay_52 : decode cX7_pay 52 = .ok (.getfield 55, 3) := by decide +kernel
theorem dX7_pay_55 : decode cX7_pay 55 = .ok (.iload_n 3, 1) := by decide +kernel
theorem dX7_pay_56 : decode cX7_pay 56 = .ok (.iload_n 1, 1) := by decide +kernel
theorem dX7_pay_57 : decode cX7_pay 57 = .ok (.invokevirtual 193, 3) := by decide +kernel
theorem dX7_pay_60 : decode cX7_pay 60 = .ok (.ireturn, 1) := by decide +kernel
set_option maxRecDepth 20000 in
theorem ggX7_forEver_X0_stuckForEver : GoodIn wsX7_forEver wsX0_stuckForEver := goodIn_r _ [7, 8, 9, 10, 6, 11, 12, 13, 14, 15, 16, 17, 18, 19, 20, 21, 22, 23, 24, 25, 26, 27, 28, 29, 30, 31, 32, 33, 34, 35, 36, 37, 38, 39, 40, 41, 42, 67, 68, 55, 56, 57, 58, 59, 60, 61, 62, 63, 64, 65, 66] (by decide +kernel) (by decide +kernel)
set_option maxRecDepth 20000 in
theorem gX7_forEver_X0_stuckForEver : GoodIn wsX7_forEver (wsV RX7 197 RX0 yX0_stuckForEver wsX0_stuckForEver) := goodIn_app (goodIn_of _ (by decide +kernel)) ggX7_forEver_X0_stuckForEver
theorem dX7_forEver_0 : decode cX7_forEver 0 = .ok (.aload_n 0, 1) := by decide +kernel
theorem dX7_forEver_1 : decode cX7_forEver 1 = .ok (.getfield 55, 3) := by decide +kernel
theorem dX7_forEver_4 : decode cX7_forEver 4 = .ok (.aload_n 0, 1) := by decide +kernel
theorem dX7_forEver_5 : decode cX7_forEver 5 = .ok (.getfield 26, 3) := by decide +kernel
theorem dX7_forEver_8 : decode cX7_forEver 8 = .ok (.getfield 145, 3) := by decide +kernel
theorem dX7_forEver_11 : decode cX7_forEver 11 = .ok (.invokevirtual 197, 3) := by decide +kernel
theorem dX7_forEver_14 : decode cX7_forEver 14 = .ok (.ireturn, 1) := by decide +kernel
set_option maxRecDepth 20000 in
theorem ggX7_frees_X6_isPerson : GoodIn wsX7_frees wsX6_isPerson := goodIn_r _ [7, 8, 68, 69, 70, 71, 72, 73, 74, 75, 76, 77, 78, 79] (by decide +kernel) (by decide +kernel)
set_option maxRecDepth 20000 in
theorem gX7_frees_X6_isPerson : GoodIn wsX7_frees (wsV RX7 142 RX6 yX6_isPerson wsX6_isPerson) := goodIn_app (goodIn_of _ (by decide +kernel)) ggX7_frees_X6_isPerson
set_option maxRecDepth 20000 in
theorem ggX7_frees_X0_stuckForEver : GoodIn wsX7_frees wsX0_stuckForEver := goodIn_r _ [13, 14, 15, 16, 12, 17, 18, 19, 20, 21, 6, 22, 23, 24, 25, 26, 27, 28, 29, 30, 31, 32, 33, 34, 35, 36, 37, 38, 39, 40, 41, 42, 43, 44, 45, 46, 47, 80, 81, 68, 69, 70, 71, 72, 73, 74, 75, 76, 77, 78, 79] (by decide +kernel) (by decide +kernel)
set_option maxRecDepth 20000 in
theorem gX7_frees_X0_stuckForEver : GoodIn wsX7_frees (wsV RX7 197 RX0 yX0_stuckForEver wsX0_stuckForEver) := goodIn_app (goodIn_of _ (by decide +kernel)) ggX7_frees_X0_stuckForEver
set_option maxRecDepth 20000 in
theorem ggX7_frees_X7_bit : GoodIn wsX7_frees wsX7_bit := goodIn_r _ [47] (by decide +kernel) (by decide +kernel)
set_option maxRecDepth 20000 in
theorem gX7_frees_X7_bit : GoodIn wsX7_frees (va_wsS RX7 154 yX7_bit wsX7_bit) := goodIn_app (goodIn_of _ (by decide +kernel)) ggX7_frees_X7_bit
set_option maxRecDepth 20000 in
theorem ggX7_frees_J6_bitCount_0f7a4 : GoodIn wsX7_frees wsJ6_bitCount_0f7a4 := goodIn_r _ [52, 53, 54, 55] (by decide +kernel) (by decide +kernel)
set_option maxRecDepth 20000 in
theorem gX7_frees_J6_bitCount_0f7a4 : GoodIn wsX7_frees (va_wsS RX7 160 yJ6_bitCount_0f7a4 wsJ6_bitCount_0f7a4) := goodIn_app (goodIn_of _ (by decide +kernel)) ggX7_frees_J6_bitCount_0f7a4
theorem dX7_frees_0 : decode cX7_frees 0 = .ok (.aload_n 0, 1) := by decide +kernel
theorem dX7_frees_1 : decode cX7_frees 1 = .ok (.getfield 26, 3) := by decide +kernel
theorem dX7_frees_4 : decode cX7_frees 4 = .ok (.iload_n 1, 1) := by decide +kernel
theorem dX7_frees_5 : decode cX7_frees 5 = .ok (.invokevirtual 142, 3) := by decide +kernel
theorem dX7_frees_8 : decode cX7_frees 8 = .ok (.ifCond .ne 5, 3) := by decide +kernel
theorem dX7_frees_11 : decode cX7_frees 11 = .ok (.iconst (-1), 1) := by decide +kernel
theorem dX7_frees_12 : decode cX7_frees 12 = .ok (.ireturn, 1) := by decide +kernel
theorem dX7_frees_13 : decode cX7_frees 13 = .ok (.aload_n 0, 1) := by decide +kernel
theorem dX7_frees_14 : decode cX7_frees 14 = .ok (.getfield 55, 3) := by decide +kernel
theorem dX7_frees_17 : decode cX7_frees 17 = .ok (.aload_n 0, 1) := by decide +kernel
theorem dX7_frees_18 : decode cX7_frees 18 = .ok (.getfield 26, 3) := by decide +kernel
theorem dX7_frees_21 : decode cX7_frees 21 = .ok (.getfield 145, 3) := by decide +kernel
theorem dX7_frees_24 : decode cX7_frees 24 = .ok (.invokevirtual 197, 3) := by decide +kernel
theorem dX7_frees_27 : decode cX7_frees 27 = .ok (.istore_n 2, 1) := by decide +kernel
theorem dX7_frees_28 : decode cX7_frees 28 = .ok (.aload_n 0, 1) := by decide +kernel
theorem dX7_frees_29 : decode cX7_frees 29 = .ok (.getfield 55, 3) := by decide +kernel
theorem dX7_frees_32 : decode cX7_frees 32 = .ok (.aload_n 0, 1) := by decide +kernel
theorem dX7_frees_33 : decode cX7_frees 33 = .ok (.getfield 26, 3) := by decide +kernel
theorem dX7_frees_36 : decode cX7_frees 36 = .ok (.getfield 145, 3) := by decide +kernel
theorem dX7_frees_39 : decode cX7_frees 39 = .ok (.iload_n 1, 1) := by decide +kernel
theorem dX7_frees_40 : decode cX7_frees 40 = .ok (.invokestatic 154, 3) := by decide +kernel
theorem dX7_frees_43 : decode cX7_frees 43 = .ok (.ior, 1) := by decide +kernel
theorem dX7_frees_44 : decode cX7_frees 44 = .ok (.invokevirtual 197, 3) := by decide +kernel
theorem dX7_frees_47 : decode cX7_frees 47 = .ok (.istore_n 3, 1) := by decide +kernel
theorem dX7_frees_48 : decode cX7_frees 48 = .ok (.iload_n 2, 1) := by decide +kernel
theorem dX7_frees_49 : decode cX7_frees 49 = .ok (.invokestatic 160, 3) := by decide +kernel
theorem dX7_frees_52 : decode cX7_frees 52 = .ok (.iload_n 3, 1) := by decide +kernel
theorem dX7_frees_53 : decode cX7_frees 53 = .ok (.invokestatic 160, 3) := by decide +kernel
theorem dX7_frees_56 : decode cX7_frees 56 = .ok (.isub, 1) := by decide +kernel
theorem dX7_frees_57 : decode cX7_frees 57 = .ok (.ireturn, 1) := by decide +kernel
set_option maxRecDepth 20000 in
theorem ggX7_fresh_X6_isSet : GoodIn wsX7_fresh wsX6_isSet := goodIn_r _ [7, 8, 9, 10, 11, 60, 61, 62, 63, 64, 65, 66, 67, 68, 69, 70, 71] (by decide +kernel) (by decide +kernel)
set_option maxRecDepth 20000 in
theorem gX7_fresh_X6_isSet : GoodIn wsX7_fresh (wsV RX7 200 RX6 yX6_isSet wsX6_isSet) := goodIn_app (goodIn_of _ (by decide +kernel)) ggX7_fresh_X6_isSet
set_option maxRecDepth 20000 in
theorem ggX7_fresh_X0_withAbove : GoodIn wsX7_fresh wsX0_withAbove := goodIn_r _ [16, 17, 18, 10, 19, 20, 21, 22, 6, 23, 24, 25, 9, 11, 72, 73, 60, 61, 62, 63, 64, 65, 66, 67, 68, 69, 70, 71] (by decide +kernel) (by decide +kernel)
set_option maxRecDepth 20000 in
theorem gX7_fresh_X0_withAbove : GoodIn wsX7_fresh (wsV RX7 203 RX0 yX0_withAbove wsX0_withAbove) := goodIn_app (goodIn_of _ (by decide +kernel)) ggX7_fresh_X0_withAbove
set_option maxRecDepth 20000 in
theorem ggX7_fresh_X0_shortest : GoodIn wsX7_fresh wsX0_shortest := goodIn_r _ [29, 30, 31, 32, 33, 34, 35, 36, 37, 38, 10, 39, 40, 41, 42, 43, 44, 45, 46, 18, 19, 72, 73] (by decide +kernel) (by decide +kernel)
set_option maxRecDepth 20000 in
theorem gX7_fresh_X0_shortest : GoodIn wsX7_fresh (wsV RX7 206 RX0 yX0_shortest wsX0_shortest) := goodIn_app (goodIn_of _ (by decide +kernel)) ggX7_fresh_X0_shortest
set_option maxRecDepth 20000 in
theorem ggX7_fresh_X7_ropeOf : GoodIn wsX7_fresh wsX7_ropeOf := goodIn_r _ [41, 42, 43, 44, 45, 46, 18, 10, 19] (by decide +kernel) (by decide +kernel)
set_option maxRecDepth 20000 in
theorem gX7_fresh_X7_ropeOf : GoodIn wsX7_fresh (va_wsS RX7 209 yX7_ropeOf wsX7_ropeOf) := goodIn_app (goodIn_of _ (by decide +kernel)) ggX7_fresh_X7_ropeOf
theorem dX7_fresh_0 : decode cX7_fresh 0 = .ok (.iload_n 1, 1) := by decide +kernel
theorem dX7_fresh_1 : decode cX7_fresh 1 = .ok (.iconst 1, 1) := by decide +kernel
theorem dX7_fresh_2 : decode cX7_fresh 2 = .ok (.if_icmp .lt 29, 3) := by decide +kernel
theorem dX7_fresh_5 : decode cX7_fresh 5 = .ok (.iload_n 1, 1) := by decide +kernel
theorem dX7_fresh_6 : decode cX7_fresh 6 = .ok (.bipush 8, 2) := by decide +kernel
theorem dX7_fresh_8 : decode cX7_fresh 8 = .ok (.if_icmp .gt 23, 3) := by decide +kernel
theorem dX7_fresh_11 : decode cX7_fresh 11 = .ok (.aload_n 0, 1) := by decide +kernel
theorem dX7_fresh_12 : decode cX7_fresh 12 = .ok (.getfield 26, 3) := by decide +kernel
theorem dX7_fresh_15 : decode cX7_fresh 15 = .ok (.iload_n 2, 1) := by decide +kernel
theorem dX7_fresh_16 : decode cX7_fresh 16 = .ok (.invokevirtual 200, 3) := by decide +kernel
theorem dX7_fresh_19 : decode cX7_fresh 19 = .ok (.ifCond .eq 12, 3) := by decide +kernel
theorem dX7_fresh_22 : decode cX7_fresh 22 = .ok (.iload_n 3, 1) := by decide +kernel
theorem dX7_fresh_23 : decode cX7_fresh 23 = .ok (.ifCond .lt 8, 3) := by decide +kernel
theorem dX7_fresh_26 : decode cX7_fresh 26 = .ok (.iload_n 3, 1) := by decide +kernel
theorem dX7_fresh_27 : decode cX7_fresh 27 = .ok (.iconst 1, 1) := by decide +kernel
theorem dX7_fresh_28 : decode cX7_fresh 28 = .ok (.if_icmp .le 5, 3) := by decide +kernel
theorem dX7_fresh_31 : decode cX7_fresh 31 = .ok (.iconst (-1), 1) := by decide +kernel
theorem dX7_fresh_32 : decode cX7_fresh 32 = .ok (.ireturn, 1) := by decide +kernel
theorem dX7_fresh_33 : decode cX7_fresh 33 = .ok (.aload_n 0, 1) := by decide +kernel
theorem dX7_fresh_34 : decode cX7_fresh 34 = .ok (.getfield 55, 3) := by decide +kernel
theorem dX7_fresh_37 : decode cX7_fresh 37 = .ok (.iload_n 1, 1) := by decide +kernel
theorem dX7_fresh_38 : decode cX7_fresh 38 = .ok (.aload_n 0, 1) := by decide +kernel
theorem dX7_fresh_39 : decode cX7_fresh 39 = .ok (.getfield 26, 3) := by decide +kernel
theorem dX7_fresh_42 : decode cX7_fresh 42 = .ok (.getfield 127, 3) := by decide +kernel
theorem dX7_fresh_45 : decode cX7_fresh 45 = .ok (.aload_n 0, 1) := by decide +kernel
theorem dX7_fresh_46 : decode cX7_fresh 46 = .ok (.getfield 55, 3) := by decide +kernel
theorem dX7_fresh_49 : decode cX7_fresh 49 = .ok (.iload_n 2, 1) := by decide +kernel
theorem dX7_fresh_50 : decode cX7_fresh 50 = .ok (.invokevirtual 203, 3) := by decide +kernel
theorem dX7_fresh_53 : decode cX7_fresh 53 = .ok (.iconst (-1), 1) := by decide +kernel
theorem dX7_fresh_54 : decode cX7_fresh 54 = .ok (.ixor, 1) := by decide +kernel
theorem dX7_fresh_55 : decode cX7_fresh 55 = .ok (.iand, 1) := by decide +kernel
theorem dX7_fresh_56 : decode cX7_fresh 56 = .ok (.invokevirtual 206, 3) := by decide +kernel
theorem dX7_fresh_59 : decode cX7_fresh 59 = .ok (.istore 4, 2) := by decide +kernel
theorem dX7_fresh_61 : decode cX7_fresh 61 = .ok (.iload 4, 2) := by decide +kernel
theorem dX7_fresh_63 : decode cX7_fresh 63 = .ok (.ifCond .ne 6, 3) := by decide +kernel
theorem dX7_fresh_66 : decode cX7_fresh 66 = .ok (.bipush (-4), 2) := by decide +kernel
theorem dX7_fresh_68 : decode cX7_fresh 68 = .ok (.ireturn, 1) := by decide +kernel
theorem dX7_fresh_69 : decode cX7_fresh 69 = .ok (.iload_n 3, 1) := by decide +kernel
theorem dX7_fresh_70 : decode cX7_fresh 70 = .ok (.ifCond .ne 8, 3) := by decide +kernel
theorem dX7_fresh_73 : decode cX7_fresh 73 = .ok (.iload 4, 2) := by decide +kernel
theorem dX7_fresh_75 : decode cX7_fresh 75 = .ok (.goto 8, 3) := by decide +kernel
theorem dX7_fresh_78 : decode cX7_fresh 78 = .ok (.iload 4, 2) := by decide +kernel
theorem dX7_fresh_80 : decode cX7_fresh 80 = .ok (.invokestatic 209, 3) := by decide +kernel
theorem dX7_fresh_83 : decode cX7_fresh 83 = .ok (.ireturn, 1) := by decide +kernel
set_option maxRecDepth 20000 in
theorem ggX7_orders_X0_tyingOrders : GoodIn wsX7_orders wsX0_tyingOrders := goodIn_r _ [6, 7, 8, 9, 10, 11, 12, 13, 14, 5, 15, 16, 17, 18, 19, 32, 33, 34, 35, 36, 37, 38, 39, 40, 41, 42, 43, 44, 45] (by decide +kernel) (by decide +kernel)
set_option maxRecDepth 20000 in
theorem gX7_orders_X0_tyingOrders : GoodIn wsX7_orders (wsV RX7 212 RX0 yX0_tyingOrders wsX0_tyingOrders) := goodIn_app (goodIn_of _ (by decide +kernel)) ggX7_orders_X0_tyingOrders
theorem dX7_orders_0 : decode cX7_orders 0 = .ok (.aload_n 0, 1) := by decide +kernel
theorem dX7_orders_1 : decode cX7_orders 1 = .ok (.getfield 55, 3) := by decide +kernel
theorem dX7_orders_4 : decode cX7_orders 4 = .ok (.invokevirtual 212, 3) := by decide +kernel
theorem dX7_orders_7 : decode cX7_orders 7 = .ok (.ireturn, 1) := by decide +kernel
set_option maxRecDepth 20000 in
theorem ggX7_tell_X6_isKnot : GoodIn wsX7_tell wsX6_isKnot := goodIn_r _ [7, 8, 45, 46, 47, 48, 49, 50, 51, 52, 53, 54, 55, 56] (by decide +kernel) (by decide +kernel)
set_option maxRecDepth 20000 in
theorem gX7_tell_X6_isKnot : GoodIn wsX7_tell (wsV RX7 108 RX6 yX6_isKnot wsX6_isKnot) := goodIn_app (goodIn_of _ (by decide +kernel)) ggX7_tell_X6_isKnot
set_option maxRecDepth 20000 in
theorem ggX7_tell_X4_holds : GoodIn wsX7_tell wsX4_holds := goodIn_r _ [13, 14, 15, 16, 12, 17, 18, 19, 20, 21, 22, 23, 24, 57, 58] (by decide +kernel) (by decide +kernel)
set_option maxRecDepth 20000 in
theorem gX7_tell_X4_holds : GoodIn wsX7_tell (wsV RX7 215 RX4 yX4_holds wsX4_holds) := goodIn_app (goodIn_of _ (by decide +kernel)) ggX7_tell_X4_holds
set_option maxRecDepth 20000 in
theorem ggX7_tell_X4_append : GoodIn wsX7_tell wsX4_append := goodIn_r _ [28, 18, 19, 57, 58] (by decide +kernel) (by decide +kernel)
set_option maxRecDepth 20000 in
theorem gX7_tell_X4_append : GoodIn wsX7_tell (wsV RX7 218 RX4 yX4_append wsX4_append) := goodIn_app (goodIn_of _ (by decide +kernel)) ggX7_tell_X4_append
set_option maxRecDepth 20000 in
theorem ggX7_tell_X4_size : GoodIn wsX7_tell wsX4_size := goodIn_r _ [32, 18, 57, 58] (by decide +kernel) (by decide +kernel)
set_option maxRecDepth 20000 in
theorem gX7_tell_X4_size : GoodIn wsX7_tell (wsV RX7 219 RX4 yX4_size wsX4_size) := goodIn_app (goodIn_of _ (by decide +kernel)) ggX7_tell_X4_size
theorem dX7_tell_0 : decode cX7_tell 0 = .ok (.aload_n 0, 1) := by decide +kernel
theorem dX7_tell_1 : decode cX7_tell 1 = .ok (.getfield 26, 3) := by decide +kernel
theorem dX7_tell_4 : decode cX7_tell 4 = .ok (.iload_n 1, 1) := by decide +kernel
theorem dX7_tell_5 : decode cX7_tell 5 = .ok (.invokevirtual 108, 3) := by decide +kernel
theorem dX7_tell_8 : decode cX7_tell 8 = .ok (.ifCond .ne 5, 3) := by decide +kernel
theorem dX7_tell_11 : decode cX7_tell 11 = .ok (.iconst (-1), 1) := by decide +kernel
theorem dX7_tell_12 : decode cX7_tell 12 = .ok (.ireturn, 1) := by decide +kernel
theorem dX7_tell_13 : decode cX7_tell 13 = .ok (.aload_n 0, 1) := by decide +kernel
theorem dX7_tell_14 : decode cX7_tell 14 = .ok (.getfield 62, 3) := by decide +kernel
theorem dX7_tell_17 : decode cX7_tell 17 = .ok (.iload_n 1, 1) := by decide +kernel
theorem dX7_tell_18 : decode cX7_tell 18 = .ok (.invokevirtual 215, 3) := by decide +kernel
theorem dX7_tell_21 : decode cX7_tell 21 = .ok (.ifCond .eq 6, 3) := by decide +kernel
theorem dX7_tell_24 : decode cX7_tell 24 = .ok (.bipush (-2), 2) := by decide +kernel
theorem dX7_tell_26 : decode cX7_tell 26 = .ok (.ireturn, 1) := by decide +kernel
theorem dX7_tell_27 : decode cX7_tell 27 = .ok (.aload_n 0, 1) := by decide +kernel
theorem dX7_tell_28 : decode cX7_tell 28 = .ok (.getfield 62, 3) := by decide +kernel
theorem dX7_tell_31 : decode cX7_tell 31 = .ok (.iload_n 1, 1) := by decide +kernel
theorem dX7_tell_32 : decode cX7_tell 32 = .ok (.invokevirtual 218, 3) := by decide +kernel
theorem dX7_tell_35 : decode cX7_tell 35 = .ok (.aload_n 0, 1) := by decide +kernel
theorem dX7_tell_36 : decode cX7_tell 36 = .ok (.getfield 62, 3) := by decide +kernel
theorem dX7_tell_39 : decode cX7_tell 39 = .ok (.invokevirtual 219, 3) := by decide +kernel
theorem dX7_tell_42 : decode cX7_tell 42 = .ok (.ireturn, 1) := by decide +kernel
set_option maxRecDepth 20000 in
theorem ggX7_noRow_X4_size : GoodIn wsX7_noRow wsX4_size := goodIn_r _ [6, 7, 24, 25] (by decide +kernel) (by decide +kernel)
set_option maxRecDepth 20000 in
theorem gX7_noRow_X4_size : GoodIn wsX7_noRow (wsV RX7 219 RX4 yX4_size wsX4_size) := goodIn_app (goodIn_of _ (by decide +kernel)) ggX7_noRow_X4_size
set_option maxRecDepth 20000 in
theorem ggX7_noRow_X4_empty : GoodIn wsX7_noRow wsX4_empty := goodIn_r _ [11, 7, 24, 25] (by decide +kernel) (by decide +kernel)
set_option maxRecDepth 20000 in
theorem gX7_noRow_X4_empty : GoodIn wsX7_noRow (wsV RX7 105 RX4 yX4_empty wsX4_empty) := goodIn_app (goodIn_of _ (by decide +kernel)) ggX7_noRow_X4_empty
theorem dX7_noRow_0 : decode cX7_noRow 0 = .ok (.aload_n 0, 1) := by decide +kernel
theorem dX7_noRow_1 : decode cX7_noRow 1 = .ok (.getfield 62, 3) := by decide +kernel
theorem dX7_noRow_4 : decode cX7_noRow 4 = .ok (.invokevirtual 219, 3) := by decide +kernel
theorem dX7_noRow_7 : decode cX7_noRow 7 = .ok (.istore_n 1, 1) := by decide +kernel
theorem dX7_noRow_8 : decode cX7_noRow 8 = .ok (.aload_n 0, 1) := by decide +kernel
theorem dX7_noRow_9 : decode cX7_noRow 9 = .ok (.getfield 62, 3) := by decide +kernel
theorem dX7_noRow_12 : decode cX7_noRow 12 = .ok (.invokevirtual 105, 3) := by decide +kernel
theorem dX7_noRow_15 : decode cX7_noRow 15 = .ok (.iload_n 1, 1) := by decide +kernel
theorem dX7_noRow_16 : decode cX7_noRow 16 = .ok (.ireturn, 1) := by decide +kernel
set_option maxRecDepth 20000 in
theorem ggX7_judge_X4_firstWrong : GoodIn wsX7_judge wsX4_firstWrong := goodIn_r _ [7, 8, 9, 10, 11, 12, 13, 14, 15, 16, 17, 18, 6, 19, 20, 21, 22, 35, 36, 37, 38, 39, 40, 41, 42, 43, 44, 45, 46, 47, 48] (by decide +kernel) (by decide +kernel)
set_option maxRecDepth 20000 in
theorem gX7_judge_X4_firstWrong : GoodIn wsX7_judge (wsV RX7 220 RX4 yX4_firstWrong wsX4_firstWrong) := goodIn_app (goodIn_of _ (by decide +kernel)) ggX7_judge_X4_firstWrong
theorem dX7_judge_0 : decode cX7_judge 0 = .ok (.aload_n 0, 1) := by decide +kernel
theorem dX7_judge_1 : decode cX7_judge 1 = .ok (.getfield 62, 3) := by decide +kernel
