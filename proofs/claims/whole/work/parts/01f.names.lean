theorem dX8_knotsOf_57 : decode cX8_knotsOf 57 = .ok (.istore_n 3, 1) := by decide +kernel
theorem dX8_knotsOf_58 : decode cX8_knotsOf 58 = .ok (.iinc 4 1, 3) := by decide +kernel
theorem dX8_knotsOf_61 : decode cX8_knotsOf 61 = .ok (.goto (-56), 3) := by decide +kernel
theorem dX8_knotsOf_64 : decode cX8_knotsOf 64 = .ok (.iload_n 3, 1) := by decide +kernel
theorem dX8_knotsOf_65 : decode cX8_knotsOf 65 = .ok (.ireturn, 1) := by decide +kernel
set_option maxRecDepth 20000 in
theorem ggX8_person_X8_isPerson : GoodIn wsX8_person wsX8_isPerson := goodIn_r _ [7, 8, 9, 10, 6, 11, 22, 23, 24, 25, 26, 27, 28, 29, 30, 31, 32, 33, 34, 35, 36, 37, 38, 39, 40, 41, 42, 43, 44, 45, 46, 47, 48] (by decide +kernel) (by decide +kernel)
set_option maxRecDepth 20000 in
theorem gX8_person_X8_isPerson : GoodIn wsX8_person (wsV RX8 153 RX8 yX8_isPerson wsX8_isPerson) := goodIn_app (goodIn_of _ (by decide +kernel)) ggX8_person_X8_isPerson
set_option maxRecDepth 20000 in
theorem ggX8_person_X8_in : GoodIn wsX8_person wsX8_in := goodIn_r _ [11] (by decide +kernel) (by decide +kernel)
set_option maxRecDepth 20000 in
theorem gX8_person_X8_in : GoodIn wsX8_person (va_wsS RX8 82 yX8_in wsX8_in) := goodIn_app (goodIn_of _ (by decide +kernel)) ggX8_person_X8_in
set_option maxRecDepth 20000 in
theorem ggX8_person_X8_knotsOf : GoodIn wsX8_person wsX8_knotsOf := goodIn_r _ [15, 16, 17, 18, 19, 20, 6, 21, 22, 23, 24, 25, 26, 27, 28, 29, 30, 31, 32, 33, 34, 35, 36, 37, 38, 39, 40, 41, 42, 43, 44, 45, 46, 47, 48] (by decide +kernel) (by decide +kernel)
set_option maxRecDepth 20000 in
theorem gX8_person_X8_knotsOf : GoodIn wsX8_person (wsV RX8 156 RX8 yX8_knotsOf wsX8_knotsOf) := goodIn_app (goodIn_of _ (by decide +kernel)) ggX8_person_X8_knotsOf
theorem dX8_person_0 : decode cX8_person 0 = .ok (.aload_n 0, 1) := by decide +kernel
theorem dX8_person_1 : decode cX8_person 1 = .ok (.iload_n 1, 1) := by decide +kernel
theorem dX8_person_2 : decode cX8_person 2 = .ok (.invokevirtual 153, 3) := by decide +kernel
theorem dX8_person_5 : decode cX8_person 5 = .ok (.ifCond .eq 13, 3) := by decide +kernel
theorem dX8_person_8 : decode cX8_person 8 = .ok (.iload_n 2, 1) := by decide +kernel
theorem dX8_person_9 : decode cX8_person 9 = .ok (.i2l, 1) := by decide +kernel
theorem dX8_person_10 : decode cX8_person 10 = .ok (.lconst 0, 1) := by decide +kernel
theorem dX8_person_11 : decode cX8_person 11 = .ok (.lconst 1, 1) := by decide +kernel
theorem dX8_person_12 : decode cX8_person 12 = .ok (.invokestatic 82, 3) := by decide +kernel
theorem dX8_person_15 : decode cX8_person 15 = .ok (.ifCond .ne 5, 3) := by decide +kernel
theorem dX8_person_18 : decode cX8_person 18 = .ok (.iconst (-1), 1) := by decide +kernel
theorem dX8_person_19 : decode cX8_person 19 = .ok (.ireturn, 1) := by decide +kernel
theorem dX8_person_20 : decode cX8_person 20 = .ok (.iload_n 2, 1) := by decide +kernel
theorem dX8_person_21 : decode cX8_person 21 = .ok (.ifCond .ne 16, 3) := by decide +kernel
theorem dX8_person_24 : decode cX8_person 24 = .ok (.aload_n 0, 1) := by decide +kernel
theorem dX8_person_25 : decode cX8_person 25 = .ok (.getfield 16, 3) := by decide +kernel
theorem dX8_person_28 : decode cX8_person 28 = .ok (.iconst 0, 1) := by decide +kernel
theorem dX8_person_29 : decode cX8_person 29 = .ok (.iaload, 1) := by decide +kernel
theorem dX8_person_30 : decode cX8_person 30 = .ok (.iload_n 1, 1) := by decide +kernel
theorem dX8_person_31 : decode cX8_person 31 = .ok (.ishr, 1) := by decide +kernel
theorem dX8_person_32 : decode cX8_person 32 = .ok (.iconst 1, 1) := by decide +kernel
theorem dX8_person_33 : decode cX8_person 33 = .ok (.iand, 1) := by decide +kernel
theorem dX8_person_34 : decode cX8_person 34 = .ok (.goto 14, 3) := by decide +kernel
theorem dX8_person_37 : decode cX8_person 37 = .ok (.aload_n 0, 1) := by decide +kernel
theorem dX8_person_38 : decode cX8_person 38 = .ok (.iload_n 1, 1) := by decide +kernel
theorem dX8_person_39 : decode cX8_person 39 = .ok (.aload_n 0, 1) := by decide +kernel
theorem dX8_person_40 : decode cX8_person 40 = .ok (.getfield 40, 3) := by decide +kernel
theorem dX8_person_43 : decode cX8_person 43 = .ok (.iconst 0, 1) := by decide +kernel
theorem dX8_person_44 : decode cX8_person 44 = .ok (.iaload, 1) := by decide +kernel
theorem dX8_person_45 : decode cX8_person 45 = .ok (.invokevirtual 156, 3) := by decide +kernel
theorem dX8_person_48 : decode cX8_person 48 = .ok (.ireturn, 1) := by decide +kernel
set_option maxRecDepth 20000 in
theorem ggX8_mayBe_X8_has : GoodIn wsX8_mayBe wsX8_has := goodIn_r _ [11] (by decide +kernel) (by decide +kernel)
set_option maxRecDepth 20000 in
theorem gX8_mayBe_X8_has : GoodIn wsX8_mayBe (va_wsS RX8 140 yX8_has wsX8_has) := goodIn_app (goodIn_of _ (by decide +kernel)) ggX8_mayBe_X8_has
set_option maxRecDepth 20000 in
theorem ggX8_mayBe_X8_knotsOf : GoodIn wsX8_mayBe wsX8_knotsOf := goodIn_r _ [15, 1, 3, 4, 8, 9, 10, 11, 16, 17, 18, 19, 20, 21, 22, 23, 24, 25, 26, 27, 28, 29, 30, 31, 32, 33, 34, 35, 36, 37, 38, 39, 40, 41, 42] (by decide +kernel) (by decide +kernel)
set_option maxRecDepth 20000 in
theorem gX8_mayBe_X8_knotsOf : GoodIn wsX8_mayBe (wsV RX8 156 RX8 yX8_knotsOf wsX8_knotsOf) := goodIn_app (goodIn_of _ (by decide +kernel)) ggX8_mayBe_X8_knotsOf
theorem dX8_mayBe_0 : decode cX8_mayBe 0 = .ok (.iload_n 2, 1) := by decide +kernel
theorem dX8_mayBe_1 : decode cX8_mayBe 1 = .ok (.iload_n 1, 1) := by decide +kernel
theorem dX8_mayBe_2 : decode cX8_mayBe 2 = .ok (.invokestatic 140, 3) := by decide +kernel
theorem dX8_mayBe_5 : decode cX8_mayBe 5 = .ok (.istore 5, 2) := by decide +kernel
theorem dX8_mayBe_7 : decode cX8_mayBe 7 = .ok (.iconst 0, 1) := by decide +kernel
theorem dX8_mayBe_8 : decode cX8_mayBe 8 = .ok (.istore 6, 2) := by decide +kernel
theorem dX8_mayBe_10 : decode cX8_mayBe 10 = .ok (.iload 6, 2) := by decide +kernel
theorem dX8_mayBe_12 : decode cX8_mayBe 12 = .ok (.aload_n 0, 1) := by decide +kernel
theorem dX8_mayBe_13 : decode cX8_mayBe 13 = .ok (.getfield 22, 3) := by decide +kernel
theorem dX8_mayBe_16 : decode cX8_mayBe 16 = .ok (.iconst 0, 1) := by decide +kernel
theorem dX8_mayBe_17 : decode cX8_mayBe 17 = .ok (.iaload, 1) := by decide +kernel
theorem dX8_mayBe_18 : decode cX8_mayBe 18 = .ok (.if_icmp .ge 44, 3) := by decide +kernel
theorem dX8_mayBe_21 : decode cX8_mayBe 21 = .ok (.iload 5, 2) := by decide +kernel
theorem dX8_mayBe_23 : decode cX8_mayBe 23 = .ok (.ifCond .eq 30, 3) := by decide +kernel
theorem dX8_mayBe_26 : decode cX8_mayBe 26 = .ok (.iload_n 2, 1) := by decide +kernel
theorem dX8_mayBe_27 : decode cX8_mayBe 27 = .ok (.iload 6, 2) := by decide +kernel
theorem dX8_mayBe_29 : decode cX8_mayBe 29 = .ok (.invokestatic 140, 3) := by decide +kernel
theorem dX8_mayBe_32 : decode cX8_mayBe 32 = .ok (.ifCond .eq 17, 3) := by decide +kernel
theorem dX8_mayBe_35 : decode cX8_mayBe 35 = .ok (.aload_n 0, 1) := by decide +kernel
theorem dX8_mayBe_36 : decode cX8_mayBe 36 = .ok (.getfield 31, 3) := by decide +kernel
theorem dX8_mayBe_39 : decode cX8_mayBe 39 = .ok (.iload 6, 2) := by decide +kernel
theorem dX8_mayBe_41 : decode cX8_mayBe 41 = .ok (.iaload, 1) := by decide +kernel
theorem dX8_mayBe_42 : decode cX8_mayBe 42 = .ok (.iload_n 1, 1) := by decide +kernel
theorem dX8_mayBe_43 : decode cX8_mayBe 43 = .ok (.invokestatic 140, 3) := by decide +kernel
theorem dX8_mayBe_46 : decode cX8_mayBe 46 = .ok (.ifCond .ne 7, 3) := by decide +kernel
theorem dX8_mayBe_49 : decode cX8_mayBe 49 = .ok (.iconst 1, 1) := by decide +kernel
theorem dX8_mayBe_50 : decode cX8_mayBe 50 = .ok (.goto 4, 3) := by decide +kernel
theorem dX8_mayBe_53 : decode cX8_mayBe 53 = .ok (.iconst 0, 1) := by decide +kernel
theorem dX8_mayBe_54 : decode cX8_mayBe 54 = .ok (.istore 5, 2) := by decide +kernel
theorem dX8_mayBe_56 : decode cX8_mayBe 56 = .ok (.iinc 6 1, 3) := by decide +kernel
theorem dX8_mayBe_59 : decode cX8_mayBe 59 = .ok (.goto (-49), 3) := by decide +kernel
theorem dX8_mayBe_62 : decode cX8_mayBe 62 = .ok (.iload_n 3, 1) := by decide +kernel
theorem dX8_mayBe_63 : decode cX8_mayBe 63 = .ok (.aload_n 0, 1) := by decide +kernel
theorem dX8_mayBe_64 : decode cX8_mayBe 64 = .ok (.getfield 25, 3) := by decide +kernel
theorem dX8_mayBe_67 : decode cX8_mayBe 67 = .ok (.iload_n 1, 1) := by decide +kernel
theorem dX8_mayBe_68 : decode cX8_mayBe 68 = .ok (.iaload, 1) := by decide +kernel
theorem dX8_mayBe_69 : decode cX8_mayBe 69 = .ok (.ishr, 1) := by decide +kernel
theorem dX8_mayBe_70 : decode cX8_mayBe 70 = .ok (.iconst 1, 1) := by decide +kernel
theorem dX8_mayBe_71 : decode cX8_mayBe 71 = .ok (.iand, 1) := by decide +kernel
theorem dX8_mayBe_72 : decode cX8_mayBe 72 = .ok (.iload_n 3, 1) := by decide +kernel
theorem dX8_mayBe_73 : decode cX8_mayBe 73 = .ok (.aload_n 0, 1) := by decide +kernel
theorem dX8_mayBe_74 : decode cX8_mayBe 74 = .ok (.getfield 28, 3) := by decide +kernel
theorem dX8_mayBe_77 : decode cX8_mayBe 77 = .ok (.iload_n 1, 1) := by decide +kernel
theorem dX8_mayBe_78 : decode cX8_mayBe 78 = .ok (.iaload, 1) := by decide +kernel
theorem dX8_mayBe_79 : decode cX8_mayBe 79 = .ok (.ishr, 1) := by decide +kernel
theorem dX8_mayBe_80 : decode cX8_mayBe 80 = .ok (.iconst 1, 1) := by decide +kernel
theorem dX8_mayBe_81 : decode cX8_mayBe 81 = .ok (.iand, 1) := by decide +kernel
theorem dX8_mayBe_82 : decode cX8_mayBe 82 = .ok (.iadd, 1) := by decide +kernel
theorem dX8_mayBe_83 : decode cX8_mayBe 83 = .ok (.istore 6, 2) := by decide +kernel
theorem dX8_mayBe_85 : decode cX8_mayBe 85 = .ok (.iload 5, 2) := by decide +kernel
theorem dX8_mayBe_87 : decode cX8_mayBe 87 = .ok (.ifCond .eq 20, 3) := by decide +kernel
theorem dX8_mayBe_90 : decode cX8_mayBe 90 = .ok (.iload 6, 2) := by decide +kernel
theorem dX8_mayBe_92 : decode cX8_mayBe 92 = .ok (.iconst 2, 1) := by decide +kernel
theorem dX8_mayBe_93 : decode cX8_mayBe 93 = .ok (.aload_n 0, 1) := by decide +kernel
theorem dX8_mayBe_94 : decode cX8_mayBe 94 = .ok (.getfield 19, 3) := by decide +kernel
theorem dX8_mayBe_97 : decode cX8_mayBe 97 = .ok (.iconst 0, 1) := by decide +kernel
theorem dX8_mayBe_98 : decode cX8_mayBe 98 = .ok (.iaload, 1) := by decide +kernel
theorem dX8_mayBe_99 : decode cX8_mayBe 99 = .ok (.isub, 1) := by decide +kernel
theorem dX8_mayBe_100 : decode cX8_mayBe 100 = .ok (.if_icmp .lt 7, 3) := by decide +kernel
theorem dX8_mayBe_103 : decode cX8_mayBe 103 = .ok (.iconst 1, 1) := by decide +kernel
theorem dX8_mayBe_104 : decode cX8_mayBe 104 = .ok (.goto 4, 3) := by decide +kernel
theorem dX8_mayBe_107 : decode cX8_mayBe 107 = .ok (.iconst 0, 1) := by decide +kernel
theorem dX8_mayBe_108 : decode cX8_mayBe 108 = .ok (.istore 5, 2) := by decide +kernel
theorem dX8_mayBe_110 : decode cX8_mayBe 110 = .ok (.iload 5, 2) := by decide +kernel
theorem dX8_mayBe_112 : decode cX8_mayBe 112 = .ok (.ifCond .eq 28, 3) := by decide +kernel
theorem dX8_mayBe_115 : decode cX8_mayBe 115 = .ok (.aload_n 0, 1) := by decide +kernel
theorem dX8_mayBe_116 : decode cX8_mayBe 116 = .ok (.getfield 37, 3) := by decide +kernel
theorem dX8_mayBe_119 : decode cX8_mayBe 119 = .ok (.iload_n 1, 1) := by decide +kernel
theorem dX8_mayBe_120 : decode cX8_mayBe 120 = .ok (.iaload, 1) := by decide +kernel
theorem dX8_mayBe_121 : decode cX8_mayBe 121 = .ok (.iconst 2, 1) := by decide +kernel
theorem dX8_mayBe_122 : decode cX8_mayBe 122 = .ok (.if_icmp .ne 14, 3) := by decide +kernel
theorem dX8_mayBe_125 : decode cX8_mayBe 125 = .ok (.iload 4, 2) := by decide +kernel
theorem dX8_mayBe_127 : decode cX8_mayBe 127 = .ok (.aload_n 0, 1) := by decide +kernel
theorem dX8_mayBe_128 : decode cX8_mayBe 128 = .ok (.getfield 34, 3) := by decide +kernel
theorem dX8_mayBe_131 : decode cX8_mayBe 131 = .ok (.iload_n 1, 1) := by decide +kernel
theorem dX8_mayBe_132 : decode cX8_mayBe 132 = .ok (.iaload, 1) := by decide +kernel
theorem dX8_mayBe_133 : decode cX8_mayBe 133 = .ok (.if_icmp .lt 7, 3) := by decide +kernel
theorem dX8_mayBe_136 : decode cX8_mayBe 136 = .ok (.iconst 1, 1) := by decide +kernel
theorem dX8_mayBe_137 : decode cX8_mayBe 137 = .ok (.goto 4, 3) := by decide +kernel
theorem dX8_mayBe_140 : decode cX8_mayBe 140 = .ok (.iconst 0, 1) := by decide +kernel
theorem dX8_mayBe_141 : decode cX8_mayBe 141 = .ok (.istore 5, 2) := by decide +kernel
theorem dX8_mayBe_143 : decode cX8_mayBe 143 = .ok (.aload_n 0, 1) := by decide +kernel
theorem dX8_mayBe_144 : decode cX8_mayBe 144 = .ok (.aload_n 0, 1) := by decide +kernel
theorem dX8_mayBe_145 : decode cX8_mayBe 145 = .ok (.getfield 25, 3) := by decide +kernel
theorem dX8_mayBe_148 : decode cX8_mayBe 148 = .ok (.iload_n 1, 1) := by decide +kernel
theorem dX8_mayBe_149 : decode cX8_mayBe 149 = .ok (.iaload, 1) := by decide +kernel
theorem dX8_mayBe_150 : decode cX8_mayBe 150 = .ok (.iload_n 2, 1) := by decide +kernel
theorem dX8_mayBe_151 : decode cX8_mayBe 151 = .ok (.invokevirtual 156, 3) := by decide +kernel
theorem dX8_mayBe_154 : decode cX8_mayBe 154 = .ok (.aload_n 0, 1) := by decide +kernel
theorem dX8_mayBe_155 : decode cX8_mayBe 155 = .ok (.aload_n 0, 1) := by decide +kernel
theorem dX8_mayBe_156 : decode cX8_mayBe 156 = .ok (.getfield 28, 3) := by decide +kernel
theorem dX8_mayBe_159 : decode cX8_mayBe 159 = .ok (.iload_n 1, 1) := by decide +kernel
theorem dX8_mayBe_160 : decode cX8_mayBe 160 = .ok (.iaload, 1) := by decide +kernel
theorem dX8_mayBe_161 : decode cX8_mayBe 161 = .ok (.iload_n 2, 1) := by decide +kernel
theorem dX8_mayBe_162 : decode cX8_mayBe 162 = .ok (.invokevirtual 156, 3) := by decide +kernel
theorem dX8_mayBe_165 : decode cX8_mayBe 165 = .ok (.ior, 1) := by decide +kernel
theorem dX8_mayBe_166 : decode cX8_mayBe 166 = .ok (.istore 7, 2) := by decide +kernel
theorem dX8_mayBe_168 : decode cX8_mayBe 168 = .ok (.iload 5, 2) := by decide +kernel
theorem dX8_mayBe_170 : decode cX8_mayBe 170 = .ok (.ifCond .eq 28, 3) := by decide +kernel
theorem dX8_mayBe_173 : decode cX8_mayBe 173 = .ok (.aload_n 0, 1) := by decide +kernel
theorem dX8_mayBe_174 : decode cX8_mayBe 174 = .ok (.getfield 37, 3) := by decide +kernel
theorem dX8_mayBe_177 : decode cX8_mayBe 177 = .ok (.iload_n 1, 1) := by decide +kernel
theorem dX8_mayBe_178 : decode cX8_mayBe 178 = .ok (.iaload, 1) := by decide +kernel
theorem dX8_mayBe_179 : decode cX8_mayBe 179 = .ok (.iconst 3, 1) := by decide +kernel
theorem dX8_mayBe_180 : decode cX8_mayBe 180 = .ok (.if_icmp .ne 14, 3) := by decide +kernel
theorem dX8_mayBe_183 : decode cX8_mayBe 183 = .ok (.iload 7, 2) := by decide +kernel
theorem dX8_mayBe_185 : decode cX8_mayBe 185 = .ok (.iconst 1, 1) := by decide +kernel
theorem dX8_mayBe_186 : decode cX8_mayBe 186 = .ok (.iload_n 1, 1) := by decide +kernel
theorem dX8_mayBe_187 : decode cX8_mayBe 187 = .ok (.ishl, 1) := by decide +kernel
theorem dX8_mayBe_188 : decode cX8_mayBe 188 = .ok (.iconst (-1), 1) := by decide +kernel
theorem dX8_mayBe_189 : decode cX8_mayBe 189 = .ok (.ixor, 1) := by decide +kernel
theorem dX8_mayBe_190 : decode cX8_mayBe 190 = .ok (.iand, 1) := by decide +kernel
theorem dX8_mayBe_191 : decode cX8_mayBe 191 = .ok (.ifCond .ne 7, 3) := by decide +kernel
theorem dX8_mayBe_194 : decode cX8_mayBe 194 = .ok (.iconst 1, 1) := by decide +kernel
theorem dX8_mayBe_195 : decode cX8_mayBe 195 = .ok (.goto 4, 3) := by decide +kernel
theorem dX8_mayBe_198 : decode cX8_mayBe 198 = .ok (.iconst 0, 1) := by decide +kernel
theorem dX8_mayBe_199 : decode cX8_mayBe 199 = .ok (.ireturn, 1) := by decide +kernel
set_option maxRecDepth 20000 in
theorem ggX8_may_X8_isThere : GoodIn wsX8_may wsX8_isThere := goodIn_r _ [8, 9, 10, 11, 7, 12, 30, 31, 32, 33, 34, 35, 36, 37, 38, 39, 40, 41, 42, 43, 44, 45, 46, 47, 48, 49, 50, 51, 52, 53, 54, 55, 56] (by decide +kernel) (by decide +kernel)
set_option maxRecDepth 20000 in
theorem gX8_may_X8_isThere : GoodIn wsX8_may (wsV RX8 144 RX8 yX8_isThere wsX8_isThere) := goodIn_app (goodIn_of _ (by decide +kernel)) ggX8_may_X8_isThere
set_option maxRecDepth 20000 in
theorem ggX8_may_X8_mayBe : GoodIn wsX8_may wsX8_mayBe := goodIn_r _ [16, 9, 17, 18, 19, 20, 21, 22, 23, 24, 7, 25, 26, 27, 28, 29, 30, 31, 32, 33, 34, 35, 36, 37, 38, 39, 40, 41, 42, 43, 44, 45, 46, 47, 48, 49, 50, 51, 52, 53, 54, 55, 56] (by decide +kernel) (by decide +kernel)
set_option maxRecDepth 20000 in
theorem gX8_may_X8_mayBe : GoodIn wsX8_may (wsV RX8 159 RX8 yX8_mayBe wsX8_mayBe) := goodIn_app (goodIn_of _ (by decide +kernel)) ggX8_may_X8_mayBe
theorem dX8_may_0 : decode cX8_may 0 = .ok (.aload_n 0, 1) := by decide +kernel
theorem dX8_may_1 : decode cX8_may 1 = .ok (.iload_n 1, 1) := by decide +kernel
theorem dX8_may_2 : decode cX8_may 2 = .ok (.invokevirtual 144, 3) := by decide +kernel
theorem dX8_may_5 : decode cX8_may 5 = .ok (.ifCond .ne 7, 3) := by decide +kernel
theorem dX8_may_8 : decode cX8_may 8 = .ok (.iconst (-1), 1) := by decide +kernel
theorem dX8_may_9 : decode cX8_may 9 = .ok (.goto 34, 3) := by decide +kernel
theorem dX8_may_12 : decode cX8_may 12 = .ok (.aload_n 0, 1) := by decide +kernel
theorem dX8_may_13 : decode cX8_may 13 = .ok (.iload_n 1, 1) := by decide +kernel
theorem dX8_may_14 : decode cX8_may 14 = .ok (.aload_n 0, 1) := by decide +kernel
theorem dX8_may_15 : decode cX8_may 15 = .ok (.getfield 40, 3) := by decide +kernel
theorem dX8_may_18 : decode cX8_may 18 = .ok (.iconst 0, 1) := by decide +kernel
theorem dX8_may_19 : decode cX8_may 19 = .ok (.iaload, 1) := by decide +kernel
theorem dX8_may_20 : decode cX8_may 20 = .ok (.aload_n 0, 1) := by decide +kernel
theorem dX8_may_21 : decode cX8_may 21 = .ok (.getfield 16, 3) := by decide +kernel
theorem dX8_may_24 : decode cX8_may 24 = .ok (.iconst 0, 1) := by decide +kernel
theorem dX8_may_25 : decode cX8_may 25 = .ok (.iaload, 1) := by decide +kernel
theorem dX8_may_26 : decode cX8_may 26 = .ok (.aload_n 0, 1) := by decide +kernel
theorem dX8_may_27 : decode cX8_may 27 = .ok (.getfield 43, 3) := by decide +kernel
theorem dX8_may_30 : decode cX8_may 30 = .ok (.iconst 0, 1) := by decide +kernel
theorem dX8_may_31 : decode cX8_may 31 = .ok (.iaload, 1) := by decide +kernel
theorem dX8_may_32 : decode cX8_may 32 = .ok (.invokevirtual 159, 3) := by decide +kernel
theorem dX8_may_35 : decode cX8_may 35 = .ok (.ifCond .eq 7, 3) := by decide +kernel
theorem dX8_may_38 : decode cX8_may 38 = .ok (.iconst 1, 1) := by decide +kernel
theorem dX8_may_39 : decode cX8_may 39 = .ok (.goto 4, 3) := by decide +kernel
theorem dX8_may_42 : decode cX8_may 42 = .ok (.iconst 0, 1) := by decide +kernel
theorem dX8_may_43 : decode cX8_may 43 = .ok (.ireturn, 1) := by decide +kernel
theorem dX8_note_0 : decode cX8_note 0 = .ok (.aload_n 0, 1) := by decide +kernel
theorem dX8_note_1 : decode cX8_note 1 = .ok (.getfield 134, 3) := by decide +kernel
theorem dX8_note_4 : decode cX8_note 4 = .ok (.bipush 8, 2) := by decide +kernel
theorem dX8_note_6 : decode cX8_note 6 = .ok (.if_icmp .ne 41, 3) := by decide +kernel
theorem dX8_note_9 : decode cX8_note 9 = .ok (.iconst 0, 1) := by decide +kernel
theorem dX8_note_10 : decode cX8_note 10 = .ok (.istore_n 1, 1) := by decide +kernel
theorem dX8_note_11 : decode cX8_note 11 = .ok (.iload_n 1, 1) := by decide +kernel
theorem dX8_note_12 : decode cX8_note 12 = .ok (.bipush 21, 2) := by decide +kernel
theorem dX8_note_14 : decode cX8_note 14 = .ok (.if_icmp .ge 23, 3) := by decide +kernel
theorem dX8_note_17 : decode cX8_note 17 = .ok (.aload_n 0, 1) := by decide +kernel
theorem dX8_note_18 : decode cX8_note 18 = .ok (.getfield 46, 3) := by decide +kernel
theorem dX8_note_21 : decode cX8_note 21 = .ok (.iload_n 1, 1) := by decide +kernel
theorem dX8_note_22 : decode cX8_note 22 = .ok (.aload_n 0, 1) := by decide +kernel
theorem dX8_note_23 : decode cX8_note 23 = .ok (.getfield 46, 3) := by decide +kernel
theorem dX8_note_26 : decode cX8_note 26 = .ok (.iload_n 1, 1) := by decide +kernel
theorem dX8_note_27 : decode cX8_note 27 = .ok (.iconst 3, 1) := by decide +kernel
theorem dX8_note_28 : decode cX8_note 28 = .ok (.iadd, 1) := by decide +kernel
theorem dX8_note_29 : decode cX8_note 29 = .ok (.iaload, 1) := by decide +kernel
theorem dX8_note_30 : decode cX8_note 30 = .ok (.iastore, 1) := by decide +kernel
theorem dX8_note_31 : decode cX8_note 31 = .ok (.iinc 1 1, 3) := by decide +kernel
theorem dX8_note_34 : decode cX8_note 34 = .ok (.goto (-23), 3) := by decide +kernel
theorem dX8_note_37 : decode cX8_note 37 = .ok (.aload_n 0, 1) := by decide +kernel
theorem dX8_note_38 : decode cX8_note 38 = .ok (.dup, 1) := by decide +kernel
theorem dX8_note_39 : decode cX8_note 39 = .ok (.getfield 134, 3) := by decide +kernel
theorem dX8_note_42 : decode cX8_note 42 = .ok (.iconst 1, 1) := by decide +kernel
theorem dX8_note_43 : decode cX8_note 43 = .ok (.isub, 1) := by decide +kernel
theorem dX8_note_44 : decode cX8_note 44 = .ok (.putfield 134, 3) := by decide +kernel
theorem dX8_note_47 : decode cX8_note 47 = .ok (.aload_n 0, 1) := by decide +kernel
theorem dX8_note_48 : decode cX8_note 48 = .ok (.getfield 46, 3) := by decide +kernel
theorem dX8_note_51 : decode cX8_note 51 = .ok (.iconst 3, 1) := by decide +kernel
theorem dX8_note_52 : decode cX8_note 52 = .ok (.aload_n 0, 1) := by decide +kernel
theorem dX8_note_53 : decode cX8_note 53 = .ok (.getfield 134, 3) := by decide +kernel
theorem dX8_note_56 : decode cX8_note 56 = .ok (.imul, 1) := by decide +kernel
theorem dX8_note_57 : decode cX8_note 57 = .ok (.aload_n 0, 1) := by decide +kernel
theorem dX8_note_58 : decode cX8_note 58 = .ok (.getfield 22, 3) := by decide +kernel
theorem dX8_note_61 : decode cX8_note 61 = .ok (.iconst 0, 1) := by decide +kernel
theorem dX8_note_62 : decode cX8_note 62 = .ok (.iaload, 1) := by decide +kernel
theorem dX8_note_63 : decode cX8_note 63 = .ok (.iastore, 1) := by decide +kernel
theorem dX8_note_64 : decode cX8_note 64 = .ok (.aload_n 0, 1) := by decide +kernel
theorem dX8_note_65 : decode cX8_note 65 = .ok (.getfield 46, 3) := by decide +kernel
theorem dX8_note_68 : decode cX8_note 68 = .ok (.iconst 3, 1) := by decide +kernel
theorem dX8_note_69 : decode cX8_note 69 = .ok (.aload_n 0, 1) := by decide +kernel
theorem dX8_note_70 : decode cX8_note 70 = .ok (.getfield 134, 3) := by decide +kernel
theorem dX8_note_73 : decode cX8_note 73 = .ok (.imul, 1) := by decide +kernel
theorem dX8_note_74 : decode cX8_note 74 = .ok (.iconst 1, 1) := by decide +kernel
theorem dX8_note_75 : decode cX8_note 75 = .ok (.iadd, 1) := by decide +kernel
theorem dX8_note_76 : decode cX8_note 76 = .ok (.aload_n 0, 1) := by decide +kernel
theorem dX8_note_77 : decode cX8_note 77 = .ok (.getfield 40, 3) := by decide +kernel
theorem dX8_note_80 : decode cX8_note 80 = .ok (.iconst 0, 1) := by decide +kernel
theorem dX8_note_81 : decode cX8_note 81 = .ok (.iaload, 1) := by decide +kernel
theorem dX8_note_82 : decode cX8_note 82 = .ok (.iastore, 1) := by decide +kernel
theorem dX8_note_83 : decode cX8_note 83 = .ok (.aload_n 0, 1) := by decide +kernel
theorem dX8_note_84 : decode cX8_note 84 = .ok (.getfield 46, 3) := by decide +kernel
theorem dX8_note_87 : decode cX8_note 87 = .ok (.iconst 3, 1) := by decide +kernel
theorem dX8_note_88 : decode cX8_note 88 = .ok (.aload_n 0, 1) := by decide +kernel
theorem dX8_note_89 : decode cX8_note 89 = .ok (.getfield 134, 3) := by decide +kernel
theorem dX8_note_92 : decode cX8_note 92 = .ok (.imul, 1) := by decide +kernel
theorem dX8_note_93 : decode cX8_note 93 = .ok (.iconst 2, 1) := by decide +kernel
theorem dX8_note_94 : decode cX8_note 94 = .ok (.iadd, 1) := by decide +kernel
theorem dX8_note_95 : decode cX8_note 95 = .ok (.aload_n 0, 1) := by decide +kernel
theorem dX8_note_96 : decode cX8_note 96 = .ok (.getfield 43, 3) := by decide +kernel
theorem dX8_note_99 : decode cX8_note 99 = .ok (.iconst 0, 1) := by decide +kernel
theorem dX8_note_100 : decode cX8_note 100 = .ok (.iaload, 1) := by decide +kernel
theorem dX8_note_101 : decode cX8_note 101 = .ok (.iastore, 1) := by decide +kernel
theorem dX8_note_102 : decode cX8_note 102 = .ok (.aload_n 0, 1) := by decide +kernel
theorem dX8_note_103 : decode cX8_note 103 = .ok (.dup, 1) := by decide +kernel
theorem dX8_note_104 : decode cX8_note 104 = .ok (.getfield 134, 3) := by decide +kernel
theorem dX8_note_107 : decode cX8_note 107 = .ok (.iconst 1, 1) := by decide +kernel
theorem dX8_note_108 : decode cX8_note 108 = .ok (.iadd, 1) := by decide +kernel
theorem dX8_note_109 : decode cX8_note 109 = .ok (.putfield 134, 3) := by decide +kernel
theorem dX8_note_112 : decode cX8_note 112 = .ok (.return_, 1) := by decide +kernel
set_option maxRecDepth 20000 in
theorem ggX8_takeOut_X8_note : GoodIn wsX8_takeOut wsX8_note := goodIn_r _ [6, 7, 8, 9, 1, 10, 14, 15, 16, 17, 18, 19, 20, 21, 22, 23, 24, 25, 26, 27, 28, 29, 30, 31, 32, 33, 34, 35, 36, 37, 38, 39, 40] (by decide +kernel) (by decide +kernel)
set_option maxRecDepth 20000 in
theorem gX8_takeOut_X8_note : GoodIn wsX8_takeOut (wsV RX8 163 RX8 yX8_note wsX8_note) := goodIn_app (goodIn_of _ (by decide +kernel)) ggX8_takeOut_X8_note
set_option maxRecDepth 20000 in
theorem ggX8_takeOut_X8_bits : GoodIn wsX8_takeOut wsX8_bits := goodIn_r _ [13] (by decide +kernel) (by decide +kernel)
set_option maxRecDepth 20000 in
theorem gX8_takeOut_X8_bits : GoodIn wsX8_takeOut (va_wsS RX8 166 yX8_bits wsX8_bits) := goodIn_app (goodIn_of _ (by decide +kernel)) ggX8_takeOut_X8_bits
theorem dX8_takeOut_0 : decode cX8_takeOut 0 = .ok (.aload_n 0, 1) := by decide +kernel
theorem dX8_takeOut_1 : decode cX8_takeOut 1 = .ok (.invokevirtual 163, 3) := by decide +kernel
theorem dX8_takeOut_4 : decode cX8_takeOut 4 = .ok (.aload_n 0, 1) := by decide +kernel
theorem dX8_takeOut_5 : decode cX8_takeOut 5 = .ok (.getfield 40, 3) := by decide +kernel
theorem dX8_takeOut_8 : decode cX8_takeOut 8 = .ok (.iconst 0, 1) := by decide +kernel
theorem dX8_takeOut_9 : decode cX8_takeOut 9 = .ok (.dup2, 1) := by decide +kernel
theorem dX8_takeOut_10 : decode cX8_takeOut 10 = .ok (.iaload, 1) := by decide +kernel
theorem dX8_takeOut_11 : decode cX8_takeOut 11 = .ok (.iload_n 1, 1) := by decide +kernel
theorem dX8_takeOut_12 : decode cX8_takeOut 12 = .ok (.iconst (-1), 1) := by decide +kernel
theorem dX8_takeOut_13 : decode cX8_takeOut 13 = .ok (.ixor, 1) := by decide +kernel
theorem dX8_takeOut_14 : decode cX8_takeOut 14 = .ok (.iand, 1) := by decide +kernel
theorem dX8_takeOut_15 : decode cX8_takeOut 15 = .ok (.iastore, 1) := by decide +kernel
theorem dX8_takeOut_16 : decode cX8_takeOut 16 = .ok (.iload_n 1, 1) := by decide +kernel
theorem dX8_takeOut_17 : decode cX8_takeOut 17 = .ok (.invokestatic 166, 3) := by decide +kernel
theorem dX8_takeOut_20 : decode cX8_takeOut 20 = .ok (.ireturn, 1) := by decide +kernel
set_option maxRecDepth 20000 in
theorem ggX8_undo_X8_isThere : GoodIn wsX8_undo wsX8_isThere := goodIn_r _ [8, 9, 10, 11, 7, 12, 43, 44, 45, 46, 47, 48, 49, 50, 51, 52, 53, 54, 55, 56, 57, 58, 59, 60, 61, 62, 63, 64, 65, 66, 67, 68, 69] (by decide +kernel) (by decide +kernel)
set_option maxRecDepth 20000 in
theorem gX8_undo_X8_isThere : GoodIn wsX8_undo (wsV RX8 144 RX8 yX8_isThere wsX8_isThere) := goodIn_app (goodIn_of _ (by decide +kernel)) ggX8_undo_X8_isThere
set_option maxRecDepth 20000 in
theorem ggX8_undo_X8_mayBe : GoodIn wsX8_undo wsX8_mayBe := goodIn_r _ [16, 9, 17, 18, 19, 20, 21, 22, 23, 24, 7, 25, 26, 27, 28, 29, 43, 44, 45, 46, 47, 48, 49, 50, 51, 52, 53, 54, 55, 56, 57, 58, 59, 60, 61, 62, 63, 64, 65, 66, 67, 68, 69] (by decide +kernel) (by decide +kernel)
set_option maxRecDepth 20000 in
theorem gX8_undo_X8_mayBe : GoodIn wsX8_undo (wsV RX8 159 RX8 yX8_mayBe wsX8_mayBe) := goodIn_app (goodIn_of _ (by decide +kernel)) ggX8_undo_X8_mayBe
set_option maxRecDepth 20000 in
theorem ggX8_undo_X8_takeOut : GoodIn wsX8_undo wsX8_takeOut := goodIn_r _ [33, 1, 34, 35, 36, 7, 37, 38, 39, 9, 3, 40, 41, 42, 43, 44, 45, 46, 47, 48, 49, 50, 51, 52, 53, 54, 55, 56, 57, 58, 59, 60, 61, 62, 63, 64, 65, 66, 67, 68, 69] (by decide +kernel) (by decide +kernel)
set_option maxRecDepth 20000 in
theorem gX8_undo_X8_takeOut : GoodIn wsX8_undo (wsV RX8 169 RX8 yX8_takeOut wsX8_takeOut) := goodIn_app (goodIn_of _ (by decide +kernel)) ggX8_undo_X8_takeOut
set_option maxRecDepth 20000 in
theorem ggX8_undo_X8_bits : GoodIn wsX8_undo wsX8_bits := goodIn_r _ [42] (by decide +kernel) (by decide +kernel)
set_option maxRecDepth 20000 in
theorem gX8_undo_X8_bits : GoodIn wsX8_undo (va_wsS RX8 166 yX8_bits wsX8_bits) := goodIn_app (goodIn_of _ (by decide +kernel)) ggX8_undo_X8_bits
theorem dX8_undo_0 : decode cX8_undo 0 = .ok (.aload_n 0, 1) := by decide +kernel
theorem dX8_undo_1 : decode cX8_undo 1 = .ok (.iload_n 1, 1) := by decide +kernel
theorem dX8_undo_2 : decode cX8_undo 2 = .ok (.invokevirtual 144, 3) := by decide +kernel
theorem dX8_undo_5 : decode cX8_undo 5 = .ok (.ifCond .ne 5, 3) := by decide +kernel
theorem dX8_undo_8 : decode cX8_undo 8 = .ok (.iconst (-1), 1) := by decide +kernel
theorem dX8_undo_9 : decode cX8_undo 9 = .ok (.ireturn, 1) := by decide +kernel
theorem dX8_undo_10 : decode cX8_undo 10 = .ok (.aload_n 0, 1) := by decide +kernel
theorem dX8_undo_11 : decode cX8_undo 11 = .ok (.iload_n 1, 1) := by decide +kernel
theorem dX8_undo_12 : decode cX8_undo 12 = .ok (.aload_n 0, 1) := by decide +kernel
theorem dX8_undo_13 : decode cX8_undo 13 = .ok (.getfield 40, 3) := by decide +kernel
theorem dX8_undo_16 : decode cX8_undo 16 = .ok (.iconst 0, 1) := by decide +kernel
theorem dX8_undo_17 : decode cX8_undo 17 = .ok (.iaload, 1) := by decide +kernel
theorem dX8_undo_18 : decode cX8_undo 18 = .ok (.aload_n 0, 1) := by decide +kernel
theorem dX8_undo_19 : decode cX8_undo 19 = .ok (.getfield 16, 3) := by decide +kernel
theorem dX8_undo_22 : decode cX8_undo 22 = .ok (.iconst 0, 1) := by decide +kernel
theorem dX8_undo_23 : decode cX8_undo 23 = .ok (.iaload, 1) := by decide +kernel
theorem dX8_undo_24 : decode cX8_undo 24 = .ok (.aload_n 0, 1) := by decide +kernel
theorem dX8_undo_25 : decode cX8_undo 25 = .ok (.getfield 43, 3) := by decide +kernel
theorem dX8_undo_28 : decode cX8_undo 28 = .ok (.iconst 0, 1) := by decide +kernel
theorem dX8_undo_29 : decode cX8_undo 29 = .ok (.iaload, 1) := by decide +kernel
theorem dX8_undo_30 : decode cX8_undo 30 = .ok (.invokevirtual 159, 3) := by decide +kernel
theorem dX8_undo_33 : decode cX8_undo 33 = .ok (.ifCond .ne 6, 3) := by decide +kernel
theorem dX8_undo_36 : decode cX8_undo 36 = .ok (.bipush (-2), 2) := by decide +kernel
theorem dX8_undo_38 : decode cX8_undo 38 = .ok (.ireturn, 1) := by decide +kernel
theorem dX8_undo_39 : decode cX8_undo 39 = .ok (.aload_n 0, 1) := by decide +kernel
theorem dX8_undo_40 : decode cX8_undo 40 = .ok (.iconst 1, 1) := by decide +kernel
theorem dX8_undo_41 : decode cX8_undo 41 = .ok (.iload_n 1, 1) := by decide +kernel
theorem dX8_undo_42 : decode cX8_undo 42 = .ok (.ishl, 1) := by decide +kernel
theorem dX8_undo_43 : decode cX8_undo 43 = .ok (.invokevirtual 169, 3) := by decide +kernel
theorem dX8_undo_46 : decode cX8_undo 46 = .ok (.pop, 1) := by decide +kernel
theorem dX8_undo_47 : decode cX8_undo 47 = .ok (.aload_n 0, 1) := by decide +kernel
theorem dX8_undo_48 : decode cX8_undo 48 = .ok (.getfield 40, 3) := by decide +kernel
theorem dX8_undo_51 : decode cX8_undo 51 = .ok (.iconst 0, 1) := by decide +kernel
theorem dX8_undo_52 : decode cX8_undo 52 = .ok (.iaload, 1) := by decide +kernel
theorem dX8_undo_53 : decode cX8_undo 53 = .ok (.invokestatic 166, 3) := by decide +kernel
theorem dX8_undo_56 : decode cX8_undo 56 = .ok (.ireturn, 1) := by decide +kernel
set_option maxRecDepth 20000 in
theorem ggX8_tie_X8_isKnot : GoodIn wsX8_tie wsX8_isKnot := goodIn_r _ [9, 10, 3, 11, 12, 13, 14, 8, 15, 35, 36, 37, 38, 39, 40, 41, 42, 43, 44, 45, 46, 47, 48, 49, 50, 51, 52, 53, 54, 55, 56, 57, 58, 59, 60, 61] (by decide +kernel) (by decide +kernel)
set_option maxRecDepth 20000 in
theorem gX8_tie_X8_isKnot : GoodIn wsX8_tie (wsV RX8 111 RX8 yX8_isKnot wsX8_isKnot) := goodIn_app (goodIn_of _ (by decide +kernel)) ggX8_tie_X8_isKnot
set_option maxRecDepth 20000 in
theorem ggX8_tie_X8_has : GoodIn wsX8_tie wsX8_has := goodIn_r _ [18] (by decide +kernel) (by decide +kernel)
set_option maxRecDepth 20000 in
theorem gX8_tie_X8_has : GoodIn wsX8_tie (va_wsS RX8 140 yX8_has wsX8_has) := goodIn_app (goodIn_of _ (by decide +kernel)) ggX8_tie_X8_has
set_option maxRecDepth 20000 in
theorem ggX8_tie_X8_note : GoodIn wsX8_tie wsX8_note := goodIn_r _ [22, 23, 24, 3, 2, 25, 35, 36, 37, 38, 39, 40, 41, 42, 43, 44, 45, 46, 47, 48, 49, 50, 51, 52, 53, 54, 55, 56, 57, 58, 59, 60, 61] (by decide +kernel) (by decide +kernel)
set_option maxRecDepth 20000 in
theorem gX8_tie_X8_note : GoodIn wsX8_tie (wsV RX8 163 RX8 yX8_note wsX8_note) := goodIn_app (goodIn_of _ (by decide +kernel)) ggX8_tie_X8_note
set_option maxRecDepth 20000 in
theorem ggX8_tie_X8_addKnot : GoodIn wsX8_tie wsX8_addKnot := goodIn_r _ [29, 3, 30, 31, 32, 33, 34, 2, 35, 36, 37, 38, 39, 40, 41, 42, 43, 44, 45, 46, 47, 48, 49, 50, 51, 52, 53, 54, 55, 56, 57, 58, 59, 60, 61] (by decide +kernel) (by decide +kernel)
set_option maxRecDepth 20000 in
theorem gX8_tie_X8_addKnot : GoodIn wsX8_tie (wsV RX8 115 RX8 yX8_addKnot wsX8_addKnot) := goodIn_app (goodIn_of _ (by decide +kernel)) ggX8_tie_X8_addKnot
theorem dX8_tie_0 : decode cX8_tie 0 = .ok (.aload_n 0, 1) := by decide +kernel
theorem dX8_tie_1 : decode cX8_tie 1 = .ok (.iconst 0, 1) := by decide +kernel
theorem dX8_tie_2 : decode cX8_tie 2 = .ok (.iload_n 1, 1) := by decide +kernel
theorem dX8_tie_3 : decode cX8_tie 3 = .ok (.iload_n 2, 1) := by decide +kernel
theorem dX8_tie_4 : decode cX8_tie 4 = .ok (.iload_n 3, 1) := by decide +kernel
theorem dX8_tie_5 : decode cX8_tie 5 = .ok (.iload 4, 2) := by decide +kernel
theorem dX8_tie_7 : decode cX8_tie 7 = .ok (.iload 5, 2) := by decide +kernel
theorem dX8_tie_9 : decode cX8_tie 9 = .ok (.invokevirtual 111, 3) := by decide +kernel
theorem dX8_tie_12 : decode cX8_tie 12 = .ok (.ifCond .ne 5, 3) := by decide +kernel
theorem dX8_tie_15 : decode cX8_tie 15 = .ok (.iconst (-1), 1) := by decide +kernel
theorem dX8_tie_16 : decode cX8_tie 16 = .ok (.ireturn, 1) := by decide +kernel
theorem dX8_tie_17 : decode cX8_tie 17 = .ok (.aload_n 0, 1) := by decide +kernel
theorem dX8_tie_18 : decode cX8_tie 18 = .ok (.getfield 16, 3) := by decide +kernel
theorem dX8_tie_21 : decode cX8_tie 21 = .ok (.iconst 0, 1) := by decide +kernel
theorem dX8_tie_22 : decode cX8_tie 22 = .ok (.iaload, 1) := by decide +kernel
theorem dX8_tie_23 : decode cX8_tie 23 = .ok (.iload_n 1, 1) := by decide +kernel
theorem dX8_tie_24 : decode cX8_tie 24 = .ok (.invokestatic 140, 3) := by decide +kernel
theorem dX8_tie_27 : decode cX8_tie 27 = .ok (.ifCond .eq 29, 3) := by decide +kernel
theorem dX8_tie_30 : decode cX8_tie 30 = .ok (.aload_n 0, 1) := by decide +kernel
theorem dX8_tie_31 : decode cX8_tie 31 = .ok (.getfield 16, 3) := by decide +kernel
theorem dX8_tie_34 : decode cX8_tie 34 = .ok (.iconst 0, 1) := by decide +kernel
theorem dX8_tie_35 : decode cX8_tie 35 = .ok (.iaload, 1) := by decide +kernel
theorem dX8_tie_36 : decode cX8_tie 36 = .ok (.iload_n 2, 1) := by decide +kernel
theorem dX8_tie_37 : decode cX8_tie 37 = .ok (.invokestatic 140, 3) := by decide +kernel
theorem dX8_tie_40 : decode cX8_tie 40 = .ok (.ifCond .eq 16, 3) := by decide +kernel
theorem dX8_tie_43 : decode cX8_tie 43 = .ok (.iload_n 3, 1) := by decide +kernel
theorem dX8_tie_44 : decode cX8_tie 44 = .ok (.aload_n 0, 1) := by decide +kernel
theorem dX8_tie_45 : decode cX8_tie 45 = .ok (.getfield 40, 3) := by decide +kernel
theorem dX8_tie_48 : decode cX8_tie 48 = .ok (.iconst 0, 1) := by decide +kernel
theorem dX8_tie_49 : decode cX8_tie 49 = .ok (.iaload, 1) := by decide +kernel
theorem dX8_tie_50 : decode cX8_tie 50 = .ok (.iconst (-1), 1) := by decide +kernel
theorem dX8_tie_51 : decode cX8_tie 51 = .ok (.ixor, 1) := by decide +kernel
theorem dX8_tie_52 : decode cX8_tie 52 = .ok (.iand, 1) := by decide +kernel
theorem dX8_tie_53 : decode cX8_tie 53 = .ok (.ifCond .eq 6, 3) := by decide +kernel
theorem dX8_tie_56 : decode cX8_tie 56 = .ok (.bipush (-2), 2) := by decide +kernel
theorem dX8_tie_58 : decode cX8_tie 58 = .ok (.ireturn, 1) := by decide +kernel
theorem dX8_tie_59 : decode cX8_tie 59 = .ok (.aload_n 0, 1) := by decide +kernel
theorem dX8_tie_60 : decode cX8_tie 60 = .ok (.getfield 22, 3) := by decide +kernel
theorem dX8_tie_63 : decode cX8_tie 63 = .ok (.iconst 0, 1) := by decide +kernel
theorem dX8_tie_64 : decode cX8_tie 64 = .ok (.iaload, 1) := by decide +kernel
theorem dX8_tie_65 : decode cX8_tie 65 = .ok (.bipush 8, 2) := by decide +kernel
theorem dX8_tie_67 : decode cX8_tie 67 = .ok (.if_icmp .ne 6, 3) := by decide +kernel
theorem dX8_tie_70 : decode cX8_tie 70 = .ok (.bipush (-3), 2) := by decide +kernel
theorem dX8_tie_72 : decode cX8_tie 72 = .ok (.ireturn, 1) := by decide +kernel
theorem dX8_tie_73 : decode cX8_tie 73 = .ok (.aload_n 0, 1) := by decide +kernel
theorem dX8_tie_74 : decode cX8_tie 74 = .ok (.invokevirtual 163, 3) := by decide +kernel
theorem dX8_tie_77 : decode cX8_tie 77 = .ok (.aload_n 0, 1) := by decide +kernel
theorem dX8_tie_78 : decode cX8_tie 78 = .ok (.iconst 0, 1) := by decide +kernel
theorem dX8_tie_79 : decode cX8_tie 79 = .ok (.iload_n 1, 1) := by decide +kernel
theorem dX8_tie_80 : decode cX8_tie 80 = .ok (.iload_n 2, 1) := by decide +kernel
theorem dX8_tie_81 : decode cX8_tie 81 = .ok (.iload_n 3, 1) := by decide +kernel
theorem dX8_tie_82 : decode cX8_tie 82 = .ok (.iload 4, 2) := by decide +kernel
theorem dX8_tie_84 : decode cX8_tie 84 = .ok (.iload 5, 2) := by decide +kernel
theorem dX8_tie_86 : decode cX8_tie 86 = .ok (.invokevirtual 115, 3) := by decide +kernel
theorem dX8_tie_89 : decode cX8_tie 89 = .ok (.aload_n 0, 1) := by decide +kernel
theorem dX8_tie_90 : decode cX8_tie 90 = .ok (.iconst 0, 1) := by decide +kernel
theorem dX8_tie_91 : decode cX8_tie 91 = .ok (.putfield 137, 3) := by decide +kernel
theorem dX8_tie_94 : decode cX8_tie 94 = .ok (.aload_n 0, 1) := by decide +kernel
theorem dX8_tie_95 : decode cX8_tie 95 = .ok (.getfield 22, 3) := by decide +kernel
theorem dX8_tie_98 : decode cX8_tie 98 = .ok (.iconst 0, 1) := by decide +kernel
theorem dX8_tie_99 : decode cX8_tie 99 = .ok (.iaload, 1) := by decide +kernel
theorem dX8_tie_100 : decode cX8_tie 100 = .ok (.iconst 1, 1) := by decide +kernel
theorem dX8_tie_101 : decode cX8_tie 101 = .ok (.isub, 1) := by decide +kernel
theorem dX8_tie_102 : decode cX8_tie 102 = .ok (.ireturn, 1) := by decide +kernel
set_option maxRecDepth 20000 in
theorem ggX8_pull_X8_isThere : GoodIn wsX8_pull wsX8_isThere := goodIn_r _ [8, 2, 9, 10, 7, 11, 34, 35, 36, 37, 38, 39, 40, 41, 42, 43, 44, 45, 46, 47, 48, 49, 50, 51, 52, 53, 54, 55, 56, 57, 58, 59, 60] (by decide +kernel) (by decide +kernel)
set_option maxRecDepth 20000 in
theorem gX8_pull_X8_isThere : GoodIn wsX8_pull (wsV RX8 144 RX8 yX8_isThere wsX8_isThere) := goodIn_app (goodIn_of _ (by decide +kernel)) ggX8_pull_X8_isThere
set_option maxRecDepth 20000 in
theorem ggX8_pull_X8_above : GoodIn wsX8_pull wsX8_above := goodIn_r _ [15, 2, 16, 17, 18, 7, 19, 34, 35, 36, 37, 38, 39, 40, 41, 42, 43, 44, 45, 46, 47, 48, 49, 50, 51, 52, 53, 54, 55, 56, 57, 58, 59, 60] (by decide +kernel) (by decide +kernel)
set_option maxRecDepth 20000 in
theorem gX8_pull_X8_above : GoodIn wsX8_pull (wsV RX8 149 RX8 yX8_above wsX8_above) := goodIn_app (goodIn_of _ (by decide +kernel)) ggX8_pull_X8_above
set_option maxRecDepth 20000 in
theorem ggX8_pull_X8_has : GoodIn wsX8_pull wsX8_has := goodIn_r _ [19] (by decide +kernel) (by decide +kernel)
set_option maxRecDepth 20000 in
theorem gX8_pull_X8_has : GoodIn wsX8_pull (va_wsS RX8 140 yX8_has wsX8_has) := goodIn_app (goodIn_of _ (by decide +kernel)) ggX8_pull_X8_has
set_option maxRecDepth 20000 in
theorem ggX8_pull_X8_takeOut : GoodIn wsX8_pull wsX8_takeOut := goodIn_r _ [23, 1, 24, 25, 26, 7, 27, 28, 29, 2, 30, 31, 32, 33, 34, 35, 36, 37, 38, 39, 40, 41, 42, 43, 44, 45, 46, 47, 48, 49, 50, 51, 52, 53, 54, 55, 56, 57, 58, 59, 60] (by decide +kernel) (by decide +kernel)
set_option maxRecDepth 20000 in
theorem gX8_pull_X8_takeOut : GoodIn wsX8_pull (wsV RX8 169 RX8 yX8_takeOut wsX8_takeOut) := goodIn_app (goodIn_of _ (by decide +kernel)) ggX8_pull_X8_takeOut
theorem dX8_pull_0 : decode cX8_pull 0 = .ok (.aload_n 0, 1) := by decide +kernel
theorem dX8_pull_1 : decode cX8_pull 1 = .ok (.iload_n 1, 1) := by decide +kernel
theorem dX8_pull_2 : decode cX8_pull 2 = .ok (.invokevirtual 144, 3) := by decide +kernel
theorem dX8_pull_5 : decode cX8_pull 5 = .ok (.ifCond .ne 5, 3) := by decide +kernel
theorem dX8_pull_8 : decode cX8_pull 8 = .ok (.iconst (-1), 1) := by decide +kernel
theorem dX8_pull_9 : decode cX8_pull 9 = .ok (.ireturn, 1) := by decide +kernel
theorem dX8_pull_10 : decode cX8_pull 10 = .ok (.aload_n 0, 1) := by decide +kernel
theorem dX8_pull_11 : decode cX8_pull 11 = .ok (.iload_n 1, 1) := by decide +kernel
theorem dX8_pull_12 : decode cX8_pull 12 = .ok (.aload_n 0, 1) := by decide +kernel
theorem dX8_pull_13 : decode cX8_pull 13 = .ok (.getfield 40, 3) := by decide +kernel
theorem dX8_pull_16 : decode cX8_pull 16 = .ok (.iconst 0, 1) := by decide +kernel
theorem dX8_pull_17 : decode cX8_pull 17 = .ok (.iaload, 1) := by decide +kernel
theorem dX8_pull_18 : decode cX8_pull 18 = .ok (.invokevirtual 149, 3) := by decide +kernel
theorem dX8_pull_21 : decode cX8_pull 21 = .ok (.iconst 1, 1) := by decide +kernel
theorem dX8_pull_22 : decode cX8_pull 22 = .ok (.iload_n 1, 1) := by decide +kernel
theorem dX8_pull_23 : decode cX8_pull 23 = .ok (.ishl, 1) := by decide +kernel
theorem dX8_pull_24 : decode cX8_pull 24 = .ok (.ior, 1) := by decide +kernel
theorem dX8_pull_25 : decode cX8_pull 25 = .ok (.istore_n 2, 1) := by decide +kernel
theorem dX8_pull_26 : decode cX8_pull 26 = .ok (.aload_n 0, 1) := by decide +kernel
theorem dX8_pull_27 : decode cX8_pull 27 = .ok (.getfield 40, 3) := by decide +kernel
theorem dX8_pull_30 : decode cX8_pull 30 = .ok (.iconst 0, 1) := by decide +kernel
theorem dX8_pull_31 : decode cX8_pull 31 = .ok (.iaload, 1) := by decide +kernel
theorem dX8_pull_32 : decode cX8_pull 32 = .ok (.iload_n 1, 1) := by decide +kernel
theorem dX8_pull_33 : decode cX8_pull 33 = .ok (.invokestatic 140, 3) := by decide +kernel
theorem dX8_pull_36 : decode cX8_pull 36 = .ok (.istore_n 3, 1) := by decide +kernel
theorem dX8_pull_37 : decode cX8_pull 37 = .ok (.iconst 0, 1) := by decide +kernel
theorem dX8_pull_38 : decode cX8_pull 38 = .ok (.istore 4, 2) := by decide +kernel
theorem dX8_pull_40 : decode cX8_pull 40 = .ok (.iload 4, 2) := by decide +kernel
theorem dX8_pull_42 : decode cX8_pull 42 = .ok (.aload_n 0, 1) := by decide +kernel
theorem dX8_pull_43 : decode cX8_pull 43 = .ok (.getfield 22, 3) := by decide +kernel
theorem dX8_pull_46 : decode cX8_pull 46 = .ok (.iconst 0, 1) := by decide +kernel
theorem dX8_pull_47 : decode cX8_pull 47 = .ok (.iaload, 1) := by decide +kernel
theorem dX8_pull_48 : decode cX8_pull 48 = .ok (.if_icmp .ge 39, 3) := by decide +kernel
theorem dX8_pull_51 : decode cX8_pull 51 = .ok (.iload_n 3, 1) := by decide +kernel
theorem dX8_pull_52 : decode cX8_pull 52 = .ok (.ifCond .eq 27, 3) := by decide +kernel
theorem dX8_pull_55 : decode cX8_pull 55 = .ok (.iload_n 2, 1) := by decide +kernel
theorem dX8_pull_56 : decode cX8_pull 56 = .ok (.iload 4, 2) := by decide +kernel
theorem dX8_pull_58 : decode cX8_pull 58 = .ok (.invokestatic 140, 3) := by decide +kernel
theorem dX8_pull_61 : decode cX8_pull 61 = .ok (.ifCond .eq 14, 3) := by decide +kernel
theorem dX8_pull_64 : decode cX8_pull 64 = .ok (.aload_n 0, 1) := by decide +kernel
theorem dX8_pull_65 : decode cX8_pull 65 = .ok (.getfield 37, 3) := by decide +kernel
theorem dX8_pull_68 : decode cX8_pull 68 = .ok (.iload 4, 2) := by decide +kernel
theorem dX8_pull_70 : decode cX8_pull 70 = .ok (.iaload, 1) := by decide +kernel
theorem dX8_pull_71 : decode cX8_pull 71 = .ok (.iconst 1, 1) := by decide +kernel
theorem dX8_pull_72 : decode cX8_pull 72 = .ok (.if_icmp .ne 7, 3) := by decide +kernel
theorem dX8_pull_75 : decode cX8_pull 75 = .ok (.iconst 1, 1) := by decide +kernel
theorem dX8_pull_76 : decode cX8_pull 76 = .ok (.goto 4, 3) := by decide +kernel
theorem dX8_pull_79 : decode cX8_pull 79 = .ok (.iconst 0, 1) := by decide +kernel
theorem dX8_pull_80 : decode cX8_pull 80 = .ok (.istore_n 3, 1) := by decide +kernel
theorem dX8_pull_81 : decode cX8_pull 81 = .ok (.iinc 4 1, 3) := by decide +kernel
theorem dX8_pull_84 : decode cX8_pull 84 = .ok (.goto (-44), 3) := by decide +kernel
theorem dX8_pull_87 : decode cX8_pull 87 = .ok (.iload_n 3, 1) := by decide +kernel
theorem dX8_pull_88 : decode cX8_pull 88 = .ok (.ifCond .eq 11, 3) := by decide +kernel
theorem dX8_pull_91 : decode cX8_pull 91 = .ok (.aload_n 0, 1) := by decide +kernel
theorem dX8_pull_92 : decode cX8_pull 92 = .ok (.iload_n 2, 1) := by decide +kernel
theorem dX8_pull_93 : decode cX8_pull 93 = .ok (.invokevirtual 169, 3) := by decide +kernel
theorem dX8_pull_96 : decode cX8_pull 96 = .ok (.goto 5, 3) := by decide +kernel
theorem dX8_pull_99 : decode cX8_pull 99 = .ok (.bipush (-2), 2) := by decide +kernel
theorem dX8_pull_101 : decode cX8_pull 101 = .ok (.ireturn, 1) := by decide +kernel
set_option maxRecDepth 20000 in
theorem ggX8_cut_X8_isThere : GoodIn wsX8_cut wsX8_isThere := goodIn_r _ [6, 7, 8, 9, 5, 10, 33, 34, 35, 36, 37, 38, 39, 40, 41, 42, 43, 44, 45, 46, 47, 48, 49, 50, 51, 52, 53, 54, 55, 56, 57, 58, 59] (by decide +kernel) (by decide +kernel)
set_option maxRecDepth 20000 in
theorem gX8_cut_X8_isThere : GoodIn wsX8_cut (wsV RX8 144 RX8 yX8_isThere wsX8_isThere) := goodIn_app (goodIn_of _ (by decide +kernel)) ggX8_cut_X8_isThere
set_option maxRecDepth 20000 in
theorem ggX8_cut_X8_has : GoodIn wsX8_cut wsX8_has := goodIn_r _ [13] (by decide +kernel) (by decide +kernel)
set_option maxRecDepth 20000 in
theorem gX8_cut_X8_has : GoodIn wsX8_cut (va_wsS RX8 140 yX8_has wsX8_has) := goodIn_app (goodIn_of _ (by decide +kernel)) ggX8_cut_X8_has
set_option maxRecDepth 20000 in
theorem ggX8_cut_X8_above : GoodIn wsX8_cut wsX8_above := goodIn_r _ [17, 7, 18, 11, 12, 5, 13, 33, 34, 35, 36, 37, 38, 39, 40, 41, 42, 43, 44, 45, 46, 47, 48, 49, 50, 51, 52, 53, 54, 55, 56, 57, 58, 59] (by decide +kernel) (by decide +kernel)
set_option maxRecDepth 20000 in
theorem gX8_cut_X8_above : GoodIn wsX8_cut (wsV RX8 149 RX8 yX8_above wsX8_above) := goodIn_app (goodIn_of _ (by decide +kernel)) ggX8_cut_X8_above
set_option maxRecDepth 20000 in
theorem ggX8_cut_X8_takeOut : GoodIn wsX8_cut wsX8_takeOut := goodIn_r _ [22, 1, 23, 24, 25, 5, 26, 27, 28, 7, 29, 30, 31, 32, 33, 34, 35, 36, 37, 38, 39, 40, 41, 42, 43, 44, 45, 46, 47, 48, 49, 50, 51, 52, 53, 54, 55, 56, 57, 58, 59] (by decide +kernel) (by decide +kernel)
set_option maxRecDepth 20000 in
theorem gX8_cut_X8_takeOut : GoodIn wsX8_cut (wsV RX8 169 RX8 yX8_takeOut wsX8_takeOut) := goodIn_app (goodIn_of _ (by decide +kernel)) ggX8_cut_X8_takeOut
theorem dX8_cut_0 : decode cX8_cut 0 = .ok (.aload_n 0, 1) := by decide +kernel
theorem dX8_cut_1 : decode cX8_cut 1 = .ok (.iload_n 1, 1) := by decide +kernel
theorem dX8_cut_2 : decode cX8_cut 2 = .ok (.invokevirtual 144, 3) := by decide +kernel
theorem dX8_cut_5 : decode cX8_cut 5 = .ok (.ifCond .ne 5, 3) := by decide +kernel
theorem dX8_cut_8 : decode cX8_cut 8 = .ok (.iconst (-1), 1) := by decide +kernel
theorem dX8_cut_9 : decode cX8_cut 9 = .ok (.ireturn, 1) := by decide +kernel
theorem dX8_cut_10 : decode cX8_cut 10 = .ok (.aload_n 0, 1) := by decide +kernel
theorem dX8_cut_11 : decode cX8_cut 11 = .ok (.getfield 40, 3) := by decide +kernel
theorem dX8_cut_14 : decode cX8_cut 14 = .ok (.iconst 0, 1) := by decide +kernel
theorem dX8_cut_15 : decode cX8_cut 15 = .ok (.iaload, 1) := by decide +kernel
theorem dX8_cut_16 : decode cX8_cut 16 = .ok (.iload_n 1, 1) := by decide +kernel
theorem dX8_cut_17 : decode cX8_cut 17 = .ok (.invokestatic 140, 3) := by decide +kernel
theorem dX8_cut_20 : decode cX8_cut 20 = .ok (.ifCond .eq 25, 3) := by decide +kernel
theorem dX8_cut_23 : decode cX8_cut 23 = .ok (.aload_n 0, 1) := by decide +kernel
theorem dX8_cut_24 : decode cX8_cut 24 = .ok (.aload_n 0, 1) := by decide +kernel
theorem dX8_cut_25 : decode cX8_cut 25 = .ok (.iload_n 1, 1) := by decide +kernel
theorem dX8_cut_26 : decode cX8_cut 26 = .ok (.aload_n 0, 1) := by decide +kernel
theorem dX8_cut_27 : decode cX8_cut 27 = .ok (.getfield 40, 3) := by decide +kernel
theorem dX8_cut_30 : decode cX8_cut 30 = .ok (.iconst 0, 1) := by decide +kernel
theorem dX8_cut_31 : decode cX8_cut 31 = .ok (.iaload, 1) := by decide +kernel
theorem dX8_cut_32 : decode cX8_cut 32 = .ok (.invokevirtual 149, 3) := by decide +kernel
theorem dX8_cut_35 : decode cX8_cut 35 = .ok (.iconst 1, 1) := by decide +kernel
theorem dX8_cut_36 : decode cX8_cut 36 = .ok (.iload_n 1, 1) := by decide +kernel
theorem dX8_cut_37 : decode cX8_cut 37 = .ok (.ishl, 1) := by decide +kernel
theorem dX8_cut_38 : decode cX8_cut 38 = .ok (.ior, 1) := by decide +kernel
theorem dX8_cut_39 : decode cX8_cut 39 = .ok (.invokevirtual 169, 3) := by decide +kernel
theorem dX8_cut_42 : decode cX8_cut 42 = .ok (.goto 5, 3) := by decide +kernel
theorem dX8_cut_45 : decode cX8_cut 45 = .ok (.bipush (-2), 2) := by decide +kernel
theorem dX8_cut_47 : decode cX8_cut 47 = .ok (.ireturn, 1) := by decide +kernel
set_option maxRecDepth 20000 in
theorem ggX8_days_X8_in : GoodIn wsX8_days wsX8_in := goodIn_r _ [6] (by decide +kernel) (by decide +kernel)
set_option maxRecDepth 20000 in
theorem gX8_days_X8_in : GoodIn wsX8_days (va_wsS RX8 82 yX8_in wsX8_in) := goodIn_app (goodIn_of _ (by decide +kernel)) ggX8_days_X8_in
set_option maxRecDepth 20000 in
theorem ggX8_days_X8_note : GoodIn wsX8_days wsX8_note := goodIn_r _ [10, 11, 12, 13, 14, 2, 15, 16, 17, 18, 19, 20, 21, 22, 23, 24, 25, 26, 27, 28, 29, 30, 31, 32, 33, 34, 35, 36, 37, 38, 39, 40, 41] (by decide +kernel) (by decide +kernel)
set_option maxRecDepth 20000 in
theorem gX8_days_X8_note : GoodIn wsX8_days (wsV RX8 163 RX8 yX8_note wsX8_note) := goodIn_app (goodIn_of _ (by decide +kernel)) ggX8_days_X8_note
theorem dX8_days_0 : decode cX8_days 0 = .ok (.iload_n 1, 1) := by decide +kernel
theorem dX8_days_1 : decode cX8_days 1 = .ok (.i2l, 1) := by decide +kernel
theorem dX8_days_2 : decode cX8_days 2 = .ok (.lconst 1, 1) := by decide +kernel
theorem dX8_days_3 : decode cX8_days 3 = .ok (.ldc2_w 105, 3) := by decide +kernel
theorem dX8_days_6 : decode cX8_days 6 = .ok (.invokestatic 82, 3) := by decide +kernel
theorem dX8_days_9 : decode cX8_days 9 = .ok (.ifCond .ne 5, 3) := by decide +kernel
theorem dX8_days_12 : decode cX8_days 12 = .ok (.iconst (-1), 1) := by decide +kernel
theorem dX8_days_13 : decode cX8_days 13 = .ok (.ireturn, 1) := by decide +kernel
theorem dX8_days_14 : decode cX8_days 14 = .ok (.aload_n 0, 1) := by decide +kernel
theorem dX8_days_15 : decode cX8_days 15 = .ok (.getfield 43, 3) := by decide +kernel
theorem dX8_days_18 : decode cX8_days 18 = .ok (.iconst 0, 1) := by decide +kernel
theorem dX8_days_19 : decode cX8_days 19 = .ok (.iaload, 1) := by decide +kernel
theorem dX8_days_20 : decode cX8_days 20 = .ok (.iload_n 1, 1) := by decide +kernel
theorem dX8_days_21 : decode cX8_days 21 = .ok (.iadd, 1) := by decide +kernel
theorem dX8_days_22 : decode cX8_days 22 = .ok (.bipush 99, 2) := by decide +kernel
theorem dX8_days_24 : decode cX8_days 24 = .ok (.if_icmp .le 6, 3) := by decide +kernel
theorem dX8_days_27 : decode cX8_days 27 = .ok (.bipush (-2), 2) := by decide +kernel
theorem dX8_days_29 : decode cX8_days 29 = .ok (.ireturn, 1) := by decide +kernel
theorem dX8_days_30 : decode cX8_days 30 = .ok (.aload_n 0, 1) := by decide +kernel
theorem dX8_days_31 : decode cX8_days 31 = .ok (.invokevirtual 163, 3) := by decide +kernel
theorem dX8_days_34 : decode cX8_days 34 = .ok (.aload_n 0, 1) := by decide +kernel
theorem dX8_days_35 : decode cX8_days 35 = .ok (.getfield 43, 3) := by decide +kernel
theorem dX8_days_38 : decode cX8_days 38 = .ok (.iconst 0, 1) := by decide +kernel
theorem dX8_days_39 : decode cX8_days 39 = .ok (.dup2, 1) := by decide +kernel
theorem dX8_days_40 : decode cX8_days 40 = .ok (.iaload, 1) := by decide +kernel
theorem dX8_days_41 : decode cX8_days 41 = .ok (.iload_n 1, 1) := by decide +kernel
theorem dX8_days_42 : decode cX8_days 42 = .ok (.iadd, 1) := by decide +kernel
theorem dX8_days_43 : decode cX8_days 43 = .ok (.iastore, 1) := by decide +kernel
theorem dX8_days_44 : decode cX8_days 44 = .ok (.aload_n 0, 1) := by decide +kernel
theorem dX8_days_45 : decode cX8_days 45 = .ok (.getfield 43, 3) := by decide +kernel
theorem dX8_days_48 : decode cX8_days 48 = .ok (.iconst 0, 1) := by decide +kernel
theorem dX8_days_49 : decode cX8_days 49 = .ok (.iaload, 1) := by decide +kernel
theorem dX8_days_50 : decode cX8_days 50 = .ok (.ireturn, 1) := by decide +kernel
theorem dX8_takeBack_0 : decode cX8_takeBack 0 = .ok (.aload_n 0, 1) := by decide +kernel
theorem dX8_takeBack_1 : decode cX8_takeBack 1 = .ok (.getfield 134, 3) := by decide +kernel
theorem dX8_takeBack_4 : decode cX8_takeBack 4 = .ok (.ifCond .ne 6, 3) := by decide +kernel
theorem dX8_takeBack_7 : decode cX8_takeBack 7 = .ok (.bipush (-2), 2) := by decide +kernel
theorem dX8_takeBack_9 : decode cX8_takeBack 9 = .ok (.ireturn, 1) := by decide +kernel
theorem dX8_takeBack_10 : decode cX8_takeBack 10 = .ok (.aload_n 0, 1) := by decide +kernel
theorem dX8_takeBack_11 : decode cX8_takeBack 11 = .ok (.dup, 1) := by decide +kernel
theorem dX8_takeBack_12 : decode cX8_takeBack 12 = .ok (.getfield 134, 3) := by decide +kernel
theorem dX8_takeBack_15 : decode cX8_takeBack 15 = .ok (.iconst 1, 1) := by decide +kernel
theorem dX8_takeBack_16 : decode cX8_takeBack 16 = .ok (.isub, 1) := by decide +kernel
theorem dX8_takeBack_17 : decode cX8_takeBack 17 = .ok (.putfield 134, 3) := by decide +kernel
theorem dX8_takeBack_20 : decode cX8_takeBack 20 = .ok (.aload_n 0, 1) := by decide +kernel
theorem dX8_takeBack_21 : decode cX8_takeBack 21 = .ok (.getfield 22, 3) := by decide +kernel
theorem dX8_takeBack_24 : decode cX8_takeBack 24 = .ok (.iconst 0, 1) := by decide +kernel
theorem dX8_takeBack_25 : decode cX8_takeBack 25 = .ok (.aload_n 0, 1) := by decide +kernel
theorem dX8_takeBack_26 : decode cX8_takeBack 26 = .ok (.getfield 46, 3) := by decide +kernel
theorem dX8_takeBack_29 : decode cX8_takeBack 29 = .ok (.iconst 3, 1) := by decide +kernel
theorem dX8_takeBack_30 : decode cX8_takeBack 30 = .ok (.aload_n 0, 1) := by decide +kernel
theorem dX8_takeBack_31 : decode cX8_takeBack 31 = .ok (.getfield 134, 3) := by decide +kernel
theorem dX8_takeBack_34 : decode cX8_takeBack 34 = .ok (.imul, 1) := by decide +kernel
theorem dX8_takeBack_35 : decode cX8_takeBack 35 = .ok (.iaload, 1) := by decide +kernel
theorem dX8_takeBack_36 : decode cX8_takeBack 36 = .ok (.iastore, 1) := by decide +kernel
theorem dX8_takeBack_37 : decode cX8_takeBack 37 = .ok (.aload_n 0, 1) := by decide +kernel
theorem dX8_takeBack_38 : decode cX8_takeBack 38 = .ok (.getfield 40, 3) := by decide +kernel
theorem dX8_takeBack_41 : decode cX8_takeBack 41 = .ok (.iconst 0, 1) := by decide +kernel
theorem dX8_takeBack_42 : decode cX8_takeBack 42 = .ok (.aload_n 0, 1) := by decide +kernel
theorem dX8_takeBack_43 : decode cX8_takeBack 43 = .ok (.getfield 46, 3) := by decide +kernel
theorem dX8_takeBack_46 : decode cX8_takeBack 46 = .ok (.iconst 3, 1) := by decide +kernel
theorem dX8_takeBack_47 : decode cX8_takeBack 47 = .ok (.aload_n 0, 1) := by decide +kernel
theorem dX8_takeBack_48 : decode cX8_takeBack 48 = .ok (.getfield 134, 3) := by decide +kernel
theorem dX8_takeBack_51 : decode cX8_takeBack 51 = .ok (.imul, 1) := by decide +kernel
theorem dX8_takeBack_52 : decode cX8_takeBack 52 = .ok (.iconst 1, 1) := by decide +kernel
theorem dX8_takeBack_53 : decode cX8_takeBack 53 = .ok (.iadd, 1) := by decide +kernel
theorem dX8_takeBack_54 : decode cX8_takeBack 54 = .ok (.iaload, 1) := by decide +kernel
theorem dX8_takeBack_55 : decode cX8_takeBack 55 = .ok (.iastore, 1) := by decide +kernel
theorem dX8_takeBack_56 : decode cX8_takeBack 56 = .ok (.aload_n 0, 1) := by decide +kernel
theorem dX8_takeBack_57 : decode cX8_takeBack 57 = .ok (.getfield 43, 3) := by decide +kernel
theorem dX8_takeBack_60 : decode cX8_takeBack 60 = .ok (.iconst 0, 1) := by decide +kernel
theorem dX8_takeBack_61 : decode cX8_takeBack 61 = .ok (.aload_n 0, 1) := by decide +kernel
theorem dX8_takeBack_62 : decode cX8_takeBack 62 = .ok (.getfield 46, 3) := by decide +kernel
theorem dX8_takeBack_65 : decode cX8_takeBack 65 = .ok (.iconst 3, 1) := by decide +kernel
theorem dX8_takeBack_66 : decode cX8_takeBack 66 = .ok (.aload_n 0, 1) := by decide +kernel
theorem dX8_takeBack_67 : decode cX8_takeBack 67 = .ok (.getfield 134, 3) := by decide +kernel
theorem dX8_takeBack_70 : decode cX8_takeBack 70 = .ok (.imul, 1) := by decide +kernel
theorem dX8_takeBack_71 : decode cX8_takeBack 71 = .ok (.iconst 2, 1) := by decide +kernel
theorem dX8_takeBack_72 : decode cX8_takeBack 72 = .ok (.iadd, 1) := by decide +kernel
theorem dX8_takeBack_73 : decode cX8_takeBack 73 = .ok (.iaload, 1) := by decide +kernel
theorem dX8_takeBack_74 : decode cX8_takeBack 74 = .ok (.iastore, 1) := by decide +kernel
theorem dX8_takeBack_75 : decode cX8_takeBack 75 = .ok (.aload_n 0, 1) := by decide +kernel
theorem dX8_takeBack_76 : decode cX8_takeBack 76 = .ok (.iconst 0, 1) := by decide +kernel
theorem dX8_takeBack_77 : decode cX8_takeBack 77 = .ok (.putfield 137, 3) := by decide +kernel
theorem dX8_takeBack_80 : decode cX8_takeBack 80 = .ok (.aload_n 0, 1) := by decide +kernel
theorem dX8_takeBack_81 : decode cX8_takeBack 81 = .ok (.getfield 134, 3) := by decide +kernel
theorem dX8_takeBack_84 : decode cX8_takeBack 84 = .ok (.ireturn, 1) := by decide +kernel
set_option maxRecDepth 20000 in
theorem ggX8_undoSet_X8_has : GoodIn wsX8_undoSet wsX8_has := goodIn_r _ [7] (by decide +kernel) (by decide +kernel)
set_option maxRecDepth 20000 in
theorem gX8_undoSet_X8_has : GoodIn wsX8_undoSet (va_wsS RX8 140 yX8_has wsX8_has) := goodIn_app (goodIn_of _ (by decide +kernel)) ggX8_undoSet_X8_has
set_option maxRecDepth 20000 in
theorem ggX8_undoSet_X8_mayBe : GoodIn wsX8_undoSet wsX8_mayBe := goodIn_r _ [11, 2, 12, 13, 14, 15, 16, 17, 4, 5, 6, 7, 18, 19, 20, 21, 22, 23, 24, 25, 26, 27, 28, 29, 30, 31, 32, 33, 34, 35, 36, 37, 38, 39, 40, 41, 42, 43, 44, 45, 46, 47, 48] (by decide +kernel) (by decide +kernel)
set_option maxRecDepth 20000 in
theorem gX8_undoSet_X8_mayBe : GoodIn wsX8_undoSet (wsV RX8 159 RX8 yX8_mayBe wsX8_mayBe) := goodIn_app (goodIn_of _ (by decide +kernel)) ggX8_undoSet_X8_mayBe
theorem dX8_undoSet_0 : decode cX8_undoSet 0 = .ok (.aload_n 0, 1) := by decide +kernel
theorem dX8_undoSet_1 : decode cX8_undoSet 1 = .ok (.getfield 40, 3) := by decide +kernel
theorem dX8_undoSet_4 : decode cX8_undoSet 4 = .ok (.iconst 0, 1) := by decide +kernel
theorem dX8_undoSet_5 : decode cX8_undoSet 5 = .ok (.iaload, 1) := by decide +kernel
theorem dX8_undoSet_6 : decode cX8_undoSet 6 = .ok (.istore 4, 2) := by decide +kernel
theorem dX8_undoSet_8 : decode cX8_undoSet 8 = .ok (.iconst 0, 1) := by decide +kernel
theorem dX8_undoSet_9 : decode cX8_undoSet 9 = .ok (.istore 5, 2) := by decide +kernel
theorem dX8_undoSet_11 : decode cX8_undoSet 11 = .ok (.iconst 1, 1) := by decide +kernel
theorem dX8_undoSet_12 : decode cX8_undoSet 12 = .ok (.istore 6, 2) := by decide +kernel
theorem dX8_undoSet_14 : decode cX8_undoSet 14 = .ok (.iload 6, 2) := by decide +kernel
theorem dX8_undoSet_16 : decode cX8_undoSet 16 = .ok (.ifCond .eq 85, 3) := by decide +kernel
theorem dX8_undoSet_19 : decode cX8_undoSet 19 = .ok (.iconst 0, 1) := by decide +kernel
theorem dX8_undoSet_20 : decode cX8_undoSet 20 = .ok (.istore 6, 2) := by decide +kernel
theorem dX8_undoSet_22 : decode cX8_undoSet 22 = .ok (.iconst 0, 1) := by decide +kernel
theorem dX8_undoSet_23 : decode cX8_undoSet 23 = .ok (.istore 7, 2) := by decide +kernel
theorem dX8_undoSet_25 : decode cX8_undoSet 25 = .ok (.iload 7, 2) := by decide +kernel
theorem dX8_undoSet_27 : decode cX8_undoSet 27 = .ok (.aload_n 0, 1) := by decide +kernel
theorem dX8_undoSet_28 : decode cX8_undoSet 28 = .ok (.getfield 22, 3) := by decide +kernel
theorem dX8_undoSet_31 : decode cX8_undoSet 31 = .ok (.iconst 0, 1) := by decide +kernel
theorem dX8_undoSet_32 : decode cX8_undoSet 32 = .ok (.iaload, 1) := by decide +kernel
theorem dX8_undoSet_33 : decode cX8_undoSet 33 = .ok (.if_icmp .ge 65, 3) := by decide +kernel
theorem dX8_undoSet_36 : decode cX8_undoSet 36 = .ok (.iload 6, 2) := by decide +kernel
theorem dX8_undoSet_38 : decode cX8_undoSet 38 = .ok (.ifCond .ne 60, 3) := by decide +kernel
theorem dX8_undoSet_41 : decode cX8_undoSet 41 = .ok (.iload_n 1, 1) := by decide +kernel
theorem dX8_undoSet_42 : decode cX8_undoSet 42 = .ok (.iload 4, 2) := by decide +kernel
theorem dX8_undoSet_44 : decode cX8_undoSet 44 = .ok (.iand, 1) := by decide +kernel
theorem dX8_undoSet_45 : decode cX8_undoSet 45 = .ok (.iload 7, 2) := by decide +kernel
theorem dX8_undoSet_47 : decode cX8_undoSet 47 = .ok (.invokestatic 140, 3) := by decide +kernel
theorem dX8_undoSet_50 : decode cX8_undoSet 50 = .ok (.ifCond .eq 42, 3) := by decide +kernel
theorem dX8_undoSet_53 : decode cX8_undoSet 53 = .ok (.aload_n 0, 1) := by decide +kernel
theorem dX8_undoSet_54 : decode cX8_undoSet 54 = .ok (.iload 7, 2) := by decide +kernel
theorem dX8_undoSet_56 : decode cX8_undoSet 56 = .ok (.iload 4, 2) := by decide +kernel
theorem dX8_undoSet_58 : decode cX8_undoSet 58 = .ok (.iload_n 2, 1) := by decide +kernel
theorem dX8_undoSet_59 : decode cX8_undoSet 59 = .ok (.iload_n 3, 1) := by decide +kernel
theorem dX8_undoSet_60 : decode cX8_undoSet 60 = .ok (.invokevirtual 159, 3) := by decide +kernel
theorem dX8_undoSet_63 : decode cX8_undoSet 63 = .ok (.ifCond .eq 29, 3) := by decide +kernel
theorem dX8_undoSet_66 : decode cX8_undoSet 66 = .ok (.aload_n 0, 1) := by decide +kernel
theorem dX8_undoSet_67 : decode cX8_undoSet 67 = .ok (.getfield 61, 3) := by decide +kernel
theorem dX8_undoSet_70 : decode cX8_undoSet 70 = .ok (.iload 5, 2) := by decide +kernel
theorem dX8_undoSet_72 : decode cX8_undoSet 72 = .ok (.iload 7, 2) := by decide +kernel
theorem dX8_undoSet_74 : decode cX8_undoSet 74 = .ok (.iastore, 1) := by decide +kernel
theorem dX8_undoSet_75 : decode cX8_undoSet 75 = .ok (.iload 4, 2) := by decide +kernel
theorem dX8_undoSet_77 : decode cX8_undoSet 77 = .ok (.iconst 1, 1) := by decide +kernel
theorem dX8_undoSet_78 : decode cX8_undoSet 78 = .ok (.iload 7, 2) := by decide +kernel
theorem dX8_undoSet_80 : decode cX8_undoSet 80 = .ok (.ishl, 1) := by decide +kernel
theorem dX8_undoSet_81 : decode cX8_undoSet 81 = .ok (.iconst (-1), 1) := by decide +kernel
theorem dX8_undoSet_82 : decode cX8_undoSet 82 = .ok (.ixor, 1) := by decide +kernel
theorem dX8_undoSet_83 : decode cX8_undoSet 83 = .ok (.iand, 1) := by decide +kernel
theorem dX8_undoSet_84 : decode cX8_undoSet 84 = .ok (.istore 4, 2) := by decide +kernel
theorem dX8_undoSet_86 : decode cX8_undoSet 86 = .ok (.iinc 5 1, 3) := by decide +kernel
theorem dX8_undoSet_89 : decode cX8_undoSet 89 = .ok (.iconst 1, 1) := by decide +kernel
theorem dX8_undoSet_90 : decode cX8_undoSet 90 = .ok (.istore 6, 2) := by decide +kernel
theorem dX8_undoSet_92 : decode cX8_undoSet 92 = .ok (.iinc 7 1, 3) := by decide +kernel
theorem dX8_undoSet_95 : decode cX8_undoSet 95 = .ok (.goto (-70), 3) := by decide +kernel
theorem dX8_undoSet_98 : decode cX8_undoSet 98 = .ok (.goto (-84), 3) := by decide +kernel
theorem dX8_undoSet_101 : decode cX8_undoSet 101 = .ok (.iload 5, 2) := by decide +kernel
theorem dX8_undoSet_103 : decode cX8_undoSet 103 = .ok (.ireturn, 1) := by decide +kernel
set_option maxRecDepth 20000 in
theorem ggX8_least_X8_bits : GoodIn wsX8_least wsX8_bits := goodIn_r _ [8] (by decide +kernel) (by decide +kernel)
set_option maxRecDepth 20000 in
theorem gX8_least_X8_bits : GoodIn wsX8_least (va_wsS RX8 166 yX8_bits wsX8_bits) := goodIn_app (goodIn_of _ (by decide +kernel)) ggX8_least_X8_bits
set_option maxRecDepth 20000 in
theorem ggX8_least_X8_undoSet : GoodIn wsX8_least wsX8_undoSet := goodIn_r _ [12, 2, 1, 13, 14, 15, 7, 16, 17, 18, 19, 20, 21, 22, 23, 24, 25, 26, 27, 28, 29, 30, 31, 32, 33, 34, 35, 36, 37, 38, 39, 40, 41, 42, 43, 44, 45, 46, 47, 48, 49, 50, 51, 52, 53, 54, 55, 56, 57] (by decide +kernel) (by decide +kernel)
set_option maxRecDepth 20000 in
theorem gX8_least_X8_undoSet : GoodIn wsX8_least (wsV RX8 172 RX8 yX8_undoSet wsX8_undoSet) := goodIn_app (goodIn_of _ (by decide +kernel)) ggX8_least_X8_undoSet
theorem dX8_least_0 : decode cX8_least 0 = .ok (.bipush (-4), 2) := by decide +kernel
theorem dX8_least_2 : decode cX8_least 2 = .ok (.istore_n 2, 1) := by decide +kernel
theorem dX8_least_3 : decode cX8_least 3 = .ok (.iconst 0, 1) := by decide +kernel
theorem dX8_least_4 : decode cX8_least 4 = .ok (.istore_n 3, 1) := by decide +kernel
theorem dX8_least_5 : decode cX8_least 5 = .ok (.iload_n 3, 1) := by decide +kernel
theorem dX8_least_6 : decode cX8_least 6 = .ok (.iconst 1, 1) := by decide +kernel
theorem dX8_least_7 : decode cX8_least 7 = .ok (.aload_n 0, 1) := by decide +kernel
theorem dX8_least_8 : decode cX8_least 8 = .ok (.getfield 22, 3) := by decide +kernel
theorem dX8_least_11 : decode cX8_least 11 = .ok (.iconst 0, 1) := by decide +kernel
theorem dX8_least_12 : decode cX8_least 12 = .ok (.iaload, 1) := by decide +kernel
theorem dX8_least_13 : decode cX8_least 13 = .ok (.ishl, 1) := by decide +kernel
theorem dX8_least_14 : decode cX8_least 14 = .ok (.if_icmp .ge 87, 3) := by decide +kernel
theorem dX8_least_17 : decode cX8_least 17 = .ok (.iload_n 3, 1) := by decide +kernel
theorem dX8_least_18 : decode cX8_least 18 = .ok (.aload_n 0, 1) := by decide +kernel
theorem dX8_least_19 : decode cX8_least 19 = .ok (.getfield 40, 3) := by decide +kernel
theorem dX8_least_22 : decode cX8_least 22 = .ok (.iconst 0, 1) := by decide +kernel
theorem dX8_least_23 : decode cX8_least 23 = .ok (.iaload, 1) := by decide +kernel
theorem dX8_least_24 : decode cX8_least 24 = .ok (.iconst (-1), 1) := by decide +kernel
theorem dX8_least_25 : decode cX8_least 25 = .ok (.ixor, 1) := by decide +kernel
theorem dX8_least_26 : decode cX8_least 26 = .ok (.iand, 1) := by decide +kernel
theorem dX8_least_27 : decode cX8_least 27 = .ok (.ifCond .ne 30, 3) := by decide +kernel
theorem dX8_least_30 : decode cX8_least 30 = .ok (.iload_n 1, 1) := by decide +kernel
theorem dX8_least_31 : decode cX8_least 31 = .ok (.iload_n 3, 1) := by decide +kernel
theorem dX8_least_32 : decode cX8_least 32 = .ok (.iconst (-1), 1) := by decide +kernel
theorem dX8_least_33 : decode cX8_least 33 = .ok (.ixor, 1) := by decide +kernel
theorem dX8_least_34 : decode cX8_least 34 = .ok (.iand, 1) := by decide +kernel
theorem dX8_least_35 : decode cX8_least 35 = .ok (.ifCond .ne 22, 3) := by decide +kernel
theorem dX8_least_38 : decode cX8_least 38 = .ok (.iload_n 2, 1) := by decide +kernel
theorem dX8_least_39 : decode cX8_least 39 = .ok (.ifCond .lt 14, 3) := by decide +kernel
theorem dX8_least_42 : decode cX8_least 42 = .ok (.iload_n 3, 1) := by decide +kernel
theorem dX8_least_43 : decode cX8_least 43 = .ok (.invokestatic 166, 3) := by decide +kernel
theorem dX8_least_46 : decode cX8_least 46 = .ok (.iload_n 2, 1) := by decide +kernel
theorem dX8_least_47 : decode cX8_least 47 = .ok (.invokestatic 166, 3) := by decide +kernel
theorem dX8_least_50 : decode cX8_least 50 = .ok (.if_icmp .ge 7, 3) := by decide +kernel
theorem dX8_least_53 : decode cX8_least 53 = .ok (.iconst 1, 1) := by decide +kernel
theorem dX8_least_54 : decode cX8_least 54 = .ok (.goto 4, 3) := by decide +kernel
theorem dX8_least_57 : decode cX8_least 57 = .ok (.iconst 0, 1) := by decide +kernel
theorem dX8_least_58 : decode cX8_least 58 = .ok (.istore 4, 2) := by decide +kernel
theorem dX8_least_60 : decode cX8_least 60 = .ok (.iload 4, 2) := by decide +kernel
theorem dX8_least_62 : decode cX8_least 62 = .ok (.ifCond .eq 31, 3) := by decide +kernel
theorem dX8_least_65 : decode cX8_least 65 = .ok (.aload_n 0, 1) := by decide +kernel
theorem dX8_least_66 : decode cX8_least 66 = .ok (.iload_n 3, 1) := by decide +kernel
theorem dX8_least_67 : decode cX8_least 67 = .ok (.aload_n 0, 1) := by decide +kernel
theorem dX8_least_68 : decode cX8_least 68 = .ok (.getfield 16, 3) := by decide +kernel
theorem dX8_least_71 : decode cX8_least 71 = .ok (.iconst 0, 1) := by decide +kernel
theorem dX8_least_72 : decode cX8_least 72 = .ok (.iaload, 1) := by decide +kernel
theorem dX8_least_73 : decode cX8_least 73 = .ok (.aload_n 0, 1) := by decide +kernel
theorem dX8_least_74 : decode cX8_least 74 = .ok (.getfield 43, 3) := by decide +kernel
theorem dX8_least_77 : decode cX8_least 77 = .ok (.iconst 0, 1) := by decide +kernel
theorem dX8_least_78 : decode cX8_least 78 = .ok (.iaload, 1) := by decide +kernel
theorem dX8_least_79 : decode cX8_least 79 = .ok (.invokevirtual 172, 3) := by decide +kernel
theorem dX8_least_82 : decode cX8_least 82 = .ok (.iload_n 3, 1) := by decide +kernel
theorem dX8_least_83 : decode cX8_least 83 = .ok (.invokestatic 166, 3) := by decide +kernel
theorem dX8_least_86 : decode cX8_least 86 = .ok (.if_icmp .ne 7, 3) := by decide +kernel
theorem dX8_least_89 : decode cX8_least 89 = .ok (.iload_n 3, 1) := by decide +kernel
theorem dX8_least_90 : decode cX8_least 90 = .ok (.goto 4, 3) := by decide +kernel
theorem dX8_least_93 : decode cX8_least 93 = .ok (.iload_n 2, 1) := by decide +kernel
theorem dX8_least_94 : decode cX8_least 94 = .ok (.istore_n 2, 1) := by decide +kernel
theorem dX8_least_95 : decode cX8_least 95 = .ok (.iinc 3 1, 3) := by decide +kernel
theorem dX8_least_98 : decode cX8_least 98 = .ok (.goto (-93), 3) := by decide +kernel
theorem dX8_least_101 : decode cX8_least 101 = .ok (.iload_n 2, 1) := by decide +kernel
theorem dX8_least_102 : decode cX8_least 102 = .ok (.ireturn, 1) := by decide +kernel
set_option maxRecDepth 20000 in
theorem ggX8_loosen_X8_isThere : GoodIn wsX8_loosen wsX8_isThere := goodIn_r _ [6, 7, 8, 9, 5, 10, 42, 43, 44, 45, 46, 47, 48, 49, 50, 51, 52, 53, 54, 55, 56, 57, 58, 59, 60, 61, 62, 63, 64, 65, 66, 67, 68] (by decide +kernel) (by decide +kernel)
set_option maxRecDepth 20000 in
theorem gX8_loosen_X8_isThere : GoodIn wsX8_loosen (wsV RX8 144 RX8 yX8_isThere wsX8_isThere) := goodIn_app (goodIn_of _ (by decide +kernel)) ggX8_loosen_X8_isThere
set_option maxRecDepth 20000 in
theorem ggX8_loosen_X8_has : GoodIn wsX8_loosen wsX8_has := goodIn_r _ [13] (by decide +kernel) (by decide +kernel)
set_option maxRecDepth 20000 in
theorem gX8_loosen_X8_has : GoodIn wsX8_loosen (va_wsS RX8 140 yX8_has wsX8_has) := goodIn_app (goodIn_of _ (by decide +kernel)) ggX8_loosen_X8_has
set_option maxRecDepth 20000 in
theorem ggX8_loosen_X8_least : GoodIn wsX8_loosen wsX8_least := goodIn_r _ [17, 7, 1, 18, 19, 20, 21, 5, 22, 23, 24, 25, 26, 27, 11, 12, 13, 28, 29, 30, 31, 32, 33, 34, 35, 36, 37, 38, 39, 40, 41, 42, 43, 44, 45, 46, 47, 48, 49, 50, 51, 52, 53, 54, 55, 56, 57, 58, 59, 60, 61, 62, 63, 64, 65, 66, 67, 68] (by decide +kernel) (by decide +kernel)
set_option maxRecDepth 20000 in
theorem gX8_loosen_X8_least : GoodIn wsX8_loosen (wsV RX8 176 RX8 yX8_least wsX8_least) := goodIn_app (goodIn_of _ (by decide +kernel)) ggX8_loosen_X8_least
theorem dX8_loosen_0 : decode cX8_loosen 0 = .ok (.aload_n 0, 1) := by decide +kernel
theorem dX8_loosen_1 : decode cX8_loosen 1 = .ok (.iload_n 1, 1) := by decide +kernel
theorem dX8_loosen_2 : decode cX8_loosen 2 = .ok (.invokevirtual 144, 3) := by decide +kernel
theorem dX8_loosen_5 : decode cX8_loosen 5 = .ok (.ifCond .ne 5, 3) := by decide +kernel
theorem dX8_loosen_8 : decode cX8_loosen 8 = .ok (.iconst (-1), 1) := by decide +kernel
theorem dX8_loosen_9 : decode cX8_loosen 9 = .ok (.ireturn, 1) := by decide +kernel
theorem dX8_loosen_10 : decode cX8_loosen 10 = .ok (.aload_n 0, 1) := by decide +kernel
theorem dX8_loosen_11 : decode cX8_loosen 11 = .ok (.getfield 40, 3) := by decide +kernel
theorem dX8_loosen_14 : decode cX8_loosen 14 = .ok (.iconst 0, 1) := by decide +kernel
theorem dX8_loosen_15 : decode cX8_loosen 15 = .ok (.iaload, 1) := by decide +kernel
theorem dX8_loosen_16 : decode cX8_loosen 16 = .ok (.iload_n 1, 1) := by decide +kernel
theorem dX8_loosen_17 : decode cX8_loosen 17 = .ok (.invokestatic 140, 3) := by decide +kernel
theorem dX8_loosen_20 : decode cX8_loosen 20 = .ok (.ifCond .ne 6, 3) := by decide +kernel
theorem dX8_loosen_23 : decode cX8_loosen 23 = .ok (.bipush (-2), 2) := by decide +kernel
theorem dX8_loosen_25 : decode cX8_loosen 25 = .ok (.ireturn, 1) := by decide +kernel
theorem dX8_loosen_26 : decode cX8_loosen 26 = .ok (.aload_n 0, 1) := by decide +kernel
theorem dX8_loosen_27 : decode cX8_loosen 27 = .ok (.iconst 1, 1) := by decide +kernel
theorem dX8_loosen_28 : decode cX8_loosen 28 = .ok (.iload_n 1, 1) := by decide +kernel
theorem dX8_loosen_29 : decode cX8_loosen 29 = .ok (.ishl, 1) := by decide +kernel
theorem dX8_loosen_30 : decode cX8_loosen 30 = .ok (.invokevirtual 176, 3) := by decide +kernel
theorem dX8_loosen_33 : decode cX8_loosen 33 = .ok (.istore_n 2, 1) := by decide +kernel
theorem dX8_loosen_34 : decode cX8_loosen 34 = .ok (.iload_n 2, 1) := by decide +kernel
theorem dX8_loosen_35 : decode cX8_loosen 35 = .ok (.ifCond .ge 8, 3) := by decide +kernel
theorem dX8_loosen_38 : decode cX8_loosen 38 = .ok (.bipush (-4), 2) := by decide +kernel
theorem dX8_loosen_40 : decode cX8_loosen 40 = .ok (.goto 10, 3) := by decide +kernel
theorem dX8_loosen_43 : decode cX8_loosen 43 = .ok (.iload_n 2, 1) := by decide +kernel
theorem dX8_loosen_44 : decode cX8_loosen 44 = .ok (.iconst 1, 1) := by decide +kernel
theorem dX8_loosen_45 : decode cX8_loosen 45 = .ok (.iload_n 1, 1) := by decide +kernel
theorem dX8_loosen_46 : decode cX8_loosen 46 = .ok (.ishl, 1) := by decide +kernel
theorem dX8_loosen_47 : decode cX8_loosen 47 = .ok (.iconst (-1), 1) := by decide +kernel
theorem dX8_loosen_48 : decode cX8_loosen 48 = .ok (.ixor, 1) := by decide +kernel
theorem dX8_loosen_49 : decode cX8_loosen 49 = .ok (.iand, 1) := by decide +kernel
theorem dX8_loosen_50 : decode cX8_loosen 50 = .ok (.ireturn, 1) := by decide +kernel
set_option maxRecDepth 20000 in
theorem ggX8_pay_X8_has : GoodIn wsX8_pay wsX8_has := goodIn_r _ [10] (by decide +kernel) (by decide +kernel)
set_option maxRecDepth 20000 in
theorem gX8_pay_X8_has : GoodIn wsX8_pay (va_wsS RX8 140 yX8_has wsX8_has) := goodIn_app (goodIn_of _ (by decide +kernel)) ggX8_pay_X8_has
set_option maxRecDepth 20000 in
theorem ggX8_pay_X8_least : GoodIn wsX8_pay wsX8_least := goodIn_r _ [14, 1, 2, 5, 4, 15, 16, 9, 17, 18, 19, 20, 21, 6, 7, 8, 10, 22, 23, 24, 25, 26, 27, 28, 29, 30, 3, 31, 32, 33, 34, 35, 36, 37, 38, 39, 40, 41, 42, 43, 44, 45, 46, 47, 48, 49, 50, 51, 52, 53, 54, 55, 56, 57, 58, 59, 60, 61] (by decide +kernel) (by decide +kernel)
set_option maxRecDepth 20000 in
theorem gX8_pay_X8_least : GoodIn wsX8_pay (wsV RX8 176 RX8 yX8_least wsX8_least) := goodIn_app (goodIn_of _ (by decide +kernel)) ggX8_pay_X8_least
set_option maxRecDepth 20000 in
theorem ggX8_pay_X8_undoSet : GoodIn wsX8_pay wsX8_undoSet := goodIn_r _ [21, 2, 1, 6, 7, 8, 9, 10, 22, 23, 24, 25, 26, 27, 28, 29, 30, 3, 31, 32, 33, 34, 35, 36, 37, 38, 39, 40, 41, 42, 43, 44, 45, 46, 47, 48, 49, 50, 51, 52, 53, 54, 55, 56, 57, 58, 59, 60, 61] (by decide +kernel) (by decide +kernel)
set_option maxRecDepth 20000 in
theorem gX8_pay_X8_undoSet : GoodIn wsX8_pay (wsV RX8 172 RX8 yX8_undoSet wsX8_undoSet) := goodIn_app (goodIn_of _ (by decide +kernel)) ggX8_pay_X8_undoSet
set_option maxRecDepth 20000 in
theorem ggX8_pay_X8_bits : GoodIn wsX8_pay wsX8_bits := goodIn_r _ [17] (by decide +kernel) (by decide +kernel)
set_option maxRecDepth 20000 in
theorem gX8_pay_X8_bits : GoodIn wsX8_pay (va_wsS RX8 166 yX8_bits wsX8_bits) := goodIn_app (goodIn_of _ (by decide +kernel)) ggX8_pay_X8_bits
theorem dX8_pay_0 : decode cX8_pay 0 = .ok (.iload_n 1, 1) := by decide +kernel
theorem dX8_pay_1 : decode cX8_pay 1 = .ok (.iconst (-1), 1) := by decide +kernel
theorem dX8_pay_2 : decode cX8_pay 2 = .ok (.if_icmp .ge 5, 3) := by decide +kernel
theorem dX8_pay_5 : decode cX8_pay 5 = .ok (.iconst (-1), 1) := by decide +kernel
theorem dX8_pay_6 : decode cX8_pay 6 = .ok (.ireturn, 1) := by decide +kernel
theorem dX8_pay_7 : decode cX8_pay 7 = .ok (.iconst 0, 1) := by decide +kernel
theorem dX8_pay_8 : decode cX8_pay 8 = .ok (.istore_n 2, 1) := by decide +kernel
theorem dX8_pay_9 : decode cX8_pay 9 = .ok (.iconst 0, 1) := by decide +kernel
theorem dX8_pay_10 : decode cX8_pay 10 = .ok (.istore_n 3, 1) := by decide +kernel
theorem dX8_pay_11 : decode cX8_pay 11 = .ok (.iload_n 3, 1) := by decide +kernel
theorem dX8_pay_12 : decode cX8_pay 12 = .ok (.aload_n 0, 1) := by decide +kernel
theorem dX8_pay_13 : decode cX8_pay 13 = .ok (.getfield 22, 3) := by decide +kernel
theorem dX8_pay_16 : decode cX8_pay 16 = .ok (.iconst 0, 1) := by decide +kernel
theorem dX8_pay_17 : decode cX8_pay 17 = .ok (.iaload, 1) := by decide +kernel
theorem dX8_pay_18 : decode cX8_pay 18 = .ok (.if_icmp .ge 47, 3) := by decide +kernel
theorem dX8_pay_21 : decode cX8_pay 21 = .ok (.iload_n 2, 1) := by decide +kernel
theorem dX8_pay_22 : decode cX8_pay 22 = .ok (.aload_n 0, 1) := by decide +kernel
theorem dX8_pay_23 : decode cX8_pay 23 = .ok (.getfield 40, 3) := by decide +kernel
theorem dX8_pay_26 : decode cX8_pay 26 = .ok (.iconst 0, 1) := by decide +kernel
theorem dX8_pay_27 : decode cX8_pay 27 = .ok (.iaload, 1) := by decide +kernel
theorem dX8_pay_28 : decode cX8_pay 28 = .ok (.iload_n 3, 1) := by decide +kernel
theorem dX8_pay_29 : decode cX8_pay 29 = .ok (.invokestatic 140, 3) := by decide +kernel
theorem dX8_pay_32 : decode cX8_pay 32 = .ok (.ifCond .eq 24, 3) := by decide +kernel
theorem dX8_pay_35 : decode cX8_pay 35 = .ok (.aload_n 0, 1) := by decide +kernel
theorem dX8_pay_36 : decode cX8_pay 36 = .ok (.getfield 34, 3) := by decide +kernel
theorem dX8_pay_39 : decode cX8_pay 39 = .ok (.iload_n 3, 1) := by decide +kernel
theorem dX8_pay_40 : decode cX8_pay 40 = .ok (.iaload, 1) := by decide +kernel
theorem dX8_pay_41 : decode cX8_pay 41 = .ok (.aload_n 0, 1) := by decide +kernel
theorem dX8_pay_42 : decode cX8_pay 42 = .ok (.getfield 43, 3) := by decide +kernel
theorem dX8_pay_45 : decode cX8_pay 45 = .ok (.iconst 0, 1) := by decide +kernel
theorem dX8_pay_46 : decode cX8_pay 46 = .ok (.iaload, 1) := by decide +kernel
theorem dX8_pay_47 : decode cX8_pay 47 = .ok (.if_icmp .gt 9, 3) := by decide +kernel
theorem dX8_pay_50 : decode cX8_pay 50 = .ok (.iconst 1, 1) := by decide +kernel
theorem dX8_pay_51 : decode cX8_pay 51 = .ok (.iload_n 3, 1) := by decide +kernel
theorem dX8_pay_52 : decode cX8_pay 52 = .ok (.ishl, 1) := by decide +kernel
theorem dX8_pay_53 : decode cX8_pay 53 = .ok (.goto 4, 3) := by decide +kernel
theorem dX8_pay_56 : decode cX8_pay 56 = .ok (.iconst 0, 1) := by decide +kernel
theorem dX8_pay_57 : decode cX8_pay 57 = .ok (.ior, 1) := by decide +kernel
theorem dX8_pay_58 : decode cX8_pay 58 = .ok (.istore_n 2, 1) := by decide +kernel
theorem dX8_pay_59 : decode cX8_pay 59 = .ok (.iinc 3 1, 3) := by decide +kernel
theorem dX8_pay_62 : decode cX8_pay 62 = .ok (.goto (-51), 3) := by decide +kernel
theorem dX8_pay_65 : decode cX8_pay 65 = .ok (.aload_n 0, 1) := by decide +kernel
theorem dX8_pay_66 : decode cX8_pay 66 = .ok (.iload_n 2, 1) := by decide +kernel
theorem dX8_pay_67 : decode cX8_pay 67 = .ok (.invokevirtual 176, 3) := by decide +kernel
theorem dX8_pay_70 : decode cX8_pay 70 = .ok (.istore_n 3, 1) := by decide +kernel
theorem dX8_pay_71 : decode cX8_pay 71 = .ok (.iload_n 3, 1) := by decide +kernel
theorem dX8_pay_72 : decode cX8_pay 72 = .ok (.ifCond .ge 6, 3) := by decide +kernel
theorem dX8_pay_75 : decode cX8_pay 75 = .ok (.bipush (-4), 2) := by decide +kernel
theorem dX8_pay_77 : decode cX8_pay 77 = .ok (.ireturn, 1) := by decide +kernel
theorem dX8_pay_78 : decode cX8_pay 78 = .ok (.aload_n 0, 1) := by decide +kernel
theorem dX8_pay_79 : decode cX8_pay 79 = .ok (.iload_n 3, 1) := by decide +kernel
theorem dX8_pay_80 : decode cX8_pay 80 = .ok (.aload_n 0, 1) := by decide +kernel
theorem dX8_pay_81 : decode cX8_pay 81 = .ok (.getfield 16, 3) := by decide +kernel
theorem dX8_pay_84 : decode cX8_pay 84 = .ok (.iconst 0, 1) := by decide +kernel
theorem dX8_pay_85 : decode cX8_pay 85 = .ok (.iaload, 1) := by decide +kernel
theorem dX8_pay_86 : decode cX8_pay 86 = .ok (.aload_n 0, 1) := by decide +kernel
theorem dX8_pay_87 : decode cX8_pay 87 = .ok (.getfield 43, 3) := by decide +kernel
theorem dX8_pay_90 : decode cX8_pay 90 = .ok (.iconst 0, 1) := by decide +kernel
theorem dX8_pay_91 : decode cX8_pay 91 = .ok (.iaload, 1) := by decide +kernel
theorem dX8_pay_92 : decode cX8_pay 92 = .ok (.invokevirtual 172, 3) := by decide +kernel
theorem dX8_pay_95 : decode cX8_pay 95 = .ok (.pop, 1) := by decide +kernel
theorem dX8_pay_96 : decode cX8_pay 96 = .ok (.iload_n 1, 1) := by decide +kernel
theorem dX8_pay_97 : decode cX8_pay 97 = .ok (.ifCond .ge 10, 3) := by decide +kernel
theorem dX8_pay_100 : decode cX8_pay 100 = .ok (.iload_n 3, 1) := by decide +kernel
theorem dX8_pay_101 : decode cX8_pay 101 = .ok (.invokestatic 166, 3) := by decide +kernel
theorem dX8_pay_104 : decode cX8_pay 104 = .ok (.goto 22, 3) := by decide +kernel
theorem dX8_pay_107 : decode cX8_pay 107 = .ok (.iload_n 1, 1) := by decide +kernel
theorem dX8_pay_108 : decode cX8_pay 108 = .ok (.iload_n 3, 1) := by decide +kernel
theorem dX8_pay_109 : decode cX8_pay 109 = .ok (.invokestatic 166, 3) := by decide +kernel
theorem dX8_pay_112 : decode cX8_pay 112 = .ok (.if_icmp .ge 12, 3) := by decide +kernel
theorem dX8_pay_115 : decode cX8_pay 115 = .ok (.aload_n 0, 1) := by decide +kernel
theorem dX8_pay_116 : decode cX8_pay 116 = .ok (.getfield 61, 3) := by decide +kernel
theorem dX8_pay_119 : decode cX8_pay 119 = .ok (.iload_n 1, 1) := by decide +kernel
theorem dX8_pay_120 : decode cX8_pay 120 = .ok (.iaload, 1) := by decide +kernel
theorem dX8_pay_121 : decode cX8_pay 121 = .ok (.goto 5, 3) := by decide +kernel
theorem dX8_pay_124 : decode cX8_pay 124 = .ok (.bipush (-4), 2) := by decide +kernel
theorem dX8_pay_126 : decode cX8_pay 126 = .ok (.ireturn, 1) := by decide +kernel
set_option maxRecDepth 20000 in
theorem ggX8_everBy_X8_undoSet : GoodIn wsX8_everBy wsX8_undoSet := goodIn_r _ [7, 1, 8, 2, 9, 10, 6, 11, 12, 13, 14, 15, 16, 17, 18, 19, 20, 21, 22, 23, 24, 25, 26, 27, 28, 29, 30, 31, 32, 33, 34, 35, 36, 37, 38, 39, 40, 41, 42, 43, 44, 45, 46, 47, 48, 49, 50, 51, 52] (by decide +kernel) (by decide +kernel)
set_option maxRecDepth 20000 in
theorem gX8_everBy_X8_undoSet : GoodIn wsX8_everBy (wsV RX8 172 RX8 yX8_undoSet wsX8_undoSet) := goodIn_app (goodIn_of _ (by decide +kernel)) ggX8_everBy_X8_undoSet
theorem dX8_everBy_0 : decode cX8_everBy 0 = .ok (.aload_n 0, 1) := by decide +kernel
theorem dX8_everBy_1 : decode cX8_everBy 1 = .ok (.aload_n 0, 1) := by decide +kernel
theorem dX8_everBy_2 : decode cX8_everBy 2 = .ok (.getfield 40, 3) := by decide +kernel
theorem dX8_everBy_5 : decode cX8_everBy 5 = .ok (.iconst 0, 1) := by decide +kernel
theorem dX8_everBy_6 : decode cX8_everBy 6 = .ok (.iaload, 1) := by decide +kernel
theorem dX8_everBy_7 : decode cX8_everBy 7 = .ok (.iload_n 1, 1) := by decide +kernel
theorem dX8_everBy_8 : decode cX8_everBy 8 = .ok (.bipush 99, 2) := by decide +kernel
theorem dX8_everBy_10 : decode cX8_everBy 10 = .ok (.invokevirtual 172, 3) := by decide +kernel
theorem dX8_everBy_13 : decode cX8_everBy 13 = .ok (.istore_n 2, 1) := by decide +kernel
theorem dX8_everBy_14 : decode cX8_everBy 14 = .ok (.aload_n 0, 1) := by decide +kernel
theorem dX8_everBy_15 : decode cX8_everBy 15 = .ok (.getfield 40, 3) := by decide +kernel
theorem dX8_everBy_18 : decode cX8_everBy 18 = .ok (.iconst 0, 1) := by decide +kernel
theorem dX8_everBy_19 : decode cX8_everBy 19 = .ok (.iaload, 1) := by decide +kernel
theorem dX8_everBy_20 : decode cX8_everBy 20 = .ok (.istore_n 3, 1) := by decide +kernel
theorem dX8_everBy_21 : decode cX8_everBy 21 = .ok (.iconst 0, 1) := by decide +kernel
theorem dX8_everBy_22 : decode cX8_everBy 22 = .ok (.istore 4, 2) := by decide +kernel
theorem dX8_everBy_24 : decode cX8_everBy 24 = .ok (.iload 4, 2) := by decide +kernel
theorem dX8_everBy_26 : decode cX8_everBy 26 = .ok (.iload_n 2, 1) := by decide +kernel
theorem dX8_everBy_27 : decode cX8_everBy 27 = .ok (.if_icmp .ge 23, 3) := by decide +kernel
theorem dX8_everBy_30 : decode cX8_everBy 30 = .ok (.iload_n 3, 1) := by decide +kernel
theorem dX8_everBy_31 : decode cX8_everBy 31 = .ok (.iconst 1, 1) := by decide +kernel
theorem dX8_everBy_32 : decode cX8_everBy 32 = .ok (.aload_n 0, 1) := by decide +kernel
theorem dX8_everBy_33 : decode cX8_everBy 33 = .ok (.getfield 61, 3) := by decide +kernel
theorem dX8_everBy_36 : decode cX8_everBy 36 = .ok (.iload 4, 2) := by decide +kernel
theorem dX8_everBy_38 : decode cX8_everBy 38 = .ok (.iaload, 1) := by decide +kernel
theorem dX8_everBy_39 : decode cX8_everBy 39 = .ok (.ishl, 1) := by decide +kernel
theorem dX8_everBy_40 : decode cX8_everBy 40 = .ok (.iconst (-1), 1) := by decide +kernel
theorem dX8_everBy_41 : decode cX8_everBy 41 = .ok (.ixor, 1) := by decide +kernel
theorem dX8_everBy_42 : decode cX8_everBy 42 = .ok (.iand, 1) := by decide +kernel
theorem dX8_everBy_43 : decode cX8_everBy 43 = .ok (.istore_n 3, 1) := by decide +kernel
theorem dX8_everBy_44 : decode cX8_everBy 44 = .ok (.iinc 4 1, 3) := by decide +kernel
theorem dX8_everBy_47 : decode cX8_everBy 47 = .ok (.goto (-23), 3) := by decide +kernel
theorem dX8_everBy_50 : decode cX8_everBy 50 = .ok (.iload_n 3, 1) := by decide +kernel
theorem dX8_everBy_51 : decode cX8_everBy 51 = .ok (.ireturn, 1) := by decide +kernel
set_option maxRecDepth 20000 in
theorem ggX8_forEver_X8_everBy : GoodIn wsX8_forEver wsX8_everBy := goodIn_r _ [6, 7, 8, 9, 10, 11, 5, 12, 13, 14, 15, 16, 17, 18, 19, 20, 21, 22, 23, 24, 25, 26, 27, 28, 29, 30, 31, 32, 33, 34, 35, 36, 37, 38, 39, 40, 41, 42, 43, 44, 45, 46, 47, 48, 49, 50, 51, 52, 53, 54, 55, 56, 57] (by decide +kernel) (by decide +kernel)
set_option maxRecDepth 20000 in
theorem gX8_forEver_X8_everBy : GoodIn wsX8_forEver (wsV RX8 179 RX8 yX8_everBy wsX8_everBy) := goodIn_app (goodIn_of _ (by decide +kernel)) ggX8_forEver_X8_everBy
theorem dX8_forEver_0 : decode cX8_forEver 0 = .ok (.aload_n 0, 1) := by decide +kernel
theorem dX8_forEver_1 : decode cX8_forEver 1 = .ok (.aload_n 0, 1) := by decide +kernel
theorem dX8_forEver_2 : decode cX8_forEver 2 = .ok (.getfield 16, 3) := by decide +kernel
theorem dX8_forEver_5 : decode cX8_forEver 5 = .ok (.iconst 0, 1) := by decide +kernel
theorem dX8_forEver_6 : decode cX8_forEver 6 = .ok (.iaload, 1) := by decide +kernel
theorem dX8_forEver_7 : decode cX8_forEver 7 = .ok (.invokevirtual 179, 3) := by decide +kernel
theorem dX8_forEver_10 : decode cX8_forEver 10 = .ok (.ireturn, 1) := by decide +kernel
set_option maxRecDepth 20000 in
theorem ggX8_frees_X8_isPerson : GoodIn wsX8_frees wsX8_isPerson := goodIn_r _ [6, 7, 8, 9, 5, 10, 42, 43, 44, 45, 46, 47, 48, 49, 50, 51, 52, 53, 54, 55, 56, 57, 58, 59, 60, 61, 62, 63, 64, 65, 66, 67, 68] (by decide +kernel) (by decide +kernel)
set_option maxRecDepth 20000 in
theorem gX8_frees_X8_isPerson : GoodIn wsX8_frees (wsV RX8 153 RX8 yX8_isPerson wsX8_isPerson) := goodIn_app (goodIn_of _ (by decide +kernel)) ggX8_frees_X8_isPerson
set_option maxRecDepth 20000 in
theorem ggX8_frees_X8_everBy : GoodIn wsX8_frees wsX8_everBy := goodIn_r _ [14, 15, 16, 17, 18, 19, 5, 20, 21, 22, 23, 24, 25, 26, 27, 28, 29, 30, 31, 32, 33, 34, 35, 36, 37, 38, 42, 43, 44, 45, 46, 47, 48, 49, 50, 51, 52, 53, 54, 55, 56, 57, 58, 59, 60, 61, 62, 63, 64, 65, 66, 67, 68] (by decide +kernel) (by decide +kernel)
set_option maxRecDepth 20000 in
theorem gX8_frees_X8_everBy : GoodIn wsX8_frees (wsV RX8 179 RX8 yX8_everBy wsX8_everBy) := goodIn_app (goodIn_of _ (by decide +kernel)) ggX8_frees_X8_everBy
set_option maxRecDepth 20000 in
theorem ggX8_frees_X8_bits : GoodIn wsX8_frees wsX8_bits := goodIn_r _ [41] (by decide +kernel) (by decide +kernel)
set_option maxRecDepth 20000 in
theorem gX8_frees_X8_bits : GoodIn wsX8_frees (va_wsS RX8 166 yX8_bits wsX8_bits) := goodIn_app (goodIn_of _ (by decide +kernel)) ggX8_frees_X8_bits
theorem dX8_frees_0 : decode cX8_frees 0 = .ok (.aload_n 0, 1) := by decide +kernel
theorem dX8_frees_1 : decode cX8_frees 1 = .ok (.iload_n 1, 1) := by decide +kernel
theorem dX8_frees_2 : decode cX8_frees 2 = .ok (.invokevirtual 153, 3) := by decide +kernel
theorem dX8_frees_5 : decode cX8_frees 5 = .ok (.ifCond .eq 37, 3) := by decide +kernel
theorem dX8_frees_8 : decode cX8_frees 8 = .ok (.aload_n 0, 1) := by decide +kernel
theorem dX8_frees_9 : decode cX8_frees 9 = .ok (.aload_n 0, 1) := by decide +kernel
theorem dX8_frees_10 : decode cX8_frees 10 = .ok (.getfield 16, 3) := by decide +kernel
theorem dX8_frees_13 : decode cX8_frees 13 = .ok (.iconst 0, 1) := by decide +kernel
theorem dX8_frees_14 : decode cX8_frees 14 = .ok (.iaload, 1) := by decide +kernel
theorem dX8_frees_15 : decode cX8_frees 15 = .ok (.invokevirtual 179, 3) := by decide +kernel
theorem dX8_frees_18 : decode cX8_frees 18 = .ok (.invokestatic 166, 3) := by decide +kernel
theorem dX8_frees_21 : decode cX8_frees 21 = .ok (.aload_n 0, 1) := by decide +kernel
theorem dX8_frees_22 : decode cX8_frees 22 = .ok (.aload_n 0, 1) := by decide +kernel
theorem dX8_frees_23 : decode cX8_frees 23 = .ok (.getfield 16, 3) := by decide +kernel
theorem dX8_frees_26 : decode cX8_frees 26 = .ok (.iconst 0, 1) := by decide +kernel
theorem dX8_frees_27 : decode cX8_frees 27 = .ok (.iaload, 1) := by decide +kernel
theorem dX8_frees_28 : decode cX8_frees 28 = .ok (.iconst 1, 1) := by decide +kernel
theorem dX8_frees_29 : decode cX8_frees 29 = .ok (.iload_n 1, 1) := by decide +kernel
theorem dX8_frees_30 : decode cX8_frees 30 = .ok (.ishl, 1) := by decide +kernel
theorem dX8_frees_31 : decode cX8_frees 31 = .ok (.ior, 1) := by decide +kernel
theorem dX8_frees_32 : decode cX8_frees 32 = .ok (.invokevirtual 179, 3) := by decide +kernel
theorem dX8_frees_35 : decode cX8_frees 35 = .ok (.invokestatic 166, 3) := by decide +kernel
theorem dX8_frees_38 : decode cX8_frees 38 = .ok (.isub, 1) := by decide +kernel
theorem dX8_frees_39 : decode cX8_frees 39 = .ok (.goto 4, 3) := by decide +kernel
theorem dX8_frees_42 : decode cX8_frees 42 = .ok (.iconst (-1), 1) := by decide +kernel
theorem dX8_frees_43 : decode cX8_frees 43 = .ok (.ireturn, 1) := by decide +kernel
set_option maxRecDepth 20000 in
theorem ggX8_ropeOf_X8_has : GoodIn wsX8_ropeOf wsX8_has := goodIn_r _ [4] (by decide +kernel) (by decide +kernel)
set_option maxRecDepth 20000 in
theorem gX8_ropeOf_X8_has : GoodIn wsX8_ropeOf (va_wsS RX8 140 yX8_has wsX8_has) := goodIn_app (goodIn_of _ (by decide +kernel)) ggX8_ropeOf_X8_has
theorem dX8_ropeOf_0 : decode cX8_ropeOf 0 = .ok (.iconst 0, 1) := by decide +kernel
theorem dX8_ropeOf_1 : decode cX8_ropeOf 1 = .ok (.istore_n 1, 1) := by decide +kernel
theorem dX8_ropeOf_2 : decode cX8_ropeOf 2 = .ok (.iload_n 0, 1) := by decide +kernel
theorem dX8_ropeOf_3 : decode cX8_ropeOf 3 = .ok (.iload_n 1, 1) := by decide +kernel
theorem dX8_ropeOf_4 : decode cX8_ropeOf 4 = .ok (.invokestatic 140, 3) := by decide +kernel
theorem dX8_ropeOf_7 : decode cX8_ropeOf 7 = .ok (.ifCond .ne 9, 3) := by decide +kernel
theorem dX8_ropeOf_10 : decode cX8_ropeOf 10 = .ok (.iinc 1 1, 3) := by decide +kernel
theorem dX8_ropeOf_13 : decode cX8_ropeOf 13 = .ok (.goto (-11), 3) := by decide +kernel
theorem dX8_ropeOf_16 : decode cX8_ropeOf 16 = .ok (.bipush 7, 2) := by decide +kernel
theorem dX8_ropeOf_18 : decode cX8_ropeOf 18 = .ok (.istore_n 2, 1) := by decide +kernel
theorem dX8_ropeOf_19 : decode cX8_ropeOf 19 = .ok (.iload_n 0, 1) := by decide +kernel
theorem dX8_ropeOf_20 : decode cX8_ropeOf 20 = .ok (.iload_n 2, 1) := by decide +kernel
theorem dX8_ropeOf_21 : decode cX8_ropeOf 21 = .ok (.invokestatic 140, 3) := by decide +kernel
theorem dX8_ropeOf_24 : decode cX8_ropeOf 24 = .ok (.ifCond .ne 9, 3) := by decide +kernel
theorem dX8_ropeOf_27 : decode cX8_ropeOf 27 = .ok (.iinc 2 (-1), 3) := by decide +kernel
theorem dX8_ropeOf_30 : decode cX8_ropeOf 30 = .ok (.goto (-11), 3) := by decide +kernel
theorem dX8_ropeOf_33 : decode cX8_ropeOf 33 = .ok (.iload_n 2, 1) := by decide +kernel
theorem dX8_ropeOf_34 : decode cX8_ropeOf 34 = .ok (.iload_n 1, 1) := by decide +kernel
theorem dX8_ropeOf_35 : decode cX8_ropeOf 35 = .ok (.isub, 1) := by decide +kernel
theorem dX8_ropeOf_36 : decode cX8_ropeOf 36 = .ok (.ireturn, 1) := by decide +kernel
set_option maxRecDepth 20000 in
theorem ggX8_fresh_X8_in : GoodIn wsX8_fresh wsX8_in := goodIn_r _ [7] (by decide +kernel) (by decide +kernel)
set_option maxRecDepth 20000 in
theorem gX8_fresh_X8_in : GoodIn wsX8_fresh (va_wsS RX8 82 yX8_in wsX8_in) := goodIn_app (goodIn_of _ (by decide +kernel)) ggX8_fresh_X8_in
set_option maxRecDepth 20000 in
theorem ggX8_fresh_X8_has : GoodIn wsX8_fresh wsX8_has := goodIn_r _ [10] (by decide +kernel) (by decide +kernel)
set_option maxRecDepth 20000 in
theorem gX8_fresh_X8_has : GoodIn wsX8_fresh (va_wsS RX8 140 yX8_has wsX8_has) := goodIn_app (goodIn_of _ (by decide +kernel)) ggX8_fresh_X8_has
set_option maxRecDepth 20000 in
theorem ggX8_fresh_X8_above : GoodIn wsX8_fresh wsX8_above := goodIn_r _ [14, 2, 15, 8, 9, 6, 10, 22, 23, 24, 25, 26, 27, 28, 29, 30, 31, 32, 33, 34, 35, 36, 37, 38, 39, 40, 41, 42, 43, 44, 45, 46, 47, 48] (by decide +kernel) (by decide +kernel)
set_option maxRecDepth 20000 in
theorem gX8_fresh_X8_above : GoodIn wsX8_fresh (wsV RX8 149 RX8 yX8_above wsX8_above) := goodIn_app (goodIn_of _ (by decide +kernel)) ggX8_fresh_X8_above
set_option maxRecDepth 20000 in
theorem ggX8_fresh_X8_bits : GoodIn wsX8_fresh wsX8_bits := goodIn_r _ [18] (by decide +kernel) (by decide +kernel)
set_option maxRecDepth 20000 in
theorem gX8_fresh_X8_bits : GoodIn wsX8_fresh (va_wsS RX8 166 yX8_bits wsX8_bits) := goodIn_app (goodIn_of _ (by decide +kernel)) ggX8_fresh_X8_bits
set_option maxRecDepth 20000 in
theorem ggX8_fresh_X8_ropeOf : GoodIn wsX8_fresh wsX8_ropeOf := goodIn_r _ [21, 8, 9, 6, 10] (by decide +kernel) (by decide +kernel)
set_option maxRecDepth 20000 in
theorem gX8_fresh_X8_ropeOf : GoodIn wsX8_fresh (va_wsS RX8 182 yX8_ropeOf wsX8_ropeOf) := goodIn_app (goodIn_of _ (by decide +kernel)) ggX8_fresh_X8_ropeOf
theorem dX8_fresh_0 : decode cX8_fresh 0 = .ok (.iload_n 1, 1) := by decide +kernel
theorem dX8_fresh_1 : decode cX8_fresh 1 = .ok (.i2l, 1) := by decide +kernel
theorem dX8_fresh_2 : decode cX8_fresh 2 = .ok (.lconst 1, 1) := by decide +kernel
theorem dX8_fresh_3 : decode cX8_fresh 3 = .ok (.ldc2_w 80, 3) := by decide +kernel
theorem dX8_fresh_6 : decode cX8_fresh 6 = .ok (.invokestatic 82, 3) := by decide +kernel
theorem dX8_fresh_9 : decode cX8_fresh 9 = .ok (.ifCond .eq 33, 3) := by decide +kernel
theorem dX8_fresh_12 : decode cX8_fresh 12 = .ok (.iload_n 2, 1) := by decide +kernel
theorem dX8_fresh_13 : decode cX8_fresh 13 = .ok (.i2l, 1) := by decide +kernel
theorem dX8_fresh_14 : decode cX8_fresh 14 = .ok (.lconst 0, 1) := by decide +kernel
theorem dX8_fresh_15 : decode cX8_fresh 15 = .ok (.iconst 1, 1) := by decide +kernel
theorem dX8_fresh_16 : decode cX8_fresh 16 = .ok (.aload_n 0, 1) := by decide +kernel
theorem dX8_fresh_17 : decode cX8_fresh 17 = .ok (.getfield 22, 3) := by decide +kernel
theorem dX8_fresh_20 : decode cX8_fresh 20 = .ok (.iconst 0, 1) := by decide +kernel
theorem dX8_fresh_21 : decode cX8_fresh 21 = .ok (.iaload, 1) := by decide +kernel
theorem dX8_fresh_22 : decode cX8_fresh 22 = .ok (.ishl, 1) := by decide +kernel
theorem dX8_fresh_23 : decode cX8_fresh 23 = .ok (.iconst 1, 1) := by decide +kernel
theorem dX8_fresh_24 : decode cX8_fresh 24 = .ok (.isub, 1) := by decide +kernel
theorem dX8_fresh_25 : decode cX8_fresh 25 = .ok (.i2l, 1) := by decide +kernel
theorem dX8_fresh_26 : decode cX8_fresh 26 = .ok (.invokestatic 82, 3) := by decide +kernel
theorem dX8_fresh_29 : decode cX8_fresh 29 = .ok (.ifCond .eq 13, 3) := by decide +kernel
theorem dX8_fresh_32 : decode cX8_fresh 32 = .ok (.iload_n 3, 1) := by decide +kernel
theorem dX8_fresh_33 : decode cX8_fresh 33 = .ok (.i2l, 1) := by decide +kernel
theorem dX8_fresh_34 : decode cX8_fresh 34 = .ok (.lconst 0, 1) := by decide +kernel
theorem dX8_fresh_35 : decode cX8_fresh 35 = .ok (.lconst 1, 1) := by decide +kernel
theorem dX8_fresh_36 : decode cX8_fresh 36 = .ok (.invokestatic 82, 3) := by decide +kernel
theorem dX8_fresh_39 : decode cX8_fresh 39 = .ok (.ifCond .ne 5, 3) := by decide +kernel
theorem dX8_fresh_42 : decode cX8_fresh 42 = .ok (.iconst (-1), 1) := by decide +kernel
theorem dX8_fresh_43 : decode cX8_fresh 43 = .ok (.ireturn, 1) := by decide +kernel
theorem dX8_fresh_44 : decode cX8_fresh 44 = .ok (.iload_n 2, 1) := by decide +kernel
theorem dX8_fresh_45 : decode cX8_fresh 45 = .ok (.istore 4, 2) := by decide +kernel
theorem dX8_fresh_47 : decode cX8_fresh 47 = .ok (.iconst 0, 1) := by decide +kernel
theorem dX8_fresh_48 : decode cX8_fresh 48 = .ok (.istore 5, 2) := by decide +kernel
theorem dX8_fresh_50 : decode cX8_fresh 50 = .ok (.iload 5, 2) := by decide +kernel
theorem dX8_fresh_52 : decode cX8_fresh 52 = .ok (.aload_n 0, 1) := by decide +kernel
theorem dX8_fresh_53 : decode cX8_fresh 53 = .ok (.getfield 22, 3) := by decide +kernel
theorem dX8_fresh_56 : decode cX8_fresh 56 = .ok (.iconst 0, 1) := by decide +kernel
theorem dX8_fresh_57 : decode cX8_fresh 57 = .ok (.iaload, 1) := by decide +kernel
theorem dX8_fresh_58 : decode cX8_fresh 58 = .ok (.if_icmp .ge 39, 3) := by decide +kernel
theorem dX8_fresh_61 : decode cX8_fresh 61 = .ok (.iload 4, 2) := by decide +kernel
theorem dX8_fresh_63 : decode cX8_fresh 63 = .ok (.iload_n 2, 1) := by decide +kernel
theorem dX8_fresh_64 : decode cX8_fresh 64 = .ok (.iload 5, 2) := by decide +kernel
theorem dX8_fresh_66 : decode cX8_fresh 66 = .ok (.invokestatic 140, 3) := by decide +kernel
theorem dX8_fresh_69 : decode cX8_fresh 69 = .ok (.ifCond .eq 18, 3) := by decide +kernel
theorem dX8_fresh_72 : decode cX8_fresh 72 = .ok (.aload_n 0, 1) := by decide +kernel
theorem dX8_fresh_73 : decode cX8_fresh 73 = .ok (.iload 5, 2) := by decide +kernel
theorem dX8_fresh_75 : decode cX8_fresh 75 = .ok (.aload_n 0, 1) := by decide +kernel
theorem dX8_fresh_76 : decode cX8_fresh 76 = .ok (.getfield 40, 3) := by decide +kernel
theorem dX8_fresh_79 : decode cX8_fresh 79 = .ok (.iconst 0, 1) := by decide +kernel
theorem dX8_fresh_80 : decode cX8_fresh 80 = .ok (.iaload, 1) := by decide +kernel
theorem dX8_fresh_81 : decode cX8_fresh 81 = .ok (.invokevirtual 149, 3) := by decide +kernel
theorem dX8_fresh_84 : decode cX8_fresh 84 = .ok (.goto 4, 3) := by decide +kernel
theorem dX8_fresh_87 : decode cX8_fresh 87 = .ok (.iconst 0, 1) := by decide +kernel
theorem dX8_fresh_88 : decode cX8_fresh 88 = .ok (.ior, 1) := by decide +kernel
theorem dX8_fresh_89 : decode cX8_fresh 89 = .ok (.istore 4, 2) := by decide +kernel
theorem dX8_fresh_91 : decode cX8_fresh 91 = .ok (.iinc 5 1, 3) := by decide +kernel
theorem dX8_fresh_94 : decode cX8_fresh 94 = .ok (.goto (-44), 3) := by decide +kernel
theorem dX8_fresh_97 : decode cX8_fresh 97 = .ok (.bipush (-4), 2) := by decide +kernel
theorem dX8_fresh_99 : decode cX8_fresh 99 = .ok (.istore 5, 2) := by decide +kernel
theorem dX8_fresh_101 : decode cX8_fresh 101 = .ok (.iconst 0, 1) := by decide +kernel
theorem dX8_fresh_102 : decode cX8_fresh 102 = .ok (.istore 6, 2) := by decide +kernel
theorem dX8_fresh_104 : decode cX8_fresh 104 = .ok (.iload 6, 2) := by decide +kernel
theorem dX8_fresh_106 : decode cX8_fresh 106 = .ok (.iconst 1, 1) := by decide +kernel
theorem dX8_fresh_107 : decode cX8_fresh 107 = .ok (.aload_n 0, 1) := by decide +kernel
theorem dX8_fresh_108 : decode cX8_fresh 108 = .ok (.getfield 22, 3) := by decide +kernel
theorem dX8_fresh_111 : decode cX8_fresh 111 = .ok (.iconst 0, 1) := by decide +kernel
theorem dX8_fresh_112 : decode cX8_fresh 112 = .ok (.iaload, 1) := by decide +kernel
theorem dX8_fresh_113 : decode cX8_fresh 113 = .ok (.ishl, 1) := by decide +kernel
theorem dX8_fresh_114 : decode cX8_fresh 114 = .ok (.if_icmp .ge 79, 3) := by decide +kernel
theorem dX8_fresh_117 : decode cX8_fresh 117 = .ok (.iload 6, 2) := by decide +kernel
theorem dX8_fresh_119 : decode cX8_fresh 119 = .ok (.invokestatic 166, 3) := by decide +kernel
theorem dX8_fresh_122 : decode cX8_fresh 122 = .ok (.iload_n 1, 1) := by decide +kernel
theorem dX8_fresh_123 : decode cX8_fresh 123 = .ok (.if_icmp .ne 29, 3) := by decide +kernel
theorem dX8_fresh_126 : decode cX8_fresh 126 = .ok (.iload 6, 2) := by decide +kernel
theorem dX8_fresh_128 : decode cX8_fresh 128 = .ok (.aload_n 0, 1) := by decide +kernel
theorem dX8_fresh_129 : decode cX8_fresh 129 = .ok (.getfield 40, 3) := by decide +kernel
theorem dX8_fresh_132 : decode cX8_fresh 132 = .ok (.iconst 0, 1) := by decide +kernel
theorem dX8_fresh_133 : decode cX8_fresh 133 = .ok (.iaload, 1) := by decide +kernel
theorem dX8_fresh_134 : decode cX8_fresh 134 = .ok (.iconst (-1), 1) := by decide +kernel
theorem dX8_fresh_135 : decode cX8_fresh 135 = .ok (.ixor, 1) := by decide +kernel
theorem dX8_fresh_136 : decode cX8_fresh 136 = .ok (.iand, 1) := by decide +kernel
theorem dX8_fresh_137 : decode cX8_fresh 137 = .ok (.ifCond .ne 15, 3) := by decide +kernel
theorem dX8_fresh_140 : decode cX8_fresh 140 = .ok (.iload 6, 2) := by decide +kernel
theorem dX8_fresh_142 : decode cX8_fresh 142 = .ok (.iload 4, 2) := by decide +kernel
theorem dX8_fresh_144 : decode cX8_fresh 144 = .ok (.iand, 1) := by decide +kernel
theorem dX8_fresh_145 : decode cX8_fresh 145 = .ok (.ifCond .ne 7, 3) := by decide +kernel
theorem dX8_fresh_148 : decode cX8_fresh 148 = .ok (.iconst 1, 1) := by decide +kernel
theorem dX8_fresh_149 : decode cX8_fresh 149 = .ok (.goto 4, 3) := by decide +kernel
theorem dX8_fresh_152 : decode cX8_fresh 152 = .ok (.iconst 0, 1) := by decide +kernel
theorem dX8_fresh_153 : decode cX8_fresh 153 = .ok (.istore 7, 2) := by decide +kernel
theorem dX8_fresh_155 : decode cX8_fresh 155 = .ok (.iload 7, 2) := by decide +kernel
theorem dX8_fresh_157 : decode cX8_fresh 157 = .ok (.ifCond .eq 26, 3) := by decide +kernel
theorem dX8_fresh_160 : decode cX8_fresh 160 = .ok (.iload 5, 2) := by decide +kernel
theorem dX8_fresh_162 : decode cX8_fresh 162 = .ok (.ifCond .lt 16, 3) := by decide +kernel
theorem dX8_fresh_165 : decode cX8_fresh 165 = .ok (.iload 6, 2) := by decide +kernel
theorem dX8_fresh_167 : decode cX8_fresh 167 = .ok (.invokestatic 182, 3) := by decide +kernel
theorem dX8_fresh_170 : decode cX8_fresh 170 = .ok (.iload 5, 2) := by decide +kernel
theorem dX8_fresh_172 : decode cX8_fresh 172 = .ok (.invokestatic 182, 3) := by decide +kernel
theorem dX8_fresh_175 : decode cX8_fresh 175 = .ok (.if_icmp .ge 8, 3) := by decide +kernel
theorem dX8_fresh_178 : decode cX8_fresh 178 = .ok (.iload 6, 2) := by decide +kernel
theorem dX8_fresh_180 : decode cX8_fresh 180 = .ok (.goto 5, 3) := by decide +kernel
theorem dX8_fresh_183 : decode cX8_fresh 183 = .ok (.iload 5, 2) := by decide +kernel
theorem dX8_fresh_185 : decode cX8_fresh 185 = .ok (.istore 5, 2) := by decide +kernel
theorem dX8_fresh_187 : decode cX8_fresh 187 = .ok (.iinc 6 1, 3) := by decide +kernel
theorem dX8_fresh_190 : decode cX8_fresh 190 = .ok (.goto (-86), 3) := by decide +kernel
theorem dX8_fresh_193 : decode cX8_fresh 193 = .ok (.iload 5, 2) := by decide +kernel
theorem dX8_fresh_195 : decode cX8_fresh 195 = .ok (.ifCond .ge 8, 3) := by decide +kernel
theorem dX8_fresh_198 : decode cX8_fresh 198 = .ok (.bipush (-4), 2) := by decide +kernel
theorem dX8_fresh_200 : decode cX8_fresh 200 = .ok (.goto 17, 3) := by decide +kernel
theorem dX8_fresh_203 : decode cX8_fresh 203 = .ok (.iload_n 3, 1) := by decide +kernel
theorem dX8_fresh_204 : decode cX8_fresh 204 = .ok (.ifCond .ne 8, 3) := by decide +kernel
theorem dX8_fresh_207 : decode cX8_fresh 207 = .ok (.iload 5, 2) := by decide +kernel
theorem dX8_fresh_209 : decode cX8_fresh 209 = .ok (.goto 8, 3) := by decide +kernel
theorem dX8_fresh_212 : decode cX8_fresh 212 = .ok (.iload 5, 2) := by decide +kernel
theorem dX8_fresh_214 : decode cX8_fresh 214 = .ok (.invokestatic 182, 3) := by decide +kernel
theorem dX8_fresh_217 : decode cX8_fresh 217 = .ok (.ireturn, 1) := by decide +kernel
set_option maxRecDepth 20000 in
theorem ggX8_orders_X8_has : GoodIn wsX8_orders wsX8_has := goodIn_r _ [8] (by decide +kernel) (by decide +kernel)
set_option maxRecDepth 20000 in
theorem gX8_orders_X8_has : GoodIn wsX8_orders (va_wsS RX8 140 yX8_has wsX8_has) := goodIn_app (goodIn_of _ (by decide +kernel)) ggX8_orders_X8_has
theorem dX8_orders_0 : decode cX8_orders 0 = .ok (.aload_n 0, 1) := by decide +kernel
theorem dX8_orders_1 : decode cX8_orders 1 = .ok (.getfield 64, 3) := by decide +kernel
theorem dX8_orders_4 : decode cX8_orders 4 = .ok (.iconst 0, 1) := by decide +kernel
theorem dX8_orders_5 : decode cX8_orders 5 = .ok (.iconst 1, 1) := by decide +kernel
theorem dX8_orders_6 : decode cX8_orders 6 = .ok (.iastore, 1) := by decide +kernel
theorem dX8_orders_7 : decode cX8_orders 7 = .ok (.iconst 1, 1) := by decide +kernel
theorem dX8_orders_8 : decode cX8_orders 8 = .ok (.istore_n 1, 1) := by decide +kernel
theorem dX8_orders_9 : decode cX8_orders 9 = .ok (.iload_n 1, 1) := by decide +kernel
theorem dX8_orders_10 : decode cX8_orders 10 = .ok (.iconst 1, 1) := by decide +kernel
theorem dX8_orders_11 : decode cX8_orders 11 = .ok (.aload_n 0, 1) := by decide +kernel
theorem dX8_orders_12 : decode cX8_orders 12 = .ok (.getfield 22, 3) := by decide +kernel
theorem dX8_orders_15 : decode cX8_orders 15 = .ok (.iconst 0, 1) := by decide +kernel
theorem dX8_orders_16 : decode cX8_orders 16 = .ok (.iaload, 1) := by decide +kernel
theorem dX8_orders_17 : decode cX8_orders 17 = .ok (.ishl, 1) := by decide +kernel
theorem dX8_orders_18 : decode cX8_orders 18 = .ok (.if_icmp .ge 143, 3) := by decide +kernel
theorem dX8_orders_21 : decode cX8_orders 21 = .ok (.aload_n 0, 1) := by decide +kernel
theorem dX8_orders_22 : decode cX8_orders 22 = .ok (.getfield 64, 3) := by decide +kernel
theorem dX8_orders_25 : decode cX8_orders 25 = .ok (.iload_n 1, 1) := by decide +kernel
theorem dX8_orders_26 : decode cX8_orders 26 = .ok (.iconst 0, 1) := by decide +kernel
theorem dX8_orders_27 : decode cX8_orders 27 = .ok (.iastore, 1) := by decide +kernel
theorem dX8_orders_28 : decode cX8_orders 28 = .ok (.iconst 0, 1) := by decide +kernel
theorem dX8_orders_29 : decode cX8_orders 29 = .ok (.istore_n 2, 1) := by decide +kernel
theorem dX8_orders_30 : decode cX8_orders 30 = .ok (.iload_n 2, 1) := by decide +kernel
theorem dX8_orders_31 : decode cX8_orders 31 = .ok (.aload_n 0, 1) := by decide +kernel
theorem dX8_orders_32 : decode cX8_orders 32 = .ok (.getfield 22, 3) := by decide +kernel
theorem dX8_orders_35 : decode cX8_orders 35 = .ok (.iconst 0, 1) := by decide +kernel
theorem dX8_orders_36 : decode cX8_orders 36 = .ok (.iaload, 1) := by decide +kernel
theorem dX8_orders_37 : decode cX8_orders 37 = .ok (.if_icmp .ge 118, 3) := by decide +kernel
theorem dX8_orders_40 : decode cX8_orders 40 = .ok (.iload_n 1, 1) := by decide +kernel
theorem dX8_orders_41 : decode cX8_orders 41 = .ok (.iload_n 2, 1) := by decide +kernel
theorem dX8_orders_42 : decode cX8_orders 42 = .ok (.invokestatic 140, 3) := by decide +kernel
theorem dX8_orders_45 : decode cX8_orders 45 = .ok (.ifCond .eq 20, 3) := by decide +kernel
theorem dX8_orders_48 : decode cX8_orders 48 = .ok (.iload_n 1, 1) := by decide +kernel
theorem dX8_orders_49 : decode cX8_orders 49 = .ok (.aload_n 0, 1) := by decide +kernel
theorem dX8_orders_50 : decode cX8_orders 50 = .ok (.getfield 40, 3) := by decide +kernel
theorem dX8_orders_53 : decode cX8_orders 53 = .ok (.iconst 0, 1) := by decide +kernel
theorem dX8_orders_54 : decode cX8_orders 54 = .ok (.iaload, 1) := by decide +kernel
theorem dX8_orders_55 : decode cX8_orders 55 = .ok (.iconst (-1), 1) := by decide +kernel
theorem dX8_orders_56 : decode cX8_orders 56 = .ok (.ixor, 1) := by decide +kernel
theorem dX8_orders_57 : decode cX8_orders 57 = .ok (.iand, 1) := by decide +kernel
theorem dX8_orders_58 : decode cX8_orders 58 = .ok (.ifCond .ne 7, 3) := by decide +kernel
theorem dX8_orders_61 : decode cX8_orders 61 = .ok (.iconst 1, 1) := by decide +kernel
theorem dX8_orders_62 : decode cX8_orders 62 = .ok (.goto 4, 3) := by decide +kernel
theorem dX8_orders_65 : decode cX8_orders 65 = .ok (.iconst 0, 1) := by decide +kernel
theorem dX8_orders_66 : decode cX8_orders 66 = .ok (.istore_n 3, 1) := by decide +kernel
theorem dX8_orders_67 : decode cX8_orders 67 = .ok (.iconst 0, 1) := by decide +kernel
theorem dX8_orders_68 : decode cX8_orders 68 = .ok (.istore 4, 2) := by decide +kernel
theorem dX8_orders_70 : decode cX8_orders 70 = .ok (.iload 4, 2) := by decide +kernel
theorem dX8_orders_72 : decode cX8_orders 72 = .ok (.aload_n 0, 1) := by decide +kernel
theorem dX8_orders_73 : decode cX8_orders 73 = .ok (.getfield 22, 3) := by decide +kernel
theorem dX8_orders_76 : decode cX8_orders 76 = .ok (.iconst 0, 1) := by decide +kernel
theorem dX8_orders_77 : decode cX8_orders 77 = .ok (.iaload, 1) := by decide +kernel
theorem dX8_orders_78 : decode cX8_orders 78 = .ok (.if_icmp .ge 42, 3) := by decide +kernel
theorem dX8_orders_81 : decode cX8_orders 81 = .ok (.iload_n 3, 1) := by decide +kernel
theorem dX8_orders_82 : decode cX8_orders 82 = .ok (.ifCond .eq 30, 3) := by decide +kernel
theorem dX8_orders_85 : decode cX8_orders 85 = .ok (.iload_n 1, 1) := by decide +kernel
theorem dX8_orders_86 : decode cX8_orders 86 = .ok (.iload 4, 2) := by decide +kernel
theorem dX8_orders_88 : decode cX8_orders 88 = .ok (.invokestatic 140, 3) := by decide +kernel
theorem dX8_orders_91 : decode cX8_orders 91 = .ok (.ifCond .eq 17, 3) := by decide +kernel
theorem dX8_orders_94 : decode cX8_orders 94 = .ok (.aload_n 0, 1) := by decide +kernel
theorem dX8_orders_95 : decode cX8_orders 95 = .ok (.getfield 31, 3) := by decide +kernel
theorem dX8_orders_98 : decode cX8_orders 98 = .ok (.iload 4, 2) := by decide +kernel
theorem dX8_orders_100 : decode cX8_orders 100 = .ok (.iaload, 1) := by decide +kernel
theorem dX8_orders_101 : decode cX8_orders 101 = .ok (.iload_n 2, 1) := by decide +kernel
theorem dX8_orders_102 : decode cX8_orders 102 = .ok (.invokestatic 140, 3) := by decide +kernel
theorem dX8_orders_105 : decode cX8_orders 105 = .ok (.ifCond .ne 7, 3) := by decide +kernel
theorem dX8_orders_108 : decode cX8_orders 108 = .ok (.iconst 1, 1) := by decide +kernel
theorem dX8_orders_109 : decode cX8_orders 109 = .ok (.goto 4, 3) := by decide +kernel
theorem dX8_orders_112 : decode cX8_orders 112 = .ok (.iconst 0, 1) := by decide +kernel
theorem dX8_orders_113 : decode cX8_orders 113 = .ok (.istore_n 3, 1) := by decide +kernel
theorem dX8_orders_114 : decode cX8_orders 114 = .ok (.iinc 4 1, 3) := by decide +kernel
theorem dX8_orders_117 : decode cX8_orders 117 = .ok (.goto (-47), 3) := by decide +kernel
theorem dX8_orders_120 : decode cX8_orders 120 = .ok (.aload_n 0, 1) := by decide +kernel
theorem dX8_orders_121 : decode cX8_orders 121 = .ok (.getfield 64, 3) := by decide +kernel
theorem dX8_orders_124 : decode cX8_orders 124 = .ok (.iload_n 1, 1) := by decide +kernel
theorem dX8_orders_125 : decode cX8_orders 125 = .ok (.dup2, 1) := by decide +kernel
theorem dX8_orders_126 : decode cX8_orders 126 = .ok (.iaload, 1) := by decide +kernel
theorem dX8_orders_127 : decode cX8_orders 127 = .ok (.iload_n 3, 1) := by decide +kernel
theorem dX8_orders_128 : decode cX8_orders 128 = .ok (.ifCond .eq 18, 3) := by decide +kernel
theorem dX8_orders_131 : decode cX8_orders 131 = .ok (.aload_n 0, 1) := by decide +kernel
theorem dX8_orders_132 : decode cX8_orders 132 = .ok (.getfield 64, 3) := by decide +kernel
theorem dX8_orders_135 : decode cX8_orders 135 = .ok (.iload_n 1, 1) := by decide +kernel
theorem dX8_orders_136 : decode cX8_orders 136 = .ok (.iconst 1, 1) := by decide +kernel
theorem dX8_orders_137 : decode cX8_orders 137 = .ok (.iload_n 2, 1) := by decide +kernel
theorem dX8_orders_138 : decode cX8_orders 138 = .ok (.ishl, 1) := by decide +kernel
theorem dX8_orders_139 : decode cX8_orders 139 = .ok (.iconst (-1), 1) := by decide +kernel
theorem dX8_orders_140 : decode cX8_orders 140 = .ok (.ixor, 1) := by decide +kernel
theorem dX8_orders_141 : decode cX8_orders 141 = .ok (.iand, 1) := by decide +kernel
theorem dX8_orders_142 : decode cX8_orders 142 = .ok (.iaload, 1) := by decide +kernel
theorem dX8_orders_143 : decode cX8_orders 143 = .ok (.goto 4, 3) := by decide +kernel
theorem dX8_orders_146 : decode cX8_orders 146 = .ok (.iconst 0, 1) := by decide +kernel
theorem dX8_orders_147 : decode cX8_orders 147 = .ok (.iadd, 1) := by decide +kernel
theorem dX8_orders_148 : decode cX8_orders 148 = .ok (.iastore, 1) := by decide +kernel
theorem dX8_orders_149 : decode cX8_orders 149 = .ok (.iinc 2 1, 3) := by decide +kernel
theorem dX8_orders_152 : decode cX8_orders 152 = .ok (.goto (-122), 3) := by decide +kernel
theorem dX8_orders_155 : decode cX8_orders 155 = .ok (.iinc 1 1, 3) := by decide +kernel
theorem dX8_orders_158 : decode cX8_orders 158 = .ok (.goto (-149), 3) := by decide +kernel
theorem dX8_orders_161 : decode cX8_orders 161 = .ok (.aload_n 0, 1) := by decide +kernel
theorem dX8_orders_162 : decode cX8_orders 162 = .ok (.getfield 64, 3) := by decide +kernel
theorem dX8_orders_165 : decode cX8_orders 165 = .ok (.aload_n 0, 1) := by decide +kernel
theorem dX8_orders_166 : decode cX8_orders 166 = .ok (.getfield 40, 3) := by decide +kernel
theorem dX8_orders_169 : decode cX8_orders 169 = .ok (.iconst 0, 1) := by decide +kernel
theorem dX8_orders_170 : decode cX8_orders 170 = .ok (.iaload, 1) := by decide +kernel
theorem dX8_orders_171 : decode cX8_orders 171 = .ok (.iaload, 1) := by decide +kernel
theorem dX8_orders_172 : decode cX8_orders 172 = .ok (.ireturn, 1) := by decide +kernel
set_option maxRecDepth 20000 in
theorem ggX8_tell_X8_isThere : GoodIn wsX8_tell wsX8_isThere := goodIn_r _ [7, 8, 9, 10, 6, 11, 12, 13, 14, 15, 16, 17, 18, 19, 20, 21, 22, 23, 24, 25, 26, 27, 28, 29, 30, 31, 32, 33, 34, 35, 36, 37, 38] (by decide +kernel) (by decide +kernel)
set_option maxRecDepth 20000 in
theorem gX8_tell_X8_isThere : GoodIn wsX8_tell (wsV RX8 144 RX8 yX8_isThere wsX8_isThere) := goodIn_app (goodIn_of _ (by decide +kernel)) ggX8_tell_X8_isThere
theorem dX8_tell_0 : decode cX8_tell 0 = .ok (.aload_n 0, 1) := by decide +kernel
theorem dX8_tell_1 : decode cX8_tell 1 = .ok (.iload_n 1, 1) := by decide +kernel
theorem dX8_tell_2 : decode cX8_tell 2 = .ok (.invokevirtual 144, 3) := by decide +kernel
theorem dX8_tell_5 : decode cX8_tell 5 = .ok (.ifCond .ne 5, 3) := by decide +kernel
theorem dX8_tell_8 : decode cX8_tell 8 = .ok (.iconst (-1), 1) := by decide +kernel
theorem dX8_tell_9 : decode cX8_tell 9 = .ok (.ireturn, 1) := by decide +kernel
theorem dX8_tell_10 : decode cX8_tell 10 = .ok (.iconst 0, 1) := by decide +kernel
theorem dX8_tell_11 : decode cX8_tell 11 = .ok (.istore_n 2, 1) := by decide +kernel
theorem dX8_tell_12 : decode cX8_tell 12 = .ok (.iload_n 2, 1) := by decide +kernel
theorem dX8_tell_13 : decode cX8_tell 13 = .ok (.aload_n 0, 1) := by decide +kernel
theorem dX8_tell_14 : decode cX8_tell 14 = .ok (.getfield 137, 3) := by decide +kernel
theorem dX8_tell_17 : decode cX8_tell 17 = .ok (.if_icmp .ge 22, 3) := by decide +kernel
theorem dX8_tell_20 : decode cX8_tell 20 = .ok (.aload_n 0, 1) := by decide +kernel
theorem dX8_tell_21 : decode cX8_tell 21 = .ok (.getfield 49, 3) := by decide +kernel
theorem dX8_tell_24 : decode cX8_tell 24 = .ok (.iload_n 2, 1) := by decide +kernel
theorem dX8_tell_25 : decode cX8_tell 25 = .ok (.iaload, 1) := by decide +kernel
theorem dX8_tell_26 : decode cX8_tell 26 = .ok (.iload_n 1, 1) := by decide +kernel
theorem dX8_tell_27 : decode cX8_tell 27 = .ok (.if_icmp .ne 6, 3) := by decide +kernel
theorem dX8_tell_30 : decode cX8_tell 30 = .ok (.bipush (-2), 2) := by decide +kernel
theorem dX8_tell_32 : decode cX8_tell 32 = .ok (.ireturn, 1) := by decide +kernel
theorem dX8_tell_33 : decode cX8_tell 33 = .ok (.iinc 2 1, 3) := by decide +kernel
theorem dX8_tell_36 : decode cX8_tell 36 = .ok (.goto (-24), 3) := by decide +kernel
theorem dX8_tell_39 : decode cX8_tell 39 = .ok (.aload_n 0, 1) := by decide +kernel
theorem dX8_tell_40 : decode cX8_tell 40 = .ok (.getfield 49, 3) := by decide +kernel
theorem dX8_tell_43 : decode cX8_tell 43 = .ok (.aload_n 0, 1) := by decide +kernel
theorem dX8_tell_44 : decode cX8_tell 44 = .ok (.getfield 137, 3) := by decide +kernel
theorem dX8_tell_47 : decode cX8_tell 47 = .ok (.iload_n 1, 1) := by decide +kernel
theorem dX8_tell_48 : decode cX8_tell 48 = .ok (.iastore, 1) := by decide +kernel
theorem dX8_tell_49 : decode cX8_tell 49 = .ok (.aload_n 0, 1) := by decide +kernel
theorem dX8_tell_50 : decode cX8_tell 50 = .ok (.dup, 1) := by decide +kernel
theorem dX8_tell_51 : decode cX8_tell 51 = .ok (.getfield 137, 3) := by decide +kernel
theorem dX8_tell_54 : decode cX8_tell 54 = .ok (.iconst 1, 1) := by decide +kernel
theorem dX8_tell_55 : decode cX8_tell 55 = .ok (.iadd, 1) := by decide +kernel
theorem dX8_tell_56 : decode cX8_tell 56 = .ok (.putfield 137, 3) := by decide +kernel
theorem dX8_tell_59 : decode cX8_tell 59 = .ok (.aload_n 0, 1) := by decide +kernel
theorem dX8_tell_60 : decode cX8_tell 60 = .ok (.getfield 137, 3) := by decide +kernel
theorem dX8_tell_63 : decode cX8_tell 63 = .ok (.ireturn, 1) := by decide +kernel
theorem dX8_noRow_0 : decode cX8_noRow 0 = .ok (.aload_n 0, 1) := by decide +kernel
theorem dX8_noRow_1 : decode cX8_noRow 1 = .ok (.getfield 137, 3) := by decide +kernel
theorem dX8_noRow_4 : decode cX8_noRow 4 = .ok (.istore_n 1, 1) := by decide +kernel
theorem dX8_noRow_5 : decode cX8_noRow 5 = .ok (.aload_n 0, 1) := by decide +kernel
theorem dX8_noRow_6 : decode cX8_noRow 6 = .ok (.iconst 0, 1) := by decide +kernel
theorem dX8_noRow_7 : decode cX8_noRow 7 = .ok (.putfield 137, 3) := by decide +kernel
theorem dX8_noRow_10 : decode cX8_noRow 10 = .ok (.iload_n 1, 1) := by decide +kernel
theorem dX8_noRow_11 : decode cX8_noRow 11 = .ok (.ireturn, 1) := by decide +kernel
set_option maxRecDepth 20000 in
theorem ggX8_judge_X8_has : GoodIn wsX8_judge wsX8_has := goodIn_r _ [7] (by decide +kernel) (by decide +kernel)
set_option maxRecDepth 20000 in
theorem gX8_judge_X8_has : GoodIn wsX8_judge (va_wsS RX8 140 yX8_has wsX8_has) := goodIn_app (goodIn_of _ (by decide +kernel)) ggX8_judge_X8_has
theorem dX8_judge_0 : decode cX8_judge 0 = .ok (.iconst 0, 1) := by decide +kernel
theorem dX8_judge_1 : decode cX8_judge 1 = .ok (.istore_n 1, 1) := by decide +kernel
theorem dX8_judge_2 : decode cX8_judge 2 = .ok (.iload_n 1, 1) := by decide +kernel
theorem dX8_judge_3 : decode cX8_judge 3 = .ok (.aload_n 0, 1) := by decide +kernel
theorem dX8_judge_4 : decode cX8_judge 4 = .ok (.getfield 137, 3) := by decide +kernel
theorem dX8_judge_7 : decode cX8_judge 7 = .ok (.if_icmp .ge 52, 3) := by decide +kernel
theorem dX8_judge_10 : decode cX8_judge 10 = .ok (.iload_n 1, 1) := by decide +kernel
theorem dX8_judge_11 : decode cX8_judge 11 = .ok (.iconst 1, 1) := by decide +kernel
theorem dX8_judge_12 : decode cX8_judge 12 = .ok (.iadd, 1) := by decide +kernel
theorem dX8_judge_13 : decode cX8_judge 13 = .ok (.istore_n 2, 1) := by decide +kernel
theorem dX8_judge_14 : decode cX8_judge 14 = .ok (.iload_n 2, 1) := by decide +kernel
theorem dX8_judge_15 : decode cX8_judge 15 = .ok (.aload_n 0, 1) := by decide +kernel
theorem dX8_judge_16 : decode cX8_judge 16 = .ok (.getfield 137, 3) := by decide +kernel
theorem dX8_judge_19 : decode cX8_judge 19 = .ok (.if_icmp .ge 34, 3) := by decide +kernel
theorem dX8_judge_22 : decode cX8_judge 22 = .ok (.aload_n 0, 1) := by decide +kernel
theorem dX8_judge_23 : decode cX8_judge 23 = .ok (.getfield 31, 3) := by decide +kernel
theorem dX8_judge_26 : decode cX8_judge 26 = .ok (.aload_n 0, 1) := by decide +kernel
theorem dX8_judge_27 : decode cX8_judge 27 = .ok (.getfield 49, 3) := by decide +kernel
theorem dX8_judge_30 : decode cX8_judge 30 = .ok (.iload_n 1, 1) := by decide +kernel
theorem dX8_judge_31 : decode cX8_judge 31 = .ok (.iaload, 1) := by decide +kernel
theorem dX8_judge_32 : decode cX8_judge 32 = .ok (.iaload, 1) := by decide +kernel
theorem dX8_judge_33 : decode cX8_judge 33 = .ok (.aload_n 0, 1) := by decide +kernel
theorem dX8_judge_34 : decode cX8_judge 34 = .ok (.getfield 49, 3) := by decide +kernel
theorem dX8_judge_37 : decode cX8_judge 37 = .ok (.iload_n 2, 1) := by decide +kernel
theorem dX8_judge_38 : decode cX8_judge 38 = .ok (.iaload, 1) := by decide +kernel
theorem dX8_judge_39 : decode cX8_judge 39 = .ok (.invokestatic 140, 3) := by decide +kernel
theorem dX8_judge_42 : decode cX8_judge 42 = .ok (.ifCond .eq 5, 3) := by decide +kernel
theorem dX8_judge_45 : decode cX8_judge 45 = .ok (.iload_n 1, 1) := by decide +kernel
theorem dX8_judge_46 : decode cX8_judge 46 = .ok (.ireturn, 1) := by decide +kernel
theorem dX8_judge_47 : decode cX8_judge 47 = .ok (.iinc 2 1, 3) := by decide +kernel
theorem dX8_judge_50 : decode cX8_judge 50 = .ok (.goto (-36), 3) := by decide +kernel
theorem dX8_judge_53 : decode cX8_judge 53 = .ok (.iinc 1 1, 3) := by decide +kernel
theorem dX8_judge_56 : decode cX8_judge 56 = .ok (.goto (-54), 3) := by decide +kernel
theorem dX8_judge_59 : decode cX8_judge 59 = .ok (.bipush (-4), 2) := by decide +kernel
theorem dX8_judge_61 : decode cX8_judge 61 = .ok (.ireturn, 1) := by decide +kernel
set_option maxRecDepth 20000 in
theorem ggX8_cross_X8_in : GoodIn wsX8_cross wsX8_in := goodIn_r _ [7] (by decide +kernel) (by decide +kernel)
set_option maxRecDepth 20000 in
theorem gX8_cross_X8_in : GoodIn wsX8_cross (va_wsS RX8 82 yX8_in wsX8_in) := goodIn_app (goodIn_of _ (by decide +kernel)) ggX8_cross_X8_in
theorem dX8_cross_0 : decode cX8_cross 0 = .ok (.iload_n 1, 1) := by decide +kernel
theorem dX8_cross_1 : decode cX8_cross 1 = .ok (.i2l, 1) := by decide +kernel
theorem dX8_cross_2 : decode cX8_cross 2 = .ok (.lconst 0, 1) := by decide +kernel
theorem dX8_cross_3 : decode cX8_cross 3 = .ok (.lconst 1, 1) := by decide +kernel
theorem dX8_cross_4 : decode cX8_cross 4 = .ok (.invokestatic 82, 3) := by decide +kernel
theorem dX8_cross_7 : decode cX8_cross 7 = .ok (.ifCond .eq 15, 3) := by decide +kernel
theorem dX8_cross_10 : decode cX8_cross 10 = .ok (.iload_n 2, 1) := by decide +kernel
theorem dX8_cross_11 : decode cX8_cross 11 = .ok (.i2l, 1) := by decide +kernel
theorem dX8_cross_12 : decode cX8_cross 12 = .ok (.lconst 0, 1) := by decide +kernel
theorem dX8_cross_13 : decode cX8_cross 13 = .ok (.ldc2_w 185, 3) := by decide +kernel
theorem dX8_cross_16 : decode cX8_cross 16 = .ok (.invokestatic 82, 3) := by decide +kernel
theorem dX8_cross_19 : decode cX8_cross 19 = .ok (.ifCond .ne 5, 3) := by decide +kernel
theorem dX8_cross_22 : decode cX8_cross 22 = .ok (.iconst (-1), 1) := by decide +kernel
theorem dX8_cross_23 : decode cX8_cross 23 = .ok (.ireturn, 1) := by decide +kernel
theorem dX8_cross_24 : decode cX8_cross 24 = .ok (.aload_n 0, 1) := by decide +kernel
theorem dX8_cross_25 : decode cX8_cross 25 = .ok (.getfield 52, 3) := by decide +kernel
theorem dX8_cross_28 : decode cX8_cross 28 = .ok (.iload_n 1, 1) := by decide +kernel
theorem dX8_cross_29 : decode cX8_cross 29 = .ok (.iaload, 1) := by decide +kernel
theorem dX8_cross_30 : decode cX8_cross 30 = .ok (.bipush 16, 2) := by decide +kernel
theorem dX8_cross_32 : decode cX8_cross 32 = .ok (.if_icmp .ne 6, 3) := by decide +kernel
theorem dX8_cross_35 : decode cX8_cross 35 = .ok (.bipush (-3), 2) := by decide +kernel
theorem dX8_cross_37 : decode cX8_cross 37 = .ok (.ireturn, 1) := by decide +kernel
theorem dX8_cross_38 : decode cX8_cross 38 = .ok (.aload_n 0, 1) := by decide +kernel
theorem dX8_cross_39 : decode cX8_cross 39 = .ok (.getfield 55, 3) := by decide +kernel
theorem dX8_cross_42 : decode cX8_cross 42 = .ok (.bipush 16, 2) := by decide +kernel
theorem dX8_cross_44 : decode cX8_cross 44 = .ok (.iload_n 1, 1) := by decide +kernel
theorem dX8_cross_45 : decode cX8_cross 45 = .ok (.imul, 1) := by decide +kernel
theorem dX8_cross_46 : decode cX8_cross 46 = .ok (.aload_n 0, 1) := by decide +kernel
theorem dX8_cross_47 : decode cX8_cross 47 = .ok (.getfield 52, 3) := by decide +kernel
theorem dX8_cross_50 : decode cX8_cross 50 = .ok (.iload_n 1, 1) := by decide +kernel
theorem dX8_cross_51 : decode cX8_cross 51 = .ok (.iaload, 1) := by decide +kernel
theorem dX8_cross_52 : decode cX8_cross 52 = .ok (.iadd, 1) := by decide +kernel
theorem dX8_cross_53 : decode cX8_cross 53 = .ok (.iload_n 2, 1) := by decide +kernel
theorem dX8_cross_54 : decode cX8_cross 54 = .ok (.iastore, 1) := by decide +kernel
theorem dX8_cross_55 : decode cX8_cross 55 = .ok (.aload_n 0, 1) := by decide +kernel
theorem dX8_cross_56 : decode cX8_cross 56 = .ok (.getfield 52, 3) := by decide +kernel
theorem dX8_cross_59 : decode cX8_cross 59 = .ok (.iload_n 1, 1) := by decide +kernel
theorem dX8_cross_60 : decode cX8_cross 60 = .ok (.dup2, 1) := by decide +kernel
theorem dX8_cross_61 : decode cX8_cross 61 = .ok (.iaload, 1) := by decide +kernel
theorem dX8_cross_62 : decode cX8_cross 62 = .ok (.iconst 1, 1) := by decide +kernel
theorem dX8_cross_63 : decode cX8_cross 63 = .ok (.iadd, 1) := by decide +kernel
theorem dX8_cross_64 : decode cX8_cross 64 = .ok (.iastore, 1) := by decide +kernel
theorem dX8_cross_65 : decode cX8_cross 65 = .ok (.aload_n 0, 1) := by decide +kernel
theorem dX8_cross_66 : decode cX8_cross 66 = .ok (.getfield 52, 3) := by decide +kernel
theorem dX8_cross_69 : decode cX8_cross 69 = .ok (.iload_n 1, 1) := by decide +kernel
theorem dX8_cross_70 : decode cX8_cross 70 = .ok (.iaload, 1) := by decide +kernel
theorem dX8_cross_71 : decode cX8_cross 71 = .ok (.ireturn, 1) := by decide +kernel
set_option maxRecDepth 20000 in
theorem ggX8_smooth_X8_in : GoodIn wsX8_smooth wsX8_in := goodIn_r _ [5] (by decide +kernel) (by decide +kernel)
set_option maxRecDepth 20000 in
theorem gX8_smooth_X8_in : GoodIn wsX8_smooth (va_wsS RX8 82 yX8_in wsX8_in) := goodIn_app (goodIn_of _ (by decide +kernel)) ggX8_smooth_X8_in
theorem dX8_smooth_0 : decode cX8_smooth 0 = .ok (.iload_n 1, 1) := by decide +kernel
theorem dX8_smooth_1 : decode cX8_smooth 1 = .ok (.i2l, 1) := by decide +kernel
theorem dX8_smooth_2 : decode cX8_smooth 2 = .ok (.lconst 0, 1) := by decide +kernel
theorem dX8_smooth_3 : decode cX8_smooth 3 = .ok (.lconst 1, 1) := by decide +kernel
theorem dX8_smooth_4 : decode cX8_smooth 4 = .ok (.invokestatic 82, 3) := by decide +kernel
theorem dX8_smooth_7 : decode cX8_smooth 7 = .ok (.ifCond .ne 5, 3) := by decide +kernel
theorem dX8_smooth_10 : decode cX8_smooth 10 = .ok (.iconst (-1), 1) := by decide +kernel
theorem dX8_smooth_11 : decode cX8_smooth 11 = .ok (.ireturn, 1) := by decide +kernel
theorem dX8_smooth_12 : decode cX8_smooth 12 = .ok (.aload_n 0, 1) := by decide +kernel
theorem dX8_smooth_13 : decode cX8_smooth 13 = .ok (.getfield 52, 3) := by decide +kernel
theorem dX8_smooth_16 : decode cX8_smooth 16 = .ok (.iload_n 1, 1) := by decide +kernel
theorem dX8_smooth_17 : decode cX8_smooth 17 = .ok (.iaload, 1) := by decide +kernel
theorem dX8_smooth_18 : decode cX8_smooth 18 = .ok (.istore_n 2, 1) := by decide +kernel
theorem dX8_smooth_19 : decode cX8_smooth 19 = .ok (.aload_n 0, 1) := by decide +kernel
theorem dX8_smooth_20 : decode cX8_smooth 20 = .ok (.getfield 52, 3) := by decide +kernel
theorem dX8_smooth_23 : decode cX8_smooth 23 = .ok (.iload_n 1, 1) := by decide +kernel
theorem dX8_smooth_24 : decode cX8_smooth 24 = .ok (.iconst 0, 1) := by decide +kernel
theorem dX8_smooth_25 : decode cX8_smooth 25 = .ok (.iastore, 1) := by decide +kernel
theorem dX8_smooth_26 : decode cX8_smooth 26 = .ok (.iload_n 2, 1) := by decide +kernel
theorem dX8_smooth_27 : decode cX8_smooth 27 = .ok (.ireturn, 1) := by decide +kernel
theorem dX8_areUndone_0 : decode cX8_areUndone 0 = .ok (.iload_n 0, 1) := by decide +kernel
theorem dX8_areUndone_1 : decode cX8_areUndone 1 = .ok (.iconst 2, 1) := by decide +kernel
theorem dX8_areUndone_2 : decode cX8_areUndone 2 = .ok (.idiv, 1) := by decide +kernel
theorem dX8_areUndone_3 : decode cX8_areUndone 3 = .ok (.iload_n 1, 1) := by decide +kernel
theorem dX8_areUndone_4 : decode cX8_areUndone 4 = .ok (.iconst 2, 1) := by decide +kernel
theorem dX8_areUndone_5 : decode cX8_areUndone 5 = .ok (.idiv, 1) := by decide +kernel
theorem dX8_areUndone_6 : decode cX8_areUndone 6 = .ok (.if_icmp .ne 12, 3) := by decide +kernel
theorem dX8_areUndone_9 : decode cX8_areUndone 9 = .ok (.iload_n 0, 1) := by decide +kernel
theorem dX8_areUndone_10 : decode cX8_areUndone 10 = .ok (.iload_n 1, 1) := by decide +kernel
theorem dX8_areUndone_11 : decode cX8_areUndone 11 = .ok (.if_icmp .eq 7, 3) := by decide +kernel
theorem dX8_areUndone_14 : decode cX8_areUndone 14 = .ok (.iconst 1, 1) := by decide +kernel
theorem dX8_areUndone_15 : decode cX8_areUndone 15 = .ok (.goto 4, 3) := by decide +kernel
theorem dX8_areUndone_18 : decode cX8_areUndone 18 = .ok (.iconst 0, 1) := by decide +kernel
theorem dX8_areUndone_19 : decode cX8_areUndone 19 = .ok (.ireturn, 1) := by decide +kernel
set_option maxRecDepth 20000 in
theorem ggX8_layLoose_X8_areUndone : GoodIn wsX8_layLoose wsX8_areUndone := goodIn_r _ [9] (by decide +kernel) (by decide +kernel)
set_option maxRecDepth 20000 in
theorem gX8_layLoose_X8_areUndone : GoodIn wsX8_layLoose (va_wsS RX8 187 yX8_areUndone wsX8_areUndone) := goodIn_app (goodIn_of _ (by decide +kernel)) ggX8_layLoose_X8_areUndone
theorem dX8_layLoose_0 : decode cX8_layLoose 0 = .ok (.iconst 0, 1) := by decide +kernel
theorem dX8_layLoose_1 : decode cX8_layLoose 1 = .ok (.istore_n 2, 1) := by decide +kernel
theorem dX8_layLoose_2 : decode cX8_layLoose 2 = .ok (.iconst 0, 1) := by decide +kernel
theorem dX8_layLoose_3 : decode cX8_layLoose 3 = .ok (.istore_n 3, 1) := by decide +kernel
theorem dX8_layLoose_4 : decode cX8_layLoose 4 = .ok (.iload_n 3, 1) := by decide +kernel
theorem dX8_layLoose_5 : decode cX8_layLoose 5 = .ok (.aload_n 0, 1) := by decide +kernel
theorem dX8_layLoose_6 : decode cX8_layLoose 6 = .ok (.getfield 52, 3) := by decide +kernel
theorem dX8_layLoose_9 : decode cX8_layLoose 9 = .ok (.iload_n 1, 1) := by decide +kernel
theorem dX8_layLoose_10 : decode cX8_layLoose 10 = .ok (.iaload, 1) := by decide +kernel
theorem dX8_layLoose_11 : decode cX8_layLoose 11 = .ok (.if_icmp .ge 69, 3) := by decide +kernel
theorem dX8_layLoose_14 : decode cX8_layLoose 14 = .ok (.aload_n 0, 1) := by decide +kernel
theorem dX8_layLoose_15 : decode cX8_layLoose 15 = .ok (.getfield 55, 3) := by decide +kernel
theorem dX8_layLoose_18 : decode cX8_layLoose 18 = .ok (.bipush 16, 2) := by decide +kernel
theorem dX8_layLoose_20 : decode cX8_layLoose 20 = .ok (.iload_n 1, 1) := by decide +kernel
theorem dX8_layLoose_21 : decode cX8_layLoose 21 = .ok (.imul, 1) := by decide +kernel
theorem dX8_layLoose_22 : decode cX8_layLoose 22 = .ok (.iload_n 3, 1) := by decide +kernel
theorem dX8_layLoose_23 : decode cX8_layLoose 23 = .ok (.iadd, 1) := by decide +kernel
theorem dX8_layLoose_24 : decode cX8_layLoose 24 = .ok (.iaload, 1) := by decide +kernel
theorem dX8_layLoose_25 : decode cX8_layLoose 25 = .ok (.istore 4, 2) := by decide +kernel
theorem dX8_layLoose_27 : decode cX8_layLoose 27 = .ok (.iload_n 2, 1) := by decide +kernel
theorem dX8_layLoose_28 : decode cX8_layLoose 28 = .ok (.ifCond .le 30, 3) := by decide +kernel
theorem dX8_layLoose_31 : decode cX8_layLoose 31 = .ok (.aload_n 0, 1) := by decide +kernel
theorem dX8_layLoose_32 : decode cX8_layLoose 32 = .ok (.getfield 67, 3) := by decide +kernel
theorem dX8_layLoose_35 : decode cX8_layLoose 35 = .ok (.bipush 16, 2) := by decide +kernel
theorem dX8_layLoose_37 : decode cX8_layLoose 37 = .ok (.iload_n 1, 1) := by decide +kernel
theorem dX8_layLoose_38 : decode cX8_layLoose 38 = .ok (.imul, 1) := by decide +kernel
theorem dX8_layLoose_39 : decode cX8_layLoose 39 = .ok (.iload_n 2, 1) := by decide +kernel
theorem dX8_layLoose_40 : decode cX8_layLoose 40 = .ok (.iadd, 1) := by decide +kernel
theorem dX8_layLoose_41 : decode cX8_layLoose 41 = .ok (.iconst 1, 1) := by decide +kernel
theorem dX8_layLoose_42 : decode cX8_layLoose 42 = .ok (.isub, 1) := by decide +kernel
theorem dX8_layLoose_43 : decode cX8_layLoose 43 = .ok (.iaload, 1) := by decide +kernel
theorem dX8_layLoose_44 : decode cX8_layLoose 44 = .ok (.iload 4, 2) := by decide +kernel
theorem dX8_layLoose_46 : decode cX8_layLoose 46 = .ok (.invokestatic 187, 3) := by decide +kernel
theorem dX8_layLoose_49 : decode cX8_layLoose 49 = .ok (.ifCond .eq 9, 3) := by decide +kernel
theorem dX8_layLoose_52 : decode cX8_layLoose 52 = .ok (.iinc 2 (-1), 3) := by decide +kernel
theorem dX8_layLoose_55 : decode cX8_layLoose 55 = .ok (.goto 19, 3) := by decide +kernel
theorem dX8_layLoose_58 : decode cX8_layLoose 58 = .ok (.aload_n 0, 1) := by decide +kernel
theorem dX8_layLoose_59 : decode cX8_layLoose 59 = .ok (.getfield 67, 3) := by decide +kernel
theorem dX8_layLoose_62 : decode cX8_layLoose 62 = .ok (.bipush 16, 2) := by decide +kernel
theorem dX8_layLoose_64 : decode cX8_layLoose 64 = .ok (.iload_n 1, 1) := by decide +kernel
theorem dX8_layLoose_65 : decode cX8_layLoose 65 = .ok (.imul, 1) := by decide +kernel
theorem dX8_layLoose_66 : decode cX8_layLoose 66 = .ok (.iload_n 2, 1) := by decide +kernel
theorem dX8_layLoose_67 : decode cX8_layLoose 67 = .ok (.iadd, 1) := by decide +kernel
