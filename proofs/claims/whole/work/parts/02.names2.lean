theorem dX5_forgive_40 : decode cX5_forgive 40 = .ok (.iinc 2 1, 3) := by decide +kernel
theorem dX5_forgive_43 : decode cX5_forgive 43 = .ok (.goto (-39), 3) := by decide +kernel
theorem dX5_forgive_46 : decode cX5_forgive 46 = .ok (.iload_n 1, 1) := by decide +kernel
theorem dX5_forgive_47 : decode cX5_forgive 47 = .ok (.ireturn, 1) := by decide +kernel
set_option maxRecDepth 20000 in
theorem ggX5_odds_X2_stands : GoodIn wsX5_odds wsX2_stands := goodIn_r _ [14, 15, 50, 51, 52, 53, 54] (by decide +kernel) (by decide +kernel)
set_option maxRecDepth 20000 in
theorem gX5_odds_X2_stands : GoodIn wsX5_odds (wsV RX5 141 RX2 yX2_stands wsX2_stands) := goodIn_app (goodIn_of _ (by decide +kernel)) ggX5_odds_X2_stands
set_option maxRecDepth 20000 in
theorem ggX5_odds_X2_yearsKept : GoodIn wsX5_odds wsX2_yearsKept := goodIn_r _ [19, 20, 21, 22, 23, 24, 13, 25, 15, 26, 27, 28, 29, 30, 31, 32, 33, 34, 35, 36, 37, 38, 50, 51, 52, 53, 54] (by decide +kernel) (by decide +kernel)
set_option maxRecDepth 20000 in
theorem gX5_odds_X2_yearsKept : GoodIn wsX5_odds (wsV RX5 110 RX2 yX2_yearsKept wsX2_yearsKept) := goodIn_app (goodIn_of _ (by decide +kernel)) ggX5_odds_X2_yearsKept
set_option maxRecDepth 20000 in
theorem ggX5_odds_X5_greatestDivisor : GoodIn wsX5_odds wsX5_greatestDivisor := goodIn_r _ [41] (by decide +kernel) (by decide +kernel)
set_option maxRecDepth 20000 in
theorem gX5_odds_X5_greatestDivisor : GoodIn wsX5_odds (va_wsS RX5 156 yX5_greatestDivisor wsX5_greatestDivisor) := goodIn_app (goodIn_of _ (by decide +kernel)) ggX5_odds_X5_greatestDivisor
theorem dX5_odds_0 : decode cX5_odds 0 = .ok (.iload_n 1, 1) := by decide +kernel
theorem dX5_odds_1 : decode cX5_odds 1 = .ok (.iconst 1, 1) := by decide +kernel
theorem dX5_odds_2 : decode cX5_odds 2 = .ok (.if_icmp .lt 17, 3) := by decide +kernel
theorem dX5_odds_5 : decode cX5_odds 5 = .ok (.iload_n 1, 1) := by decide +kernel
theorem dX5_odds_6 : decode cX5_odds 6 = .ok (.iconst 2, 1) := by decide +kernel
theorem dX5_odds_7 : decode cX5_odds 7 = .ok (.if_icmp .gt 12, 3) := by decide +kernel
theorem dX5_odds_10 : decode cX5_odds 10 = .ok (.iload_n 2, 1) := by decide +kernel
theorem dX5_odds_11 : decode cX5_odds 11 = .ok (.ifCond .lt 8, 3) := by decide +kernel
theorem dX5_odds_14 : decode cX5_odds 14 = .ok (.iload_n 2, 1) := by decide +kernel
theorem dX5_odds_15 : decode cX5_odds 15 = .ok (.iconst 1, 1) := by decide +kernel
theorem dX5_odds_16 : decode cX5_odds 16 = .ok (.if_icmp .le 7, 3) := by decide +kernel
theorem dX5_odds_19 : decode cX5_odds 19 = .ok (.ldc2_w 150, 3) := by decide +kernel
theorem dX5_odds_22 : decode cX5_odds 22 = .ok (.lreturn, 1) := by decide +kernel
theorem dX5_odds_23 : decode cX5_odds 23 = .ok (.aload_n 0, 1) := by decide +kernel
theorem dX5_odds_24 : decode cX5_odds 24 = .ok (.getfield 19, 3) := by decide +kernel
theorem dX5_odds_27 : decode cX5_odds 27 = .ok (.invokevirtual 141, 3) := by decide +kernel
theorem dX5_odds_30 : decode cX5_odds 30 = .ok (.ifCond .ne 7, 3) := by decide +kernel
theorem dX5_odds_33 : decode cX5_odds 33 = .ok (.ldc2_w 152, 3) := by decide +kernel
theorem dX5_odds_36 : decode cX5_odds 36 = .ok (.lreturn, 1) := by decide +kernel
theorem dX5_odds_37 : decode cX5_odds 37 = .ok (.lconst 1, 1) := by decide +kernel
theorem dX5_odds_38 : decode cX5_odds 38 = .ok (.lstore_n 3, 1) := by decide +kernel
theorem dX5_odds_39 : decode cX5_odds 39 = .ok (.lconst 1, 1) := by decide +kernel
theorem dX5_odds_40 : decode cX5_odds 40 = .ok (.lstore 5, 2) := by decide +kernel
theorem dX5_odds_42 : decode cX5_odds 42 = .ok (.iconst 0, 1) := by decide +kernel
theorem dX5_odds_43 : decode cX5_odds 43 = .ok (.istore 7, 2) := by decide +kernel
theorem dX5_odds_45 : decode cX5_odds 45 = .ok (.iload 7, 2) := by decide +kernel
theorem dX5_odds_47 : decode cX5_odds 47 = .ok (.aload_n 0, 1) := by decide +kernel
theorem dX5_odds_48 : decode cX5_odds 48 = .ok (.getfield 19, 3) := by decide +kernel
theorem dX5_odds_51 : decode cX5_odds 51 = .ok (.getfield 77, 3) := by decide +kernel
theorem dX5_odds_54 : decode cX5_odds 54 = .ok (.if_icmp .ge 62, 3) := by decide +kernel
theorem dX5_odds_57 : decode cX5_odds 57 = .ok (.aload_n 0, 1) := by decide +kernel
theorem dX5_odds_58 : decode cX5_odds 58 = .ok (.getfield 26, 3) := by decide +kernel
theorem dX5_odds_61 : decode cX5_odds 61 = .ok (.getfield 123, 3) := by decide +kernel
theorem dX5_odds_64 : decode cX5_odds 64 = .ok (.iload 7, 2) := by decide +kernel
theorem dX5_odds_66 : decode cX5_odds 66 = .ok (.iaload, 1) := by decide +kernel
theorem dX5_odds_67 : decode cX5_odds 67 = .ok (.iconst 1, 1) := by decide +kernel
theorem dX5_odds_68 : decode cX5_odds 68 = .ok (.if_icmp .ne 42, 3) := by decide +kernel
theorem dX5_odds_71 : decode cX5_odds 71 = .ok (.lload_n 3, 1) := by decide +kernel
theorem dX5_odds_72 : decode cX5_odds 72 = .ok (.aload_n 0, 1) := by decide +kernel
theorem dX5_odds_73 : decode cX5_odds 73 = .ok (.getfield 19, 3) := by decide +kernel
theorem dX5_odds_76 : decode cX5_odds 76 = .ok (.aload_n 0, 1) := by decide +kernel
theorem dX5_odds_77 : decode cX5_odds 77 = .ok (.getfield 26, 3) := by decide +kernel
theorem dX5_odds_80 : decode cX5_odds 80 = .ok (.getfield 120, 3) := by decide +kernel
theorem dX5_odds_83 : decode cX5_odds 83 = .ok (.iload 7, 2) := by decide +kernel
theorem dX5_odds_85 : decode cX5_odds 85 = .ok (.iaload, 1) := by decide +kernel
theorem dX5_odds_86 : decode cX5_odds 86 = .ok (.aload_n 0, 1) := by decide +kernel
theorem dX5_odds_87 : decode cX5_odds 87 = .ok (.getfield 19, 3) := by decide +kernel
theorem dX5_odds_90 : decode cX5_odds 90 = .ok (.getfield 117, 3) := by decide +kernel
theorem dX5_odds_93 : decode cX5_odds 93 = .ok (.iload 7, 2) := by decide +kernel
theorem dX5_odds_95 : decode cX5_odds 95 = .ok (.iaload, 1) := by decide +kernel
theorem dX5_odds_96 : decode cX5_odds 96 = .ok (.invokevirtual 110, 3) := by decide +kernel
theorem dX5_odds_99 : decode cX5_odds 99 = .ok (.i2l, 1) := by decide +kernel
theorem dX5_odds_100 : decode cX5_odds 100 = .ok (.lmul, 1) := by decide +kernel
theorem dX5_odds_101 : decode cX5_odds 101 = .ok (.lstore_n 3, 1) := by decide +kernel
theorem dX5_odds_102 : decode cX5_odds 102 = .ok (.lload 5, 2) := by decide +kernel
theorem dX5_odds_104 : decode cX5_odds 104 = .ok (.ldc2_w 154, 3) := by decide +kernel
theorem dX5_odds_107 : decode cX5_odds 107 = .ok (.lmul, 1) := by decide +kernel
theorem dX5_odds_108 : decode cX5_odds 108 = .ok (.lstore 5, 2) := by decide +kernel
theorem dX5_odds_110 : decode cX5_odds 110 = .ok (.iinc 7 1, 3) := by decide +kernel
theorem dX5_odds_113 : decode cX5_odds 113 = .ok (.goto (-68), 3) := by decide +kernel
theorem dX5_odds_116 : decode cX5_odds 116 = .ok (.iload_n 2, 1) := by decide +kernel
theorem dX5_odds_117 : decode cX5_odds 117 = .ok (.ifCond .ne 7, 3) := by decide +kernel
theorem dX5_odds_120 : decode cX5_odds 120 = .ok (.lload_n 3, 1) := by decide +kernel
theorem dX5_odds_121 : decode cX5_odds 121 = .ok (.goto 5, 3) := by decide +kernel
theorem dX5_odds_124 : decode cX5_odds 124 = .ok (.lload 5, 2) := by decide +kernel
theorem dX5_odds_126 : decode cX5_odds 126 = .ok (.lstore 7, 2) := by decide +kernel
theorem dX5_odds_128 : decode cX5_odds 128 = .ok (.lload_n 3, 1) := by decide +kernel
theorem dX5_odds_129 : decode cX5_odds 129 = .ok (.lload 5, 2) := by decide +kernel
theorem dX5_odds_131 : decode cX5_odds 131 = .ok (.invokestatic 156, 3) := by decide +kernel
theorem dX5_odds_134 : decode cX5_odds 134 = .ok (.lstore 9, 2) := by decide +kernel
theorem dX5_odds_136 : decode cX5_odds 136 = .ok (.lload 9, 2) := by decide +kernel
theorem dX5_odds_138 : decode cX5_odds 138 = .ok (.lconst 0, 1) := by decide +kernel
theorem dX5_odds_139 : decode cX5_odds 139 = .ok (.lcmp, 1) := by decide +kernel
theorem dX5_odds_140 : decode cX5_odds 140 = .ok (.ifCond .le 11, 3) := by decide +kernel
theorem dX5_odds_143 : decode cX5_odds 143 = .ok (.lload 7, 2) := by decide +kernel
theorem dX5_odds_145 : decode cX5_odds 145 = .ok (.lload 9, 2) := by decide +kernel
theorem dX5_odds_147 : decode cX5_odds 147 = .ok (.ldiv, 1) := by decide +kernel
theorem dX5_odds_148 : decode cX5_odds 148 = .ok (.goto 5, 3) := by decide +kernel
theorem dX5_odds_151 : decode cX5_odds 151 = .ok (.lload 7, 2) := by decide +kernel
theorem dX5_odds_153 : decode cX5_odds 153 = .ok (.lstore 11, 2) := by decide +kernel
theorem dX5_odds_155 : decode cX5_odds 155 = .ok (.iload_n 1, 1) := by decide +kernel
theorem dX5_odds_156 : decode cX5_odds 156 = .ok (.iconst 1, 1) := by decide +kernel
theorem dX5_odds_157 : decode cX5_odds 157 = .ok (.if_icmp .ne 8, 3) := by decide +kernel
theorem dX5_odds_160 : decode cX5_odds 160 = .ok (.lload 11, 2) := by decide +kernel
theorem dX5_odds_162 : decode cX5_odds 162 = .ok (.goto 8, 3) := by decide +kernel
theorem dX5_odds_165 : decode cX5_odds 165 = .ok (.lload 11, 2) := by decide +kernel
theorem dX5_odds_167 : decode cX5_odds 167 = .ok (.lload 11, 2) := by decide +kernel
theorem dX5_odds_169 : decode cX5_odds 169 = .ok (.lmul, 1) := by decide +kernel
theorem dX5_odds_170 : decode cX5_odds 170 = .ok (.lreturn, 1) := by decide +kernel
set_option maxRecDepth 20000 in
theorem ggX5_match_X2_stands : GoodIn wsX5_match wsX2_stands := goodIn_r _ [10, 11, 97, 98, 99, 100, 101] (by decide +kernel) (by decide +kernel)
set_option maxRecDepth 20000 in
theorem gX5_match_X2_stands : GoodIn wsX5_match (wsV RX5 141 RX2 yX2_stands wsX2_stands) := goodIn_app (goodIn_of _ (by decide +kernel)) ggX5_match_X2_stands
set_option maxRecDepth 20000 in
theorem ggX5_match_X3_solve : GoodIn wsX5_match wsX3_solve := goodIn_r _ [16, 17, 18, 19, 20, 21, 22, 23, 24, 9, 25, 11, 26, 27, 28, 29, 30, 31, 32, 33, 34, 35, 36, 37, 38, 39, 40, 41, 42, 43, 44, 45, 46, 47, 48, 49, 50, 15, 51, 52, 53, 54, 55, 56, 57, 58, 59, 60, 61, 62, 63, 64, 65, 66, 67, 68, 69, 70, 71, 72, 73, 74, 75, 76, 77, 78, 79, 80, 81, 82, 91, 92, 93, 94, 95, 96, 102, 103, 104, 105, 106, 107, 108, 109, 110, 97, 98, 99, 100, 101] (by decide +kernel) (by decide +kernel)
set_option maxRecDepth 20000 in
theorem gX5_match_X3_solve : GoodIn wsX5_match (wsV RX5 160 RX3 yX3_solve wsX3_solve) := goodIn_app (goodIn_of _ (by decide +kernel)) ggX5_match_X3_solve
theorem dX5_match_0 : decode cX5_match 0 = .ok (.iload_n 1, 1) := by decide +kernel
theorem dX5_match_1 : decode cX5_match 1 = .ok (.ifCond .eq 18, 3) := by decide +kernel
theorem dX5_match_4 : decode cX5_match 4 = .ok (.iload_n 1, 1) := by decide +kernel
theorem dX5_match_5 : decode cX5_match 5 = .ok (.bipush 10, 2) := by decide +kernel
theorem dX5_match_7 : decode cX5_match 7 = .ok (.if_icmp .lt 9, 3) := by decide +kernel
theorem dX5_match_10 : decode cX5_match 10 = .ok (.iload_n 1, 1) := by decide +kernel
theorem dX5_match_11 : decode cX5_match 11 = .ok (.bipush 15, 2) := by decide +kernel
theorem dX5_match_13 : decode cX5_match 13 = .ok (.if_icmp .lt 6, 3) := by decide +kernel
theorem dX5_match_16 : decode cX5_match 16 = .ok (.bipush (-102), 2) := by decide +kernel
theorem dX5_match_18 : decode cX5_match 18 = .ok (.ireturn, 1) := by decide +kernel
theorem dX5_match_19 : decode cX5_match 19 = .ok (.aload_n 0, 1) := by decide +kernel
theorem dX5_match_20 : decode cX5_match 20 = .ok (.getfield 19, 3) := by decide +kernel
theorem dX5_match_23 : decode cX5_match 23 = .ok (.invokevirtual 141, 3) := by decide +kernel
theorem dX5_match_26 : decode cX5_match 26 = .ok (.ifCond .ne 6, 3) := by decide +kernel
theorem dX5_match_29 : decode cX5_match 29 = .ok (.bipush (-103), 2) := by decide +kernel
theorem dX5_match_31 : decode cX5_match 31 = .ok (.ireturn, 1) := by decide +kernel
theorem dX5_match_32 : decode cX5_match 32 = .ok (.aload_n 0, 1) := by decide +kernel
theorem dX5_match_33 : decode cX5_match 33 = .ok (.getfield 36, 3) := by decide +kernel
theorem dX5_match_36 : decode cX5_match 36 = .ok (.aload_n 0, 1) := by decide +kernel
theorem dX5_match_37 : decode cX5_match 37 = .ok (.getfield 19, 3) := by decide +kernel
theorem dX5_match_40 : decode cX5_match 40 = .ok (.aload_n 0, 1) := by decide +kernel
theorem dX5_match_41 : decode cX5_match 41 = .ok (.getfield 26, 3) := by decide +kernel
theorem dX5_match_44 : decode cX5_match 44 = .ok (.invokevirtual 160, 3) := by decide +kernel
theorem dX5_match_47 : decode cX5_match 47 = .ok (.iload_n 1, 1) := by decide +kernel
theorem dX5_match_48 : decode cX5_match 48 = .ok (.ifCond .ne 13, 3) := by decide +kernel
theorem dX5_match_51 : decode cX5_match 51 = .ok (.aload_n 0, 1) := by decide +kernel
theorem dX5_match_52 : decode cX5_match 52 = .ok (.getfield 36, 3) := by decide +kernel
theorem dX5_match_55 : decode cX5_match 55 = .ok (.getfield 164, 3) := by decide +kernel
theorem dX5_match_58 : decode cX5_match 58 = .ok (.goto 15, 3) := by decide +kernel
theorem dX5_match_61 : decode cX5_match 61 = .ok (.aload_n 0, 1) := by decide +kernel
theorem dX5_match_62 : decode cX5_match 62 = .ok (.getfield 36, 3) := by decide +kernel
theorem dX5_match_65 : decode cX5_match 65 = .ok (.getfield 167, 3) := by decide +kernel
theorem dX5_match_68 : decode cX5_match 68 = .ok (.iload_n 1, 1) := by decide +kernel
theorem dX5_match_69 : decode cX5_match 69 = .ok (.bipush 10, 2) := by decide +kernel
theorem dX5_match_71 : decode cX5_match 71 = .ok (.isub, 1) := by decide +kernel
theorem dX5_match_72 : decode cX5_match 72 = .ok (.iaload, 1) := by decide +kernel
theorem dX5_match_73 : decode cX5_match 73 = .ok (.ireturn, 1) := by decide +kernel
set_option maxRecDepth 20000 in
theorem ggX5_see_X2_hasKeeper : GoodIn wsX5_see wsX2_hasKeeper := goodIn_r _ [11, 12, 30, 31, 32, 33, 34] (by decide +kernel) (by decide +kernel)
set_option maxRecDepth 20000 in
theorem gX5_see_X2_hasKeeper : GoodIn wsX5_see (wsV RX5 80 RX2 yX2_hasKeeper wsX2_hasKeeper) := goodIn_app (goodIn_of _ (by decide +kernel)) ggX5_see_X2_hasKeeper
theorem dX5_see_0 : decode cX5_see 0 = .ok (.aload_n 0, 1) := by decide +kernel
theorem dX5_see_1 : decode cX5_see 1 = .ok (.getfield 19, 3) := by decide +kernel
theorem dX5_see_4 : decode cX5_see 4 = .ok (.iload_n 1, 1) := by decide +kernel
theorem dX5_see_5 : decode cX5_see 5 = .ok (.invokevirtual 80, 3) := by decide +kernel
theorem dX5_see_8 : decode cX5_see 8 = .ok (.ifCond .ne 6, 3) := by decide +kernel
theorem dX5_see_11 : decode cX5_see 11 = .ok (.bipush (-101), 2) := by decide +kernel
theorem dX5_see_13 : decode cX5_see 13 = .ok (.ireturn, 1) := by decide +kernel
theorem dX5_see_14 : decode cX5_see 14 = .ok (.iload_n 2, 1) := by decide +kernel
theorem dX5_see_15 : decode cX5_see 15 = .ok (.ifCond .lt 9, 3) := by decide +kernel
theorem dX5_see_18 : decode cX5_see 18 = .ok (.iload_n 2, 1) := by decide +kernel
theorem dX5_see_19 : decode cX5_see 19 = .ok (.bipush 9, 2) := by decide +kernel
theorem dX5_see_21 : decode cX5_see 21 = .ok (.if_icmp .le 6, 3) := by decide +kernel
theorem dX5_see_24 : decode cX5_see 24 = .ok (.bipush (-102), 2) := by decide +kernel
theorem dX5_see_26 : decode cX5_see 26 = .ok (.ireturn, 1) := by decide +kernel
theorem dX5_see_27 : decode cX5_see 27 = .ok (.aload_n 0, 1) := by decide +kernel
theorem dX5_see_28 : decode cX5_see 28 = .ok (.getfield 26, 3) := by decide +kernel
theorem dX5_see_31 : decode cX5_see 31 = .ok (.getfield 170, 3) := by decide +kernel
theorem dX5_see_34 : decode cX5_see 34 = .ok (.bipush 8, 2) := by decide +kernel
theorem dX5_see_36 : decode cX5_see 36 = .ok (.if_icmp .lt 6, 3) := by decide +kernel
theorem dX5_see_39 : decode cX5_see 39 = .ok (.bipush (-104), 2) := by decide +kernel
theorem dX5_see_41 : decode cX5_see 41 = .ok (.ireturn, 1) := by decide +kernel
theorem dX5_see_42 : decode cX5_see 42 = .ok (.aload_n 0, 1) := by decide +kernel
theorem dX5_see_43 : decode cX5_see 43 = .ok (.getfield 26, 3) := by decide +kernel
theorem dX5_see_46 : decode cX5_see 46 = .ok (.getfield 173, 3) := by decide +kernel
theorem dX5_see_49 : decode cX5_see 49 = .ok (.aload_n 0, 1) := by decide +kernel
theorem dX5_see_50 : decode cX5_see 50 = .ok (.getfield 26, 3) := by decide +kernel
theorem dX5_see_53 : decode cX5_see 53 = .ok (.getfield 170, 3) := by decide +kernel
theorem dX5_see_56 : decode cX5_see 56 = .ok (.iload_n 1, 1) := by decide +kernel
theorem dX5_see_57 : decode cX5_see 57 = .ok (.iastore, 1) := by decide +kernel
theorem dX5_see_58 : decode cX5_see 58 = .ok (.aload_n 0, 1) := by decide +kernel
theorem dX5_see_59 : decode cX5_see 59 = .ok (.getfield 26, 3) := by decide +kernel
theorem dX5_see_62 : decode cX5_see 62 = .ok (.getfield 176, 3) := by decide +kernel
theorem dX5_see_65 : decode cX5_see 65 = .ok (.aload_n 0, 1) := by decide +kernel
theorem dX5_see_66 : decode cX5_see 66 = .ok (.getfield 26, 3) := by decide +kernel
theorem dX5_see_69 : decode cX5_see 69 = .ok (.getfield 170, 3) := by decide +kernel
theorem dX5_see_72 : decode cX5_see 72 = .ok (.iload_n 2, 1) := by decide +kernel
theorem dX5_see_73 : decode cX5_see 73 = .ok (.iastore, 1) := by decide +kernel
theorem dX5_see_74 : decode cX5_see 74 = .ok (.aload_n 0, 1) := by decide +kernel
theorem dX5_see_75 : decode cX5_see 75 = .ok (.getfield 26, 3) := by decide +kernel
theorem dX5_see_78 : decode cX5_see 78 = .ok (.getfield 179, 3) := by decide +kernel
theorem dX5_see_81 : decode cX5_see 81 = .ok (.aload_n 0, 1) := by decide +kernel
theorem dX5_see_82 : decode cX5_see 82 = .ok (.getfield 26, 3) := by decide +kernel
theorem dX5_see_85 : decode cX5_see 85 = .ok (.getfield 170, 3) := by decide +kernel
theorem dX5_see_88 : decode cX5_see 88 = .ok (.iload_n 3, 1) := by decide +kernel
theorem dX5_see_89 : decode cX5_see 89 = .ok (.bastore, 1) := by decide +kernel
theorem dX5_see_90 : decode cX5_see 90 = .ok (.aload_n 0, 1) := by decide +kernel
theorem dX5_see_91 : decode cX5_see 91 = .ok (.getfield 26, 3) := by decide +kernel
theorem dX5_see_94 : decode cX5_see 94 = .ok (.dup, 1) := by decide +kernel
theorem dX5_see_95 : decode cX5_see 95 = .ok (.getfield 170, 3) := by decide +kernel
theorem dX5_see_98 : decode cX5_see 98 = .ok (.iconst 1, 1) := by decide +kernel
theorem dX5_see_99 : decode cX5_see 99 = .ok (.iadd, 1) := by decide +kernel
theorem dX5_see_100 : decode cX5_see 100 = .ok (.putfield 170, 3) := by decide +kernel
theorem dX5_see_103 : decode cX5_see 103 = .ok (.aload_n 0, 1) := by decide +kernel
theorem dX5_see_104 : decode cX5_see 104 = .ok (.getfield 26, 3) := by decide +kernel
theorem dX5_see_107 : decode cX5_see 107 = .ok (.getfield 170, 3) := by decide +kernel
theorem dX5_see_110 : decode cX5_see 110 = .ok (.ireturn, 1) := by decide +kernel
theorem dX5_forget_0 : decode cX5_forget 0 = .ok (.aload_n 0, 1) := by decide +kernel
theorem dX5_forget_1 : decode cX5_forget 1 = .ok (.getfield 26, 3) := by decide +kernel
theorem dX5_forget_4 : decode cX5_forget 4 = .ok (.getfield 170, 3) := by decide +kernel
theorem dX5_forget_7 : decode cX5_forget 7 = .ok (.istore_n 1, 1) := by decide +kernel
theorem dX5_forget_8 : decode cX5_forget 8 = .ok (.aload_n 0, 1) := by decide +kernel
theorem dX5_forget_9 : decode cX5_forget 9 = .ok (.getfield 26, 3) := by decide +kernel
theorem dX5_forget_12 : decode cX5_forget 12 = .ok (.iconst 0, 1) := by decide +kernel
theorem dX5_forget_13 : decode cX5_forget 13 = .ok (.putfield 170, 3) := by decide +kernel
theorem dX5_forget_16 : decode cX5_forget 16 = .ok (.iload_n 1, 1) := by decide +kernel
theorem dX5_forget_17 : decode cX5_forget 17 = .ok (.ireturn, 1) := by decide +kernel
set_option maxRecDepth 20000 in
theorem ggX5_centuries_X2_stands : GoodIn wsX5_centuries wsX2_stands := goodIn_r _ [10, 11, 86, 87, 88, 89, 90] (by decide +kernel) (by decide +kernel)
set_option maxRecDepth 20000 in
theorem gX5_centuries_X2_stands : GoodIn wsX5_centuries (wsV RX5 141 RX2 yX2_stands wsX2_stands) := goodIn_app (goodIn_of _ (by decide +kernel)) ggX5_centuries_X2_stands
set_option maxRecDepth 20000 in
theorem ggX5_centuries_X1_pass : GoodIn wsX5_centuries wsX1_pass := goodIn_r _ [16, 17, 18, 19, 20, 21, 22, 23, 24, 25, 26, 27, 28, 29, 30, 15, 31, 32, 33, 34, 35, 36, 37, 38, 39, 40, 41, 42, 43, 44, 9, 45, 46, 47, 48, 49, 50, 51, 11, 52, 53, 54, 55, 56, 57, 58, 59, 60, 61, 62, 63, 64, 65, 66, 67, 68, 91, 92, 93, 94, 95, 96, 97, 98, 99, 83, 84, 85, 86, 87, 88, 89, 90] (by decide +kernel) (by decide +kernel)
set_option maxRecDepth 20000 in
theorem gX5_centuries_X1_pass : GoodIn wsX5_centuries (wsV RX5 183 RX1 yX1_pass wsX1_pass) := goodIn_app (goodIn_of _ (by decide +kernel)) ggX5_centuries_X1_pass
set_option maxRecDepth 20000 in
theorem ggX5_centuries_X1_allEggs : GoodIn wsX5_centuries wsX1_allEggs := goodIn_r _ [72, 18, 73, 53, 74, 83, 84, 85] (by decide +kernel) (by decide +kernel)
set_option maxRecDepth 20000 in
theorem gX5_centuries_X1_allEggs : GoodIn wsX5_centuries (wsV RX5 189 RX1 yX1_allEggs wsX1_allEggs) := goodIn_app (goodIn_of _ (by decide +kernel)) ggX5_centuries_X1_allEggs
theorem dX5_centuries_0 : decode cX5_centuries 0 = .ok (.iload_n 1, 1) := by decide +kernel
theorem dX5_centuries_1 : decode cX5_centuries 1 = .ok (.iconst 1, 1) := by decide +kernel
theorem dX5_centuries_2 : decode cX5_centuries 2 = .ok (.if_icmp .lt 22, 3) := by decide +kernel
theorem dX5_centuries_5 : decode cX5_centuries 5 = .ok (.iload_n 1, 1) := by decide +kernel
theorem dX5_centuries_6 : decode cX5_centuries 6 = .ok (.bipush 60, 2) := by decide +kernel
theorem dX5_centuries_8 : decode cX5_centuries 8 = .ok (.if_icmp .gt 16, 3) := by decide +kernel
theorem dX5_centuries_11 : decode cX5_centuries 11 = .ok (.iload_n 2, 1) := by decide +kernel
theorem dX5_centuries_12 : decode cX5_centuries 12 = .ok (.ifCond .lt 12, 3) := by decide +kernel
theorem dX5_centuries_15 : decode cX5_centuries 15 = .ok (.iload_n 3, 1) := by decide +kernel
theorem dX5_centuries_16 : decode cX5_centuries 16 = .ok (.ifCond .lt 8, 3) := by decide +kernel
theorem dX5_centuries_19 : decode cX5_centuries 19 = .ok (.iload_n 3, 1) := by decide +kernel
theorem dX5_centuries_20 : decode cX5_centuries 20 = .ok (.iconst 2, 1) := by decide +kernel
theorem dX5_centuries_21 : decode cX5_centuries 21 = .ok (.if_icmp .le 6, 3) := by decide +kernel
theorem dX5_centuries_24 : decode cX5_centuries 24 = .ok (.bipush (-102), 2) := by decide +kernel
theorem dX5_centuries_26 : decode cX5_centuries 26 = .ok (.ireturn, 1) := by decide +kernel
theorem dX5_centuries_27 : decode cX5_centuries 27 = .ok (.aload_n 0, 1) := by decide +kernel
theorem dX5_centuries_28 : decode cX5_centuries 28 = .ok (.getfield 19, 3) := by decide +kernel
theorem dX5_centuries_31 : decode cX5_centuries 31 = .ok (.invokevirtual 141, 3) := by decide +kernel
theorem dX5_centuries_34 : decode cX5_centuries 34 = .ok (.ifCond .ne 6, 3) := by decide +kernel
theorem dX5_centuries_37 : decode cX5_centuries 37 = .ok (.bipush (-103), 2) := by decide +kernel
theorem dX5_centuries_39 : decode cX5_centuries 39 = .ok (.ireturn, 1) := by decide +kernel
theorem dX5_centuries_40 : decode cX5_centuries 40 = .ok (.aload_n 0, 1) := by decide +kernel
theorem dX5_centuries_41 : decode cX5_centuries 41 = .ok (.getfield 43, 3) := by decide +kernel
theorem dX5_centuries_44 : decode cX5_centuries 44 = .ok (.aload_n 0, 1) := by decide +kernel
theorem dX5_centuries_45 : decode cX5_centuries 45 = .ok (.getfield 19, 3) := by decide +kernel
theorem dX5_centuries_48 : decode cX5_centuries 48 = .ok (.aload_n 0, 1) := by decide +kernel
theorem dX5_centuries_49 : decode cX5_centuries 49 = .ok (.getfield 26, 3) := by decide +kernel
theorem dX5_centuries_52 : decode cX5_centuries 52 = .ok (.iload_n 1, 1) := by decide +kernel
theorem dX5_centuries_53 : decode cX5_centuries 53 = .ok (.iload_n 2, 1) := by decide +kernel
theorem dX5_centuries_54 : decode cX5_centuries 54 = .ok (.invokevirtual 183, 3) := by decide +kernel
theorem dX5_centuries_57 : decode cX5_centuries 57 = .ok (.iload_n 3, 1) := by decide +kernel
theorem dX5_centuries_58 : decode cX5_centuries 58 = .ok (.lookupswitch 42 #[(0, 26), (1, 34)], 26) := by decide +kernel
theorem dX5_centuries_84 : decode cX5_centuries 84 = .ok (.aload_n 0, 1) := by decide +kernel
theorem dX5_centuries_85 : decode cX5_centuries 85 = .ok (.getfield 43, 3) := by decide +kernel
theorem dX5_centuries_88 : decode cX5_centuries 88 = .ok (.getfield 187, 3) := by decide +kernel
theorem dX5_centuries_91 : decode cX5_centuries 91 = .ok (.ireturn, 1) := by decide +kernel
theorem dX5_centuries_92 : decode cX5_centuries 92 = .ok (.aload_n 0, 1) := by decide +kernel
theorem dX5_centuries_93 : decode cX5_centuries 93 = .ok (.getfield 43, 3) := by decide +kernel
theorem dX5_centuries_96 : decode cX5_centuries 96 = .ok (.invokevirtual 189, 3) := by decide +kernel
theorem dX5_centuries_99 : decode cX5_centuries 99 = .ok (.ireturn, 1) := by decide +kernel
theorem dX5_centuries_100 : decode cX5_centuries 100 = .ok (.aload_n 0, 1) := by decide +kernel
theorem dX5_centuries_101 : decode cX5_centuries 101 = .ok (.getfield 43, 3) := by decide +kernel
theorem dX5_centuries_104 : decode cX5_centuries 104 = .ok (.getfield 192, 3) := by decide +kernel
theorem dX5_centuries_107 : decode cX5_centuries 107 = .ok (.l2i, 1) := by decide +kernel
theorem dX5_centuries_108 : decode cX5_centuries 108 = .ok (.ireturn, 1) := by decide +kernel
set_option maxRecDepth 20000 in
theorem ggX5_image_X2_stands : GoodIn wsX5_image wsX2_stands := goodIn_r _ [10, 11, 47, 48, 49, 50, 51] (by decide +kernel) (by decide +kernel)
set_option maxRecDepth 20000 in
theorem gX5_image_X2_stands : GoodIn wsX5_image (wsV RX5 141 RX2 yX2_stands wsX2_stands) := goodIn_app (goodIn_of _ (by decide +kernel)) ggX5_image_X2_stands
set_option maxRecDepth 20000 in
theorem ggX5_image_X0_copyFrom : GoodIn wsX5_image wsX0_copyFrom := goodIn_r _ [16, 17, 18, 19, 20, 21, 22, 23, 24, 25, 26, 27, 28, 29, 38, 39, 40, 41, 42, 43, 44, 45, 46] (by decide +kernel) (by decide +kernel)
set_option maxRecDepth 20000 in
theorem gX5_image_X0_copyFrom : GoodIn wsX5_image (wsV RX5 196 RX0 yX0_copyFrom wsX0_copyFrom) := goodIn_app (goodIn_of _ (by decide +kernel)) ggX5_image_X0_copyFrom
theorem dX5_image_0 : decode cX5_image 0 = .ok (.aload_n 0, 1) := by decide +kernel
theorem dX5_image_1 : decode cX5_image 1 = .ok (.getfield 19, 3) := by decide +kernel
theorem dX5_image_4 : decode cX5_image 4 = .ok (.invokevirtual 141, 3) := by decide +kernel
theorem dX5_image_7 : decode cX5_image 7 = .ok (.ifCond .ne 6, 3) := by decide +kernel
theorem dX5_image_10 : decode cX5_image 10 = .ok (.bipush (-103), 2) := by decide +kernel
theorem dX5_image_12 : decode cX5_image 12 = .ok (.ireturn, 1) := by decide +kernel
theorem dX5_image_13 : decode cX5_image 13 = .ok (.aload_n 0, 1) := by decide +kernel
theorem dX5_image_14 : decode cX5_image 14 = .ok (.getfield 30, 3) := by decide +kernel
theorem dX5_image_17 : decode cX5_image 17 = .ok (.aload_n 0, 1) := by decide +kernel
theorem dX5_image_18 : decode cX5_image 18 = .ok (.getfield 26, 3) := by decide +kernel
theorem dX5_image_21 : decode cX5_image 21 = .ok (.invokevirtual 196, 3) := by decide +kernel
theorem dX5_image_24 : decode cX5_image 24 = .ok (.aload_n 0, 1) := by decide +kernel
theorem dX5_image_25 : decode cX5_image 25 = .ok (.iconst 1, 1) := by decide +kernel
theorem dX5_image_26 : decode cX5_image 26 = .ok (.putfield 47, 3) := by decide +kernel
theorem dX5_image_29 : decode cX5_image 29 = .ok (.aload_n 0, 1) := by decide +kernel
theorem dX5_image_30 : decode cX5_image 30 = .ok (.getfield 26, 3) := by decide +kernel
theorem dX5_image_33 : decode cX5_image 33 = .ok (.getfield 144, 3) := by decide +kernel
theorem dX5_image_36 : decode cX5_image 36 = .ok (.ireturn, 1) := by decide +kernel
set_option maxRecDepth 20000 in
theorem ggX5_restore_X0_copyFrom : GoodIn wsX5_restore wsX0_copyFrom := goodIn_r _ [9, 10, 11, 12, 13, 14, 15, 16, 17, 18, 19, 20, 21, 22, 31, 32, 33, 34, 35, 36, 37, 38, 39] (by decide +kernel) (by decide +kernel)
set_option maxRecDepth 20000 in
theorem gX5_restore_X0_copyFrom : GoodIn wsX5_restore (wsV RX5 196 RX0 yX0_copyFrom wsX0_copyFrom) := goodIn_app (goodIn_of _ (by decide +kernel)) ggX5_restore_X0_copyFrom
theorem dX5_restore_0 : decode cX5_restore 0 = .ok (.aload_n 0, 1) := by decide +kernel
theorem dX5_restore_1 : decode cX5_restore 1 = .ok (.getfield 47, 3) := by decide +kernel
theorem dX5_restore_4 : decode cX5_restore 4 = .ok (.ifCond .ne 6, 3) := by decide +kernel
theorem dX5_restore_7 : decode cX5_restore 7 = .ok (.bipush (-103), 2) := by decide +kernel
theorem dX5_restore_9 : decode cX5_restore 9 = .ok (.ireturn, 1) := by decide +kernel
theorem dX5_restore_10 : decode cX5_restore 10 = .ok (.aload_n 0, 1) := by decide +kernel
theorem dX5_restore_11 : decode cX5_restore 11 = .ok (.getfield 26, 3) := by decide +kernel
theorem dX5_restore_14 : decode cX5_restore 14 = .ok (.aload_n 0, 1) := by decide +kernel
theorem dX5_restore_15 : decode cX5_restore 15 = .ok (.getfield 30, 3) := by decide +kernel
theorem dX5_restore_18 : decode cX5_restore 18 = .ok (.invokevirtual 196, 3) := by decide +kernel
theorem dX5_restore_21 : decode cX5_restore 21 = .ok (.aload_n 0, 1) := by decide +kernel
theorem dX5_restore_22 : decode cX5_restore 22 = .ok (.getfield 26, 3) := by decide +kernel
theorem dX5_restore_25 : decode cX5_restore 25 = .ok (.getfield 144, 3) := by decide +kernel
theorem dX5_restore_28 : decode cX5_restore 28 = .ok (.ireturn, 1) := by decide +kernel
set_option maxRecDepth 20000 in
theorem ggX5_count_X0_holesWith : GoodIn wsX5_count wsX0_holesWith := goodIn_r _ [16, 17, 35, 36, 37, 38, 39, 40, 41, 42, 43] (by decide +kernel) (by decide +kernel)
set_option maxRecDepth 20000 in
theorem gX5_count_X0_holesWith : GoodIn wsX5_count (wsV RX5 203 RX0 yX0_holesWith wsX0_holesWith) := goodIn_app (goodIn_of _ (by decide +kernel)) ggX5_count_X0_holesWith
set_option maxRecDepth 20000 in
theorem ggX5_count_X5_sum : GoodIn wsX5_count wsX5_sum := goodIn_r _ [21] (by decide +kernel) (by decide +kernel)
set_option maxRecDepth 20000 in
theorem gX5_count_X5_sum : GoodIn wsX5_count (va_wsS RX5 206 yX5_sum wsX5_sum) := goodIn_app (goodIn_of _ (by decide +kernel)) ggX5_count_X5_sum
theorem dX5_count_0 : decode cX5_count 0 = .ok (.iload_n 1, 1) := by decide +kernel
theorem dX5_count_1 : decode cX5_count 1 = .ok (.tableswitch 140 0 9 #[55, 63, 71, 80, 89, 100, 111, 119, 127, 135], 55) := by decide +kernel
theorem dX5_count_56 : decode cX5_count 56 = .ok (.aload_n 0, 1) := by decide +kernel
theorem dX5_count_57 : decode cX5_count 57 = .ok (.getfield 19, 3) := by decide +kernel
theorem dX5_count_60 : decode cX5_count 60 = .ok (.getfield 200, 3) := by decide +kernel
theorem dX5_count_63 : decode cX5_count 63 = .ok (.ireturn, 1) := by decide +kernel
theorem dX5_count_64 : decode cX5_count 64 = .ok (.aload_n 0, 1) := by decide +kernel
theorem dX5_count_65 : decode cX5_count 65 = .ok (.getfield 19, 3) := by decide +kernel
theorem dX5_count_68 : decode cX5_count 68 = .ok (.getfield 77, 3) := by decide +kernel
theorem dX5_count_71 : decode cX5_count 71 = .ok (.ireturn, 1) := by decide +kernel
theorem dX5_count_72 : decode cX5_count 72 = .ok (.aload_n 0, 1) := by decide +kernel
theorem dX5_count_73 : decode cX5_count 73 = .ok (.getfield 26, 3) := by decide +kernel
theorem dX5_count_76 : decode cX5_count 76 = .ok (.iconst 1, 1) := by decide +kernel
theorem dX5_count_77 : decode cX5_count 77 = .ok (.invokevirtual 203, 3) := by decide +kernel
theorem dX5_count_80 : decode cX5_count 80 = .ok (.ireturn, 1) := by decide +kernel
theorem dX5_count_81 : decode cX5_count 81 = .ok (.aload_n 0, 1) := by decide +kernel
theorem dX5_count_82 : decode cX5_count 82 = .ok (.getfield 26, 3) := by decide +kernel
theorem dX5_count_85 : decode cX5_count 85 = .ok (.iconst 2, 1) := by decide +kernel
theorem dX5_count_86 : decode cX5_count 86 = .ok (.invokevirtual 203, 3) := by decide +kernel
theorem dX5_count_89 : decode cX5_count 89 = .ok (.ireturn, 1) := by decide +kernel
theorem dX5_count_90 : decode cX5_count 90 = .ok (.aload_n 0, 1) := by decide +kernel
theorem dX5_count_91 : decode cX5_count 91 = .ok (.getfield 26, 3) := by decide +kernel
theorem dX5_count_94 : decode cX5_count 94 = .ok (.getfield 126, 3) := by decide +kernel
theorem dX5_count_97 : decode cX5_count 97 = .ok (.invokestatic 206, 3) := by decide +kernel
theorem dX5_count_100 : decode cX5_count 100 = .ok (.ireturn, 1) := by decide +kernel
theorem dX5_count_101 : decode cX5_count 101 = .ok (.aload_n 0, 1) := by decide +kernel
theorem dX5_count_102 : decode cX5_count 102 = .ok (.getfield 26, 3) := by decide +kernel
theorem dX5_count_105 : decode cX5_count 105 = .ok (.getfield 97, 3) := by decide +kernel
theorem dX5_count_108 : decode cX5_count 108 = .ok (.invokestatic 206, 3) := by decide +kernel
theorem dX5_count_111 : decode cX5_count 111 = .ok (.ireturn, 1) := by decide +kernel
theorem dX5_count_112 : decode cX5_count 112 = .ok (.aload_n 0, 1) := by decide +kernel
theorem dX5_count_113 : decode cX5_count 113 = .ok (.getfield 26, 3) := by decide +kernel
theorem dX5_count_116 : decode cX5_count 116 = .ok (.getfield 144, 3) := by decide +kernel
theorem dX5_count_119 : decode cX5_count 119 = .ok (.ireturn, 1) := by decide +kernel
theorem dX5_count_120 : decode cX5_count 120 = .ok (.aload_n 0, 1) := by decide +kernel
theorem dX5_count_121 : decode cX5_count 121 = .ok (.getfield 26, 3) := by decide +kernel
theorem dX5_count_124 : decode cX5_count 124 = .ok (.getfield 170, 3) := by decide +kernel
theorem dX5_count_127 : decode cX5_count 127 = .ok (.ireturn, 1) := by decide +kernel
theorem dX5_count_128 : decode cX5_count 128 = .ok (.aload_n 0, 1) := by decide +kernel
theorem dX5_count_129 : decode cX5_count 129 = .ok (.getfield 10, 3) := by decide +kernel
theorem dX5_count_132 : decode cX5_count 132 = .ok (.getfield 55, 3) := by decide +kernel
theorem dX5_count_135 : decode cX5_count 135 = .ok (.ireturn, 1) := by decide +kernel
theorem dX5_count_136 : decode cX5_count 136 = .ok (.aload_n 0, 1) := by decide +kernel
theorem dX5_count_137 : decode cX5_count 137 = .ok (.getfield 51, 3) := by decide +kernel
theorem dX5_count_140 : decode cX5_count 140 = .ok (.ireturn, 1) := by decide +kernel
theorem dX5_count_141 : decode cX5_count 141 = .ok (.bipush (-102), 2) := by decide +kernel
theorem dX5_count_143 : decode cX5_count 143 = .ok (.ireturn, 1) := by decide +kernel
set_option maxRecDepth 20000 in
theorem ggX5_digest_X5_digestKeeper : GoodIn wsX5_digest wsX5_digestKeeper := goodIn_r _ [12, 13, 14, 15, 11, 16, 2, 17, 18, 19, 20, 21, 22, 23, 24, 25, 26, 27, 28, 29, 30, 31, 32, 33, 34, 35, 36, 37, 38, 39, 40, 41, 42, 43, 44, 45, 46, 47, 48, 49, 50, 51, 52, 53, 54, 55, 56, 57, 58, 59, 60, 61, 62, 63, 64, 65, 66, 67, 68, 69, 70, 71, 72, 73, 74, 75, 76, 77, 78, 79, 80, 81, 170, 171, 172, 173, 174, 175, 176, 177, 178, 179, 180, 181, 182, 186, 187, 188, 189, 190, 191, 192, 193, 194] (by decide +kernel) (by decide +kernel)
set_option maxRecDepth 20000 in
theorem gX5_digest_X5_digestKeeper : GoodIn wsX5_digest (wsV RX5 212 RX5 yX5_digestKeeper wsX5_digestKeeper) := goodIn_app (goodIn_of _ (by decide +kernel)) ggX5_digest_X5_digestKeeper
set_option maxRecDepth 20000 in
theorem ggX5_digest_X5_hole : GoodIn wsX5_digest wsX5_hole := goodIn_r _ [85, 2, 86, 19, 87, 88, 89, 90, 91, 92, 24, 93, 94, 75, 76, 77, 78, 79, 80, 81, 22, 23, 25, 26, 51, 11, 52, 53, 54, 55, 56, 57, 58, 59, 60, 61, 62, 170, 171, 172, 173, 174, 175, 176, 177, 178, 179, 180, 181, 182, 186, 187, 188, 189, 190, 191, 192, 193, 194] (by decide +kernel) (by decide +kernel)
set_option maxRecDepth 20000 in
theorem gX5_digest_X5_hole : GoodIn wsX5_digest (wsV RX5 216 RX5 yX5_hole wsX5_hole) := goodIn_app (goodIn_of _ (by decide +kernel)) ggX5_digest_X5_hole
set_option maxRecDepth 20000 in
theorem ggX5_digest_X5_digestNumber : GoodIn wsX5_digest wsX5_digestNumber := goodIn_r _ [69, 70] (by decide +kernel) (by decide +kernel)
set_option maxRecDepth 20000 in
theorem gX5_digest_X5_digestNumber : GoodIn wsX5_digest (va_wsS RX5 219 yX5_digestNumber wsX5_digestNumber) := goodIn_app (goodIn_of _ (by decide +kernel)) ggX5_digest_X5_digestNumber
set_option maxRecDepth 20000 in
theorem ggX5_digest_X2_stands : GoodIn wsX5_digest wsX2_stands := goodIn_r _ [98, 26, 178, 179, 180, 181, 182] (by decide +kernel) (by decide +kernel)
set_option maxRecDepth 20000 in
theorem gX5_digest_X2_stands : GoodIn wsX5_digest (wsV RX5 141 RX2 yX2_stands wsX2_stands) := goodIn_app (goodIn_of _ (by decide +kernel)) ggX5_digest_X2_stands
set_option maxRecDepth 20000 in
theorem ggX5_digest_X5_digestWhatWouldBe : GoodIn wsX5_digest wsX5_digestWhatWouldBe := goodIn_r _ [102, 103, 2, 19, 104, 105, 106, 107, 108, 11, 109, 110, 111, 4, 88, 87, 86, 112, 95, 96, 97, 24, 98, 26, 75, 76, 77, 78, 79, 80, 81, 22, 23, 25, 51, 52, 53, 54, 55, 56, 57, 58, 59, 60, 61, 62, 113, 114, 115, 67, 68, 69, 70, 116, 117, 118, 119, 120, 121, 122, 123, 124, 125, 126, 127, 128, 129, 30, 130, 131, 28, 29, 31, 32, 132, 133, 134, 135, 136, 137, 138, 139, 91, 92, 93, 94, 140, 141, 142, 143, 144, 145, 146, 147, 148, 149, 150, 151, 152, 153, 154, 155, 170, 171, 172, 173, 174, 175, 176, 177, 195, 196, 197, 198, 199, 200, 178, 179, 180, 181, 182, 186, 187, 188, 189, 190, 191, 192, 193, 194] (by decide +kernel) (by decide +kernel)
set_option maxRecDepth 20000 in
theorem gX5_digest_X5_digestWhatWouldBe : GoodIn wsX5_digest (wsV RX5 222 RX5 yX5_digestWhatWouldBe wsX5_digestWhatWouldBe) := goodIn_app (goodIn_of _ (by decide +kernel)) ggX5_digest_X5_digestWhatWouldBe
set_option maxRecDepth 20000 in
theorem ggX5_digest_X5_count : GoodIn wsX5_digest wsX5_count := goodIn_r _ [159, 2, 3, 4, 19, 89, 20, 160, 46, 5, 6, 161, 162, 163, 164, 30, 165, 166, 167, 168, 11, 169, 170, 171, 172, 173, 174, 175, 176, 177, 178, 179, 180, 181, 182, 186, 187, 188, 189, 190, 191, 192, 193, 194, 183, 184, 185] (by decide +kernel) (by decide +kernel)
set_option maxRecDepth 20000 in
theorem gX5_digest_X5_count : GoodIn wsX5_digest (wsV RX5 226 RX5 yX5_count wsX5_count) := goodIn_app (goodIn_of _ (by decide +kernel)) ggX5_digest_X5_count
theorem dX5_digest_0 : decode cX5_digest 0 = .ok (.ldc2_w 210, 3) := by decide +kernel
theorem dX5_digest_3 : decode cX5_digest 3 = .ok (.lstore_n 1, 1) := by decide +kernel
theorem dX5_digest_4 : decode cX5_digest 4 = .ok (.iconst 0, 1) := by decide +kernel
theorem dX5_digest_5 : decode cX5_digest 5 = .ok (.istore_n 3, 1) := by decide +kernel
theorem dX5_digest_6 : decode cX5_digest 6 = .ok (.iload_n 3, 1) := by decide +kernel
theorem dX5_digest_7 : decode cX5_digest 7 = .ok (.aload_n 0, 1) := by decide +kernel
theorem dX5_digest_8 : decode cX5_digest 8 = .ok (.getfield 19, 3) := by decide +kernel
theorem dX5_digest_11 : decode cX5_digest 11 = .ok (.getfield 200, 3) := by decide +kernel
theorem dX5_digest_14 : decode cX5_digest 14 = .ok (.if_icmp .ge 16, 3) := by decide +kernel
theorem dX5_digest_17 : decode cX5_digest 17 = .ok (.aload_n 0, 1) := by decide +kernel
theorem dX5_digest_18 : decode cX5_digest 18 = .ok (.lload_n 1, 1) := by decide +kernel
theorem dX5_digest_19 : decode cX5_digest 19 = .ok (.iload_n 3, 1) := by decide +kernel
theorem dX5_digest_20 : decode cX5_digest 20 = .ok (.invokevirtual 212, 3) := by decide +kernel
theorem dX5_digest_23 : decode cX5_digest 23 = .ok (.lstore_n 1, 1) := by decide +kernel
theorem dX5_digest_24 : decode cX5_digest 24 = .ok (.iinc 3 1, 3) := by decide +kernel
theorem dX5_digest_27 : decode cX5_digest 27 = .ok (.goto (-21), 3) := by decide +kernel
theorem dX5_digest_30 : decode cX5_digest 30 = .ok (.iconst 0, 1) := by decide +kernel
theorem dX5_digest_31 : decode cX5_digest 31 = .ok (.istore_n 3, 1) := by decide +kernel
theorem dX5_digest_32 : decode cX5_digest 32 = .ok (.iload_n 3, 1) := by decide +kernel
theorem dX5_digest_33 : decode cX5_digest 33 = .ok (.aload_n 0, 1) := by decide +kernel
theorem dX5_digest_34 : decode cX5_digest 34 = .ok (.getfield 19, 3) := by decide +kernel
theorem dX5_digest_37 : decode cX5_digest 37 = .ok (.getfield 77, 3) := by decide +kernel
theorem dX5_digest_40 : decode cX5_digest 40 = .ok (.if_icmp .ge 37, 3) := by decide +kernel
theorem dX5_digest_43 : decode cX5_digest 43 = .ok (.iconst 0, 1) := by decide +kernel
theorem dX5_digest_44 : decode cX5_digest 44 = .ok (.istore 4, 2) := by decide +kernel
theorem dX5_digest_46 : decode cX5_digest 46 = .ok (.iload 4, 2) := by decide +kernel
theorem dX5_digest_48 : decode cX5_digest 48 = .ok (.iconst 4, 1) := by decide +kernel
theorem dX5_digest_49 : decode cX5_digest 49 = .ok (.if_icmp .gt 22, 3) := by decide +kernel
theorem dX5_digest_52 : decode cX5_digest 52 = .ok (.lload_n 1, 1) := by decide +kernel
theorem dX5_digest_53 : decode cX5_digest 53 = .ok (.aload_n 0, 1) := by decide +kernel
theorem dX5_digest_54 : decode cX5_digest 54 = .ok (.iload_n 3, 1) := by decide +kernel
theorem dX5_digest_55 : decode cX5_digest 55 = .ok (.iload 4, 2) := by decide +kernel
theorem dX5_digest_57 : decode cX5_digest 57 = .ok (.invokevirtual 216, 3) := by decide +kernel
theorem dX5_digest_60 : decode cX5_digest 60 = .ok (.i2l, 1) := by decide +kernel
theorem dX5_digest_61 : decode cX5_digest 61 = .ok (.invokestatic 219, 3) := by decide +kernel
theorem dX5_digest_64 : decode cX5_digest 64 = .ok (.lstore_n 1, 1) := by decide +kernel
theorem dX5_digest_65 : decode cX5_digest 65 = .ok (.iinc 4 1, 3) := by decide +kernel
theorem dX5_digest_68 : decode cX5_digest 68 = .ok (.goto (-22), 3) := by decide +kernel
theorem dX5_digest_71 : decode cX5_digest 71 = .ok (.iinc 3 1, 3) := by decide +kernel
theorem dX5_digest_74 : decode cX5_digest 74 = .ok (.goto (-42), 3) := by decide +kernel
theorem dX5_digest_77 : decode cX5_digest 77 = .ok (.aload_n 0, 1) := by decide +kernel
theorem dX5_digest_78 : decode cX5_digest 78 = .ok (.getfield 19, 3) := by decide +kernel
theorem dX5_digest_81 : decode cX5_digest 81 = .ok (.invokevirtual 141, 3) := by decide +kernel
theorem dX5_digest_84 : decode cX5_digest 84 = .ok (.ifCond .eq 9, 3) := by decide +kernel
theorem dX5_digest_87 : decode cX5_digest 87 = .ok (.aload_n 0, 1) := by decide +kernel
theorem dX5_digest_88 : decode cX5_digest 88 = .ok (.lload_n 1, 1) := by decide +kernel
theorem dX5_digest_89 : decode cX5_digest 89 = .ok (.invokevirtual 222, 3) := by decide +kernel
theorem dX5_digest_92 : decode cX5_digest 92 = .ok (.lstore_n 1, 1) := by decide +kernel
theorem dX5_digest_93 : decode cX5_digest 93 = .ok (.iconst 0, 1) := by decide +kernel
theorem dX5_digest_94 : decode cX5_digest 94 = .ok (.istore_n 3, 1) := by decide +kernel
theorem dX5_digest_95 : decode cX5_digest 95 = .ok (.iload_n 3, 1) := by decide +kernel
theorem dX5_digest_96 : decode cX5_digest 96 = .ok (.aload_n 0, 1) := by decide +kernel
theorem dX5_digest_97 : decode cX5_digest 97 = .ok (.getfield 10, 3) := by decide +kernel
theorem dX5_digest_100 : decode cX5_digest 100 = .ok (.getfield 55, 3) := by decide +kernel
theorem dX5_digest_103 : decode cX5_digest 103 = .ok (.if_icmp .ge 24, 3) := by decide +kernel
theorem dX5_digest_106 : decode cX5_digest 106 = .ok (.lload_n 1, 1) := by decide +kernel
theorem dX5_digest_107 : decode cX5_digest 107 = .ok (.aload_n 0, 1) := by decide +kernel
theorem dX5_digest_108 : decode cX5_digest 108 = .ok (.getfield 10, 3) := by decide +kernel
theorem dX5_digest_111 : decode cX5_digest 111 = .ok (.getfield 58, 3) := by decide +kernel
theorem dX5_digest_114 : decode cX5_digest 114 = .ok (.iload_n 3, 1) := by decide +kernel
theorem dX5_digest_115 : decode cX5_digest 115 = .ok (.iaload, 1) := by decide +kernel
theorem dX5_digest_116 : decode cX5_digest 116 = .ok (.i2l, 1) := by decide +kernel
theorem dX5_digest_117 : decode cX5_digest 117 = .ok (.invokestatic 219, 3) := by decide +kernel
theorem dX5_digest_120 : decode cX5_digest 120 = .ok (.lstore_n 1, 1) := by decide +kernel
theorem dX5_digest_121 : decode cX5_digest 121 = .ok (.iinc 3 1, 3) := by decide +kernel
theorem dX5_digest_124 : decode cX5_digest 124 = .ok (.goto (-29), 3) := by decide +kernel
theorem dX5_digest_127 : decode cX5_digest 127 = .ok (.iconst 0, 1) := by decide +kernel
theorem dX5_digest_128 : decode cX5_digest 128 = .ok (.istore_n 3, 1) := by decide +kernel
theorem dX5_digest_129 : decode cX5_digest 129 = .ok (.iload_n 3, 1) := by decide +kernel
theorem dX5_digest_130 : decode cX5_digest 130 = .ok (.bipush 9, 2) := by decide +kernel
theorem dX5_digest_132 : decode cX5_digest 132 = .ok (.if_icmp .gt 20, 3) := by decide +kernel
theorem dX5_digest_135 : decode cX5_digest 135 = .ok (.lload_n 1, 1) := by decide +kernel
theorem dX5_digest_136 : decode cX5_digest 136 = .ok (.aload_n 0, 1) := by decide +kernel
theorem dX5_digest_137 : decode cX5_digest 137 = .ok (.iload_n 3, 1) := by decide +kernel
theorem dX5_digest_138 : decode cX5_digest 138 = .ok (.invokevirtual 226, 3) := by decide +kernel
theorem dX5_digest_141 : decode cX5_digest 141 = .ok (.i2l, 1) := by decide +kernel
theorem dX5_digest_142 : decode cX5_digest 142 = .ok (.invokestatic 219, 3) := by decide +kernel
theorem dX5_digest_145 : decode cX5_digest 145 = .ok (.lstore_n 1, 1) := by decide +kernel
theorem dX5_digest_146 : decode cX5_digest 146 = .ok (.iinc 3 1, 3) := by decide +kernel
theorem dX5_digest_149 : decode cX5_digest 149 = .ok (.goto (-20), 3) := by decide +kernel
theorem dX5_digest_152 : decode cX5_digest 152 = .ok (.lload_n 1, 1) := by decide +kernel
theorem dX5_digest_153 : decode cX5_digest 153 = .ok (.lreturn, 1) := by decide +kernel
set_option maxRecDepth 20000 in
theorem ggX5_digestKeeper_X5_keeper : GoodIn wsX5_digestKeeper wsX5_keeper := goodIn_r _ [5, 6, 7, 8, 9, 10, 11, 12, 13, 14, 15, 16, 17, 18, 19, 20, 21, 22, 23, 24, 25, 26, 27, 28, 29, 30, 4, 31, 32, 33, 34, 35, 36, 37, 38, 39, 40, 41, 42, 43, 44, 45, 46, 47, 48, 49, 50, 51, 52, 53, 54, 55, 56, 72, 73, 74, 75, 76, 77, 78, 79, 80, 81, 82, 83, 84, 85, 86, 87, 88, 89, 90, 91, 92, 93] (by decide +kernel) (by decide +kernel)
set_option maxRecDepth 20000 in
theorem gX5_digestKeeper_X5_keeper : GoodIn wsX5_digestKeeper (wsV RX5 229 RX5 yX5_keeper wsX5_keeper) := goodIn_app (goodIn_of _ (by decide +kernel)) ggX5_digestKeeper_X5_keeper
set_option maxRecDepth 20000 in
theorem ggX5_digestKeeper_X5_digestNumber : GoodIn wsX5_digestKeeper wsX5_digestNumber := goodIn_r _ [59, 60] (by decide +kernel) (by decide +kernel)
set_option maxRecDepth 20000 in
theorem gX5_digestKeeper_X5_digestNumber : GoodIn wsX5_digestKeeper (va_wsS RX5 219 yX5_digestNumber wsX5_digestNumber) := goodIn_app (goodIn_of _ (by decide +kernel)) ggX5_digestKeeper_X5_digestNumber
set_option maxRecDepth 20000 in
theorem ggX5_digestKeeper_X5_keeps : GoodIn wsX5_digestKeeper wsX5_keeps := goodIn_r _ [64, 6, 11, 12, 13, 14, 15, 16, 65, 66, 67, 68, 69, 70, 71, 41, 4, 42, 43, 44, 45, 46, 47, 48, 49, 50, 51, 52, 72, 73, 74, 75, 76, 77, 78, 79, 80, 81, 82, 83, 84] (by decide +kernel) (by decide +kernel)
set_option maxRecDepth 20000 in
theorem gX5_digestKeeper_X5_keeps : GoodIn wsX5_digestKeeper (wsV RX5 232 RX5 yX5_keeps wsX5_keeps) := goodIn_app (goodIn_of _ (by decide +kernel)) ggX5_digestKeeper_X5_keeps
theorem dX5_digestKeeper_0 : decode cX5_digestKeeper 0 = .ok (.lload_n 1, 1) := by decide +kernel
theorem dX5_digestKeeper_1 : decode cX5_digestKeeper 1 = .ok (.lstore 4, 2) := by decide +kernel
theorem dX5_digestKeeper_3 : decode cX5_digestKeeper 3 = .ok (.iconst 0, 1) := by decide +kernel
theorem dX5_digestKeeper_4 : decode cX5_digestKeeper 4 = .ok (.istore 6, 2) := by decide +kernel
theorem dX5_digestKeeper_6 : decode cX5_digestKeeper 6 = .ok (.iload 6, 2) := by decide +kernel
theorem dX5_digestKeeper_8 : decode cX5_digestKeeper 8 = .ok (.bipush 6, 2) := by decide +kernel
theorem dX5_digestKeeper_10 : decode cX5_digestKeeper 10 = .ok (.if_icmp .gt 24, 3) := by decide +kernel
theorem dX5_digestKeeper_13 : decode cX5_digestKeeper 13 = .ok (.lload 4, 2) := by decide +kernel
theorem dX5_digestKeeper_15 : decode cX5_digestKeeper 15 = .ok (.aload_n 0, 1) := by decide +kernel
theorem dX5_digestKeeper_16 : decode cX5_digestKeeper 16 = .ok (.iload_n 3, 1) := by decide +kernel
theorem dX5_digestKeeper_17 : decode cX5_digestKeeper 17 = .ok (.iload 6, 2) := by decide +kernel
theorem dX5_digestKeeper_19 : decode cX5_digestKeeper 19 = .ok (.invokevirtual 229, 3) := by decide +kernel
theorem dX5_digestKeeper_22 : decode cX5_digestKeeper 22 = .ok (.i2l, 1) := by decide +kernel
theorem dX5_digestKeeper_23 : decode cX5_digestKeeper 23 = .ok (.invokestatic 219, 3) := by decide +kernel
theorem dX5_digestKeeper_26 : decode cX5_digestKeeper 26 = .ok (.lstore 4, 2) := by decide +kernel
theorem dX5_digestKeeper_28 : decode cX5_digestKeeper 28 = .ok (.iinc 6 1, 3) := by decide +kernel
theorem dX5_digestKeeper_31 : decode cX5_digestKeeper 31 = .ok (.goto (-25), 3) := by decide +kernel
theorem dX5_digestKeeper_34 : decode cX5_digestKeeper 34 = .ok (.lload 4, 2) := by decide +kernel
theorem dX5_digestKeeper_36 : decode cX5_digestKeeper 36 = .ok (.aload_n 0, 1) := by decide +kernel
theorem dX5_digestKeeper_37 : decode cX5_digestKeeper 37 = .ok (.iload_n 3, 1) := by decide +kernel
theorem dX5_digestKeeper_38 : decode cX5_digestKeeper 38 = .ok (.iconst 0, 1) := by decide +kernel
theorem dX5_digestKeeper_39 : decode cX5_digestKeeper 39 = .ok (.invokevirtual 232, 3) := by decide +kernel
theorem dX5_digestKeeper_42 : decode cX5_digestKeeper 42 = .ok (.i2l, 1) := by decide +kernel
theorem dX5_digestKeeper_43 : decode cX5_digestKeeper 43 = .ok (.invokestatic 219, 3) := by decide +kernel
theorem dX5_digestKeeper_46 : decode cX5_digestKeeper 46 = .ok (.lstore 4, 2) := by decide +kernel
theorem dX5_digestKeeper_48 : decode cX5_digestKeeper 48 = .ok (.lload 4, 2) := by decide +kernel
theorem dX5_digestKeeper_50 : decode cX5_digestKeeper 50 = .ok (.aload_n 0, 1) := by decide +kernel
theorem dX5_digestKeeper_51 : decode cX5_digestKeeper 51 = .ok (.iload_n 3, 1) := by decide +kernel
theorem dX5_digestKeeper_52 : decode cX5_digestKeeper 52 = .ok (.iconst 5, 1) := by decide +kernel
theorem dX5_digestKeeper_53 : decode cX5_digestKeeper 53 = .ok (.invokevirtual 232, 3) := by decide +kernel
theorem dX5_digestKeeper_56 : decode cX5_digestKeeper 56 = .ok (.i2l, 1) := by decide +kernel
theorem dX5_digestKeeper_57 : decode cX5_digestKeeper 57 = .ok (.invokestatic 219, 3) := by decide +kernel
theorem dX5_digestKeeper_60 : decode cX5_digestKeeper 60 = .ok (.lstore 4, 2) := by decide +kernel
theorem dX5_digestKeeper_62 : decode cX5_digestKeeper 62 = .ok (.lload 4, 2) := by decide +kernel
theorem dX5_digestKeeper_64 : decode cX5_digestKeeper 64 = .ok (.aload_n 0, 1) := by decide +kernel
theorem dX5_digestKeeper_65 : decode cX5_digestKeeper 65 = .ok (.iload_n 3, 1) := by decide +kernel
theorem dX5_digestKeeper_66 : decode cX5_digestKeeper 66 = .ok (.bipush 9, 2) := by decide +kernel
theorem dX5_digestKeeper_68 : decode cX5_digestKeeper 68 = .ok (.invokevirtual 232, 3) := by decide +kernel
theorem dX5_digestKeeper_71 : decode cX5_digestKeeper 71 = .ok (.i2l, 1) := by decide +kernel
theorem dX5_digestKeeper_72 : decode cX5_digestKeeper 72 = .ok (.invokestatic 219, 3) := by decide +kernel
theorem dX5_digestKeeper_75 : decode cX5_digestKeeper 75 = .ok (.lreturn, 1) := by decide +kernel
set_option maxRecDepth 20000 in
theorem ggX5_digestWhatWouldBe_X5_odds : GoodIn wsX5_digestWhatWouldBe wsX5_odds := goodIn_r _ [10, 11, 2, 12, 13, 3, 14, 15, 16, 17, 18, 19, 20, 21, 22, 23, 24, 25, 26, 27, 28, 29, 30, 31, 32, 33, 34, 9, 35, 36, 37, 38, 39, 40, 41, 42, 43, 44, 45, 46, 47, 48, 102, 103, 104, 105, 106, 107, 108, 109, 116, 117, 118, 119, 120, 121, 122, 123, 124, 125, 126, 127, 128, 129] (by decide +kernel) (by decide +kernel)
set_option maxRecDepth 20000 in
theorem gX5_digestWhatWouldBe_X5_odds : GoodIn wsX5_digestWhatWouldBe (wsV RX5 235 RX5 yX5_odds wsX5_odds) := goodIn_app (goodIn_of _ (by decide +kernel)) ggX5_digestWhatWouldBe_X5_odds
set_option maxRecDepth 20000 in
theorem ggX5_digestWhatWouldBe_X5_digestNumber : GoodIn wsX5_digestWhatWouldBe wsX5_digestNumber := goodIn_r _ [51, 52] (by decide +kernel) (by decide +kernel)
set_option maxRecDepth 20000 in
theorem gX5_digestWhatWouldBe_X5_digestNumber : GoodIn wsX5_digestWhatWouldBe (va_wsS RX5 219 yX5_digestNumber wsX5_digestNumber) := goodIn_app (goodIn_of _ (by decide +kernel)) ggX5_digestWhatWouldBe_X5_digestNumber
set_option maxRecDepth 20000 in
theorem ggX5_digestWhatWouldBe_X3_solve : GoodIn wsX5_digestWhatWouldBe wsX3_solve := goodIn_r _ [57, 58, 59, 60, 61, 62, 63, 31, 32, 21, 33, 23, 64, 65, 66, 67, 68, 69, 70, 71, 72, 73, 74, 75, 76, 77, 78, 79, 80, 81, 82, 83, 84, 85, 86, 87, 88, 56, 89, 90, 91, 92, 41, 38, 42, 93, 25, 26, 27, 28, 29, 30, 34, 9, 35, 36, 37, 39, 40, 43, 44, 45, 94, 95, 96, 97, 98, 99, 100, 101, 110, 111, 112, 113, 114, 115, 121, 122, 123, 124, 125, 126, 127, 128, 129, 116, 117, 118, 119, 120] (by decide +kernel) (by decide +kernel)
set_option maxRecDepth 20000 in
theorem gX5_digestWhatWouldBe_X3_solve : GoodIn wsX5_digestWhatWouldBe (wsV RX5 160 RX3 yX3_solve wsX3_solve) := goodIn_app (goodIn_of _ (by decide +kernel)) ggX5_digestWhatWouldBe_X3_solve
theorem dX5_digestWhatWouldBe_0 : decode cX5_digestWhatWouldBe 0 = .ok (.lload_n 1, 1) := by decide +kernel
theorem dX5_digestWhatWouldBe_1 : decode cX5_digestWhatWouldBe 1 = .ok (.aload_n 0, 1) := by decide +kernel
theorem dX5_digestWhatWouldBe_2 : decode cX5_digestWhatWouldBe 2 = .ok (.iconst 2, 1) := by decide +kernel
theorem dX5_digestWhatWouldBe_3 : decode cX5_digestWhatWouldBe 3 = .ok (.iconst 0, 1) := by decide +kernel
theorem dX5_digestWhatWouldBe_4 : decode cX5_digestWhatWouldBe 4 = .ok (.invokevirtual 235, 3) := by decide +kernel
theorem dX5_digestWhatWouldBe_7 : decode cX5_digestWhatWouldBe 7 = .ok (.invokestatic 219, 3) := by decide +kernel
theorem dX5_digestWhatWouldBe_10 : decode cX5_digestWhatWouldBe 10 = .ok (.lstore_n 3, 1) := by decide +kernel
theorem dX5_digestWhatWouldBe_11 : decode cX5_digestWhatWouldBe 11 = .ok (.lload_n 3, 1) := by decide +kernel
theorem dX5_digestWhatWouldBe_12 : decode cX5_digestWhatWouldBe 12 = .ok (.aload_n 0, 1) := by decide +kernel
theorem dX5_digestWhatWouldBe_13 : decode cX5_digestWhatWouldBe 13 = .ok (.iconst 2, 1) := by decide +kernel
theorem dX5_digestWhatWouldBe_14 : decode cX5_digestWhatWouldBe 14 = .ok (.iconst 1, 1) := by decide +kernel
theorem dX5_digestWhatWouldBe_15 : decode cX5_digestWhatWouldBe 15 = .ok (.invokevirtual 235, 3) := by decide +kernel
theorem dX5_digestWhatWouldBe_18 : decode cX5_digestWhatWouldBe 18 = .ok (.invokestatic 219, 3) := by decide +kernel
theorem dX5_digestWhatWouldBe_21 : decode cX5_digestWhatWouldBe 21 = .ok (.lstore_n 3, 1) := by decide +kernel
theorem dX5_digestWhatWouldBe_22 : decode cX5_digestWhatWouldBe 22 = .ok (.aload_n 0, 1) := by decide +kernel
theorem dX5_digestWhatWouldBe_23 : decode cX5_digestWhatWouldBe 23 = .ok (.getfield 36, 3) := by decide +kernel
theorem dX5_digestWhatWouldBe_26 : decode cX5_digestWhatWouldBe 26 = .ok (.aload_n 0, 1) := by decide +kernel
theorem dX5_digestWhatWouldBe_27 : decode cX5_digestWhatWouldBe 27 = .ok (.getfield 19, 3) := by decide +kernel
theorem dX5_digestWhatWouldBe_30 : decode cX5_digestWhatWouldBe 30 = .ok (.aload_n 0, 1) := by decide +kernel
theorem dX5_digestWhatWouldBe_31 : decode cX5_digestWhatWouldBe 31 = .ok (.getfield 26, 3) := by decide +kernel
theorem dX5_digestWhatWouldBe_34 : decode cX5_digestWhatWouldBe 34 = .ok (.invokevirtual 160, 3) := by decide +kernel
theorem dX5_digestWhatWouldBe_37 : decode cX5_digestWhatWouldBe 37 = .ok (.lload_n 3, 1) := by decide +kernel
theorem dX5_digestWhatWouldBe_38 : decode cX5_digestWhatWouldBe 38 = .ok (.aload_n 0, 1) := by decide +kernel
theorem dX5_digestWhatWouldBe_39 : decode cX5_digestWhatWouldBe 39 = .ok (.getfield 36, 3) := by decide +kernel
theorem dX5_digestWhatWouldBe_42 : decode cX5_digestWhatWouldBe 42 = .ok (.getfield 164, 3) := by decide +kernel
theorem dX5_digestWhatWouldBe_45 : decode cX5_digestWhatWouldBe 45 = .ok (.i2l, 1) := by decide +kernel
theorem dX5_digestWhatWouldBe_46 : decode cX5_digestWhatWouldBe 46 = .ok (.invokestatic 219, 3) := by decide +kernel
theorem dX5_digestWhatWouldBe_49 : decode cX5_digestWhatWouldBe 49 = .ok (.lstore_n 3, 1) := by decide +kernel
theorem dX5_digestWhatWouldBe_50 : decode cX5_digestWhatWouldBe 50 = .ok (.iconst 0, 1) := by decide +kernel
theorem dX5_digestWhatWouldBe_51 : decode cX5_digestWhatWouldBe 51 = .ok (.istore 5, 2) := by decide +kernel
theorem dX5_digestWhatWouldBe_53 : decode cX5_digestWhatWouldBe 53 = .ok (.iload 5, 2) := by decide +kernel
theorem dX5_digestWhatWouldBe_55 : decode cX5_digestWhatWouldBe 55 = .ok (.iconst 5, 1) := by decide +kernel
theorem dX5_digestWhatWouldBe_56 : decode cX5_digestWhatWouldBe 56 = .ok (.if_icmp .ge 25, 3) := by decide +kernel
theorem dX5_digestWhatWouldBe_59 : decode cX5_digestWhatWouldBe 59 = .ok (.lload_n 3, 1) := by decide +kernel
theorem dX5_digestWhatWouldBe_60 : decode cX5_digestWhatWouldBe 60 = .ok (.aload_n 0, 1) := by decide +kernel
theorem dX5_digestWhatWouldBe_61 : decode cX5_digestWhatWouldBe 61 = .ok (.getfield 36, 3) := by decide +kernel
theorem dX5_digestWhatWouldBe_64 : decode cX5_digestWhatWouldBe 64 = .ok (.getfield 167, 3) := by decide +kernel
theorem dX5_digestWhatWouldBe_67 : decode cX5_digestWhatWouldBe 67 = .ok (.iload 5, 2) := by decide +kernel
theorem dX5_digestWhatWouldBe_69 : decode cX5_digestWhatWouldBe 69 = .ok (.iaload, 1) := by decide +kernel
theorem dX5_digestWhatWouldBe_70 : decode cX5_digestWhatWouldBe 70 = .ok (.i2l, 1) := by decide +kernel
theorem dX5_digestWhatWouldBe_71 : decode cX5_digestWhatWouldBe 71 = .ok (.invokestatic 219, 3) := by decide +kernel
theorem dX5_digestWhatWouldBe_74 : decode cX5_digestWhatWouldBe 74 = .ok (.lstore_n 3, 1) := by decide +kernel
theorem dX5_digestWhatWouldBe_75 : decode cX5_digestWhatWouldBe 75 = .ok (.iinc 5 1, 3) := by decide +kernel
theorem dX5_digestWhatWouldBe_78 : decode cX5_digestWhatWouldBe 78 = .ok (.goto (-25), 3) := by decide +kernel
theorem dX5_digestWhatWouldBe_81 : decode cX5_digestWhatWouldBe 81 = .ok (.lload_n 3, 1) := by decide +kernel
theorem dX5_digestWhatWouldBe_82 : decode cX5_digestWhatWouldBe 82 = .ok (.lreturn, 1) := by decide +kernel
theorem dX5_digestNumber_0 : decode cX5_digestNumber 0 = .ok (.ldc2_w 239, 3) := by decide +kernel
theorem dX5_digestNumber_3 : decode cX5_digestNumber 3 = .ok (.lload_n 0, 1) := by decide +kernel
theorem dX5_digestNumber_4 : decode cX5_digestNumber 4 = .ok (.lmul, 1) := by decide +kernel
theorem dX5_digestNumber_5 : decode cX5_digestNumber 5 = .ok (.lload_n 2, 1) := by decide +kernel
theorem dX5_digestNumber_6 : decode cX5_digestNumber 6 = .ok (.ladd, 1) := by decide +kernel
theorem dX5_digestNumber_7 : decode cX5_digestNumber 7 = .ok (.lreturn, 1) := by decide +kernel
set_option maxRecDepth 20000 in
theorem ggX5_possibleFaiths_X5_likelihood : GoodIn wsX5_possibleFaiths wsX5_likelihood := goodIn_r _ [5, 6, 7, 8, 9, 10, 11, 12, 13, 14, 4, 15, 16, 17, 18, 19, 20, 21, 22, 23, 24, 25, 26, 27, 28, 29, 30, 31, 32, 33, 34, 35, 36, 37, 38, 39, 40, 41, 42, 43, 44, 45, 46, 47] (by decide +kernel) (by decide +kernel)
set_option maxRecDepth 20000 in
theorem gX5_possibleFaiths_X5_likelihood : GoodIn wsX5_possibleFaiths (wsV RX5 241 RX5 yX5_likelihood wsX5_likelihood) := goodIn_app (goodIn_of _ (by decide +kernel)) ggX5_possibleFaiths_X5_likelihood
theorem dX5_possibleFaiths_0 : decode cX5_possibleFaiths 0 = .ok (.iconst 0, 1) := by decide +kernel
theorem dX5_possibleFaiths_1 : decode cX5_possibleFaiths 1 = .ok (.istore_n 2, 1) := by decide +kernel
theorem dX5_possibleFaiths_2 : decode cX5_possibleFaiths 2 = .ok (.iconst 0, 1) := by decide +kernel
theorem dX5_possibleFaiths_3 : decode cX5_possibleFaiths 3 = .ok (.istore_n 3, 1) := by decide +kernel
theorem dX5_possibleFaiths_4 : decode cX5_possibleFaiths 4 = .ok (.iload_n 3, 1) := by decide +kernel
theorem dX5_possibleFaiths_5 : decode cX5_possibleFaiths 5 = .ok (.bipush 9, 2) := by decide +kernel
theorem dX5_possibleFaiths_7 : decode cX5_possibleFaiths 7 = .ok (.if_icmp .gt 26, 3) := by decide +kernel
theorem dX5_possibleFaiths_10 : decode cX5_possibleFaiths 10 = .ok (.aload_n 0, 1) := by decide +kernel
theorem dX5_possibleFaiths_11 : decode cX5_possibleFaiths 11 = .ok (.iload_n 1, 1) := by decide +kernel
theorem dX5_possibleFaiths_12 : decode cX5_possibleFaiths 12 = .ok (.iload_n 3, 1) := by decide +kernel
theorem dX5_possibleFaiths_13 : decode cX5_possibleFaiths 13 = .ok (.invokevirtual 241, 3) := by decide +kernel
theorem dX5_possibleFaiths_16 : decode cX5_possibleFaiths 16 = .ok (.lconst 0, 1) := by decide +kernel
theorem dX5_possibleFaiths_17 : decode cX5_possibleFaiths 17 = .ok (.lcmp, 1) := by decide +kernel
theorem dX5_possibleFaiths_18 : decode cX5_possibleFaiths 18 = .ok (.ifCond .le 9, 3) := by decide +kernel
theorem dX5_possibleFaiths_21 : decode cX5_possibleFaiths 21 = .ok (.iload_n 2, 1) := by decide +kernel
theorem dX5_possibleFaiths_22 : decode cX5_possibleFaiths 22 = .ok (.iconst 1, 1) := by decide +kernel
theorem dX5_possibleFaiths_23 : decode cX5_possibleFaiths 23 = .ok (.iload_n 3, 1) := by decide +kernel
theorem dX5_possibleFaiths_24 : decode cX5_possibleFaiths 24 = .ok (.ishl, 1) := by decide +kernel
theorem dX5_possibleFaiths_25 : decode cX5_possibleFaiths 25 = .ok (.ior, 1) := by decide +kernel
theorem dX5_possibleFaiths_26 : decode cX5_possibleFaiths 26 = .ok (.istore_n 2, 1) := by decide +kernel
theorem dX5_possibleFaiths_27 : decode cX5_possibleFaiths 27 = .ok (.iinc 3 1, 3) := by decide +kernel
theorem dX5_possibleFaiths_30 : decode cX5_possibleFaiths 30 = .ok (.goto (-26), 3) := by decide +kernel
theorem dX5_possibleFaiths_33 : decode cX5_possibleFaiths 33 = .ok (.iload_n 2, 1) := by decide +kernel
theorem dX5_possibleFaiths_34 : decode cX5_possibleFaiths 34 = .ok (.ireturn, 1) := by decide +kernel
set_option maxRecDepth 20000 in
theorem ggX5_likelyFaith_X5_likelihood : GoodIn wsX5_likelyFaith wsX5_likelihood := goodIn_r _ [5, 6, 7, 8, 9, 10, 11, 12, 13, 14, 4, 15, 16, 17, 18, 19, 20, 21, 22, 23, 24, 25, 26, 27, 28, 29, 30, 31, 32, 33, 34, 35, 36, 37, 38, 39, 40, 41, 42, 43, 44, 45, 46, 47] (by decide +kernel) (by decide +kernel)
set_option maxRecDepth 20000 in
theorem gX5_likelyFaith_X5_likelihood : GoodIn wsX5_likelyFaith (wsV RX5 241 RX5 yX5_likelihood wsX5_likelihood) := goodIn_app (goodIn_of _ (by decide +kernel)) ggX5_likelyFaith_X5_likelihood
theorem dX5_likelyFaith_0 : decode cX5_likelyFaith 0 = .ok (.iconst (-1), 1) := by decide +kernel
theorem dX5_likelyFaith_1 : decode cX5_likelyFaith 1 = .ok (.istore_n 2, 1) := by decide +kernel
theorem dX5_likelyFaith_2 : decode cX5_likelyFaith 2 = .ok (.lconst 0, 1) := by decide +kernel
theorem dX5_likelyFaith_3 : decode cX5_likelyFaith 3 = .ok (.lstore_n 3, 1) := by decide +kernel
theorem dX5_likelyFaith_4 : decode cX5_likelyFaith 4 = .ok (.iconst 0, 1) := by decide +kernel
theorem dX5_likelyFaith_5 : decode cX5_likelyFaith 5 = .ok (.istore 5, 2) := by decide +kernel
theorem dX5_likelyFaith_7 : decode cX5_likelyFaith 7 = .ok (.iload 5, 2) := by decide +kernel
theorem dX5_likelyFaith_9 : decode cX5_likelyFaith 9 = .ok (.bipush 9, 2) := by decide +kernel
theorem dX5_likelyFaith_11 : decode cX5_likelyFaith 11 = .ok (.if_icmp .gt 31, 3) := by decide +kernel
theorem dX5_likelyFaith_14 : decode cX5_likelyFaith 14 = .ok (.aload_n 0, 1) := by decide +kernel
theorem dX5_likelyFaith_15 : decode cX5_likelyFaith 15 = .ok (.iload_n 1, 1) := by decide +kernel
theorem dX5_likelyFaith_16 : decode cX5_likelyFaith 16 = .ok (.iload 5, 2) := by decide +kernel
theorem dX5_likelyFaith_18 : decode cX5_likelyFaith 18 = .ok (.invokevirtual 241, 3) := by decide +kernel
theorem dX5_likelyFaith_21 : decode cX5_likelyFaith 21 = .ok (.lstore 6, 2) := by decide +kernel
theorem dX5_likelyFaith_23 : decode cX5_likelyFaith 23 = .ok (.lload 6, 2) := by decide +kernel
theorem dX5_likelyFaith_25 : decode cX5_likelyFaith 25 = .ok (.lload_n 3, 1) := by decide +kernel
theorem dX5_likelyFaith_26 : decode cX5_likelyFaith 26 = .ok (.lcmp, 1) := by decide +kernel
theorem dX5_likelyFaith_27 : decode cX5_likelyFaith 27 = .ok (.ifCond .le 9, 3) := by decide +kernel
theorem dX5_likelyFaith_30 : decode cX5_likelyFaith 30 = .ok (.lload 6, 2) := by decide +kernel
theorem dX5_likelyFaith_32 : decode cX5_likelyFaith 32 = .ok (.lstore_n 3, 1) := by decide +kernel
theorem dX5_likelyFaith_33 : decode cX5_likelyFaith 33 = .ok (.iload 5, 2) := by decide +kernel
theorem dX5_likelyFaith_35 : decode cX5_likelyFaith 35 = .ok (.istore_n 2, 1) := by decide +kernel
theorem dX5_likelyFaith_36 : decode cX5_likelyFaith 36 = .ok (.iinc 5 1, 3) := by decide +kernel
theorem dX5_likelyFaith_39 : decode cX5_likelyFaith 39 = .ok (.goto (-32), 3) := by decide +kernel
theorem dX5_likelyFaith_42 : decode cX5_likelyFaith 42 = .ok (.iload_n 2, 1) := by decide +kernel
theorem dX5_likelyFaith_43 : decode cX5_likelyFaith 43 = .ok (.ireturn, 1) := by decide +kernel
set_option maxRecDepth 20000 in
theorem ggX5_likelihood_X5_yearsKeptBy : GoodIn wsX5_likelihood wsX5_yearsKeptBy := goodIn_r _ [11, 12, 13, 14, 15, 16, 17, 18, 19, 20, 10, 21] (by decide +kernel) (by decide +kernel)
set_option maxRecDepth 20000 in
theorem gX5_likelihood_X5_yearsKeptBy : GoodIn wsX5_likelihood (va_wsS RX5 244 yX5_yearsKeptBy wsX5_yearsKeptBy) := goodIn_app (goodIn_of _ (by decide +kernel)) ggX5_likelihood_X5_yearsKeptBy
theorem dX5_likelihood_0 : decode cX5_likelihood 0 = .ok (.lconst 1, 1) := by decide +kernel
theorem dX5_likelihood_1 : decode cX5_likelihood 1 = .ok (.lstore_n 3, 1) := by decide +kernel
theorem dX5_likelihood_2 : decode cX5_likelihood 2 = .ok (.iconst 0, 1) := by decide +kernel
theorem dX5_likelihood_3 : decode cX5_likelihood 3 = .ok (.istore 5, 2) := by decide +kernel
theorem dX5_likelihood_5 : decode cX5_likelihood 5 = .ok (.iload 5, 2) := by decide +kernel
theorem dX5_likelihood_7 : decode cX5_likelihood 7 = .ok (.aload_n 0, 1) := by decide +kernel
theorem dX5_likelihood_8 : decode cX5_likelihood 8 = .ok (.getfield 26, 3) := by decide +kernel
theorem dX5_likelihood_11 : decode cX5_likelihood 11 = .ok (.getfield 170, 3) := by decide +kernel
theorem dX5_likelihood_14 : decode cX5_likelihood 14 = .ok (.if_icmp .ge 76, 3) := by decide +kernel
theorem dX5_likelihood_17 : decode cX5_likelihood 17 = .ok (.aload_n 0, 1) := by decide +kernel
theorem dX5_likelihood_18 : decode cX5_likelihood 18 = .ok (.getfield 26, 3) := by decide +kernel
theorem dX5_likelihood_21 : decode cX5_likelihood 21 = .ok (.getfield 173, 3) := by decide +kernel
theorem dX5_likelihood_24 : decode cX5_likelihood 24 = .ok (.iload 5, 2) := by decide +kernel
theorem dX5_likelihood_26 : decode cX5_likelihood 26 = .ok (.iaload, 1) := by decide +kernel
theorem dX5_likelihood_27 : decode cX5_likelihood 27 = .ok (.iload_n 1, 1) := by decide +kernel
theorem dX5_likelihood_28 : decode cX5_likelihood 28 = .ok (.if_icmp .ne 56, 3) := by decide +kernel
theorem dX5_likelihood_31 : decode cX5_likelihood 31 = .ok (.aload_n 0, 1) := by decide +kernel
theorem dX5_likelihood_32 : decode cX5_likelihood 32 = .ok (.getfield 19, 3) := by decide +kernel
theorem dX5_likelihood_35 : decode cX5_likelihood 35 = .ok (.getfield 84, 3) := by decide +kernel
theorem dX5_likelihood_38 : decode cX5_likelihood 38 = .ok (.iload_n 1, 1) := by decide +kernel
theorem dX5_likelihood_39 : decode cX5_likelihood 39 = .ok (.iaload, 1) := by decide +kernel
theorem dX5_likelihood_40 : decode cX5_likelihood 40 = .ok (.iload_n 2, 1) := by decide +kernel
theorem dX5_likelihood_41 : decode cX5_likelihood 41 = .ok (.aload_n 0, 1) := by decide +kernel
theorem dX5_likelihood_42 : decode cX5_likelihood 42 = .ok (.getfield 26, 3) := by decide +kernel
theorem dX5_likelihood_45 : decode cX5_likelihood 45 = .ok (.getfield 176, 3) := by decide +kernel
theorem dX5_likelihood_48 : decode cX5_likelihood 48 = .ok (.iload 5, 2) := by decide +kernel
theorem dX5_likelihood_50 : decode cX5_likelihood 50 = .ok (.iaload, 1) := by decide +kernel
theorem dX5_likelihood_51 : decode cX5_likelihood 51 = .ok (.invokestatic 244, 3) := by decide +kernel
theorem dX5_likelihood_54 : decode cX5_likelihood 54 = .ok (.istore 6, 2) := by decide +kernel
theorem dX5_likelihood_56 : decode cX5_likelihood 56 = .ok (.lload_n 3, 1) := by decide +kernel
theorem dX5_likelihood_57 : decode cX5_likelihood 57 = .ok (.aload_n 0, 1) := by decide +kernel
theorem dX5_likelihood_58 : decode cX5_likelihood 58 = .ok (.getfield 26, 3) := by decide +kernel
theorem dX5_likelihood_61 : decode cX5_likelihood 61 = .ok (.getfield 179, 3) := by decide +kernel
theorem dX5_likelihood_64 : decode cX5_likelihood 64 = .ok (.iload 5, 2) := by decide +kernel
theorem dX5_likelihood_66 : decode cX5_likelihood 66 = .ok (.baload, 1) := by decide +kernel
theorem dX5_likelihood_67 : decode cX5_likelihood 67 = .ok (.ifCond .eq 9, 3) := by decide +kernel
theorem dX5_likelihood_70 : decode cX5_likelihood 70 = .ok (.iload 6, 2) := by decide +kernel
theorem dX5_likelihood_72 : decode cX5_likelihood 72 = .ok (.i2l, 1) := by decide +kernel
theorem dX5_likelihood_73 : decode cX5_likelihood 73 = .ok (.goto 9, 3) := by decide +kernel
theorem dX5_likelihood_76 : decode cX5_likelihood 76 = .ok (.bipush 10, 2) := by decide +kernel
theorem dX5_likelihood_78 : decode cX5_likelihood 78 = .ok (.iload 6, 2) := by decide +kernel
theorem dX5_likelihood_80 : decode cX5_likelihood 80 = .ok (.isub, 1) := by decide +kernel
theorem dX5_likelihood_81 : decode cX5_likelihood 81 = .ok (.i2l, 1) := by decide +kernel
theorem dX5_likelihood_82 : decode cX5_likelihood 82 = .ok (.lmul, 1) := by decide +kernel
theorem dX5_likelihood_83 : decode cX5_likelihood 83 = .ok (.lstore_n 3, 1) := by decide +kernel
theorem dX5_likelihood_84 : decode cX5_likelihood 84 = .ok (.iinc 5 1, 3) := by decide +kernel
theorem dX5_likelihood_87 : decode cX5_likelihood 87 = .ok (.goto (-82), 3) := by decide +kernel
theorem dX5_likelihood_90 : decode cX5_likelihood 90 = .ok (.lload_n 3, 1) := by decide +kernel
theorem dX5_likelihood_91 : decode cX5_likelihood 91 = .ok (.lreturn, 1) := by decide +kernel
theorem dX5_isOfKind_0 : decode cX5_isOfKind 0 = .ok (.iload_n 1, 1) := by decide +kernel
theorem dX5_isOfKind_1 : decode cX5_isOfKind 1 = .ok (.ifCond .eq 18, 3) := by decide +kernel
theorem dX5_isOfKind_4 : decode cX5_isOfKind 4 = .ok (.iload_n 0, 1) := by decide +kernel
theorem dX5_isOfKind_5 : decode cX5_isOfKind 5 = .ok (.iload_n 1, 1) := by decide +kernel
theorem dX5_isOfKind_6 : decode cX5_isOfKind 6 = .ok (.if_icmp .eq 13, 3) := by decide +kernel
theorem dX5_isOfKind_9 : decode cX5_isOfKind 9 = .ok (.iload_n 0, 1) := by decide +kernel
theorem dX5_isOfKind_10 : decode cX5_isOfKind 10 = .ok (.iconst 4, 1) := by decide +kernel
theorem dX5_isOfKind_11 : decode cX5_isOfKind 11 = .ok (.if_icmp .ne 12, 3) := by decide +kernel
theorem dX5_isOfKind_14 : decode cX5_isOfKind 14 = .ok (.iload_n 1, 1) := by decide +kernel
theorem dX5_isOfKind_15 : decode cX5_isOfKind 15 = .ok (.iconst 1, 1) := by decide +kernel
theorem dX5_isOfKind_16 : decode cX5_isOfKind 16 = .ok (.if_icmp .ne 7, 3) := by decide +kernel
theorem dX5_isOfKind_19 : decode cX5_isOfKind 19 = .ok (.iconst 1, 1) := by decide +kernel
theorem dX5_isOfKind_20 : decode cX5_isOfKind 20 = .ok (.goto 4, 3) := by decide +kernel
theorem dX5_isOfKind_23 : decode cX5_isOfKind 23 = .ok (.iconst 0, 1) := by decide +kernel
theorem dX5_isOfKind_24 : decode cX5_isOfKind 24 = .ok (.ireturn, 1) := by decide +kernel
set_option maxRecDepth 20000 in
theorem ggX5_yearsKeptBy_X5_isOfKind : GoodIn wsX5_yearsKeptBy wsX5_isOfKind := goodIn_r _ [11] (by decide +kernel) (by decide +kernel)
set_option maxRecDepth 20000 in
theorem gX5_yearsKeptBy_X5_isOfKind : GoodIn wsX5_yearsKeptBy (va_wsS RX5 106 yX5_isOfKind wsX5_isOfKind) := goodIn_app (goodIn_of _ (by decide +kernel)) ggX5_yearsKeptBy_X5_isOfKind
theorem dX5_yearsKeptBy_0 : decode cX5_yearsKeptBy 0 = .ok (.iload_n 0, 1) := by decide +kernel
theorem dX5_yearsKeptBy_1 : decode cX5_yearsKeptBy 1 = .ok (.iconst 4, 1) := by decide +kernel
theorem dX5_yearsKeptBy_2 : decode cX5_yearsKeptBy 2 = .ok (.invokestatic 106, 3) := by decide +kernel
theorem dX5_yearsKeptBy_5 : decode cX5_yearsKeptBy 5 = .ok (.ifCond .eq 9, 3) := by decide +kernel
theorem dX5_yearsKeptBy_8 : decode cX5_yearsKeptBy 8 = .ok (.iload_n 1, 1) := by decide +kernel
theorem dX5_yearsKeptBy_9 : decode cX5_yearsKeptBy 9 = .ok (.iconst 2, 1) := by decide +kernel
theorem dX5_yearsKeptBy_10 : decode cX5_yearsKeptBy 10 = .ok (.iadd, 1) := by decide +kernel
theorem dX5_yearsKeptBy_11 : decode cX5_yearsKeptBy 11 = .ok (.goto 4, 3) := by decide +kernel
theorem dX5_yearsKeptBy_14 : decode cX5_yearsKeptBy 14 = .ok (.iload_n 1, 1) := by decide +kernel
theorem dX5_yearsKeptBy_15 : decode cX5_yearsKeptBy 15 = .ok (.istore_n 3, 1) := by decide +kernel
theorem dX5_yearsKeptBy_16 : decode cX5_yearsKeptBy 16 = .ok (.iload_n 0, 1) := by decide +kernel
theorem dX5_yearsKeptBy_17 : decode cX5_yearsKeptBy 17 = .ok (.iconst 3, 1) := by decide +kernel
theorem dX5_yearsKeptBy_18 : decode cX5_yearsKeptBy 18 = .ok (.invokestatic 106, 3) := by decide +kernel
theorem dX5_yearsKeptBy_21 : decode cX5_yearsKeptBy 21 = .ok (.ifCond .eq 9, 3) := by decide +kernel
theorem dX5_yearsKeptBy_24 : decode cX5_yearsKeptBy 24 = .ok (.iconst 2, 1) := by decide +kernel
theorem dX5_yearsKeptBy_25 : decode cX5_yearsKeptBy 25 = .ok (.iload_n 2, 1) := by decide +kernel
theorem dX5_yearsKeptBy_26 : decode cX5_yearsKeptBy 26 = .ok (.imul, 1) := by decide +kernel
theorem dX5_yearsKeptBy_27 : decode cX5_yearsKeptBy 27 = .ok (.goto 4, 3) := by decide +kernel
theorem dX5_yearsKeptBy_30 : decode cX5_yearsKeptBy 30 = .ok (.iload_n 2, 1) := by decide +kernel
theorem dX5_yearsKeptBy_31 : decode cX5_yearsKeptBy 31 = .ok (.istore 4, 2) := by decide +kernel
theorem dX5_yearsKeptBy_33 : decode cX5_yearsKeptBy 33 = .ok (.iload_n 0, 1) := by decide +kernel
theorem dX5_yearsKeptBy_34 : decode cX5_yearsKeptBy 34 = .ok (.iconst 1, 1) := by decide +kernel
theorem dX5_yearsKeptBy_35 : decode cX5_yearsKeptBy 35 = .ok (.invokestatic 106, 3) := by decide +kernel
theorem dX5_yearsKeptBy_38 : decode cX5_yearsKeptBy 38 = .ok (.ifCond .eq 7, 3) := by decide +kernel
theorem dX5_yearsKeptBy_41 : decode cX5_yearsKeptBy 41 = .ok (.iconst 3, 1) := by decide +kernel
theorem dX5_yearsKeptBy_42 : decode cX5_yearsKeptBy 42 = .ok (.goto 4, 3) := by decide +kernel
theorem dX5_yearsKeptBy_45 : decode cX5_yearsKeptBy 45 = .ok (.iconst 0, 1) := by decide +kernel
theorem dX5_yearsKeptBy_46 : decode cX5_yearsKeptBy 46 = .ok (.istore 5, 2) := by decide +kernel
theorem dX5_yearsKeptBy_48 : decode cX5_yearsKeptBy 48 = .ok (.iload 5, 2) := by decide +kernel
theorem dX5_yearsKeptBy_50 : decode cX5_yearsKeptBy 50 = .ok (.bipush 10, 2) := by decide +kernel
theorem dX5_yearsKeptBy_52 : decode cX5_yearsKeptBy 52 = .ok (.iload_n 3, 1) := by decide +kernel
theorem dX5_yearsKeptBy_53 : decode cX5_yearsKeptBy 53 = .ok (.iconst 5, 1) := by decide +kernel
theorem dX5_yearsKeptBy_54 : decode cX5_yearsKeptBy 54 = .ok (.iadd, 1) := by decide +kernel
theorem dX5_yearsKeptBy_55 : decode cX5_yearsKeptBy 55 = .ok (.iload 4, 2) := by decide +kernel
theorem dX5_yearsKeptBy_57 : decode cX5_yearsKeptBy 57 = .ok (.isub, 1) := by decide +kernel
theorem dX5_yearsKeptBy_58 : decode cX5_yearsKeptBy 58 = .ok (.invokestatic 248, 3) := by decide +kernel
theorem dX5_yearsKeptBy_61 : decode cX5_yearsKeptBy 61 = .ok (.invokestatic 253, 3) := by decide +kernel
theorem dX5_yearsKeptBy_64 : decode cX5_yearsKeptBy 64 = .ok (.ireturn, 1) := by decide +kernel
theorem dX5_sum_0 : decode cX5_sum 0 = .ok (.iconst 0, 1) := by decide +kernel
theorem dX5_sum_1 : decode cX5_sum 1 = .ok (.istore_n 1, 1) := by decide +kernel
theorem dX5_sum_2 : decode cX5_sum 2 = .ok (.aload_n 0, 1) := by decide +kernel
theorem dX5_sum_3 : decode cX5_sum 3 = .ok (.astore_n 2, 1) := by decide +kernel
theorem dX5_sum_4 : decode cX5_sum 4 = .ok (.aload_n 2, 1) := by decide +kernel
theorem dX5_sum_5 : decode cX5_sum 5 = .ok (.arraylength, 1) := by decide +kernel
theorem dX5_sum_6 : decode cX5_sum 6 = .ok (.istore_n 3, 1) := by decide +kernel
theorem dX5_sum_7 : decode cX5_sum 7 = .ok (.iconst 0, 1) := by decide +kernel
theorem dX5_sum_8 : decode cX5_sum 8 = .ok (.istore 4, 2) := by decide +kernel
theorem dX5_sum_10 : decode cX5_sum 10 = .ok (.iload 4, 2) := by decide +kernel
theorem dX5_sum_12 : decode cX5_sum 12 = .ok (.iload_n 3, 1) := by decide +kernel
theorem dX5_sum_13 : decode cX5_sum 13 = .ok (.if_icmp .ge 20, 3) := by decide +kernel
theorem dX5_sum_16 : decode cX5_sum 16 = .ok (.aload_n 2, 1) := by decide +kernel
theorem dX5_sum_17 : decode cX5_sum 17 = .ok (.iload 4, 2) := by decide +kernel
theorem dX5_sum_19 : decode cX5_sum 19 = .ok (.iaload, 1) := by decide +kernel
theorem dX5_sum_20 : decode cX5_sum 20 = .ok (.istore 5, 2) := by decide +kernel
theorem dX5_sum_22 : decode cX5_sum 22 = .ok (.iload_n 1, 1) := by decide +kernel
theorem dX5_sum_23 : decode cX5_sum 23 = .ok (.iload 5, 2) := by decide +kernel
theorem dX5_sum_25 : decode cX5_sum 25 = .ok (.iadd, 1) := by decide +kernel
theorem dX5_sum_26 : decode cX5_sum 26 = .ok (.istore_n 1, 1) := by decide +kernel
theorem dX5_sum_27 : decode cX5_sum 27 = .ok (.iinc 4 1, 3) := by decide +kernel
theorem dX5_sum_30 : decode cX5_sum 30 = .ok (.goto (-20), 3) := by decide +kernel
theorem dX5_sum_33 : decode cX5_sum 33 = .ok (.iload_n 1, 1) := by decide +kernel
theorem dX5_sum_34 : decode cX5_sum 34 = .ok (.ireturn, 1) := by decide +kernel
theorem dX5_greatestDivisor_0 : decode cX5_greatestDivisor 0 = .ok (.lload_n 0, 1) := by decide +kernel
theorem dX5_greatestDivisor_1 : decode cX5_greatestDivisor 1 = .ok (.lstore 4, 2) := by decide +kernel
theorem dX5_greatestDivisor_3 : decode cX5_greatestDivisor 3 = .ok (.lload_n 2, 1) := by decide +kernel
theorem dX5_greatestDivisor_4 : decode cX5_greatestDivisor 4 = .ok (.lstore 6, 2) := by decide +kernel
theorem dX5_greatestDivisor_6 : decode cX5_greatestDivisor 6 = .ok (.iconst 0, 1) := by decide +kernel
theorem dX5_greatestDivisor_7 : decode cX5_greatestDivisor 7 = .ok (.istore 8, 2) := by decide +kernel
theorem dX5_greatestDivisor_9 : decode cX5_greatestDivisor 9 = .ok (.iload 8, 2) := by decide +kernel
theorem dX5_greatestDivisor_11 : decode cX5_greatestDivisor 11 = .ok (.bipush 100, 2) := by decide +kernel
theorem dX5_greatestDivisor_13 : decode cX5_greatestDivisor 13 = .ok (.if_icmp .ge 31, 3) := by decide +kernel
theorem dX5_greatestDivisor_16 : decode cX5_greatestDivisor 16 = .ok (.lload 6, 2) := by decide +kernel
theorem dX5_greatestDivisor_18 : decode cX5_greatestDivisor 18 = .ok (.lconst 0, 1) := by decide +kernel
theorem dX5_greatestDivisor_19 : decode cX5_greatestDivisor 19 = .ok (.lcmp, 1) := by decide +kernel
theorem dX5_greatestDivisor_20 : decode cX5_greatestDivisor 20 = .ok (.ifCond .eq 24, 3) := by decide +kernel
theorem dX5_greatestDivisor_23 : decode cX5_greatestDivisor 23 = .ok (.lload 4, 2) := by decide +kernel
theorem dX5_greatestDivisor_25 : decode cX5_greatestDivisor 25 = .ok (.lload 6, 2) := by decide +kernel
theorem dX5_greatestDivisor_27 : decode cX5_greatestDivisor 27 = .ok (.lrem, 1) := by decide +kernel
theorem dX5_greatestDivisor_28 : decode cX5_greatestDivisor 28 = .ok (.lstore 9, 2) := by decide +kernel
theorem dX5_greatestDivisor_30 : decode cX5_greatestDivisor 30 = .ok (.lload 6, 2) := by decide +kernel
theorem dX5_greatestDivisor_32 : decode cX5_greatestDivisor 32 = .ok (.lstore 4, 2) := by decide +kernel
theorem dX5_greatestDivisor_34 : decode cX5_greatestDivisor 34 = .ok (.lload 9, 2) := by decide +kernel
theorem dX5_greatestDivisor_36 : decode cX5_greatestDivisor 36 = .ok (.lstore 6, 2) := by decide +kernel
theorem dX5_greatestDivisor_38 : decode cX5_greatestDivisor 38 = .ok (.iinc 8 1, 3) := by decide +kernel
theorem dX5_greatestDivisor_41 : decode cX5_greatestDivisor 41 = .ok (.goto (-32), 3) := by decide +kernel
theorem dX5_greatestDivisor_44 : decode cX5_greatestDivisor 44 = .ok (.lload 4, 2) := by decide +kernel
theorem dX5_greatestDivisor_46 : decode cX5_greatestDivisor 46 = .ok (.lreturn, 1) := by decide +kernel
theorem dX6_init_0 : decode cX6_init 0 = .ok (.aload_n 0, 1) := by decide +kernel
theorem dX6_init_1 : decode cX6_init 1 = .ok (.invokespecial 1, 3) := by decide +kernel
theorem dX6_init_4 : decode cX6_init 4 = .ok (.aload_n 0, 1) := by decide +kernel
theorem dX6_init_5 : decode cX6_init 5 = .ok (.bipush 22, 2) := by decide +kernel
theorem dX6_init_7 : decode cX6_init 7 = .ok (.newarray .int, 2) := by decide +kernel
theorem dX6_init_9 : decode cX6_init 9 = .ok (.putfield 7, 3) := by decide +kernel
theorem dX6_init_12 : decode cX6_init 12 = .ok (.aload_n 0, 1) := by decide +kernel
theorem dX6_init_13 : decode cX6_init 13 = .ok (.bipush 15, 2) := by decide +kernel
theorem dX6_init_15 : decode cX6_init 15 = .ok (.newarray .int, 2) := by decide +kernel
theorem dX6_init_17 : decode cX6_init 17 = .ok (.putfield 13, 3) := by decide +kernel
theorem dX6_init_20 : decode cX6_init 20 = .ok (.aload_n 0, 1) := by decide +kernel
theorem dX6_init_21 : decode cX6_init 21 = .ok (.bipush 20, 2) := by decide +kernel
theorem dX6_init_23 : decode cX6_init 23 = .ok (.newarray .int, 2) := by decide +kernel
theorem dX6_init_25 : decode cX6_init 25 = .ok (.putfield 16, 3) := by decide +kernel
theorem dX6_init_28 : decode cX6_init 28 = .ok (.aload_n 0, 1) := by decide +kernel
theorem dX6_init_29 : decode cX6_init 29 = .ok (.iconst 5, 1) := by decide +kernel
theorem dX6_init_30 : decode cX6_init 30 = .ok (.newarray .int, 2) := by decide +kernel
theorem dX6_init_32 : decode cX6_init 32 = .ok (.putfield 19, 3) := by decide +kernel
theorem dX6_init_35 : decode cX6_init 35 = .ok (.aload_n 0, 1) := by decide +kernel
theorem dX6_init_36 : decode cX6_init 36 = .ok (.iconst 5, 1) := by decide +kernel
theorem dX6_init_37 : decode cX6_init 37 = .ok (.newarray .int, 2) := by decide +kernel
theorem dX6_init_39 : decode cX6_init 39 = .ok (.putfield 22, 3) := by decide +kernel
theorem dX6_init_42 : decode cX6_init 42 = .ok (.aload_n 0, 1) := by decide +kernel
theorem dX6_init_43 : decode cX6_init 43 = .ok (.bipush 24, 2) := by decide +kernel
theorem dX6_init_45 : decode cX6_init 45 = .ok (.newarray .int, 2) := by decide +kernel
theorem dX6_init_47 : decode cX6_init 47 = .ok (.putfield 25, 3) := by decide +kernel
theorem dX6_init_50 : decode cX6_init 50 = .ok (.aload_n 0, 1) := by decide +kernel
theorem dX6_init_51 : decode cX6_init 51 = .ok (.bipush 20, 2) := by decide +kernel
theorem dX6_init_53 : decode cX6_init 53 = .ok (.newarray .int, 2) := by decide +kernel
theorem dX6_init_55 : decode cX6_init 55 = .ok (.putfield 28, 3) := by decide +kernel
theorem dX6_init_58 : decode cX6_init 58 = .ok (.aload_n 0, 1) := by decide +kernel
theorem dX6_init_59 : decode cX6_init 59 = .ok (.bipush 15, 2) := by decide +kernel
theorem dX6_init_61 : decode cX6_init 61 = .ok (.newarray .int, 2) := by decide +kernel
theorem dX6_init_63 : decode cX6_init 63 = .ok (.putfield 31, 3) := by decide +kernel
theorem dX6_init_66 : decode cX6_init 66 = .ok (.aload_n 0, 1) := by decide +kernel
theorem dX6_init_67 : decode cX6_init 67 = .ok (.bipush 20, 2) := by decide +kernel
theorem dX6_init_69 : decode cX6_init 69 = .ok (.newarray .int, 2) := by decide +kernel
theorem dX6_init_71 : decode cX6_init 71 = .ok (.putfield 34, 3) := by decide +kernel
theorem dX6_init_74 : decode cX6_init 74 = .ok (.aload_n 0, 1) := by decide +kernel
theorem dX6_init_75 : decode cX6_init 75 = .ok (.bipush 24, 2) := by decide +kernel
theorem dX6_init_77 : decode cX6_init 77 = .ok (.newarray .int, 2) := by decide +kernel
theorem dX6_init_79 : decode cX6_init 79 = .ok (.putfield 37, 3) := by decide +kernel
theorem dX6_init_82 : decode cX6_init 82 = .ok (.aload_n 0, 1) := by decide +kernel
theorem dX6_init_83 : decode cX6_init 83 = .ok (.iconst (-1), 1) := by decide +kernel
theorem dX6_init_84 : decode cX6_init 84 = .ok (.putfield 40, 3) := by decide +kernel
theorem dX6_init_87 : decode cX6_init 87 = .ok (.return_, 1) := by decide +kernel
theorem dX6_in_0 : decode cX6_in 0 = .ok (.lload_n 0, 1) := by decide +kernel
theorem dX6_in_1 : decode cX6_in 1 = .ok (.lload_n 2, 1) := by decide +kernel
theorem dX6_in_2 : decode cX6_in 2 = .ok (.lcmp, 1) := by decide +kernel
theorem dX6_in_3 : decode cX6_in 3 = .ok (.ifCond .lt 14, 3) := by decide +kernel
theorem dX6_in_6 : decode cX6_in 6 = .ok (.lload_n 0, 1) := by decide +kernel
theorem dX6_in_7 : decode cX6_in 7 = .ok (.lload 4, 2) := by decide +kernel
theorem dX6_in_9 : decode cX6_in 9 = .ok (.lcmp, 1) := by decide +kernel
theorem dX6_in_10 : decode cX6_in 10 = .ok (.ifCond .gt 7, 3) := by decide +kernel
theorem dX6_in_13 : decode cX6_in 13 = .ok (.iconst 1, 1) := by decide +kernel
theorem dX6_in_14 : decode cX6_in 14 = .ok (.goto 4, 3) := by decide +kernel
theorem dX6_in_17 : decode cX6_in 17 = .ok (.iconst 0, 1) := by decide +kernel
theorem dX6_in_18 : decode cX6_in 18 = .ok (.ireturn, 1) := by decide +kernel
theorem dX6_copy_0 : decode cX6_copy 0 = .ok (.iconst 0, 1) := by decide +kernel
theorem dX6_copy_1 : decode cX6_copy 1 = .ok (.istore_n 2, 1) := by decide +kernel
theorem dX6_copy_2 : decode cX6_copy 2 = .ok (.iload_n 2, 1) := by decide +kernel
theorem dX6_copy_3 : decode cX6_copy 3 = .ok (.aload_n 0, 1) := by decide +kernel
theorem dX6_copy_4 : decode cX6_copy 4 = .ok (.arraylength, 1) := by decide +kernel
theorem dX6_copy_5 : decode cX6_copy 5 = .ok (.if_icmp .ge 15, 3) := by decide +kernel
theorem dX6_copy_8 : decode cX6_copy 8 = .ok (.aload_n 1, 1) := by decide +kernel
theorem dX6_copy_9 : decode cX6_copy 9 = .ok (.iload_n 2, 1) := by decide +kernel
theorem dX6_copy_10 : decode cX6_copy 10 = .ok (.aload_n 0, 1) := by decide +kernel
theorem dX6_copy_11 : decode cX6_copy 11 = .ok (.iload_n 2, 1) := by decide +kernel
theorem dX6_copy_12 : decode cX6_copy 12 = .ok (.iaload, 1) := by decide +kernel
theorem dX6_copy_13 : decode cX6_copy 13 = .ok (.iastore, 1) := by decide +kernel
theorem dX6_copy_14 : decode cX6_copy 14 = .ok (.iinc 2 1, 3) := by decide +kernel
theorem dX6_copy_17 : decode cX6_copy 17 = .ok (.goto (-15), 3) := by decide +kernel
theorem dX6_copy_20 : decode cX6_copy 20 = .ok (.return_, 1) := by decide +kernel
theorem dX6_common_0 : decode cX6_common 0 = .ok (.lload_n 0, 1) := by decide +kernel
theorem dX6_common_1 : decode cX6_common 1 = .ok (.lstore 4, 2) := by decide +kernel
theorem dX6_common_3 : decode cX6_common 3 = .ok (.lload_n 2, 1) := by decide +kernel
theorem dX6_common_4 : decode cX6_common 4 = .ok (.lstore 6, 2) := by decide +kernel
theorem dX6_common_6 : decode cX6_common 6 = .ok (.lload 6, 2) := by decide +kernel
theorem dX6_common_8 : decode cX6_common 8 = .ok (.lconst 0, 1) := by decide +kernel
theorem dX6_common_9 : decode cX6_common 9 = .ok (.lcmp, 1) := by decide +kernel
theorem dX6_common_10 : decode cX6_common 10 = .ok (.ifCond .le 21, 3) := by decide +kernel
theorem dX6_common_13 : decode cX6_common 13 = .ok (.lload 4, 2) := by decide +kernel
theorem dX6_common_15 : decode cX6_common 15 = .ok (.lload 6, 2) := by decide +kernel
theorem dX6_common_17 : decode cX6_common 17 = .ok (.lrem, 1) := by decide +kernel
theorem dX6_common_18 : decode cX6_common 18 = .ok (.lstore 8, 2) := by decide +kernel
theorem dX6_common_20 : decode cX6_common 20 = .ok (.lload 6, 2) := by decide +kernel
theorem dX6_common_22 : decode cX6_common 22 = .ok (.lstore 4, 2) := by decide +kernel
theorem dX6_common_24 : decode cX6_common 24 = .ok (.lload 8, 2) := by decide +kernel
theorem dX6_common_26 : decode cX6_common 26 = .ok (.lstore 6, 2) := by decide +kernel
theorem dX6_common_28 : decode cX6_common 28 = .ok (.goto (-22), 3) := by decide +kernel
theorem dX6_common_31 : decode cX6_common 31 = .ok (.lload 4, 2) := by decide +kernel
theorem dX6_common_33 : decode cX6_common 33 = .ok (.lreturn, 1) := by decide +kernel
set_option maxRecDepth 20000 in
theorem ggX6_letter_X6_in : GoodIn wsX6_letter wsX6_in := goodIn_r _ [7] (by decide +kernel) (by decide +kernel)
set_option maxRecDepth 20000 in
theorem gX6_letter_X6_in : GoodIn wsX6_letter (va_wsS RX6 46 yX6_in wsX6_in) := goodIn_app (goodIn_of _ (by decide +kernel)) ggX6_letter_X6_in
theorem dX6_letter_0 : decode cX6_letter 0 = .ok (.iload_n 1, 1) := by decide +kernel
theorem dX6_letter_1 : decode cX6_letter 1 = .ok (.i2l, 1) := by decide +kernel
theorem dX6_letter_2 : decode cX6_letter 2 = .ok (.lconst 1, 1) := by decide +kernel
theorem dX6_letter_3 : decode cX6_letter 3 = .ok (.ldc2_w 44, 3) := by decide +kernel
theorem dX6_letter_6 : decode cX6_letter 6 = .ok (.invokestatic 46, 3) := by decide +kernel
theorem dX6_letter_9 : decode cX6_letter 9 = .ok (.ifCond .ne 6, 3) := by decide +kernel
theorem dX6_letter_12 : decode cX6_letter 12 = .ok (.bipush (-102), 2) := by decide +kernel
theorem dX6_letter_14 : decode cX6_letter 14 = .ok (.ireturn, 1) := by decide +kernel
theorem dX6_letter_15 : decode cX6_letter 15 = .ok (.aload_n 0, 1) := by decide +kernel
theorem dX6_letter_16 : decode cX6_letter 16 = .ok (.getfield 50, 3) := by decide +kernel
theorem dX6_letter_19 : decode cX6_letter 19 = .ok (.bipush 22, 2) := by decide +kernel
theorem dX6_letter_21 : decode cX6_letter 21 = .ok (.if_icmp .ne 6, 3) := by decide +kernel
theorem dX6_letter_24 : decode cX6_letter 24 = .ok (.bipush (-104), 2) := by decide +kernel
theorem dX6_letter_26 : decode cX6_letter 26 = .ok (.ireturn, 1) := by decide +kernel
theorem dX6_letter_27 : decode cX6_letter 27 = .ok (.aload_n 0, 1) := by decide +kernel
theorem dX6_letter_28 : decode cX6_letter 28 = .ok (.getfield 7, 3) := by decide +kernel
theorem dX6_letter_31 : decode cX6_letter 31 = .ok (.aload_n 0, 1) := by decide +kernel
theorem dX6_letter_32 : decode cX6_letter 32 = .ok (.getfield 50, 3) := by decide +kernel
theorem dX6_letter_35 : decode cX6_letter 35 = .ok (.iload_n 1, 1) := by decide +kernel
theorem dX6_letter_36 : decode cX6_letter 36 = .ok (.iastore, 1) := by decide +kernel
theorem dX6_letter_37 : decode cX6_letter 37 = .ok (.aload_n 0, 1) := by decide +kernel
theorem dX6_letter_38 : decode cX6_letter 38 = .ok (.dup, 1) := by decide +kernel
theorem dX6_letter_39 : decode cX6_letter 39 = .ok (.getfield 50, 3) := by decide +kernel
theorem dX6_letter_42 : decode cX6_letter 42 = .ok (.iconst 1, 1) := by decide +kernel
theorem dX6_letter_43 : decode cX6_letter 43 = .ok (.iadd, 1) := by decide +kernel
theorem dX6_letter_44 : decode cX6_letter 44 = .ok (.putfield 50, 3) := by decide +kernel
theorem dX6_letter_47 : decode cX6_letter 47 = .ok (.aload_n 0, 1) := by decide +kernel
theorem dX6_letter_48 : decode cX6_letter 48 = .ok (.getfield 50, 3) := by decide +kernel
theorem dX6_letter_51 : decode cX6_letter 51 = .ok (.ireturn, 1) := by decide +kernel
theorem dX6_blank_0 : decode cX6_blank 0 = .ok (.aload_n 0, 1) := by decide +kernel
theorem dX6_blank_1 : decode cX6_blank 1 = .ok (.getfield 50, 3) := by decide +kernel
theorem dX6_blank_4 : decode cX6_blank 4 = .ok (.istore_n 1, 1) := by decide +kernel
theorem dX6_blank_5 : decode cX6_blank 5 = .ok (.aload_n 0, 1) := by decide +kernel
theorem dX6_blank_6 : decode cX6_blank 6 = .ok (.iconst 0, 1) := by decide +kernel
theorem dX6_blank_7 : decode cX6_blank 7 = .ok (.putfield 50, 3) := by decide +kernel
theorem dX6_blank_10 : decode cX6_blank 10 = .ok (.iload_n 1, 1) := by decide +kernel
theorem dX6_blank_11 : decode cX6_blank 11 = .ok (.ireturn, 1) := by decide +kernel
theorem dX6_kindBy_0 : decode cX6_kindBy 0 = .ok (.iload_n 0, 1) := by decide +kernel
theorem dX6_kindBy_1 : decode cX6_kindBy 1 = .ok (.bipush 107, 2) := by decide +kernel
theorem dX6_kindBy_3 : decode cX6_kindBy 3 = .ok (.if_icmp .ne 7, 3) := by decide +kernel
theorem dX6_kindBy_6 : decode cX6_kindBy 6 = .ok (.iconst 0, 1) := by decide +kernel
theorem dX6_kindBy_7 : decode cX6_kindBy 7 = .ok (.goto 44, 3) := by decide +kernel
theorem dX6_kindBy_10 : decode cX6_kindBy 10 = .ok (.iload_n 0, 1) := by decide +kernel
theorem dX6_kindBy_11 : decode cX6_kindBy 11 = .ok (.bipush 119, 2) := by decide +kernel
theorem dX6_kindBy_13 : decode cX6_kindBy 13 = .ok (.if_icmp .ne 7, 3) := by decide +kernel
theorem dX6_kindBy_16 : decode cX6_kindBy 16 = .ok (.iconst 1, 1) := by decide +kernel
theorem dX6_kindBy_17 : decode cX6_kindBy 17 = .ok (.goto 34, 3) := by decide +kernel
theorem dX6_kindBy_20 : decode cX6_kindBy 20 = .ok (.iload_n 0, 1) := by decide +kernel
theorem dX6_kindBy_21 : decode cX6_kindBy 21 = .ok (.bipush 108, 2) := by decide +kernel
theorem dX6_kindBy_23 : decode cX6_kindBy 23 = .ok (.if_icmp .ne 7, 3) := by decide +kernel
theorem dX6_kindBy_26 : decode cX6_kindBy 26 = .ok (.iconst 2, 1) := by decide +kernel
theorem dX6_kindBy_27 : decode cX6_kindBy 27 = .ok (.goto 24, 3) := by decide +kernel
theorem dX6_kindBy_30 : decode cX6_kindBy 30 = .ok (.iload_n 0, 1) := by decide +kernel
theorem dX6_kindBy_31 : decode cX6_kindBy 31 = .ok (.bipush 98, 2) := by decide +kernel
theorem dX6_kindBy_33 : decode cX6_kindBy 33 = .ok (.if_icmp .ne 7, 3) := by decide +kernel
theorem dX6_kindBy_36 : decode cX6_kindBy 36 = .ok (.iconst 3, 1) := by decide +kernel
theorem dX6_kindBy_37 : decode cX6_kindBy 37 = .ok (.goto 14, 3) := by decide +kernel
theorem dX6_kindBy_40 : decode cX6_kindBy 40 = .ok (.iload_n 0, 1) := by decide +kernel
theorem dX6_kindBy_41 : decode cX6_kindBy 41 = .ok (.bipush 109, 2) := by decide +kernel
theorem dX6_kindBy_43 : decode cX6_kindBy 43 = .ok (.if_icmp .ne 7, 3) := by decide +kernel
theorem dX6_kindBy_46 : decode cX6_kindBy 46 = .ok (.iconst 4, 1) := by decide +kernel
theorem dX6_kindBy_47 : decode cX6_kindBy 47 = .ok (.goto 4, 3) := by decide +kernel
theorem dX6_kindBy_50 : decode cX6_kindBy 50 = .ok (.iconst (-1), 1) := by decide +kernel
theorem dX6_kindBy_51 : decode cX6_kindBy 51 = .ok (.ireturn, 1) := by decide +kernel
set_option maxRecDepth 20000 in
theorem ggX6_isGood_X6_in : GoodIn wsX6_isGood wsX6_in := goodIn_r _ [8] (by decide +kernel) (by decide +kernel)
set_option maxRecDepth 20000 in
theorem gX6_isGood_X6_in : GoodIn wsX6_isGood (va_wsS RX6 46 yX6_in wsX6_in) := goodIn_app (goodIn_of _ (by decide +kernel)) ggX6_isGood_X6_in
set_option maxRecDepth 20000 in
theorem ggX6_isGood_X6_kindBy : GoodIn wsX6_isGood wsX6_kindBy := goodIn_r _ [11] (by decide +kernel) (by decide +kernel)
set_option maxRecDepth 20000 in
theorem gX6_isGood_X6_kindBy : GoodIn wsX6_isGood (va_wsS RX6 60 yX6_kindBy wsX6_kindBy) := goodIn_app (goodIn_of _ (by decide +kernel)) ggX6_isGood_X6_kindBy
theorem dX6_isGood_0 : decode cX6_isGood 0 = .ok (.aload_n 0, 1) := by decide +kernel
theorem dX6_isGood_1 : decode cX6_isGood 1 = .ok (.getfield 7, 3) := by decide +kernel
theorem dX6_isGood_4 : decode cX6_isGood 4 = .ok (.iload_n 1, 1) := by decide +kernel
theorem dX6_isGood_5 : decode cX6_isGood 5 = .ok (.iaload, 1) := by decide +kernel
theorem dX6_isGood_6 : decode cX6_isGood 6 = .ok (.istore_n 2, 1) := by decide +kernel
theorem dX6_isGood_7 : decode cX6_isGood 7 = .ok (.aload_n 0, 1) := by decide +kernel
theorem dX6_isGood_8 : decode cX6_isGood 8 = .ok (.getfield 53, 3) := by decide +kernel
theorem dX6_isGood_11 : decode cX6_isGood 11 = .ok (.iconst (-1), 1) := by decide +kernel
theorem dX6_isGood_12 : decode cX6_isGood 12 = .ok (.if_icmp .eq 34, 3) := by decide +kernel
theorem dX6_isGood_15 : decode cX6_isGood 15 = .ok (.iload_n 1, 1) := by decide +kernel
theorem dX6_isGood_16 : decode cX6_isGood 16 = .ok (.aload_n 0, 1) := by decide +kernel
theorem dX6_isGood_17 : decode cX6_isGood 17 = .ok (.getfield 53, 3) := by decide +kernel
theorem dX6_isGood_20 : decode cX6_isGood 20 = .ok (.isub, 1) := by decide +kernel
theorem dX6_isGood_21 : decode cX6_isGood 21 = .ok (.bipush 6, 2) := by decide +kernel
theorem dX6_isGood_23 : decode cX6_isGood 23 = .ok (.if_icmp .ge 21, 3) := by decide +kernel
theorem dX6_isGood_26 : decode cX6_isGood 26 = .ok (.iload_n 2, 1) := by decide +kernel
theorem dX6_isGood_27 : decode cX6_isGood 27 = .ok (.i2l, 1) := by decide +kernel
theorem dX6_isGood_28 : decode cX6_isGood 28 = .ok (.ldc2_w 56, 3) := by decide +kernel
theorem dX6_isGood_31 : decode cX6_isGood 31 = .ok (.ldc2_w 58, 3) := by decide +kernel
theorem dX6_isGood_34 : decode cX6_isGood 34 = .ok (.invokestatic 46, 3) := by decide +kernel
theorem dX6_isGood_37 : decode cX6_isGood 37 = .ok (.ifCond .eq 7, 3) := by decide +kernel
theorem dX6_isGood_40 : decode cX6_isGood 40 = .ok (.iconst 1, 1) := by decide +kernel
theorem dX6_isGood_41 : decode cX6_isGood 41 = .ok (.goto 4, 3) := by decide +kernel
theorem dX6_isGood_44 : decode cX6_isGood 44 = .ok (.iconst 0, 1) := by decide +kernel
theorem dX6_isGood_45 : decode cX6_isGood 45 = .ok (.ireturn, 1) := by decide +kernel
theorem dX6_isGood_46 : decode cX6_isGood 46 = .ok (.iload_n 1, 1) := by decide +kernel
theorem dX6_isGood_47 : decode cX6_isGood 47 = .ok (.iconst 3, 1) := by decide +kernel
theorem dX6_isGood_48 : decode cX6_isGood 48 = .ok (.irem, 1) := by decide +kernel
theorem dX6_isGood_49 : decode cX6_isGood 49 = .ok (.iconst 2, 1) := by decide +kernel
theorem dX6_isGood_50 : decode cX6_isGood 50 = .ok (.if_icmp .ne 39, 3) := by decide +kernel
theorem dX6_isGood_53 : decode cX6_isGood 53 = .ok (.iload_n 2, 1) := by decide +kernel
theorem dX6_isGood_54 : decode cX6_isGood 54 = .ok (.bipush 59, 2) := by decide +kernel
theorem dX6_isGood_56 : decode cX6_isGood 56 = .ok (.if_icmp .ne 15, 3) := by decide +kernel
theorem dX6_isGood_59 : decode cX6_isGood 59 = .ok (.iload_n 1, 1) := by decide +kernel
theorem dX6_isGood_60 : decode cX6_isGood 60 = .ok (.iconst 4, 1) := by decide +kernel
theorem dX6_isGood_61 : decode cX6_isGood 61 = .ok (.if_icmp .le 10, 3) := by decide +kernel
theorem dX6_isGood_64 : decode cX6_isGood 64 = .ok (.aload_n 0, 1) := by decide +kernel
theorem dX6_isGood_65 : decode cX6_isGood 65 = .ok (.iload_n 1, 1) := by decide +kernel
theorem dX6_isGood_66 : decode cX6_isGood 66 = .ok (.putfield 53, 3) := by decide +kernel
theorem dX6_isGood_69 : decode cX6_isGood 69 = .ok (.iconst 1, 1) := by decide +kernel
theorem dX6_isGood_70 : decode cX6_isGood 70 = .ok (.ireturn, 1) := by decide +kernel
theorem dX6_isGood_71 : decode cX6_isGood 71 = .ok (.iload_n 2, 1) := by decide +kernel
theorem dX6_isGood_72 : decode cX6_isGood 72 = .ok (.bipush 44, 2) := by decide +kernel
theorem dX6_isGood_74 : decode cX6_isGood 74 = .ok (.if_icmp .ne 13, 3) := by decide +kernel
theorem dX6_isGood_77 : decode cX6_isGood 77 = .ok (.iload_n 1, 1) := by decide +kernel
theorem dX6_isGood_78 : decode cX6_isGood 78 = .ok (.bipush 14, 2) := by decide +kernel
theorem dX6_isGood_80 : decode cX6_isGood 80 = .ok (.if_icmp .ge 7, 3) := by decide +kernel
theorem dX6_isGood_83 : decode cX6_isGood 83 = .ok (.iconst 1, 1) := by decide +kernel
theorem dX6_isGood_84 : decode cX6_isGood 84 = .ok (.goto 4, 3) := by decide +kernel
theorem dX6_isGood_87 : decode cX6_isGood 87 = .ok (.iconst 0, 1) := by decide +kernel
theorem dX6_isGood_88 : decode cX6_isGood 88 = .ok (.ireturn, 1) := by decide +kernel
theorem dX6_isGood_89 : decode cX6_isGood 89 = .ok (.iload_n 1, 1) := by decide +kernel
theorem dX6_isGood_90 : decode cX6_isGood 90 = .ok (.iconst 3, 1) := by decide +kernel
theorem dX6_isGood_91 : decode cX6_isGood 91 = .ok (.irem, 1) := by decide +kernel
theorem dX6_isGood_92 : decode cX6_isGood 92 = .ok (.ifCond .ne 19, 3) := by decide +kernel
theorem dX6_isGood_95 : decode cX6_isGood 95 = .ok (.iload_n 2, 1) := by decide +kernel
theorem dX6_isGood_96 : decode cX6_isGood 96 = .ok (.invokestatic 60, 3) := by decide +kernel
theorem dX6_isGood_99 : decode cX6_isGood 99 = .ok (.iconst (-1), 1) := by decide +kernel
theorem dX6_isGood_100 : decode cX6_isGood 100 = .ok (.if_icmp .eq 7, 3) := by decide +kernel
theorem dX6_isGood_103 : decode cX6_isGood 103 = .ok (.iconst 1, 1) := by decide +kernel
theorem dX6_isGood_104 : decode cX6_isGood 104 = .ok (.goto 18, 3) := by decide +kernel
theorem dX6_isGood_107 : decode cX6_isGood 107 = .ok (.iconst 0, 1) := by decide +kernel
theorem dX6_isGood_108 : decode cX6_isGood 108 = .ok (.goto 14, 3) := by decide +kernel
theorem dX6_isGood_111 : decode cX6_isGood 111 = .ok (.iload_n 2, 1) := by decide +kernel
theorem dX6_isGood_112 : decode cX6_isGood 112 = .ok (.i2l, 1) := by decide +kernel
theorem dX6_isGood_113 : decode cX6_isGood 113 = .ok (.ldc2_w 56, 3) := by decide +kernel
theorem dX6_isGood_116 : decode cX6_isGood 116 = .ok (.ldc2_w 58, 3) := by decide +kernel
theorem dX6_isGood_119 : decode cX6_isGood 119 = .ok (.invokestatic 46, 3) := by decide +kernel
theorem dX6_isGood_122 : decode cX6_isGood 122 = .ok (.ireturn, 1) := by decide +kernel
set_option maxRecDepth 20000 in
theorem ggX6_faultOf_X6_isGood : GoodIn wsX6_faultOf wsX6_isGood := goodIn_r _ [7, 8, 1, 9, 10, 11, 12, 6, 13, 14, 15, 16, 17, 18, 19, 20, 21, 22, 23, 24, 25, 26, 27, 28, 29, 30, 31, 32, 33, 34, 35, 36, 37, 38] (by decide +kernel) (by decide +kernel)
set_option maxRecDepth 20000 in
theorem gX6_faultOf_X6_isGood : GoodIn wsX6_faultOf (wsV RX6 64 RX6 yX6_isGood wsX6_isGood) := goodIn_app (goodIn_of _ (by decide +kernel)) ggX6_faultOf_X6_isGood
theorem dX6_faultOf_0 : decode cX6_faultOf 0 = .ok (.aload_n 0, 1) := by decide +kernel
theorem dX6_faultOf_1 : decode cX6_faultOf 1 = .ok (.iconst (-1), 1) := by decide +kernel
theorem dX6_faultOf_2 : decode cX6_faultOf 2 = .ok (.putfield 53, 3) := by decide +kernel
theorem dX6_faultOf_5 : decode cX6_faultOf 5 = .ok (.iconst 0, 1) := by decide +kernel
theorem dX6_faultOf_6 : decode cX6_faultOf 6 = .ok (.istore_n 1, 1) := by decide +kernel
theorem dX6_faultOf_7 : decode cX6_faultOf 7 = .ok (.iload_n 1, 1) := by decide +kernel
theorem dX6_faultOf_8 : decode cX6_faultOf 8 = .ok (.aload_n 0, 1) := by decide +kernel
theorem dX6_faultOf_9 : decode cX6_faultOf 9 = .ok (.getfield 50, 3) := by decide +kernel
theorem dX6_faultOf_12 : decode cX6_faultOf 12 = .ok (.if_icmp .ge 17, 3) := by decide +kernel
theorem dX6_faultOf_15 : decode cX6_faultOf 15 = .ok (.aload_n 0, 1) := by decide +kernel
theorem dX6_faultOf_16 : decode cX6_faultOf 16 = .ok (.iload_n 1, 1) := by decide +kernel
theorem dX6_faultOf_17 : decode cX6_faultOf 17 = .ok (.invokevirtual 64, 3) := by decide +kernel
theorem dX6_faultOf_20 : decode cX6_faultOf 20 = .ok (.ifCond .eq 9, 3) := by decide +kernel
theorem dX6_faultOf_23 : decode cX6_faultOf 23 = .ok (.iinc 1 1, 3) := by decide +kernel
theorem dX6_faultOf_26 : decode cX6_faultOf 26 = .ok (.goto (-19), 3) := by decide +kernel
theorem dX6_faultOf_29 : decode cX6_faultOf 29 = .ok (.iload_n 1, 1) := by decide +kernel
theorem dX6_faultOf_30 : decode cX6_faultOf 30 = .ok (.ireturn, 1) := by decide +kernel
set_option maxRecDepth 20000 in
theorem ggX6_fault_X6_faultOf : GoodIn wsX6_fault wsX6_faultOf := goodIn_r _ [5, 6, 7, 8, 9, 10, 4, 11, 12, 13, 14, 15, 16, 17, 18, 19, 20, 21, 22, 23, 24, 25, 26, 27, 28, 29, 30, 31, 32, 33, 34, 35, 36, 37, 38, 39, 40, 41, 42] (by decide +kernel) (by decide +kernel)
set_option maxRecDepth 20000 in
theorem gX6_fault_X6_faultOf : GoodIn wsX6_fault (wsV RX6 68 RX6 yX6_faultOf wsX6_faultOf) := goodIn_app (goodIn_of _ (by decide +kernel)) ggX6_fault_X6_faultOf
theorem dX6_fault_0 : decode cX6_fault 0 = .ok (.aload_n 0, 1) := by decide +kernel
theorem dX6_fault_1 : decode cX6_fault 1 = .ok (.invokevirtual 68, 3) := by decide +kernel
theorem dX6_fault_4 : decode cX6_fault 4 = .ok (.ireturn, 1) := by decide +kernel
set_option maxRecDepth 20000 in
theorem ggX6_tower_X6_faultOf : GoodIn wsX6_tower wsX6_faultOf := goodIn_r _ [15, 2, 1, 16, 17, 18, 14, 19, 5, 20, 21, 22, 23, 24, 25, 26, 27, 32, 33, 34, 35, 36, 37, 38, 39, 40, 41, 42, 43, 44, 45, 46, 47, 48, 49, 50, 51, 52, 53] (by decide +kernel) (by decide +kernel)
set_option maxRecDepth 20000 in
theorem gX6_tower_X6_faultOf : GoodIn wsX6_tower (wsV RX6 68 RX6 yX6_faultOf wsX6_faultOf) := goodIn_app (goodIn_of _ (by decide +kernel)) ggX6_tower_X6_faultOf
set_option maxRecDepth 20000 in
theorem ggX6_tower_X6_kindBy : GoodIn wsX6_tower wsX6_kindBy := goodIn_r _ [27] (by decide +kernel) (by decide +kernel)
set_option maxRecDepth 20000 in
theorem gX6_tower_X6_kindBy : GoodIn wsX6_tower (va_wsS RX6 60 yX6_kindBy wsX6_kindBy) := goodIn_app (goodIn_of _ (by decide +kernel)) ggX6_tower_X6_kindBy
set_option maxRecDepth 20000 in
theorem ggX6_tower_X6_empty : GoodIn wsX6_tower wsX6_empty := goodIn_r _ [31, 7, 32, 33, 34, 35, 36, 37, 38, 39, 40, 41, 42, 43, 44, 45, 46, 47, 48, 49, 50, 51, 52, 53] (by decide +kernel) (by decide +kernel)
set_option maxRecDepth 20000 in
theorem gX6_tower_X6_empty : GoodIn wsX6_tower (wsV RX6 78 RX6 yX6_empty wsX6_empty) := goodIn_app (goodIn_of _ (by decide +kernel)) ggX6_tower_X6_empty
theorem dX6_tower_0 : decode cX6_tower 0 = .ok (.aload_n 0, 1) := by decide +kernel
theorem dX6_tower_1 : decode cX6_tower 1 = .ok (.invokevirtual 68, 3) := by decide +kernel
theorem dX6_tower_4 : decode cX6_tower 4 = .ok (.aload_n 0, 1) := by decide +kernel
theorem dX6_tower_5 : decode cX6_tower 5 = .ok (.getfield 50, 3) := by decide +kernel
theorem dX6_tower_8 : decode cX6_tower 8 = .ok (.if_icmp .lt 24, 3) := by decide +kernel
theorem dX6_tower_11 : decode cX6_tower 11 = .ok (.aload_n 0, 1) := by decide +kernel
theorem dX6_tower_12 : decode cX6_tower 12 = .ok (.getfield 53, 3) := by decide +kernel
theorem dX6_tower_15 : decode cX6_tower 15 = .ok (.iconst (-1), 1) := by decide +kernel
theorem dX6_tower_16 : decode cX6_tower 16 = .ok (.if_icmp .eq 16, 3) := by decide +kernel
theorem dX6_tower_19 : decode cX6_tower 19 = .ok (.aload_n 0, 1) := by decide +kernel
theorem dX6_tower_20 : decode cX6_tower 20 = .ok (.getfield 50, 3) := by decide +kernel
theorem dX6_tower_23 : decode cX6_tower 23 = .ok (.aload_n 0, 1) := by decide +kernel
theorem dX6_tower_24 : decode cX6_tower 24 = .ok (.getfield 53, 3) := by decide +kernel
theorem dX6_tower_27 : decode cX6_tower 27 = .ok (.isub, 1) := by decide +kernel
theorem dX6_tower_28 : decode cX6_tower 28 = .ok (.iconst 3, 1) := by decide +kernel
theorem dX6_tower_29 : decode cX6_tower 29 = .ok (.if_icmp .ge 6, 3) := by decide +kernel
theorem dX6_tower_32 : decode cX6_tower 32 = .ok (.bipush (-103), 2) := by decide +kernel
theorem dX6_tower_34 : decode cX6_tower 34 = .ok (.ireturn, 1) := by decide +kernel
theorem dX6_tower_35 : decode cX6_tower 35 = .ok (.aload_n 0, 1) := by decide +kernel
theorem dX6_tower_36 : decode cX6_tower 36 = .ok (.aload_n 0, 1) := by decide +kernel
theorem dX6_tower_37 : decode cX6_tower 37 = .ok (.getfield 53, 3) := by decide +kernel
theorem dX6_tower_40 : decode cX6_tower 40 = .ok (.iconst 1, 1) := by decide +kernel
theorem dX6_tower_41 : decode cX6_tower 41 = .ok (.iadd, 1) := by decide +kernel
theorem dX6_tower_42 : decode cX6_tower 42 = .ok (.iconst 3, 1) := by decide +kernel
theorem dX6_tower_43 : decode cX6_tower 43 = .ok (.idiv, 1) := by decide +kernel
theorem dX6_tower_44 : decode cX6_tower 44 = .ok (.putfield 72, 3) := by decide +kernel
theorem dX6_tower_47 : decode cX6_tower 47 = .ok (.iconst 0, 1) := by decide +kernel
theorem dX6_tower_48 : decode cX6_tower 48 = .ok (.istore_n 1, 1) := by decide +kernel
theorem dX6_tower_49 : decode cX6_tower 49 = .ok (.iload_n 1, 1) := by decide +kernel
theorem dX6_tower_50 : decode cX6_tower 50 = .ok (.aload_n 0, 1) := by decide +kernel
theorem dX6_tower_51 : decode cX6_tower 51 = .ok (.getfield 72, 3) := by decide +kernel
theorem dX6_tower_54 : decode cX6_tower 54 = .ok (.if_icmp .ge 62, 3) := by decide +kernel
theorem dX6_tower_57 : decode cX6_tower 57 = .ok (.aload_n 0, 1) := by decide +kernel
theorem dX6_tower_58 : decode cX6_tower 58 = .ok (.getfield 13, 3) := by decide +kernel
theorem dX6_tower_61 : decode cX6_tower 61 = .ok (.iconst 3, 1) := by decide +kernel
theorem dX6_tower_62 : decode cX6_tower 62 = .ok (.iload_n 1, 1) := by decide +kernel
theorem dX6_tower_63 : decode cX6_tower 63 = .ok (.imul, 1) := by decide +kernel
theorem dX6_tower_64 : decode cX6_tower 64 = .ok (.aload_n 0, 1) := by decide +kernel
theorem dX6_tower_65 : decode cX6_tower 65 = .ok (.getfield 7, 3) := by decide +kernel
theorem dX6_tower_68 : decode cX6_tower 68 = .ok (.iconst 3, 1) := by decide +kernel
theorem dX6_tower_69 : decode cX6_tower 69 = .ok (.iload_n 1, 1) := by decide +kernel
theorem dX6_tower_70 : decode cX6_tower 70 = .ok (.imul, 1) := by decide +kernel
theorem dX6_tower_71 : decode cX6_tower 71 = .ok (.iaload, 1) := by decide +kernel
theorem dX6_tower_72 : decode cX6_tower 72 = .ok (.invokestatic 60, 3) := by decide +kernel
theorem dX6_tower_75 : decode cX6_tower 75 = .ok (.iastore, 1) := by decide +kernel
theorem dX6_tower_76 : decode cX6_tower 76 = .ok (.aload_n 0, 1) := by decide +kernel
theorem dX6_tower_77 : decode cX6_tower 77 = .ok (.getfield 13, 3) := by decide +kernel
theorem dX6_tower_80 : decode cX6_tower 80 = .ok (.iconst 3, 1) := by decide +kernel
theorem dX6_tower_81 : decode cX6_tower 81 = .ok (.iload_n 1, 1) := by decide +kernel
theorem dX6_tower_82 : decode cX6_tower 82 = .ok (.imul, 1) := by decide +kernel
theorem dX6_tower_83 : decode cX6_tower 83 = .ok (.iconst 1, 1) := by decide +kernel
theorem dX6_tower_84 : decode cX6_tower 84 = .ok (.iadd, 1) := by decide +kernel
theorem dX6_tower_85 : decode cX6_tower 85 = .ok (.aload_n 0, 1) := by decide +kernel
theorem dX6_tower_86 : decode cX6_tower 86 = .ok (.getfield 7, 3) := by decide +kernel
theorem dX6_tower_89 : decode cX6_tower 89 = .ok (.iconst 3, 1) := by decide +kernel
theorem dX6_tower_90 : decode cX6_tower 90 = .ok (.iload_n 1, 1) := by decide +kernel
theorem dX6_tower_91 : decode cX6_tower 91 = .ok (.imul, 1) := by decide +kernel
theorem dX6_tower_92 : decode cX6_tower 92 = .ok (.iconst 1, 1) := by decide +kernel
theorem dX6_tower_93 : decode cX6_tower 93 = .ok (.iadd, 1) := by decide +kernel
theorem dX6_tower_94 : decode cX6_tower 94 = .ok (.iaload, 1) := by decide +kernel
theorem dX6_tower_95 : decode cX6_tower 95 = .ok (.bipush 48, 2) := by decide +kernel
theorem dX6_tower_97 : decode cX6_tower 97 = .ok (.isub, 1) := by decide +kernel
theorem dX6_tower_98 : decode cX6_tower 98 = .ok (.iastore, 1) := by decide +kernel
theorem dX6_tower_99 : decode cX6_tower 99 = .ok (.aload_n 0, 1) := by decide +kernel
theorem dX6_tower_100 : decode cX6_tower 100 = .ok (.getfield 13, 3) := by decide +kernel
theorem dX6_tower_103 : decode cX6_tower 103 = .ok (.iconst 3, 1) := by decide +kernel
theorem dX6_tower_104 : decode cX6_tower 104 = .ok (.iload_n 1, 1) := by decide +kernel
theorem dX6_tower_105 : decode cX6_tower 105 = .ok (.imul, 1) := by decide +kernel
theorem dX6_tower_106 : decode cX6_tower 106 = .ok (.iconst 2, 1) := by decide +kernel
theorem dX6_tower_107 : decode cX6_tower 107 = .ok (.iadd, 1) := by decide +kernel
theorem dX6_tower_108 : decode cX6_tower 108 = .ok (.iconst 0, 1) := by decide +kernel
theorem dX6_tower_109 : decode cX6_tower 109 = .ok (.iastore, 1) := by decide +kernel
theorem dX6_tower_110 : decode cX6_tower 110 = .ok (.iinc 1 1, 3) := by decide +kernel
theorem dX6_tower_113 : decode cX6_tower 113 = .ok (.goto (-64), 3) := by decide +kernel
theorem dX6_tower_116 : decode cX6_tower 116 = .ok (.aload_n 0, 1) := by decide +kernel
theorem dX6_tower_117 : decode cX6_tower 117 = .ok (.aload_n 0, 1) := by decide +kernel
theorem dX6_tower_118 : decode cX6_tower 118 = .ok (.getfield 50, 3) := by decide +kernel
theorem dX6_tower_121 : decode cX6_tower 121 = .ok (.aload_n 0, 1) := by decide +kernel
theorem dX6_tower_122 : decode cX6_tower 122 = .ok (.getfield 53, 3) := by decide +kernel
theorem dX6_tower_125 : decode cX6_tower 125 = .ok (.isub, 1) := by decide +kernel
theorem dX6_tower_126 : decode cX6_tower 126 = .ok (.iconst 1, 1) := by decide +kernel
theorem dX6_tower_127 : decode cX6_tower 127 = .ok (.isub, 1) := by decide +kernel
theorem dX6_tower_128 : decode cX6_tower 128 = .ok (.putfield 75, 3) := by decide +kernel
theorem dX6_tower_131 : decode cX6_tower 131 = .ok (.iconst 0, 1) := by decide +kernel
theorem dX6_tower_132 : decode cX6_tower 132 = .ok (.istore_n 1, 1) := by decide +kernel
theorem dX6_tower_133 : decode cX6_tower 133 = .ok (.iload_n 1, 1) := by decide +kernel
theorem dX6_tower_134 : decode cX6_tower 134 = .ok (.aload_n 0, 1) := by decide +kernel
theorem dX6_tower_135 : decode cX6_tower 135 = .ok (.getfield 75, 3) := by decide +kernel
theorem dX6_tower_138 : decode cX6_tower 138 = .ok (.if_icmp .ge 38, 3) := by decide +kernel
theorem dX6_tower_141 : decode cX6_tower 141 = .ok (.aload_n 0, 1) := by decide +kernel
theorem dX6_tower_142 : decode cX6_tower 142 = .ok (.getfield 16, 3) := by decide +kernel
theorem dX6_tower_145 : decode cX6_tower 145 = .ok (.iconst 4, 1) := by decide +kernel
theorem dX6_tower_146 : decode cX6_tower 146 = .ok (.iload_n 1, 1) := by decide +kernel
theorem dX6_tower_147 : decode cX6_tower 147 = .ok (.imul, 1) := by decide +kernel
theorem dX6_tower_148 : decode cX6_tower 148 = .ok (.aload_n 0, 1) := by decide +kernel
theorem dX6_tower_149 : decode cX6_tower 149 = .ok (.getfield 7, 3) := by decide +kernel
theorem dX6_tower_152 : decode cX6_tower 152 = .ok (.aload_n 0, 1) := by decide +kernel
theorem dX6_tower_153 : decode cX6_tower 153 = .ok (.getfield 53, 3) := by decide +kernel
theorem dX6_tower_156 : decode cX6_tower 156 = .ok (.iconst 1, 1) := by decide +kernel
theorem dX6_tower_157 : decode cX6_tower 157 = .ok (.iadd, 1) := by decide +kernel
theorem dX6_tower_158 : decode cX6_tower 158 = .ok (.iload_n 1, 1) := by decide +kernel
theorem dX6_tower_159 : decode cX6_tower 159 = .ok (.iadd, 1) := by decide +kernel
theorem dX6_tower_160 : decode cX6_tower 160 = .ok (.iaload, 1) := by decide +kernel
theorem dX6_tower_161 : decode cX6_tower 161 = .ok (.bipush 48, 2) := by decide +kernel
theorem dX6_tower_163 : decode cX6_tower 163 = .ok (.isub, 1) := by decide +kernel
theorem dX6_tower_164 : decode cX6_tower 164 = .ok (.iastore, 1) := by decide +kernel
theorem dX6_tower_165 : decode cX6_tower 165 = .ok (.aload_n 0, 1) := by decide +kernel
theorem dX6_tower_166 : decode cX6_tower 166 = .ok (.iload_n 1, 1) := by decide +kernel
theorem dX6_tower_167 : decode cX6_tower 167 = .ok (.invokevirtual 78, 3) := by decide +kernel
theorem dX6_tower_170 : decode cX6_tower 170 = .ok (.iinc 1 1, 3) := by decide +kernel
theorem dX6_tower_173 : decode cX6_tower 173 = .ok (.goto (-40), 3) := by decide +kernel
theorem dX6_tower_176 : decode cX6_tower 176 = .ok (.aload_n 0, 1) := by decide +kernel
theorem dX6_tower_177 : decode cX6_tower 177 = .ok (.iconst 0, 1) := by decide +kernel
theorem dX6_tower_178 : decode cX6_tower 178 = .ok (.putfield 82, 3) := by decide +kernel
theorem dX6_tower_181 : decode cX6_tower 181 = .ok (.aload_n 0, 1) := by decide +kernel
theorem dX6_tower_182 : decode cX6_tower 182 = .ok (.iconst 0, 1) := by decide +kernel
theorem dX6_tower_183 : decode cX6_tower 183 = .ok (.putfield 85, 3) := by decide +kernel
theorem dX6_tower_186 : decode cX6_tower 186 = .ok (.aload_n 0, 1) := by decide +kernel
theorem dX6_tower_187 : decode cX6_tower 187 = .ok (.dup, 1) := by decide +kernel
theorem dX6_tower_188 : decode cX6_tower 188 = .ok (.getfield 88, 3) := by decide +kernel
theorem dX6_tower_191 : decode cX6_tower 191 = .ok (.iconst 1, 1) := by decide +kernel
theorem dX6_tower_192 : decode cX6_tower 192 = .ok (.iadd, 1) := by decide +kernel
theorem dX6_tower_193 : decode cX6_tower 193 = .ok (.putfield 88, 3) := by decide +kernel
theorem dX6_tower_196 : decode cX6_tower 196 = .ok (.aload_n 0, 1) := by decide +kernel
theorem dX6_tower_197 : decode cX6_tower 197 = .ok (.iconst 0, 1) := by decide +kernel
theorem dX6_tower_198 : decode cX6_tower 198 = .ok (.putfield 50, 3) := by decide +kernel
theorem dX6_tower_201 : decode cX6_tower 201 = .ok (.aload_n 0, 1) := by decide +kernel
theorem dX6_tower_202 : decode cX6_tower 202 = .ok (.getfield 75, 3) := by decide +kernel
theorem dX6_tower_205 : decode cX6_tower 205 = .ok (.ireturn, 1) := by decide +kernel
theorem dX6_empty_0 : decode cX6_empty 0 = .ok (.aload_n 0, 1) := by decide +kernel
theorem dX6_empty_1 : decode cX6_empty 1 = .ok (.getfield 16, 3) := by decide +kernel
theorem dX6_empty_4 : decode cX6_empty 4 = .ok (.iconst 4, 1) := by decide +kernel
theorem dX6_empty_5 : decode cX6_empty 5 = .ok (.iload_n 1, 1) := by decide +kernel
theorem dX6_empty_6 : decode cX6_empty 6 = .ok (.imul, 1) := by decide +kernel
theorem dX6_empty_7 : decode cX6_empty 7 = .ok (.iconst 1, 1) := by decide +kernel
theorem dX6_empty_8 : decode cX6_empty 8 = .ok (.iadd, 1) := by decide +kernel
theorem dX6_empty_9 : decode cX6_empty 9 = .ok (.iconst (-1), 1) := by decide +kernel
theorem dX6_empty_10 : decode cX6_empty 10 = .ok (.iastore, 1) := by decide +kernel
theorem dX6_empty_11 : decode cX6_empty 11 = .ok (.aload_n 0, 1) := by decide +kernel
theorem dX6_empty_12 : decode cX6_empty 12 = .ok (.getfield 16, 3) := by decide +kernel
theorem dX6_empty_15 : decode cX6_empty 15 = .ok (.iconst 4, 1) := by decide +kernel
theorem dX6_empty_16 : decode cX6_empty 16 = .ok (.iload_n 1, 1) := by decide +kernel
theorem dX6_empty_17 : decode cX6_empty 17 = .ok (.imul, 1) := by decide +kernel
theorem dX6_empty_18 : decode cX6_empty 18 = .ok (.iconst 2, 1) := by decide +kernel
theorem dX6_empty_19 : decode cX6_empty 19 = .ok (.iadd, 1) := by decide +kernel
theorem dX6_empty_20 : decode cX6_empty 20 = .ok (.iconst 0, 1) := by decide +kernel
theorem dX6_empty_21 : decode cX6_empty 21 = .ok (.iastore, 1) := by decide +kernel
theorem dX6_empty_22 : decode cX6_empty 22 = .ok (.aload_n 0, 1) := by decide +kernel
theorem dX6_empty_23 : decode cX6_empty 23 = .ok (.getfield 16, 3) := by decide +kernel
theorem dX6_empty_26 : decode cX6_empty 26 = .ok (.iconst 4, 1) := by decide +kernel
theorem dX6_empty_27 : decode cX6_empty 27 = .ok (.iload_n 1, 1) := by decide +kernel
theorem dX6_empty_28 : decode cX6_empty 28 = .ok (.imul, 1) := by decide +kernel
theorem dX6_empty_29 : decode cX6_empty 29 = .ok (.iconst 3, 1) := by decide +kernel
theorem dX6_empty_30 : decode cX6_empty 30 = .ok (.iadd, 1) := by decide +kernel
theorem dX6_empty_31 : decode cX6_empty 31 = .ok (.iconst 0, 1) := by decide +kernel
theorem dX6_empty_32 : decode cX6_empty 32 = .ok (.iastore, 1) := by decide +kernel
theorem dX6_empty_33 : decode cX6_empty 33 = .ok (.return_, 1) := by decide +kernel
theorem dX6_lacks_0 : decode cX6_lacks 0 = .ok (.aload_n 0, 1) := by decide +kernel
theorem dX6_lacks_1 : decode cX6_lacks 1 = .ok (.getfield 75, 3) := by decide +kernel
theorem dX6_lacks_4 : decode cX6_lacks 4 = .ok (.ifCond .ne 7, 3) := by decide +kernel
theorem dX6_lacks_7 : decode cX6_lacks 7 = .ok (.iconst 1, 1) := by decide +kernel
theorem dX6_lacks_8 : decode cX6_lacks 8 = .ok (.goto 4, 3) := by decide +kernel
theorem dX6_lacks_11 : decode cX6_lacks 11 = .ok (.iconst 0, 1) := by decide +kernel
theorem dX6_lacks_12 : decode cX6_lacks 12 = .ok (.ireturn, 1) := by decide +kernel
set_option maxRecDepth 20000 in
theorem ggX6_isKeeper_X6_in : GoodIn wsX6_isKeeper wsX6_in := goodIn_r _ [5] (by decide +kernel) (by decide +kernel)
set_option maxRecDepth 20000 in
theorem gX6_isKeeper_X6_in : GoodIn wsX6_isKeeper (va_wsS RX6 46 yX6_in wsX6_in) := goodIn_app (goodIn_of _ (by decide +kernel)) ggX6_isKeeper_X6_in
theorem dX6_isKeeper_0 : decode cX6_isKeeper 0 = .ok (.iload_n 1, 1) := by decide +kernel
theorem dX6_isKeeper_1 : decode cX6_isKeeper 1 = .ok (.i2l, 1) := by decide +kernel
theorem dX6_isKeeper_2 : decode cX6_isKeeper 2 = .ok (.lconst 0, 1) := by decide +kernel
theorem dX6_isKeeper_3 : decode cX6_isKeeper 3 = .ok (.aload_n 0, 1) := by decide +kernel
theorem dX6_isKeeper_4 : decode cX6_isKeeper 4 = .ok (.getfield 72, 3) := by decide +kernel
theorem dX6_isKeeper_7 : decode cX6_isKeeper 7 = .ok (.iconst 1, 1) := by decide +kernel
theorem dX6_isKeeper_8 : decode cX6_isKeeper 8 = .ok (.isub, 1) := by decide +kernel
theorem dX6_isKeeper_9 : decode cX6_isKeeper 9 = .ok (.i2l, 1) := by decide +kernel
theorem dX6_isKeeper_10 : decode cX6_isKeeper 10 = .ok (.invokestatic 46, 3) := by decide +kernel
theorem dX6_isKeeper_13 : decode cX6_isKeeper 13 = .ok (.ireturn, 1) := by decide +kernel
set_option maxRecDepth 20000 in
theorem ggX6_isHole_X6_in : GoodIn wsX6_isHole wsX6_in := goodIn_r _ [5] (by decide +kernel) (by decide +kernel)
set_option maxRecDepth 20000 in
theorem gX6_isHole_X6_in : GoodIn wsX6_isHole (va_wsS RX6 46 yX6_in wsX6_in) := goodIn_app (goodIn_of _ (by decide +kernel)) ggX6_isHole_X6_in
theorem dX6_isHole_0 : decode cX6_isHole 0 = .ok (.iload_n 1, 1) := by decide +kernel
theorem dX6_isHole_1 : decode cX6_isHole 1 = .ok (.i2l, 1) := by decide +kernel
theorem dX6_isHole_2 : decode cX6_isHole 2 = .ok (.lconst 0, 1) := by decide +kernel
theorem dX6_isHole_3 : decode cX6_isHole 3 = .ok (.aload_n 0, 1) := by decide +kernel
theorem dX6_isHole_4 : decode cX6_isHole 4 = .ok (.getfield 75, 3) := by decide +kernel
theorem dX6_isHole_7 : decode cX6_isHole 7 = .ok (.iconst 1, 1) := by decide +kernel
theorem dX6_isHole_8 : decode cX6_isHole 8 = .ok (.isub, 1) := by decide +kernel
theorem dX6_isHole_9 : decode cX6_isHole 9 = .ok (.i2l, 1) := by decide +kernel
theorem dX6_isHole_10 : decode cX6_isHole 10 = .ok (.invokestatic 46, 3) := by decide +kernel
theorem dX6_isHole_13 : decode cX6_isHole 13 = .ok (.ireturn, 1) := by decide +kernel
theorem dX6_tenthsBy_0 : decode cX6_tenthsBy 0 = .ok (.iload_n 1, 1) := by decide +kernel
theorem dX6_tenthsBy_1 : decode cX6_tenthsBy 1 = .ok (.iconst 5, 1) := by decide +kernel
theorem dX6_tenthsBy_2 : decode cX6_tenthsBy 2 = .ok (.iadd, 1) := by decide +kernel
theorem dX6_tenthsBy_3 : decode cX6_tenthsBy 3 = .ok (.iload_n 2, 1) := by decide +kernel
theorem dX6_tenthsBy_4 : decode cX6_tenthsBy 4 = .ok (.isub, 1) := by decide +kernel
theorem dX6_tenthsBy_5 : decode cX6_tenthsBy 5 = .ok (.istore_n 3, 1) := by decide +kernel
theorem dX6_tenthsBy_6 : decode cX6_tenthsBy 6 = .ok (.iload_n 0, 1) := by decide +kernel
theorem dX6_tenthsBy_7 : decode cX6_tenthsBy 7 = .ok (.iconst 4, 1) := by decide +kernel
theorem dX6_tenthsBy_8 : decode cX6_tenthsBy 8 = .ok (.if_icmp .ne 6, 3) := by decide +kernel
theorem dX6_tenthsBy_11 : decode cX6_tenthsBy 11 = .ok (.iinc 3 2, 3) := by decide +kernel
theorem dX6_tenthsBy_14 : decode cX6_tenthsBy 14 = .ok (.iload_n 0, 1) := by decide +kernel
theorem dX6_tenthsBy_15 : decode cX6_tenthsBy 15 = .ok (.iconst 3, 1) := by decide +kernel
theorem dX6_tenthsBy_16 : decode cX6_tenthsBy 16 = .ok (.if_icmp .ne 7, 3) := by decide +kernel
theorem dX6_tenthsBy_19 : decode cX6_tenthsBy 19 = .ok (.iload_n 3, 1) := by decide +kernel
theorem dX6_tenthsBy_20 : decode cX6_tenthsBy 20 = .ok (.iload_n 2, 1) := by decide +kernel
theorem dX6_tenthsBy_21 : decode cX6_tenthsBy 21 = .ok (.isub, 1) := by decide +kernel
theorem dX6_tenthsBy_22 : decode cX6_tenthsBy 22 = .ok (.istore_n 3, 1) := by decide +kernel
theorem dX6_tenthsBy_23 : decode cX6_tenthsBy 23 = .ok (.iload_n 0, 1) := by decide +kernel
theorem dX6_tenthsBy_24 : decode cX6_tenthsBy 24 = .ok (.iconst 1, 1) := by decide +kernel
theorem dX6_tenthsBy_25 : decode cX6_tenthsBy 25 = .ok (.if_icmp .eq 8, 3) := by decide +kernel
theorem dX6_tenthsBy_28 : decode cX6_tenthsBy 28 = .ok (.iload_n 0, 1) := by decide +kernel
theorem dX6_tenthsBy_29 : decode cX6_tenthsBy 29 = .ok (.iconst 4, 1) := by decide +kernel
theorem dX6_tenthsBy_30 : decode cX6_tenthsBy 30 = .ok (.if_icmp .ne 14, 3) := by decide +kernel
theorem dX6_tenthsBy_33 : decode cX6_tenthsBy 33 = .ok (.iload_n 3, 1) := by decide +kernel
theorem dX6_tenthsBy_34 : decode cX6_tenthsBy 34 = .ok (.iconst 3, 1) := by decide +kernel
theorem dX6_tenthsBy_35 : decode cX6_tenthsBy 35 = .ok (.if_icmp .ge 7, 3) := by decide +kernel
theorem dX6_tenthsBy_38 : decode cX6_tenthsBy 38 = .ok (.iconst 3, 1) := by decide +kernel
theorem dX6_tenthsBy_39 : decode cX6_tenthsBy 39 = .ok (.goto 4, 3) := by decide +kernel
theorem dX6_tenthsBy_42 : decode cX6_tenthsBy 42 = .ok (.iload_n 3, 1) := by decide +kernel
theorem dX6_tenthsBy_43 : decode cX6_tenthsBy 43 = .ok (.istore_n 3, 1) := by decide +kernel
theorem dX6_tenthsBy_44 : decode cX6_tenthsBy 44 = .ok (.iload_n 3, 1) := by decide +kernel
theorem dX6_tenthsBy_45 : decode cX6_tenthsBy 45 = .ok (.ifCond .ge 7, 3) := by decide +kernel
theorem dX6_tenthsBy_48 : decode cX6_tenthsBy 48 = .ok (.iconst 0, 1) := by decide +kernel
theorem dX6_tenthsBy_49 : decode cX6_tenthsBy 49 = .ok (.goto 15, 3) := by decide +kernel
theorem dX6_tenthsBy_52 : decode cX6_tenthsBy 52 = .ok (.iload_n 3, 1) := by decide +kernel
theorem dX6_tenthsBy_53 : decode cX6_tenthsBy 53 = .ok (.bipush 10, 2) := by decide +kernel
theorem dX6_tenthsBy_55 : decode cX6_tenthsBy 55 = .ok (.if_icmp .le 8, 3) := by decide +kernel
theorem dX6_tenthsBy_58 : decode cX6_tenthsBy 58 = .ok (.bipush 10, 2) := by decide +kernel
theorem dX6_tenthsBy_60 : decode cX6_tenthsBy 60 = .ok (.goto 4, 3) := by decide +kernel
theorem dX6_tenthsBy_63 : decode cX6_tenthsBy 63 = .ok (.iload_n 3, 1) := by decide +kernel
theorem dX6_tenthsBy_64 : decode cX6_tenthsBy 64 = .ok (.ireturn, 1) := by decide +kernel
set_option maxRecDepth 20000 in
theorem ggX6_tenthsOf_X6_tenthsBy : GoodIn wsX6_tenthsOf wsX6_tenthsBy := goodIn_r _ [5] (by decide +kernel) (by decide +kernel)
set_option maxRecDepth 20000 in
theorem gX6_tenthsOf_X6_tenthsBy : GoodIn wsX6_tenthsOf (va_wsS RX6 91 yX6_tenthsBy wsX6_tenthsBy) := goodIn_app (goodIn_of _ (by decide +kernel)) ggX6_tenthsOf_X6_tenthsBy
theorem dX6_tenthsOf_0 : decode cX6_tenthsOf 0 = .ok (.aload_n 0, 1) := by decide +kernel
theorem dX6_tenthsOf_1 : decode cX6_tenthsOf 1 = .ok (.getfield 13, 3) := by decide +kernel
theorem dX6_tenthsOf_4 : decode cX6_tenthsOf 4 = .ok (.iconst 3, 1) := by decide +kernel
theorem dX6_tenthsOf_5 : decode cX6_tenthsOf 5 = .ok (.iload_n 1, 1) := by decide +kernel
theorem dX6_tenthsOf_6 : decode cX6_tenthsOf 6 = .ok (.imul, 1) := by decide +kernel
theorem dX6_tenthsOf_7 : decode cX6_tenthsOf 7 = .ok (.iaload, 1) := by decide +kernel
theorem dX6_tenthsOf_8 : decode cX6_tenthsOf 8 = .ok (.aload_n 0, 1) := by decide +kernel
theorem dX6_tenthsOf_9 : decode cX6_tenthsOf 9 = .ok (.getfield 13, 3) := by decide +kernel
theorem dX6_tenthsOf_12 : decode cX6_tenthsOf 12 = .ok (.iconst 3, 1) := by decide +kernel
theorem dX6_tenthsOf_13 : decode cX6_tenthsOf 13 = .ok (.iload_n 1, 1) := by decide +kernel
theorem dX6_tenthsOf_14 : decode cX6_tenthsOf 14 = .ok (.imul, 1) := by decide +kernel
theorem dX6_tenthsOf_15 : decode cX6_tenthsOf 15 = .ok (.iconst 1, 1) := by decide +kernel
theorem dX6_tenthsOf_16 : decode cX6_tenthsOf 16 = .ok (.iadd, 1) := by decide +kernel
theorem dX6_tenthsOf_17 : decode cX6_tenthsOf 17 = .ok (.iaload, 1) := by decide +kernel
theorem dX6_tenthsOf_18 : decode cX6_tenthsOf 18 = .ok (.iload_n 2, 1) := by decide +kernel
theorem dX6_tenthsOf_19 : decode cX6_tenthsOf 19 = .ok (.invokestatic 91, 3) := by decide +kernel
theorem dX6_tenthsOf_22 : decode cX6_tenthsOf 22 = .ok (.ireturn, 1) := by decide +kernel
theorem dX6_setOf_0 : decode cX6_setOf 0 = .ok (.iconst 0, 1) := by decide +kernel
theorem dX6_setOf_1 : decode cX6_setOf 1 = .ok (.istore_n 2, 1) := by decide +kernel
theorem dX6_setOf_2 : decode cX6_setOf 2 = .ok (.iconst 0, 1) := by decide +kernel
theorem dX6_setOf_3 : decode cX6_setOf 3 = .ok (.istore_n 3, 1) := by decide +kernel
theorem dX6_setOf_4 : decode cX6_setOf 4 = .ok (.iload_n 3, 1) := by decide +kernel
theorem dX6_setOf_5 : decode cX6_setOf 5 = .ok (.aload_n 0, 1) := by decide +kernel
theorem dX6_setOf_6 : decode cX6_setOf 6 = .ok (.getfield 75, 3) := by decide +kernel
theorem dX6_setOf_9 : decode cX6_setOf 9 = .ok (.if_icmp .ge 33, 3) := by decide +kernel
theorem dX6_setOf_12 : decode cX6_setOf 12 = .ok (.iload_n 2, 1) := by decide +kernel
theorem dX6_setOf_13 : decode cX6_setOf 13 = .ok (.aload_n 0, 1) := by decide +kernel
theorem dX6_setOf_14 : decode cX6_setOf 14 = .ok (.getfield 16, 3) := by decide +kernel
theorem dX6_setOf_17 : decode cX6_setOf 17 = .ok (.iconst 4, 1) := by decide +kernel
theorem dX6_setOf_18 : decode cX6_setOf 18 = .ok (.iload_n 3, 1) := by decide +kernel
theorem dX6_setOf_19 : decode cX6_setOf 19 = .ok (.imul, 1) := by decide +kernel
theorem dX6_setOf_20 : decode cX6_setOf 20 = .ok (.iconst 1, 1) := by decide +kernel
theorem dX6_setOf_21 : decode cX6_setOf 21 = .ok (.iadd, 1) := by decide +kernel
theorem dX6_setOf_22 : decode cX6_setOf 22 = .ok (.iaload, 1) := by decide +kernel
theorem dX6_setOf_23 : decode cX6_setOf 23 = .ok (.iload_n 1, 1) := by decide +kernel
theorem dX6_setOf_24 : decode cX6_setOf 24 = .ok (.if_icmp .ne 9, 3) := by decide +kernel
theorem dX6_setOf_27 : decode cX6_setOf 27 = .ok (.iconst 1, 1) := by decide +kernel
theorem dX6_setOf_28 : decode cX6_setOf 28 = .ok (.iload_n 3, 1) := by decide +kernel
theorem dX6_setOf_29 : decode cX6_setOf 29 = .ok (.ishl, 1) := by decide +kernel
theorem dX6_setOf_30 : decode cX6_setOf 30 = .ok (.goto 4, 3) := by decide +kernel
theorem dX6_setOf_33 : decode cX6_setOf 33 = .ok (.iconst 0, 1) := by decide +kernel
theorem dX6_setOf_34 : decode cX6_setOf 34 = .ok (.ior, 1) := by decide +kernel
theorem dX6_setOf_35 : decode cX6_setOf 35 = .ok (.istore_n 2, 1) := by decide +kernel
theorem dX6_setOf_36 : decode cX6_setOf 36 = .ok (.iinc 3 1, 3) := by decide +kernel
theorem dX6_setOf_39 : decode cX6_setOf 39 = .ok (.goto (-35), 3) := by decide +kernel
theorem dX6_setOf_42 : decode cX6_setOf 42 = .ok (.iload_n 2, 1) := by decide +kernel
theorem dX6_setOf_43 : decode cX6_setOf 43 = .ok (.ireturn, 1) := by decide +kernel
theorem dX6_ones_0 : decode cX6_ones 0 = .ok (.iconst 0, 1) := by decide +kernel
theorem dX6_ones_1 : decode cX6_ones 1 = .ok (.istore_n 1, 1) := by decide +kernel
theorem dX6_ones_2 : decode cX6_ones 2 = .ok (.iconst 0, 1) := by decide +kernel
theorem dX6_ones_3 : decode cX6_ones 3 = .ok (.istore_n 2, 1) := by decide +kernel
theorem dX6_ones_4 : decode cX6_ones 4 = .ok (.iload_n 2, 1) := by decide +kernel
theorem dX6_ones_5 : decode cX6_ones 5 = .ok (.iconst 5, 1) := by decide +kernel
theorem dX6_ones_6 : decode cX6_ones 6 = .ok (.if_icmp .ge 17, 3) := by decide +kernel
theorem dX6_ones_9 : decode cX6_ones 9 = .ok (.iload_n 1, 1) := by decide +kernel
theorem dX6_ones_10 : decode cX6_ones 10 = .ok (.iload_n 0, 1) := by decide +kernel
theorem dX6_ones_11 : decode cX6_ones 11 = .ok (.iload_n 2, 1) := by decide +kernel
theorem dX6_ones_12 : decode cX6_ones 12 = .ok (.ishr, 1) := by decide +kernel
theorem dX6_ones_13 : decode cX6_ones 13 = .ok (.iconst 1, 1) := by decide +kernel
theorem dX6_ones_14 : decode cX6_ones 14 = .ok (.iand, 1) := by decide +kernel
theorem dX6_ones_15 : decode cX6_ones 15 = .ok (.iadd, 1) := by decide +kernel
theorem dX6_ones_16 : decode cX6_ones 16 = .ok (.istore_n 1, 1) := by decide +kernel
theorem dX6_ones_17 : decode cX6_ones 17 = .ok (.iinc 2 1, 3) := by decide +kernel
theorem dX6_ones_20 : decode cX6_ones 20 = .ok (.goto (-16), 3) := by decide +kernel
theorem dX6_ones_23 : decode cX6_ones 23 = .ok (.iload_n 1, 1) := by decide +kernel
theorem dX6_ones_24 : decode cX6_ones 24 = .ok (.ireturn, 1) := by decide +kernel
theorem dX6_eggsIn_0 : decode cX6_eggsIn 0 = .ok (.iconst 0, 1) := by decide +kernel
theorem dX6_eggsIn_1 : decode cX6_eggsIn 1 = .ok (.istore_n 2, 1) := by decide +kernel
theorem dX6_eggsIn_2 : decode cX6_eggsIn 2 = .ok (.iconst 0, 1) := by decide +kernel
theorem dX6_eggsIn_3 : decode cX6_eggsIn 3 = .ok (.istore_n 3, 1) := by decide +kernel
theorem dX6_eggsIn_4 : decode cX6_eggsIn 4 = .ok (.iload_n 3, 1) := by decide +kernel
theorem dX6_eggsIn_5 : decode cX6_eggsIn 5 = .ok (.aload_n 0, 1) := by decide +kernel
theorem dX6_eggsIn_6 : decode cX6_eggsIn 6 = .ok (.getfield 75, 3) := by decide +kernel
theorem dX6_eggsIn_9 : decode cX6_eggsIn 9 = .ok (.if_icmp .ge 28, 3) := by decide +kernel
theorem dX6_eggsIn_12 : decode cX6_eggsIn 12 = .ok (.iload_n 2, 1) := by decide +kernel
theorem dX6_eggsIn_13 : decode cX6_eggsIn 13 = .ok (.iload_n 1, 1) := by decide +kernel
theorem dX6_eggsIn_14 : decode cX6_eggsIn 14 = .ok (.iload_n 3, 1) := by decide +kernel
theorem dX6_eggsIn_15 : decode cX6_eggsIn 15 = .ok (.ishr, 1) := by decide +kernel
theorem dX6_eggsIn_16 : decode cX6_eggsIn 16 = .ok (.iconst 1, 1) := by decide +kernel
theorem dX6_eggsIn_17 : decode cX6_eggsIn 17 = .ok (.iand, 1) := by decide +kernel
theorem dX6_eggsIn_18 : decode cX6_eggsIn 18 = .ok (.aload_n 0, 1) := by decide +kernel
theorem dX6_eggsIn_19 : decode cX6_eggsIn 19 = .ok (.getfield 16, 3) := by decide +kernel
theorem dX6_eggsIn_22 : decode cX6_eggsIn 22 = .ok (.iconst 4, 1) := by decide +kernel
theorem dX6_eggsIn_23 : decode cX6_eggsIn 23 = .ok (.iload_n 3, 1) := by decide +kernel
theorem dX6_eggsIn_24 : decode cX6_eggsIn 24 = .ok (.imul, 1) := by decide +kernel
theorem dX6_eggsIn_25 : decode cX6_eggsIn 25 = .ok (.iconst 3, 1) := by decide +kernel
theorem dX6_eggsIn_26 : decode cX6_eggsIn 26 = .ok (.iadd, 1) := by decide +kernel
theorem dX6_eggsIn_27 : decode cX6_eggsIn 27 = .ok (.iaload, 1) := by decide +kernel
theorem dX6_eggsIn_28 : decode cX6_eggsIn 28 = .ok (.imul, 1) := by decide +kernel
theorem dX6_eggsIn_29 : decode cX6_eggsIn 29 = .ok (.iadd, 1) := by decide +kernel
theorem dX6_eggsIn_30 : decode cX6_eggsIn 30 = .ok (.istore_n 2, 1) := by decide +kernel
theorem dX6_eggsIn_31 : decode cX6_eggsIn 31 = .ok (.iinc 3 1, 3) := by decide +kernel
theorem dX6_eggsIn_34 : decode cX6_eggsIn 34 = .ok (.goto (-30), 3) := by decide +kernel
theorem dX6_eggsIn_37 : decode cX6_eggsIn 37 = .ok (.iload_n 2, 1) := by decide +kernel
theorem dX6_eggsIn_38 : decode cX6_eggsIn 38 = .ok (.ireturn, 1) := by decide +kernel
set_option maxRecDepth 20000 in
theorem ggX6_tellKeeper_X6_setOf : GoodIn wsX6_tellKeeper wsX6_setOf := goodIn_r _ [6, 7, 8, 30, 31, 32, 33, 34, 35, 36, 37, 38, 39, 40, 41, 42, 43, 44, 45, 46, 47, 48, 49, 50, 51] (by decide +kernel) (by decide +kernel)
set_option maxRecDepth 20000 in
theorem gX6_tellKeeper_X6_setOf : GoodIn wsX6_tellKeeper (wsV RX6 95 RX6 yX6_setOf wsX6_setOf) := goodIn_app (goodIn_of _ (by decide +kernel)) ggX6_tellKeeper_X6_setOf
set_option maxRecDepth 20000 in
theorem ggX6_tellKeeper_X6_eggsIn : GoodIn wsX6_tellKeeper wsX6_eggsIn := goodIn_r _ [12, 7, 8, 30, 31, 32, 33, 34, 35, 36, 37, 38, 39, 40, 41, 42, 43, 44, 45, 46, 47, 48, 49, 50, 51] (by decide +kernel) (by decide +kernel)
set_option maxRecDepth 20000 in
theorem gX6_tellKeeper_X6_eggsIn : GoodIn wsX6_tellKeeper (wsV RX6 98 RX6 yX6_eggsIn wsX6_eggsIn) := goodIn_app (goodIn_of _ (by decide +kernel)) ggX6_tellKeeper_X6_eggsIn
set_option maxRecDepth 20000 in
theorem ggX6_tellKeeper_X6_faithsOf : GoodIn wsX6_tellKeeper wsX6_faithsOf := goodIn_r _ [16, 17, 18, 19, 5, 20, 21, 1, 22, 23, 24, 25, 30, 31, 32, 33, 34, 35, 36, 37, 38, 39, 40, 41, 42, 43, 44, 45, 46, 47, 48, 49, 50, 51] (by decide +kernel) (by decide +kernel)
set_option maxRecDepth 20000 in
theorem gX6_tellKeeper_X6_faithsOf : GoodIn wsX6_tellKeeper (wsV RX6 101 RX6 yX6_faithsOf wsX6_faithsOf) := goodIn_app (goodIn_of _ (by decide +kernel)) ggX6_tellKeeper_X6_faithsOf
set_option maxRecDepth 20000 in
theorem ggX6_tellKeeper_X6_likelyOf : GoodIn wsX6_tellKeeper wsX6_likelyOf := goodIn_r _ [29, 17, 18, 19, 5, 20, 21, 1, 22, 23, 24, 25, 30, 31, 32, 33, 34, 35, 36, 37, 38, 39, 40, 41, 42, 43, 44, 45, 46, 47, 48, 49, 50, 51] (by decide +kernel) (by decide +kernel)
set_option maxRecDepth 20000 in
theorem gX6_tellKeeper_X6_likelyOf : GoodIn wsX6_tellKeeper (wsV RX6 104 RX6 yX6_likelyOf wsX6_likelyOf) := goodIn_app (goodIn_of _ (by decide +kernel)) ggX6_tellKeeper_X6_likelyOf
theorem dX6_tellKeeper_0 : decode cX6_tellKeeper 0 = .ok (.iload_n 2, 1) := by decide +kernel
theorem dX6_tellKeeper_1 : decode cX6_tellKeeper 1 = .ok (.tableswitch 93 0 6 #[43, 43, 54, 60, 70, 81, 87], 43) := by decide +kernel
theorem dX6_tellKeeper_44 : decode cX6_tellKeeper 44 = .ok (.aload_n 0, 1) := by decide +kernel
theorem dX6_tellKeeper_45 : decode cX6_tellKeeper 45 = .ok (.getfield 13, 3) := by decide +kernel
theorem dX6_tellKeeper_48 : decode cX6_tellKeeper 48 = .ok (.iconst 3, 1) := by decide +kernel
theorem dX6_tellKeeper_49 : decode cX6_tellKeeper 49 = .ok (.iload_n 1, 1) := by decide +kernel
theorem dX6_tellKeeper_50 : decode cX6_tellKeeper 50 = .ok (.imul, 1) := by decide +kernel
theorem dX6_tellKeeper_51 : decode cX6_tellKeeper 51 = .ok (.iload_n 2, 1) := by decide +kernel
theorem dX6_tellKeeper_52 : decode cX6_tellKeeper 52 = .ok (.iadd, 1) := by decide +kernel
theorem dX6_tellKeeper_53 : decode cX6_tellKeeper 53 = .ok (.iaload, 1) := by decide +kernel
theorem dX6_tellKeeper_54 : decode cX6_tellKeeper 54 = .ok (.ireturn, 1) := by decide +kernel
theorem dX6_tellKeeper_55 : decode cX6_tellKeeper 55 = .ok (.aload_n 0, 1) := by decide +kernel
theorem dX6_tellKeeper_56 : decode cX6_tellKeeper 56 = .ok (.iload_n 1, 1) := by decide +kernel
theorem dX6_tellKeeper_57 : decode cX6_tellKeeper 57 = .ok (.invokevirtual 95, 3) := by decide +kernel
theorem dX6_tellKeeper_60 : decode cX6_tellKeeper 60 = .ok (.ireturn, 1) := by decide +kernel
theorem dX6_tellKeeper_61 : decode cX6_tellKeeper 61 = .ok (.aload_n 0, 1) := by decide +kernel
theorem dX6_tellKeeper_62 : decode cX6_tellKeeper 62 = .ok (.aload_n 0, 1) := by decide +kernel
theorem dX6_tellKeeper_63 : decode cX6_tellKeeper 63 = .ok (.iload_n 1, 1) := by decide +kernel
theorem dX6_tellKeeper_64 : decode cX6_tellKeeper 64 = .ok (.invokevirtual 95, 3) := by decide +kernel
theorem dX6_tellKeeper_67 : decode cX6_tellKeeper 67 = .ok (.invokevirtual 98, 3) := by decide +kernel
theorem dX6_tellKeeper_70 : decode cX6_tellKeeper 70 = .ok (.ireturn, 1) := by decide +kernel
theorem dX6_tellKeeper_71 : decode cX6_tellKeeper 71 = .ok (.aload_n 0, 1) := by decide +kernel
theorem dX6_tellKeeper_72 : decode cX6_tellKeeper 72 = .ok (.getfield 13, 3) := by decide +kernel
theorem dX6_tellKeeper_75 : decode cX6_tellKeeper 75 = .ok (.iconst 3, 1) := by decide +kernel
theorem dX6_tellKeeper_76 : decode cX6_tellKeeper 76 = .ok (.iload_n 1, 1) := by decide +kernel
theorem dX6_tellKeeper_77 : decode cX6_tellKeeper 77 = .ok (.imul, 1) := by decide +kernel
theorem dX6_tellKeeper_78 : decode cX6_tellKeeper 78 = .ok (.iconst 2, 1) := by decide +kernel
theorem dX6_tellKeeper_79 : decode cX6_tellKeeper 79 = .ok (.iadd, 1) := by decide +kernel
theorem dX6_tellKeeper_80 : decode cX6_tellKeeper 80 = .ok (.iaload, 1) := by decide +kernel
theorem dX6_tellKeeper_81 : decode cX6_tellKeeper 81 = .ok (.ireturn, 1) := by decide +kernel
theorem dX6_tellKeeper_82 : decode cX6_tellKeeper 82 = .ok (.aload_n 0, 1) := by decide +kernel
theorem dX6_tellKeeper_83 : decode cX6_tellKeeper 83 = .ok (.iload_n 1, 1) := by decide +kernel
theorem dX6_tellKeeper_84 : decode cX6_tellKeeper 84 = .ok (.invokevirtual 101, 3) := by decide +kernel
theorem dX6_tellKeeper_87 : decode cX6_tellKeeper 87 = .ok (.ireturn, 1) := by decide +kernel
theorem dX6_tellKeeper_88 : decode cX6_tellKeeper 88 = .ok (.aload_n 0, 1) := by decide +kernel
theorem dX6_tellKeeper_89 : decode cX6_tellKeeper 89 = .ok (.iload_n 1, 1) := by decide +kernel
theorem dX6_tellKeeper_90 : decode cX6_tellKeeper 90 = .ok (.invokevirtual 104, 3) := by decide +kernel
theorem dX6_tellKeeper_93 : decode cX6_tellKeeper 93 = .ok (.ireturn, 1) := by decide +kernel
theorem dX6_tellKeeper_94 : decode cX6_tellKeeper 94 = .ok (.bipush (-102), 2) := by decide +kernel
theorem dX6_tellKeeper_96 : decode cX6_tellKeeper 96 = .ok (.ireturn, 1) := by decide +kernel
set_option maxRecDepth 20000 in
theorem ggX6_keeper_X6_isKeeper : GoodIn wsX6_keeper wsX6_isKeeper := goodIn_r _ [5, 6, 7, 8, 4, 9, 42, 43, 44, 45, 46, 47, 48, 49, 50, 51, 52, 53, 54, 55, 56, 57, 58, 59, 60, 61, 62, 63] (by decide +kernel) (by decide +kernel)
set_option maxRecDepth 20000 in
theorem gX6_keeper_X6_isKeeper : GoodIn wsX6_keeper (wsV RX6 107 RX6 yX6_isKeeper wsX6_isKeeper) := goodIn_app (goodIn_of _ (by decide +kernel)) ggX6_keeper_X6_isKeeper
set_option maxRecDepth 20000 in
theorem ggX6_keeper_X6_tellKeeper : GoodIn wsX6_keeper wsX6_tellKeeper := goodIn_r _ [13, 14, 15, 16, 17, 4, 18, 19, 20, 21, 22, 23, 24, 25, 26, 27, 28, 29, 30, 31, 32, 33, 34, 35, 36, 37, 38, 39, 40, 41, 42, 43, 44, 45, 46, 47, 48, 49, 50, 51, 52, 53, 54, 55, 56, 57, 58, 59, 60, 61, 62, 63] (by decide +kernel) (by decide +kernel)
set_option maxRecDepth 20000 in
theorem gX6_keeper_X6_tellKeeper : GoodIn wsX6_keeper (wsV RX6 110 RX6 yX6_tellKeeper wsX6_tellKeeper) := goodIn_app (goodIn_of _ (by decide +kernel)) ggX6_keeper_X6_tellKeeper
theorem dX6_keeper_0 : decode cX6_keeper 0 = .ok (.aload_n 0, 1) := by decide +kernel
theorem dX6_keeper_1 : decode cX6_keeper 1 = .ok (.iload_n 1, 1) := by decide +kernel
theorem dX6_keeper_2 : decode cX6_keeper 2 = .ok (.invokevirtual 107, 3) := by decide +kernel
theorem dX6_keeper_5 : decode cX6_keeper 5 = .ok (.ifCond .eq 12, 3) := by decide +kernel
theorem dX6_keeper_8 : decode cX6_keeper 8 = .ok (.aload_n 0, 1) := by decide +kernel
theorem dX6_keeper_9 : decode cX6_keeper 9 = .ok (.iload_n 1, 1) := by decide +kernel
theorem dX6_keeper_10 : decode cX6_keeper 10 = .ok (.iload_n 2, 1) := by decide +kernel
theorem dX6_keeper_11 : decode cX6_keeper 11 = .ok (.invokevirtual 110, 3) := by decide +kernel
theorem dX6_keeper_14 : decode cX6_keeper 14 = .ok (.goto 5, 3) := by decide +kernel
theorem dX6_keeper_17 : decode cX6_keeper 17 = .ok (.bipush (-101), 2) := by decide +kernel
theorem dX6_keeper_19 : decode cX6_keeper 19 = .ok (.ireturn, 1) := by decide +kernel
