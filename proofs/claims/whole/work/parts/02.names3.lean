set_option maxRecDepth 20000 in
theorem ggX6_as_X6_isKeeper : GoodIn wsX6_as wsX6_isKeeper := goodIn_r _ [7, 8, 9, 10, 6, 11, 12, 13, 14, 15, 16, 17, 18, 19, 20, 21, 22, 23, 24, 25, 26, 27, 28, 29, 30, 31, 32, 33] (by decide +kernel) (by decide +kernel)
set_option maxRecDepth 20000 in
theorem gX6_as_X6_isKeeper : GoodIn wsX6_as (wsV RX6 107 RX6 yX6_isKeeper wsX6_isKeeper) := goodIn_app (goodIn_of _ (by decide +kernel)) ggX6_as_X6_isKeeper
set_option maxRecDepth 20000 in
theorem ggX6_as_X6_in : GoodIn wsX6_as wsX6_in := goodIn_r _ [11] (by decide +kernel) (by decide +kernel)
set_option maxRecDepth 20000 in
theorem gX6_as_X6_in : GoodIn wsX6_as (va_wsS RX6 46 yX6_in wsX6_in) := goodIn_app (goodIn_of _ (by decide +kernel)) ggX6_as_X6_in
theorem dX6_as_0 : decode cX6_as 0 = .ok (.aload_n 0, 1) := by decide +kernel
theorem dX6_as_1 : decode cX6_as 1 = .ok (.iload_n 1, 1) := by decide +kernel
theorem dX6_as_2 : decode cX6_as 2 = .ok (.invokevirtual 107, 3) := by decide +kernel
theorem dX6_as_5 : decode cX6_as 5 = .ok (.ifCond .ne 6, 3) := by decide +kernel
theorem dX6_as_8 : decode cX6_as 8 = .ok (.bipush (-101), 2) := by decide +kernel
theorem dX6_as_10 : decode cX6_as 10 = .ok (.ireturn, 1) := by decide +kernel
theorem dX6_as_11 : decode cX6_as 11 = .ok (.iload_n 2, 1) := by decide +kernel
theorem dX6_as_12 : decode cX6_as 12 = .ok (.i2l, 1) := by decide +kernel
theorem dX6_as_13 : decode cX6_as 13 = .ok (.lconst 0, 1) := by decide +kernel
theorem dX6_as_14 : decode cX6_as 14 = .ok (.ldc2_w 114, 3) := by decide +kernel
theorem dX6_as_17 : decode cX6_as 17 = .ok (.invokestatic 46, 3) := by decide +kernel
theorem dX6_as_20 : decode cX6_as 20 = .ok (.ifCond .ne 6, 3) := by decide +kernel
theorem dX6_as_23 : decode cX6_as 23 = .ok (.bipush (-102), 2) := by decide +kernel
theorem dX6_as_25 : decode cX6_as 25 = .ok (.ireturn, 1) := by decide +kernel
theorem dX6_as_26 : decode cX6_as 26 = .ok (.aload_n 0, 1) := by decide +kernel
theorem dX6_as_27 : decode cX6_as 27 = .ok (.getfield 13, 3) := by decide +kernel
theorem dX6_as_30 : decode cX6_as 30 = .ok (.iconst 3, 1) := by decide +kernel
theorem dX6_as_31 : decode cX6_as 31 = .ok (.iload_n 1, 1) := by decide +kernel
theorem dX6_as_32 : decode cX6_as 32 = .ok (.imul, 1) := by decide +kernel
theorem dX6_as_33 : decode cX6_as 33 = .ok (.iaload, 1) := by decide +kernel
theorem dX6_as_34 : decode cX6_as 34 = .ok (.istore_n 3, 1) := by decide +kernel
theorem dX6_as_35 : decode cX6_as 35 = .ok (.iload_n 2, 1) := by decide +kernel
theorem dX6_as_36 : decode cX6_as 36 = .ok (.ifCond .eq 18, 3) := by decide +kernel
theorem dX6_as_39 : decode cX6_as 39 = .ok (.iload_n 2, 1) := by decide +kernel
theorem dX6_as_40 : decode cX6_as 40 = .ok (.iload_n 3, 1) := by decide +kernel
theorem dX6_as_41 : decode cX6_as 41 = .ok (.if_icmp .eq 13, 3) := by decide +kernel
theorem dX6_as_44 : decode cX6_as 44 = .ok (.iload_n 2, 1) := by decide +kernel
theorem dX6_as_45 : decode cX6_as 45 = .ok (.iconst 1, 1) := by decide +kernel
theorem dX6_as_46 : decode cX6_as 46 = .ok (.if_icmp .ne 12, 3) := by decide +kernel
theorem dX6_as_49 : decode cX6_as 49 = .ok (.iload_n 3, 1) := by decide +kernel
theorem dX6_as_50 : decode cX6_as 50 = .ok (.iconst 4, 1) := by decide +kernel
theorem dX6_as_51 : decode cX6_as 51 = .ok (.if_icmp .ne 7, 3) := by decide +kernel
theorem dX6_as_54 : decode cX6_as 54 = .ok (.iconst 1, 1) := by decide +kernel
theorem dX6_as_55 : decode cX6_as 55 = .ok (.goto 4, 3) := by decide +kernel
theorem dX6_as_58 : decode cX6_as 58 = .ok (.iconst 0, 1) := by decide +kernel
theorem dX6_as_59 : decode cX6_as 59 = .ok (.istore 4, 2) := by decide +kernel
theorem dX6_as_61 : decode cX6_as 61 = .ok (.iload 4, 2) := by decide +kernel
theorem dX6_as_63 : decode cX6_as 63 = .ok (.ifCond .eq 7, 3) := by decide +kernel
theorem dX6_as_66 : decode cX6_as 66 = .ok (.iload_n 1, 1) := by decide +kernel
theorem dX6_as_67 : decode cX6_as 67 = .ok (.goto 4, 3) := by decide +kernel
theorem dX6_as_70 : decode cX6_as 70 = .ok (.iconst (-1), 1) := by decide +kernel
theorem dX6_as_71 : decode cX6_as 71 = .ok (.ireturn, 1) := by decide +kernel
set_option maxRecDepth 20000 in
theorem ggX6_keeps_X6_isKeeper : GoodIn wsX6_keeps wsX6_isKeeper := goodIn_r _ [6, 7, 8, 9, 5, 10, 19, 20, 21, 22, 23, 24, 25, 26, 27, 28, 29, 30, 31, 32, 33, 34, 35, 36, 37, 38, 39, 40] (by decide +kernel) (by decide +kernel)
set_option maxRecDepth 20000 in
theorem gX6_keeps_X6_isKeeper : GoodIn wsX6_keeps (wsV RX6 107 RX6 yX6_isKeeper wsX6_isKeeper) := goodIn_app (goodIn_of _ (by decide +kernel)) ggX6_keeps_X6_isKeeper
set_option maxRecDepth 20000 in
theorem ggX6_keeps_X6_in : GoodIn wsX6_keeps wsX6_in := goodIn_r _ [10] (by decide +kernel) (by decide +kernel)
set_option maxRecDepth 20000 in
theorem gX6_keeps_X6_in : GoodIn wsX6_keeps (va_wsS RX6 46 yX6_in wsX6_in) := goodIn_app (goodIn_of _ (by decide +kernel)) ggX6_keeps_X6_in
set_option maxRecDepth 20000 in
theorem ggX6_keeps_X6_tenthsOf : GoodIn wsX6_keeps wsX6_tenthsOf := goodIn_r _ [14, 15, 16, 17, 5, 18, 19, 20, 21, 22, 23, 24, 25, 26, 27, 28, 29, 30, 31, 32, 33, 34, 35, 36, 37, 38, 39, 40] (by decide +kernel) (by decide +kernel)
set_option maxRecDepth 20000 in
theorem gX6_keeps_X6_tenthsOf : GoodIn wsX6_keeps (wsV RX6 118 RX6 yX6_tenthsOf wsX6_tenthsOf) := goodIn_app (goodIn_of _ (by decide +kernel)) ggX6_keeps_X6_tenthsOf
theorem dX6_keeps_0 : decode cX6_keeps 0 = .ok (.aload_n 0, 1) := by decide +kernel
theorem dX6_keeps_1 : decode cX6_keeps 1 = .ok (.iload_n 1, 1) := by decide +kernel
theorem dX6_keeps_2 : decode cX6_keeps 2 = .ok (.invokevirtual 107, 3) := by decide +kernel
theorem dX6_keeps_5 : decode cX6_keeps 5 = .ok (.ifCond .ne 6, 3) := by decide +kernel
theorem dX6_keeps_8 : decode cX6_keeps 8 = .ok (.bipush (-101), 2) := by decide +kernel
theorem dX6_keeps_10 : decode cX6_keeps 10 = .ok (.ireturn, 1) := by decide +kernel
theorem dX6_keeps_11 : decode cX6_keeps 11 = .ok (.iload_n 2, 1) := by decide +kernel
theorem dX6_keeps_12 : decode cX6_keeps 12 = .ok (.i2l, 1) := by decide +kernel
theorem dX6_keeps_13 : decode cX6_keeps 13 = .ok (.lconst 0, 1) := by decide +kernel
theorem dX6_keeps_14 : decode cX6_keeps 14 = .ok (.ldc2_w 116, 3) := by decide +kernel
theorem dX6_keeps_17 : decode cX6_keeps 17 = .ok (.invokestatic 46, 3) := by decide +kernel
theorem dX6_keeps_20 : decode cX6_keeps 20 = .ok (.ifCond .eq 12, 3) := by decide +kernel
theorem dX6_keeps_23 : decode cX6_keeps 23 = .ok (.aload_n 0, 1) := by decide +kernel
theorem dX6_keeps_24 : decode cX6_keeps 24 = .ok (.iload_n 1, 1) := by decide +kernel
theorem dX6_keeps_25 : decode cX6_keeps 25 = .ok (.iload_n 2, 1) := by decide +kernel
theorem dX6_keeps_26 : decode cX6_keeps 26 = .ok (.invokevirtual 118, 3) := by decide +kernel
theorem dX6_keeps_29 : decode cX6_keeps 29 = .ok (.goto 5, 3) := by decide +kernel
theorem dX6_keeps_32 : decode cX6_keeps 32 = .ok (.bipush (-102), 2) := by decide +kernel
theorem dX6_keeps_34 : decode cX6_keeps 34 = .ok (.ireturn, 1) := by decide +kernel
set_option maxRecDepth 20000 in
theorem ggX6_tenthsIn_X6_tenthsOf : GoodIn wsX6_tenthsIn wsX6_tenthsOf := goodIn_r _ [6, 7, 8, 9, 5, 10, 11, 12, 13, 14, 15, 16, 17, 18, 19, 20, 21, 22, 23, 24, 25, 26, 27, 28, 29, 30, 31, 32] (by decide +kernel) (by decide +kernel)
set_option maxRecDepth 20000 in
theorem gX6_tenthsIn_X6_tenthsOf : GoodIn wsX6_tenthsIn (wsV RX6 118 RX6 yX6_tenthsOf wsX6_tenthsOf) := goodIn_app (goodIn_of _ (by decide +kernel)) ggX6_tenthsIn_X6_tenthsOf
theorem dX6_tenthsIn_0 : decode cX6_tenthsIn 0 = .ok (.aload_n 0, 1) := by decide +kernel
theorem dX6_tenthsIn_1 : decode cX6_tenthsIn 1 = .ok (.getfield 16, 3) := by decide +kernel
theorem dX6_tenthsIn_4 : decode cX6_tenthsIn 4 = .ok (.iconst 4, 1) := by decide +kernel
theorem dX6_tenthsIn_5 : decode cX6_tenthsIn 5 = .ok (.iload_n 1, 1) := by decide +kernel
theorem dX6_tenthsIn_6 : decode cX6_tenthsIn 6 = .ok (.imul, 1) := by decide +kernel
theorem dX6_tenthsIn_7 : decode cX6_tenthsIn 7 = .ok (.iconst 1, 1) := by decide +kernel
theorem dX6_tenthsIn_8 : decode cX6_tenthsIn 8 = .ok (.iadd, 1) := by decide +kernel
theorem dX6_tenthsIn_9 : decode cX6_tenthsIn 9 = .ok (.iaload, 1) := by decide +kernel
theorem dX6_tenthsIn_10 : decode cX6_tenthsIn 10 = .ok (.iconst (-1), 1) := by decide +kernel
theorem dX6_tenthsIn_11 : decode cX6_tenthsIn 11 = .ok (.if_icmp .ne 7, 3) := by decide +kernel
theorem dX6_tenthsIn_14 : decode cX6_tenthsIn 14 = .ok (.iconst (-1), 1) := by decide +kernel
theorem dX6_tenthsIn_15 : decode cX6_tenthsIn 15 = .ok (.goto 25, 3) := by decide +kernel
theorem dX6_tenthsIn_18 : decode cX6_tenthsIn 18 = .ok (.aload_n 0, 1) := by decide +kernel
theorem dX6_tenthsIn_19 : decode cX6_tenthsIn 19 = .ok (.aload_n 0, 1) := by decide +kernel
theorem dX6_tenthsIn_20 : decode cX6_tenthsIn 20 = .ok (.getfield 16, 3) := by decide +kernel
theorem dX6_tenthsIn_23 : decode cX6_tenthsIn 23 = .ok (.iconst 4, 1) := by decide +kernel
theorem dX6_tenthsIn_24 : decode cX6_tenthsIn 24 = .ok (.iload_n 1, 1) := by decide +kernel
theorem dX6_tenthsIn_25 : decode cX6_tenthsIn 25 = .ok (.imul, 1) := by decide +kernel
theorem dX6_tenthsIn_26 : decode cX6_tenthsIn 26 = .ok (.iconst 1, 1) := by decide +kernel
theorem dX6_tenthsIn_27 : decode cX6_tenthsIn 27 = .ok (.iadd, 1) := by decide +kernel
theorem dX6_tenthsIn_28 : decode cX6_tenthsIn 28 = .ok (.iaload, 1) := by decide +kernel
theorem dX6_tenthsIn_29 : decode cX6_tenthsIn 29 = .ok (.aload_n 0, 1) := by decide +kernel
theorem dX6_tenthsIn_30 : decode cX6_tenthsIn 30 = .ok (.getfield 16, 3) := by decide +kernel
theorem dX6_tenthsIn_33 : decode cX6_tenthsIn 33 = .ok (.iconst 4, 1) := by decide +kernel
theorem dX6_tenthsIn_34 : decode cX6_tenthsIn 34 = .ok (.iload_n 1, 1) := by decide +kernel
theorem dX6_tenthsIn_35 : decode cX6_tenthsIn 35 = .ok (.imul, 1) := by decide +kernel
theorem dX6_tenthsIn_36 : decode cX6_tenthsIn 36 = .ok (.iaload, 1) := by decide +kernel
theorem dX6_tenthsIn_37 : decode cX6_tenthsIn 37 = .ok (.invokevirtual 118, 3) := by decide +kernel
theorem dX6_tenthsIn_40 : decode cX6_tenthsIn 40 = .ok (.ireturn, 1) := by decide +kernel
set_option maxRecDepth 20000 in
theorem ggX6_tellHole_X6_in : GoodIn wsX6_tellHole wsX6_in := goodIn_r _ [6] (by decide +kernel) (by decide +kernel)
set_option maxRecDepth 20000 in
theorem gX6_tellHole_X6_in : GoodIn wsX6_tellHole (va_wsS RX6 46 yX6_in wsX6_in) := goodIn_app (goodIn_of _ (by decide +kernel)) ggX6_tellHole_X6_in
set_option maxRecDepth 20000 in
theorem ggX6_tellHole_X6_tenthsIn : GoodIn wsX6_tellHole wsX6_tenthsIn := goodIn_r _ [10, 2, 11, 12, 13, 5, 14, 15, 16, 17, 18, 19, 20, 21, 22, 23, 24, 25, 26, 27, 28, 29, 30, 31, 32, 33, 34, 35, 36, 37, 38, 39, 40] (by decide +kernel) (by decide +kernel)
set_option maxRecDepth 20000 in
theorem gX6_tellHole_X6_tenthsIn : GoodIn wsX6_tellHole (wsV RX6 123 RX6 yX6_tenthsIn wsX6_tenthsIn) := goodIn_app (goodIn_of _ (by decide +kernel)) ggX6_tellHole_X6_tenthsIn
theorem dX6_tellHole_0 : decode cX6_tellHole 0 = .ok (.iload_n 2, 1) := by decide +kernel
theorem dX6_tellHole_1 : decode cX6_tellHole 1 = .ok (.i2l, 1) := by decide +kernel
theorem dX6_tellHole_2 : decode cX6_tellHole 2 = .ok (.lconst 0, 1) := by decide +kernel
theorem dX6_tellHole_3 : decode cX6_tellHole 3 = .ok (.ldc2_w 121, 3) := by decide +kernel
theorem dX6_tellHole_6 : decode cX6_tellHole 6 = .ok (.invokestatic 46, 3) := by decide +kernel
theorem dX6_tellHole_9 : decode cX6_tellHole 9 = .ok (.ifCond .eq 16, 3) := by decide +kernel
theorem dX6_tellHole_12 : decode cX6_tellHole 12 = .ok (.aload_n 0, 1) := by decide +kernel
theorem dX6_tellHole_13 : decode cX6_tellHole 13 = .ok (.getfield 16, 3) := by decide +kernel
theorem dX6_tellHole_16 : decode cX6_tellHole 16 = .ok (.iconst 4, 1) := by decide +kernel
theorem dX6_tellHole_17 : decode cX6_tellHole 17 = .ok (.iload_n 1, 1) := by decide +kernel
theorem dX6_tellHole_18 : decode cX6_tellHole 18 = .ok (.imul, 1) := by decide +kernel
theorem dX6_tellHole_19 : decode cX6_tellHole 19 = .ok (.iload_n 2, 1) := by decide +kernel
theorem dX6_tellHole_20 : decode cX6_tellHole 20 = .ok (.iadd, 1) := by decide +kernel
theorem dX6_tellHole_21 : decode cX6_tellHole 21 = .ok (.iaload, 1) := by decide +kernel
theorem dX6_tellHole_22 : decode cX6_tellHole 22 = .ok (.goto 18, 3) := by decide +kernel
theorem dX6_tellHole_25 : decode cX6_tellHole 25 = .ok (.iload_n 2, 1) := by decide +kernel
theorem dX6_tellHole_26 : decode cX6_tellHole 26 = .ok (.iconst 4, 1) := by decide +kernel
theorem dX6_tellHole_27 : decode cX6_tellHole 27 = .ok (.if_icmp .ne 11, 3) := by decide +kernel
theorem dX6_tellHole_30 : decode cX6_tellHole 30 = .ok (.aload_n 0, 1) := by decide +kernel
theorem dX6_tellHole_31 : decode cX6_tellHole 31 = .ok (.iload_n 1, 1) := by decide +kernel
theorem dX6_tellHole_32 : decode cX6_tellHole 32 = .ok (.invokevirtual 123, 3) := by decide +kernel
theorem dX6_tellHole_35 : decode cX6_tellHole 35 = .ok (.goto 5, 3) := by decide +kernel
theorem dX6_tellHole_38 : decode cX6_tellHole 38 = .ok (.bipush (-102), 2) := by decide +kernel
theorem dX6_tellHole_40 : decode cX6_tellHole 40 = .ok (.ireturn, 1) := by decide +kernel
set_option maxRecDepth 20000 in
theorem ggX6_hole_X6_isHole : GoodIn wsX6_hole wsX6_isHole := goodIn_r _ [5, 6, 7, 8, 4, 9, 28, 29, 30, 31, 32, 33, 34, 35, 36, 37, 38, 39, 40, 41, 42, 43, 44, 45, 46, 47, 48, 49] (by decide +kernel) (by decide +kernel)
set_option maxRecDepth 20000 in
theorem gX6_hole_X6_isHole : GoodIn wsX6_hole (wsV RX6 126 RX6 yX6_isHole wsX6_isHole) := goodIn_app (goodIn_of _ (by decide +kernel)) ggX6_hole_X6_isHole
set_option maxRecDepth 20000 in
theorem ggX6_hole_X6_tellHole : GoodIn wsX6_hole wsX6_tellHole := goodIn_r _ [13, 14, 15, 7, 8, 4, 9, 16, 17, 18, 19, 20, 21, 22, 23, 24, 25, 26, 27, 28, 29, 30, 31, 32, 33, 34, 35, 36, 37, 38, 39, 40, 41, 42, 43, 44, 45, 46, 47, 48, 49] (by decide +kernel) (by decide +kernel)
set_option maxRecDepth 20000 in
theorem gX6_hole_X6_tellHole : GoodIn wsX6_hole (wsV RX6 129 RX6 yX6_tellHole wsX6_tellHole) := goodIn_app (goodIn_of _ (by decide +kernel)) ggX6_hole_X6_tellHole
theorem dX6_hole_0 : decode cX6_hole 0 = .ok (.aload_n 0, 1) := by decide +kernel
theorem dX6_hole_1 : decode cX6_hole 1 = .ok (.iload_n 1, 1) := by decide +kernel
theorem dX6_hole_2 : decode cX6_hole 2 = .ok (.invokevirtual 126, 3) := by decide +kernel
theorem dX6_hole_5 : decode cX6_hole 5 = .ok (.ifCond .eq 12, 3) := by decide +kernel
theorem dX6_hole_8 : decode cX6_hole 8 = .ok (.aload_n 0, 1) := by decide +kernel
theorem dX6_hole_9 : decode cX6_hole 9 = .ok (.iload_n 1, 1) := by decide +kernel
theorem dX6_hole_10 : decode cX6_hole 10 = .ok (.iload_n 2, 1) := by decide +kernel
theorem dX6_hole_11 : decode cX6_hole 11 = .ok (.invokevirtual 129, 3) := by decide +kernel
theorem dX6_hole_14 : decode cX6_hole 14 = .ok (.goto 5, 3) := by decide +kernel
theorem dX6_hole_17 : decode cX6_hole 17 = .ok (.bipush (-101), 2) := by decide +kernel
theorem dX6_hole_19 : decode cX6_hole 19 = .ok (.ireturn, 1) := by decide +kernel
set_option maxRecDepth 20000 in
theorem ggX6_let_X6_isHole : GoodIn wsX6_let wsX6_isHole := goodIn_r _ [6, 7, 8, 9, 5, 10, 23, 24, 25, 26, 27, 28, 29, 30, 31, 32, 33, 34, 35, 36, 37, 38, 39, 40, 41, 42, 43, 44] (by decide +kernel) (by decide +kernel)
set_option maxRecDepth 20000 in
theorem gX6_let_X6_isHole : GoodIn wsX6_let (wsV RX6 126 RX6 yX6_isHole wsX6_isHole) := goodIn_app (goodIn_of _ (by decide +kernel)) ggX6_let_X6_isHole
set_option maxRecDepth 20000 in
theorem ggX6_let_X6_isKeeper : GoodIn wsX6_let wsX6_isKeeper := goodIn_r _ [14, 15, 8, 9, 5, 10, 23, 24, 25, 26, 27, 28, 29, 30, 31, 32, 33, 34, 35, 36, 37, 38, 39, 40, 41, 42, 43, 44] (by decide +kernel) (by decide +kernel)
set_option maxRecDepth 20000 in
theorem gX6_let_X6_isKeeper : GoodIn wsX6_let (wsV RX6 107 RX6 yX6_isKeeper wsX6_isKeeper) := goodIn_app (goodIn_of _ (by decide +kernel)) ggX6_let_X6_isKeeper
set_option maxRecDepth 20000 in
theorem ggX6_let_X6_setOf : GoodIn wsX6_let wsX6_setOf := goodIn_r _ [19, 7, 1, 23, 24, 25, 26, 27, 28, 29, 30, 31, 32, 33, 34, 35, 36, 37, 38, 39, 40, 41, 42, 43, 44] (by decide +kernel) (by decide +kernel)
set_option maxRecDepth 20000 in
theorem gX6_let_X6_setOf : GoodIn wsX6_let (wsV RX6 95 RX6 yX6_setOf wsX6_setOf) := goodIn_app (goodIn_of _ (by decide +kernel)) ggX6_let_X6_setOf
set_option maxRecDepth 20000 in
theorem ggX6_let_X6_ones : GoodIn wsX6_let wsX6_ones := goodIn_r _ [22] (by decide +kernel) (by decide +kernel)
set_option maxRecDepth 20000 in
theorem gX6_let_X6_ones : GoodIn wsX6_let (va_wsS RX6 132 yX6_ones wsX6_ones) := goodIn_app (goodIn_of _ (by decide +kernel)) ggX6_let_X6_ones
theorem dX6_let_0 : decode cX6_let 0 = .ok (.aload_n 0, 1) := by decide +kernel
theorem dX6_let_1 : decode cX6_let 1 = .ok (.iload_n 1, 1) := by decide +kernel
theorem dX6_let_2 : decode cX6_let 2 = .ok (.invokevirtual 126, 3) := by decide +kernel
theorem dX6_let_5 : decode cX6_let 5 = .ok (.ifCond .eq 11, 3) := by decide +kernel
theorem dX6_let_8 : decode cX6_let 8 = .ok (.aload_n 0, 1) := by decide +kernel
theorem dX6_let_9 : decode cX6_let 9 = .ok (.iload_n 2, 1) := by decide +kernel
theorem dX6_let_10 : decode cX6_let 10 = .ok (.invokevirtual 107, 3) := by decide +kernel
theorem dX6_let_13 : decode cX6_let 13 = .ok (.ifCond .ne 6, 3) := by decide +kernel
theorem dX6_let_16 : decode cX6_let 16 = .ok (.bipush (-101), 2) := by decide +kernel
theorem dX6_let_18 : decode cX6_let 18 = .ok (.ireturn, 1) := by decide +kernel
theorem dX6_let_19 : decode cX6_let 19 = .ok (.aload_n 0, 1) := by decide +kernel
theorem dX6_let_20 : decode cX6_let 20 = .ok (.getfield 16, 3) := by decide +kernel
theorem dX6_let_23 : decode cX6_let 23 = .ok (.iconst 4, 1) := by decide +kernel
theorem dX6_let_24 : decode cX6_let 24 = .ok (.iload_n 1, 1) := by decide +kernel
theorem dX6_let_25 : decode cX6_let 25 = .ok (.imul, 1) := by decide +kernel
theorem dX6_let_26 : decode cX6_let 26 = .ok (.iconst 2, 1) := by decide +kernel
theorem dX6_let_27 : decode cX6_let 27 = .ok (.iadd, 1) := by decide +kernel
theorem dX6_let_28 : decode cX6_let 28 = .ok (.iaload, 1) := by decide +kernel
theorem dX6_let_29 : decode cX6_let 29 = .ok (.ifCond .ne 15, 3) := by decide +kernel
theorem dX6_let_32 : decode cX6_let 32 = .ok (.aload_n 0, 1) := by decide +kernel
theorem dX6_let_33 : decode cX6_let 33 = .ok (.iload_n 2, 1) := by decide +kernel
theorem dX6_let_34 : decode cX6_let 34 = .ok (.invokevirtual 95, 3) := by decide +kernel
theorem dX6_let_37 : decode cX6_let 37 = .ok (.invokestatic 132, 3) := by decide +kernel
theorem dX6_let_40 : decode cX6_let 40 = .ok (.iconst 2, 1) := by decide +kernel
theorem dX6_let_41 : decode cX6_let 41 = .ok (.if_icmp .ne 6, 3) := by decide +kernel
theorem dX6_let_44 : decode cX6_let 44 = .ok (.bipush (-103), 2) := by decide +kernel
theorem dX6_let_46 : decode cX6_let 46 = .ok (.ireturn, 1) := by decide +kernel
theorem dX6_let_47 : decode cX6_let 47 = .ok (.aload_n 0, 1) := by decide +kernel
theorem dX6_let_48 : decode cX6_let 48 = .ok (.getfield 16, 3) := by decide +kernel
theorem dX6_let_51 : decode cX6_let 51 = .ok (.iconst 4, 1) := by decide +kernel
theorem dX6_let_52 : decode cX6_let 52 = .ok (.iload_n 1, 1) := by decide +kernel
theorem dX6_let_53 : decode cX6_let 53 = .ok (.imul, 1) := by decide +kernel
theorem dX6_let_54 : decode cX6_let 54 = .ok (.iconst 1, 1) := by decide +kernel
theorem dX6_let_55 : decode cX6_let 55 = .ok (.iadd, 1) := by decide +kernel
theorem dX6_let_56 : decode cX6_let 56 = .ok (.iload_n 2, 1) := by decide +kernel
theorem dX6_let_57 : decode cX6_let 57 = .ok (.iastore, 1) := by decide +kernel
theorem dX6_let_58 : decode cX6_let 58 = .ok (.aload_n 0, 1) := by decide +kernel
theorem dX6_let_59 : decode cX6_let 59 = .ok (.getfield 16, 3) := by decide +kernel
theorem dX6_let_62 : decode cX6_let 62 = .ok (.iconst 4, 1) := by decide +kernel
theorem dX6_let_63 : decode cX6_let 63 = .ok (.iload_n 1, 1) := by decide +kernel
theorem dX6_let_64 : decode cX6_let 64 = .ok (.imul, 1) := by decide +kernel
theorem dX6_let_65 : decode cX6_let 65 = .ok (.iconst 2, 1) := by decide +kernel
theorem dX6_let_66 : decode cX6_let 66 = .ok (.iadd, 1) := by decide +kernel
theorem dX6_let_67 : decode cX6_let 67 = .ok (.iconst 1, 1) := by decide +kernel
theorem dX6_let_68 : decode cX6_let 68 = .ok (.iastore, 1) := by decide +kernel
theorem dX6_let_69 : decode cX6_let 69 = .ok (.aload_n 0, 1) := by decide +kernel
theorem dX6_let_70 : decode cX6_let 70 = .ok (.iload_n 2, 1) := by decide +kernel
theorem dX6_let_71 : decode cX6_let 71 = .ok (.invokevirtual 95, 3) := by decide +kernel
theorem dX6_let_74 : decode cX6_let 74 = .ok (.invokestatic 132, 3) := by decide +kernel
theorem dX6_let_77 : decode cX6_let 77 = .ok (.ireturn, 1) := by decide +kernel
set_option maxRecDepth 20000 in
theorem ggX6_leave_X6_isHole : GoodIn wsX6_leave wsX6_isHole := goodIn_r _ [6, 7, 8, 9, 5, 10, 15, 16, 17, 18, 19, 20, 21, 22, 23, 24, 25, 26, 27, 28, 29, 30, 31, 32, 33, 34, 35, 36] (by decide +kernel) (by decide +kernel)
set_option maxRecDepth 20000 in
theorem gX6_leave_X6_isHole : GoodIn wsX6_leave (wsV RX6 126 RX6 yX6_isHole wsX6_isHole) := goodIn_app (goodIn_of _ (by decide +kernel)) ggX6_leave_X6_isHole
set_option maxRecDepth 20000 in
theorem ggX6_leave_X6_empty : GoodIn wsX6_leave wsX6_empty := goodIn_r _ [14, 1, 15, 16, 17, 18, 19, 20, 21, 22, 23, 24, 25, 26, 27, 28, 29, 30, 31, 32, 33, 34, 35, 36] (by decide +kernel) (by decide +kernel)
set_option maxRecDepth 20000 in
theorem gX6_leave_X6_empty : GoodIn wsX6_leave (wsV RX6 78 RX6 yX6_empty wsX6_empty) := goodIn_app (goodIn_of _ (by decide +kernel)) ggX6_leave_X6_empty
theorem dX6_leave_0 : decode cX6_leave 0 = .ok (.aload_n 0, 1) := by decide +kernel
theorem dX6_leave_1 : decode cX6_leave 1 = .ok (.iload_n 1, 1) := by decide +kernel
theorem dX6_leave_2 : decode cX6_leave 2 = .ok (.invokevirtual 126, 3) := by decide +kernel
theorem dX6_leave_5 : decode cX6_leave 5 = .ok (.ifCond .ne 6, 3) := by decide +kernel
theorem dX6_leave_8 : decode cX6_leave 8 = .ok (.bipush (-101), 2) := by decide +kernel
theorem dX6_leave_10 : decode cX6_leave 10 = .ok (.ireturn, 1) := by decide +kernel
theorem dX6_leave_11 : decode cX6_leave 11 = .ok (.aload_n 0, 1) := by decide +kernel
theorem dX6_leave_12 : decode cX6_leave 12 = .ok (.getfield 16, 3) := by decide +kernel
theorem dX6_leave_15 : decode cX6_leave 15 = .ok (.iconst 4, 1) := by decide +kernel
theorem dX6_leave_16 : decode cX6_leave 16 = .ok (.iload_n 1, 1) := by decide +kernel
theorem dX6_leave_17 : decode cX6_leave 17 = .ok (.imul, 1) := by decide +kernel
theorem dX6_leave_18 : decode cX6_leave 18 = .ok (.iconst 1, 1) := by decide +kernel
theorem dX6_leave_19 : decode cX6_leave 19 = .ok (.iadd, 1) := by decide +kernel
theorem dX6_leave_20 : decode cX6_leave 20 = .ok (.iaload, 1) := by decide +kernel
theorem dX6_leave_21 : decode cX6_leave 21 = .ok (.iconst (-1), 1) := by decide +kernel
theorem dX6_leave_22 : decode cX6_leave 22 = .ok (.if_icmp .ne 6, 3) := by decide +kernel
theorem dX6_leave_25 : decode cX6_leave 25 = .ok (.bipush (-103), 2) := by decide +kernel
theorem dX6_leave_27 : decode cX6_leave 27 = .ok (.ireturn, 1) := by decide +kernel
theorem dX6_leave_28 : decode cX6_leave 28 = .ok (.aload_n 0, 1) := by decide +kernel
theorem dX6_leave_29 : decode cX6_leave 29 = .ok (.getfield 16, 3) := by decide +kernel
theorem dX6_leave_32 : decode cX6_leave 32 = .ok (.iconst 4, 1) := by decide +kernel
theorem dX6_leave_33 : decode cX6_leave 33 = .ok (.iload_n 1, 1) := by decide +kernel
theorem dX6_leave_34 : decode cX6_leave 34 = .ok (.imul, 1) := by decide +kernel
theorem dX6_leave_35 : decode cX6_leave 35 = .ok (.iconst 3, 1) := by decide +kernel
theorem dX6_leave_36 : decode cX6_leave 36 = .ok (.iadd, 1) := by decide +kernel
theorem dX6_leave_37 : decode cX6_leave 37 = .ok (.iaload, 1) := by decide +kernel
theorem dX6_leave_38 : decode cX6_leave 38 = .ok (.istore_n 2, 1) := by decide +kernel
theorem dX6_leave_39 : decode cX6_leave 39 = .ok (.aload_n 0, 1) := by decide +kernel
theorem dX6_leave_40 : decode cX6_leave 40 = .ok (.iload_n 1, 1) := by decide +kernel
theorem dX6_leave_41 : decode cX6_leave 41 = .ok (.invokevirtual 78, 3) := by decide +kernel
theorem dX6_leave_44 : decode cX6_leave 44 = .ok (.iload_n 2, 1) := by decide +kernel
theorem dX6_leave_45 : decode cX6_leave 45 = .ok (.ireturn, 1) := by decide +kernel
theorem dX6_keepVow_0 : decode cX6_keepVow 0 = .ok (.aload_n 0, 1) := by decide +kernel
theorem dX6_keepVow_1 : decode cX6_keepVow 1 = .ok (.getfield 16, 3) := by decide +kernel
theorem dX6_keepVow_4 : decode cX6_keepVow 4 = .ok (.iconst 4, 1) := by decide +kernel
theorem dX6_keepVow_5 : decode cX6_keepVow 5 = .ok (.iload_n 1, 1) := by decide +kernel
theorem dX6_keepVow_6 : decode cX6_keepVow 6 = .ok (.imul, 1) := by decide +kernel
theorem dX6_keepVow_7 : decode cX6_keepVow 7 = .ok (.iconst 3, 1) := by decide +kernel
theorem dX6_keepVow_8 : decode cX6_keepVow 8 = .ok (.iadd, 1) := by decide +kernel
theorem dX6_keepVow_9 : decode cX6_keepVow 9 = .ok (.dup2, 1) := by decide +kernel
theorem dX6_keepVow_10 : decode cX6_keepVow 10 = .ok (.iaload, 1) := by decide +kernel
theorem dX6_keepVow_11 : decode cX6_keepVow 11 = .ok (.aload_n 0, 1) := by decide +kernel
theorem dX6_keepVow_12 : decode cX6_keepVow 12 = .ok (.getfield 13, 3) := by decide +kernel
theorem dX6_keepVow_15 : decode cX6_keepVow 15 = .ok (.iconst 3, 1) := by decide +kernel
theorem dX6_keepVow_16 : decode cX6_keepVow 16 = .ok (.aload_n 0, 1) := by decide +kernel
theorem dX6_keepVow_17 : decode cX6_keepVow 17 = .ok (.getfield 16, 3) := by decide +kernel
theorem dX6_keepVow_20 : decode cX6_keepVow 20 = .ok (.iconst 4, 1) := by decide +kernel
theorem dX6_keepVow_21 : decode cX6_keepVow 21 = .ok (.iload_n 1, 1) := by decide +kernel
theorem dX6_keepVow_22 : decode cX6_keepVow 22 = .ok (.imul, 1) := by decide +kernel
theorem dX6_keepVow_23 : decode cX6_keepVow 23 = .ok (.iconst 1, 1) := by decide +kernel
theorem dX6_keepVow_24 : decode cX6_keepVow 24 = .ok (.iadd, 1) := by decide +kernel
theorem dX6_keepVow_25 : decode cX6_keepVow 25 = .ok (.iaload, 1) := by decide +kernel
theorem dX6_keepVow_26 : decode cX6_keepVow 26 = .ok (.imul, 1) := by decide +kernel
theorem dX6_keepVow_27 : decode cX6_keepVow 27 = .ok (.iaload, 1) := by decide +kernel
theorem dX6_keepVow_28 : decode cX6_keepVow 28 = .ok (.iconst 2, 1) := by decide +kernel
theorem dX6_keepVow_29 : decode cX6_keepVow 29 = .ok (.if_icmp .ne 7, 3) := by decide +kernel
theorem dX6_keepVow_32 : decode cX6_keepVow 32 = .ok (.iconst 0, 1) := by decide +kernel
theorem dX6_keepVow_33 : decode cX6_keepVow 33 = .ok (.goto 4, 3) := by decide +kernel
theorem dX6_keepVow_36 : decode cX6_keepVow 36 = .ok (.iconst 1, 1) := by decide +kernel
theorem dX6_keepVow_37 : decode cX6_keepVow 37 = .ok (.iadd, 1) := by decide +kernel
theorem dX6_keepVow_38 : decode cX6_keepVow 38 = .ok (.iastore, 1) := by decide +kernel
theorem dX6_keepVow_39 : decode cX6_keepVow 39 = .ok (.return_, 1) := by decide +kernel
set_option maxRecDepth 20000 in
theorem ggX6_year_X6_in : GoodIn wsX6_year wsX6_in := goodIn_r _ [8] (by decide +kernel) (by decide +kernel)
set_option maxRecDepth 20000 in
theorem gX6_year_X6_in : GoodIn wsX6_year (va_wsS RX6 46 yX6_in wsX6_in) := goodIn_app (goodIn_of _ (by decide +kernel)) ggX6_year_X6_in
set_option maxRecDepth 20000 in
theorem ggX6_year_X6_lacks : GoodIn wsX6_year wsX6_lacks := goodIn_r _ [12, 1, 21, 22, 23, 24, 25, 26, 27, 28, 29, 30, 31, 32, 33, 34, 35, 36, 37, 38, 39, 40, 41, 42] (by decide +kernel) (by decide +kernel)
set_option maxRecDepth 20000 in
theorem gX6_year_X6_lacks : GoodIn wsX6_year (wsV RX6 135 RX6 yX6_lacks wsX6_lacks) := goodIn_app (goodIn_of _ (by decide +kernel)) ggX6_year_X6_lacks
set_option maxRecDepth 20000 in
theorem ggX6_year_X6_keepVow : GoodIn wsX6_year wsX6_keepVow := goodIn_r _ [16, 3, 4, 21, 22, 23, 24, 25, 26, 27, 28, 29, 30, 31, 32, 33, 34, 35, 36, 37, 38, 39, 40, 41, 42] (by decide +kernel) (by decide +kernel)
set_option maxRecDepth 20000 in
theorem gX6_year_X6_keepVow : GoodIn wsX6_year (wsV RX6 139 RX6 yX6_keepVow wsX6_keepVow) := goodIn_app (goodIn_of _ (by decide +kernel)) ggX6_year_X6_keepVow
set_option maxRecDepth 20000 in
theorem ggX6_year_X6_empty : GoodIn wsX6_year wsX6_empty := goodIn_r _ [20, 3, 21, 22, 23, 24, 25, 26, 27, 28, 29, 30, 31, 32, 33, 34, 35, 36, 37, 38, 39, 40, 41, 42] (by decide +kernel) (by decide +kernel)
set_option maxRecDepth 20000 in
theorem gX6_year_X6_empty : GoodIn wsX6_year (wsV RX6 78 RX6 yX6_empty wsX6_empty) := goodIn_app (goodIn_of _ (by decide +kernel)) ggX6_year_X6_empty
theorem dX6_year_0 : decode cX6_year 0 = .ok (.iload_n 1, 1) := by decide +kernel
theorem dX6_year_1 : decode cX6_year 1 = .ok (.i2l, 1) := by decide +kernel
theorem dX6_year_2 : decode cX6_year 2 = .ok (.lconst 0, 1) := by decide +kernel
theorem dX6_year_3 : decode cX6_year 3 = .ok (.iconst 1, 1) := by decide +kernel
theorem dX6_year_4 : decode cX6_year 4 = .ok (.aload_n 0, 1) := by decide +kernel
theorem dX6_year_5 : decode cX6_year 5 = .ok (.getfield 75, 3) := by decide +kernel
theorem dX6_year_8 : decode cX6_year 8 = .ok (.ishl, 1) := by decide +kernel
theorem dX6_year_9 : decode cX6_year 9 = .ok (.iconst 1, 1) := by decide +kernel
theorem dX6_year_10 : decode cX6_year 10 = .ok (.isub, 1) := by decide +kernel
theorem dX6_year_11 : decode cX6_year 11 = .ok (.i2l, 1) := by decide +kernel
theorem dX6_year_12 : decode cX6_year 12 = .ok (.invokestatic 46, 3) := by decide +kernel
theorem dX6_year_15 : decode cX6_year 15 = .ok (.ifCond .ne 6, 3) := by decide +kernel
theorem dX6_year_18 : decode cX6_year 18 = .ok (.bipush (-102), 2) := by decide +kernel
theorem dX6_year_20 : decode cX6_year 20 = .ok (.ireturn, 1) := by decide +kernel
theorem dX6_year_21 : decode cX6_year 21 = .ok (.aload_n 0, 1) := by decide +kernel
theorem dX6_year_22 : decode cX6_year 22 = .ok (.invokevirtual 135, 3) := by decide +kernel
theorem dX6_year_25 : decode cX6_year 25 = .ok (.ifCond .eq 6, 3) := by decide +kernel
theorem dX6_year_28 : decode cX6_year 28 = .ok (.bipush (-103), 2) := by decide +kernel
theorem dX6_year_30 : decode cX6_year 30 = .ok (.ireturn, 1) := by decide +kernel
theorem dX6_year_31 : decode cX6_year 31 = .ok (.aload_n 0, 1) := by decide +kernel
theorem dX6_year_32 : decode cX6_year 32 = .ok (.getfield 82, 3) := by decide +kernel
theorem dX6_year_35 : decode cX6_year 35 = .ok (.bipush 99, 2) := by decide +kernel
theorem dX6_year_37 : decode cX6_year 37 = .ok (.if_icmp .ne 6, 3) := by decide +kernel
theorem dX6_year_40 : decode cX6_year 40 = .ok (.bipush (-104), 2) := by decide +kernel
theorem dX6_year_42 : decode cX6_year 42 = .ok (.ireturn, 1) := by decide +kernel
theorem dX6_year_43 : decode cX6_year 43 = .ok (.aload_n 0, 1) := by decide +kernel
theorem dX6_year_44 : decode cX6_year 44 = .ok (.dup, 1) := by decide +kernel
theorem dX6_year_45 : decode cX6_year 45 = .ok (.getfield 82, 3) := by decide +kernel
theorem dX6_year_48 : decode cX6_year 48 = .ok (.iconst 1, 1) := by decide +kernel
theorem dX6_year_49 : decode cX6_year 49 = .ok (.iadd, 1) := by decide +kernel
theorem dX6_year_50 : decode cX6_year 50 = .ok (.putfield 82, 3) := by decide +kernel
theorem dX6_year_53 : decode cX6_year 53 = .ok (.iconst 0, 1) := by decide +kernel
theorem dX6_year_54 : decode cX6_year 54 = .ok (.istore_n 2, 1) := by decide +kernel
theorem dX6_year_55 : decode cX6_year 55 = .ok (.iconst 0, 1) := by decide +kernel
theorem dX6_year_56 : decode cX6_year 56 = .ok (.istore_n 3, 1) := by decide +kernel
theorem dX6_year_57 : decode cX6_year 57 = .ok (.iload_n 3, 1) := by decide +kernel
theorem dX6_year_58 : decode cX6_year 58 = .ok (.aload_n 0, 1) := by decide +kernel
theorem dX6_year_59 : decode cX6_year 59 = .ok (.getfield 75, 3) := by decide +kernel
theorem dX6_year_62 : decode cX6_year 62 = .ok (.if_icmp .ge 84, 3) := by decide +kernel
theorem dX6_year_65 : decode cX6_year 65 = .ok (.aload_n 0, 1) := by decide +kernel
theorem dX6_year_66 : decode cX6_year 66 = .ok (.getfield 16, 3) := by decide +kernel
theorem dX6_year_69 : decode cX6_year 69 = .ok (.iconst 4, 1) := by decide +kernel
theorem dX6_year_70 : decode cX6_year 70 = .ok (.iload_n 3, 1) := by decide +kernel
theorem dX6_year_71 : decode cX6_year 71 = .ok (.imul, 1) := by decide +kernel
theorem dX6_year_72 : decode cX6_year 72 = .ok (.iconst 1, 1) := by decide +kernel
theorem dX6_year_73 : decode cX6_year 73 = .ok (.iadd, 1) := by decide +kernel
theorem dX6_year_74 : decode cX6_year 74 = .ok (.iaload, 1) := by decide +kernel
theorem dX6_year_75 : decode cX6_year 75 = .ok (.istore 4, 2) := by decide +kernel
theorem dX6_year_77 : decode cX6_year 77 = .ok (.iload 4, 2) := by decide +kernel
theorem dX6_year_79 : decode cX6_year 79 = .ok (.iconst (-1), 1) := by decide +kernel
theorem dX6_year_80 : decode cX6_year 80 = .ok (.if_icmp .eq 23, 3) := by decide +kernel
theorem dX6_year_83 : decode cX6_year 83 = .ok (.iload_n 1, 1) := by decide +kernel
theorem dX6_year_84 : decode cX6_year 84 = .ok (.iload_n 3, 1) := by decide +kernel
theorem dX6_year_85 : decode cX6_year 85 = .ok (.ishr, 1) := by decide +kernel
theorem dX6_year_86 : decode cX6_year 86 = .ok (.iconst 1, 1) := by decide +kernel
theorem dX6_year_87 : decode cX6_year 87 = .ok (.iand, 1) := by decide +kernel
theorem dX6_year_88 : decode cX6_year 88 = .ok (.iconst 1, 1) := by decide +kernel
theorem dX6_year_89 : decode cX6_year 89 = .ok (.if_icmp .ne 14, 3) := by decide +kernel
theorem dX6_year_92 : decode cX6_year 92 = .ok (.aload_n 0, 1) := by decide +kernel
theorem dX6_year_93 : decode cX6_year 93 = .ok (.iload_n 3, 1) := by decide +kernel
theorem dX6_year_94 : decode cX6_year 94 = .ok (.invokevirtual 139, 3) := by decide +kernel
theorem dX6_year_97 : decode cX6_year 97 = .ok (.iinc 2 1, 3) := by decide +kernel
theorem dX6_year_100 : decode cX6_year 100 = .ok (.goto 40, 3) := by decide +kernel
theorem dX6_year_103 : decode cX6_year 103 = .ok (.iload 4, 2) := by decide +kernel
theorem dX6_year_105 : decode cX6_year 105 = .ok (.iconst (-1), 1) := by decide +kernel
theorem dX6_year_106 : decode cX6_year 106 = .ok (.if_icmp .eq 34, 3) := by decide +kernel
theorem dX6_year_109 : decode cX6_year 109 = .ok (.aload_n 0, 1) := by decide +kernel
theorem dX6_year_110 : decode cX6_year 110 = .ok (.getfield 13, 3) := by decide +kernel
theorem dX6_year_113 : decode cX6_year 113 = .ok (.iconst 3, 1) := by decide +kernel
theorem dX6_year_114 : decode cX6_year 114 = .ok (.iload 4, 2) := by decide +kernel
theorem dX6_year_116 : decode cX6_year 116 = .ok (.imul, 1) := by decide +kernel
theorem dX6_year_117 : decode cX6_year 117 = .ok (.iconst 2, 1) := by decide +kernel
theorem dX6_year_118 : decode cX6_year 118 = .ok (.iadd, 1) := by decide +kernel
theorem dX6_year_119 : decode cX6_year 119 = .ok (.dup2, 1) := by decide +kernel
theorem dX6_year_120 : decode cX6_year 120 = .ok (.iaload, 1) := by decide +kernel
theorem dX6_year_121 : decode cX6_year 121 = .ok (.iconst 1, 1) := by decide +kernel
theorem dX6_year_122 : decode cX6_year 122 = .ok (.iadd, 1) := by decide +kernel
theorem dX6_year_123 : decode cX6_year 123 = .ok (.iastore, 1) := by decide +kernel
theorem dX6_year_124 : decode cX6_year 124 = .ok (.aload_n 0, 1) := by decide +kernel
theorem dX6_year_125 : decode cX6_year 125 = .ok (.iload_n 3, 1) := by decide +kernel
theorem dX6_year_126 : decode cX6_year 126 = .ok (.invokevirtual 78, 3) := by decide +kernel
theorem dX6_year_129 : decode cX6_year 129 = .ok (.aload_n 0, 1) := by decide +kernel
theorem dX6_year_130 : decode cX6_year 130 = .ok (.getfield 16, 3) := by decide +kernel
theorem dX6_year_133 : decode cX6_year 133 = .ok (.iconst 4, 1) := by decide +kernel
theorem dX6_year_134 : decode cX6_year 134 = .ok (.iload_n 3, 1) := by decide +kernel
theorem dX6_year_135 : decode cX6_year 135 = .ok (.imul, 1) := by decide +kernel
theorem dX6_year_136 : decode cX6_year 136 = .ok (.iconst 2, 1) := by decide +kernel
theorem dX6_year_137 : decode cX6_year 137 = .ok (.iadd, 1) := by decide +kernel
theorem dX6_year_138 : decode cX6_year 138 = .ok (.iconst 2, 1) := by decide +kernel
theorem dX6_year_139 : decode cX6_year 139 = .ok (.iastore, 1) := by decide +kernel
theorem dX6_year_140 : decode cX6_year 140 = .ok (.iinc 3 1, 3) := by decide +kernel
theorem dX6_year_143 : decode cX6_year 143 = .ok (.goto (-86), 3) := by decide +kernel
theorem dX6_year_146 : decode cX6_year 146 = .ok (.iload_n 2, 1) := by decide +kernel
theorem dX6_year_147 : decode cX6_year 147 = .ok (.ireturn, 1) := by decide +kernel
set_option maxRecDepth 20000 in
theorem ggX6_forgive_X6_empty : GoodIn wsX6_forgive wsX6_empty := goodIn_r _ [7, 2, 8, 9, 10, 11, 12, 13, 14, 15, 16, 17, 18, 19, 20, 21, 22, 23, 24, 25, 26, 27, 28, 29] (by decide +kernel) (by decide +kernel)
set_option maxRecDepth 20000 in
theorem gX6_forgive_X6_empty : GoodIn wsX6_forgive (wsV RX6 78 RX6 yX6_empty wsX6_empty) := goodIn_app (goodIn_of _ (by decide +kernel)) ggX6_forgive_X6_empty
theorem dX6_forgive_0 : decode cX6_forgive 0 = .ok (.iconst 0, 1) := by decide +kernel
theorem dX6_forgive_1 : decode cX6_forgive 1 = .ok (.istore_n 1, 1) := by decide +kernel
theorem dX6_forgive_2 : decode cX6_forgive 2 = .ok (.iconst 0, 1) := by decide +kernel
theorem dX6_forgive_3 : decode cX6_forgive 3 = .ok (.istore_n 2, 1) := by decide +kernel
theorem dX6_forgive_4 : decode cX6_forgive 4 = .ok (.iload_n 2, 1) := by decide +kernel
theorem dX6_forgive_5 : decode cX6_forgive 5 = .ok (.aload_n 0, 1) := by decide +kernel
theorem dX6_forgive_6 : decode cX6_forgive 6 = .ok (.getfield 75, 3) := by decide +kernel
theorem dX6_forgive_9 : decode cX6_forgive 9 = .ok (.if_icmp .ge 31, 3) := by decide +kernel
theorem dX6_forgive_12 : decode cX6_forgive 12 = .ok (.aload_n 0, 1) := by decide +kernel
theorem dX6_forgive_13 : decode cX6_forgive 13 = .ok (.getfield 16, 3) := by decide +kernel
theorem dX6_forgive_16 : decode cX6_forgive 16 = .ok (.iconst 4, 1) := by decide +kernel
theorem dX6_forgive_17 : decode cX6_forgive 17 = .ok (.iload_n 2, 1) := by decide +kernel
theorem dX6_forgive_18 : decode cX6_forgive 18 = .ok (.imul, 1) := by decide +kernel
theorem dX6_forgive_19 : decode cX6_forgive 19 = .ok (.iconst 2, 1) := by decide +kernel
theorem dX6_forgive_20 : decode cX6_forgive 20 = .ok (.iadd, 1) := by decide +kernel
theorem dX6_forgive_21 : decode cX6_forgive 21 = .ok (.iaload, 1) := by decide +kernel
theorem dX6_forgive_22 : decode cX6_forgive 22 = .ok (.iconst 2, 1) := by decide +kernel
theorem dX6_forgive_23 : decode cX6_forgive 23 = .ok (.if_icmp .ne 11, 3) := by decide +kernel
theorem dX6_forgive_26 : decode cX6_forgive 26 = .ok (.iinc 1 1, 3) := by decide +kernel
theorem dX6_forgive_29 : decode cX6_forgive 29 = .ok (.aload_n 0, 1) := by decide +kernel
theorem dX6_forgive_30 : decode cX6_forgive 30 = .ok (.iload_n 2, 1) := by decide +kernel
theorem dX6_forgive_31 : decode cX6_forgive 31 = .ok (.invokevirtual 78, 3) := by decide +kernel
theorem dX6_forgive_34 : decode cX6_forgive 34 = .ok (.iinc 2 1, 3) := by decide +kernel
theorem dX6_forgive_37 : decode cX6_forgive 37 = .ok (.goto (-33), 3) := by decide +kernel
theorem dX6_forgive_40 : decode cX6_forgive 40 = .ok (.iload_n 1, 1) := by decide +kernel
theorem dX6_forgive_41 : decode cX6_forgive 41 = .ok (.ireturn, 1) := by decide +kernel
set_option maxRecDepth 20000 in
theorem ggX6_oddsOf_X6_tenthsIn : GoodIn wsX6_oddsOf wsX6_tenthsIn := goodIn_r _ [8, 2, 9, 10, 11, 7, 12, 13, 14, 15, 16, 20, 21, 22, 23, 24, 25, 26, 27, 28, 29, 30, 31, 32, 33, 34, 35, 36, 37, 38, 39, 40, 41] (by decide +kernel) (by decide +kernel)
set_option maxRecDepth 20000 in
theorem gX6_oddsOf_X6_tenthsIn : GoodIn wsX6_oddsOf (wsV RX6 123 RX6 yX6_tenthsIn wsX6_tenthsIn) := goodIn_app (goodIn_of _ (by decide +kernel)) ggX6_oddsOf_X6_tenthsIn
set_option maxRecDepth 20000 in
theorem ggX6_oddsOf_X6_common : GoodIn wsX6_oddsOf wsX6_common := goodIn_r _ [19] (by decide +kernel) (by decide +kernel)
set_option maxRecDepth 20000 in
theorem gX6_oddsOf_X6_common : GoodIn wsX6_oddsOf (va_wsS RX6 144 yX6_common wsX6_common) := goodIn_app (goodIn_of _ (by decide +kernel)) ggX6_oddsOf_X6_common
theorem dX6_oddsOf_0 : decode cX6_oddsOf 0 = .ok (.lconst 1, 1) := by decide +kernel
theorem dX6_oddsOf_1 : decode cX6_oddsOf 1 = .ok (.lstore_n 3, 1) := by decide +kernel
theorem dX6_oddsOf_2 : decode cX6_oddsOf 2 = .ok (.lconst 1, 1) := by decide +kernel
theorem dX6_oddsOf_3 : decode cX6_oddsOf 3 = .ok (.lstore 5, 2) := by decide +kernel
theorem dX6_oddsOf_5 : decode cX6_oddsOf 5 = .ok (.iconst 0, 1) := by decide +kernel
theorem dX6_oddsOf_6 : decode cX6_oddsOf 6 = .ok (.istore 7, 2) := by decide +kernel
theorem dX6_oddsOf_8 : decode cX6_oddsOf 8 = .ok (.iload 7, 2) := by decide +kernel
theorem dX6_oddsOf_10 : decode cX6_oddsOf 10 = .ok (.aload_n 0, 1) := by decide +kernel
theorem dX6_oddsOf_11 : decode cX6_oddsOf 11 = .ok (.getfield 75, 3) := by decide +kernel
theorem dX6_oddsOf_14 : decode cX6_oddsOf 14 = .ok (.if_icmp .ge 57, 3) := by decide +kernel
theorem dX6_oddsOf_17 : decode cX6_oddsOf 17 = .ok (.iconst 0, 1) := by decide +kernel
theorem dX6_oddsOf_18 : decode cX6_oddsOf 18 = .ok (.istore 8, 2) := by decide +kernel
theorem dX6_oddsOf_20 : decode cX6_oddsOf 20 = .ok (.iload 8, 2) := by decide +kernel
theorem dX6_oddsOf_22 : decode cX6_oddsOf 22 = .ok (.iload_n 1, 1) := by decide +kernel
theorem dX6_oddsOf_23 : decode cX6_oddsOf 23 = .ok (.if_icmp .ge 42, 3) := by decide +kernel
theorem dX6_oddsOf_26 : decode cX6_oddsOf 26 = .ok (.aload_n 0, 1) := by decide +kernel
theorem dX6_oddsOf_27 : decode cX6_oddsOf 27 = .ok (.getfield 16, 3) := by decide +kernel
theorem dX6_oddsOf_30 : decode cX6_oddsOf 30 = .ok (.iconst 4, 1) := by decide +kernel
theorem dX6_oddsOf_31 : decode cX6_oddsOf 31 = .ok (.iload 7, 2) := by decide +kernel
theorem dX6_oddsOf_33 : decode cX6_oddsOf 33 = .ok (.imul, 1) := by decide +kernel
theorem dX6_oddsOf_34 : decode cX6_oddsOf 34 = .ok (.iconst 1, 1) := by decide +kernel
theorem dX6_oddsOf_35 : decode cX6_oddsOf 35 = .ok (.iadd, 1) := by decide +kernel
theorem dX6_oddsOf_36 : decode cX6_oddsOf 36 = .ok (.iaload, 1) := by decide +kernel
theorem dX6_oddsOf_37 : decode cX6_oddsOf 37 = .ok (.iconst (-1), 1) := by decide +kernel
theorem dX6_oddsOf_38 : decode cX6_oddsOf 38 = .ok (.if_icmp .eq 27, 3) := by decide +kernel
theorem dX6_oddsOf_41 : decode cX6_oddsOf 41 = .ok (.lload_n 3, 1) := by decide +kernel
theorem dX6_oddsOf_42 : decode cX6_oddsOf 42 = .ok (.aload_n 0, 1) := by decide +kernel
theorem dX6_oddsOf_43 : decode cX6_oddsOf 43 = .ok (.iload 7, 2) := by decide +kernel
theorem dX6_oddsOf_45 : decode cX6_oddsOf 45 = .ok (.invokevirtual 123, 3) := by decide +kernel
theorem dX6_oddsOf_48 : decode cX6_oddsOf 48 = .ok (.i2l, 1) := by decide +kernel
theorem dX6_oddsOf_49 : decode cX6_oddsOf 49 = .ok (.lmul, 1) := by decide +kernel
theorem dX6_oddsOf_50 : decode cX6_oddsOf 50 = .ok (.lstore_n 3, 1) := by decide +kernel
theorem dX6_oddsOf_51 : decode cX6_oddsOf 51 = .ok (.lload 5, 2) := by decide +kernel
theorem dX6_oddsOf_53 : decode cX6_oddsOf 53 = .ok (.ldc2_w 142, 3) := by decide +kernel
theorem dX6_oddsOf_56 : decode cX6_oddsOf 56 = .ok (.lmul, 1) := by decide +kernel
theorem dX6_oddsOf_57 : decode cX6_oddsOf 57 = .ok (.lstore 5, 2) := by decide +kernel
theorem dX6_oddsOf_59 : decode cX6_oddsOf 59 = .ok (.iinc 8 1, 3) := by decide +kernel
theorem dX6_oddsOf_62 : decode cX6_oddsOf 62 = .ok (.goto (-42), 3) := by decide +kernel
theorem dX6_oddsOf_65 : decode cX6_oddsOf 65 = .ok (.iinc 7 1, 3) := by decide +kernel
theorem dX6_oddsOf_68 : decode cX6_oddsOf 68 = .ok (.goto (-60), 3) := by decide +kernel
theorem dX6_oddsOf_71 : decode cX6_oddsOf 71 = .ok (.lload 5, 2) := by decide +kernel
theorem dX6_oddsOf_73 : decode cX6_oddsOf 73 = .ok (.lload_n 3, 1) := by decide +kernel
theorem dX6_oddsOf_74 : decode cX6_oddsOf 74 = .ok (.invokestatic 144, 3) := by decide +kernel
theorem dX6_oddsOf_77 : decode cX6_oddsOf 77 = .ok (.lstore 7, 2) := by decide +kernel
theorem dX6_oddsOf_79 : decode cX6_oddsOf 79 = .ok (.iload_n 2, 1) := by decide +kernel
theorem dX6_oddsOf_80 : decode cX6_oddsOf 80 = .ok (.ifCond .ne 10, 3) := by decide +kernel
theorem dX6_oddsOf_83 : decode cX6_oddsOf 83 = .ok (.lload_n 3, 1) := by decide +kernel
theorem dX6_oddsOf_84 : decode cX6_oddsOf 84 = .ok (.lload 7, 2) := by decide +kernel
theorem dX6_oddsOf_86 : decode cX6_oddsOf 86 = .ok (.ldiv, 1) := by decide +kernel
theorem dX6_oddsOf_87 : decode cX6_oddsOf 87 = .ok (.goto 8, 3) := by decide +kernel
theorem dX6_oddsOf_90 : decode cX6_oddsOf 90 = .ok (.lload 5, 2) := by decide +kernel
theorem dX6_oddsOf_92 : decode cX6_oddsOf 92 = .ok (.lload 7, 2) := by decide +kernel
theorem dX6_oddsOf_94 : decode cX6_oddsOf 94 = .ok (.ldiv, 1) := by decide +kernel
theorem dX6_oddsOf_95 : decode cX6_oddsOf 95 = .ok (.lreturn, 1) := by decide +kernel
set_option maxRecDepth 20000 in
theorem ggX6_odds_X6_in : GoodIn wsX6_odds wsX6_in := goodIn_r _ [7] (by decide +kernel) (by decide +kernel)
set_option maxRecDepth 20000 in
theorem gX6_odds_X6_in : GoodIn wsX6_odds (va_wsS RX6 46 yX6_in wsX6_in) := goodIn_app (goodIn_of _ (by decide +kernel)) ggX6_odds_X6_in
set_option maxRecDepth 20000 in
theorem ggX6_odds_X6_lacks : GoodIn wsX6_odds wsX6_lacks := goodIn_r _ [11, 12, 34, 35, 36, 37, 38, 39, 40, 41, 42, 43, 44, 45, 46, 47, 48, 49, 50, 51, 52, 53, 54, 55] (by decide +kernel) (by decide +kernel)
set_option maxRecDepth 20000 in
theorem gX6_odds_X6_lacks : GoodIn wsX6_odds (wsV RX6 135 RX6 yX6_lacks wsX6_lacks) := goodIn_app (goodIn_of _ (by decide +kernel)) ggX6_odds_X6_lacks
set_option maxRecDepth 20000 in
theorem ggX6_odds_X6_oddsOf : GoodIn wsX6_odds wsX6_oddsOf := goodIn_r _ [16, 12, 17, 18, 19, 20, 21, 6, 22, 23, 24, 25, 26, 27, 28, 29, 30, 31, 32, 33, 34, 35, 36, 37, 38, 39, 40, 41, 42, 43, 44, 45, 46, 47, 48, 49, 50, 51, 52, 53, 54, 55] (by decide +kernel) (by decide +kernel)
set_option maxRecDepth 20000 in
theorem gX6_odds_X6_oddsOf : GoodIn wsX6_odds (wsV RX6 154 RX6 yX6_oddsOf wsX6_oddsOf) := goodIn_app (goodIn_of _ (by decide +kernel)) ggX6_odds_X6_oddsOf
theorem dX6_odds_0 : decode cX6_odds 0 = .ok (.iload_n 1, 1) := by decide +kernel
theorem dX6_odds_1 : decode cX6_odds 1 = .ok (.i2l, 1) := by decide +kernel
theorem dX6_odds_2 : decode cX6_odds 2 = .ok (.lconst 1, 1) := by decide +kernel
theorem dX6_odds_3 : decode cX6_odds 3 = .ok (.ldc2_w 148, 3) := by decide +kernel
theorem dX6_odds_6 : decode cX6_odds 6 = .ok (.invokestatic 46, 3) := by decide +kernel
theorem dX6_odds_9 : decode cX6_odds 9 = .ok (.ifCond .eq 13, 3) := by decide +kernel
theorem dX6_odds_12 : decode cX6_odds 12 = .ok (.iload_n 2, 1) := by decide +kernel
theorem dX6_odds_13 : decode cX6_odds 13 = .ok (.i2l, 1) := by decide +kernel
theorem dX6_odds_14 : decode cX6_odds 14 = .ok (.lconst 0, 1) := by decide +kernel
theorem dX6_odds_15 : decode cX6_odds 15 = .ok (.lconst 1, 1) := by decide +kernel
theorem dX6_odds_16 : decode cX6_odds 16 = .ok (.invokestatic 46, 3) := by decide +kernel
theorem dX6_odds_19 : decode cX6_odds 19 = .ok (.ifCond .ne 7, 3) := by decide +kernel
theorem dX6_odds_22 : decode cX6_odds 22 = .ok (.ldc2_w 150, 3) := by decide +kernel
theorem dX6_odds_25 : decode cX6_odds 25 = .ok (.lreturn, 1) := by decide +kernel
theorem dX6_odds_26 : decode cX6_odds 26 = .ok (.aload_n 0, 1) := by decide +kernel
theorem dX6_odds_27 : decode cX6_odds 27 = .ok (.invokevirtual 135, 3) := by decide +kernel
theorem dX6_odds_30 : decode cX6_odds 30 = .ok (.ifCond .eq 9, 3) := by decide +kernel
theorem dX6_odds_33 : decode cX6_odds 33 = .ok (.ldc2_w 152, 3) := by decide +kernel
theorem dX6_odds_36 : decode cX6_odds 36 = .ok (.goto 9, 3) := by decide +kernel
theorem dX6_odds_39 : decode cX6_odds 39 = .ok (.aload_n 0, 1) := by decide +kernel
theorem dX6_odds_40 : decode cX6_odds 40 = .ok (.iload_n 1, 1) := by decide +kernel
theorem dX6_odds_41 : decode cX6_odds 41 = .ok (.iload_n 2, 1) := by decide +kernel
theorem dX6_odds_42 : decode cX6_odds 42 = .ok (.invokevirtual 154, 3) := by decide +kernel
theorem dX6_odds_45 : decode cX6_odds 45 = .ok (.lreturn, 1) := by decide +kernel
set_option maxRecDepth 20000 in
theorem ggX6_layRow_X6_tenthsOf : GoodIn wsX6_layRow wsX6_tenthsOf := goodIn_r _ [9, 10, 11, 12, 8, 13, 21, 22, 23, 24, 25, 26, 27, 28, 29, 30, 31, 32, 33, 34, 35, 36, 37, 38, 39, 40, 41, 42] (by decide +kernel) (by decide +kernel)
set_option maxRecDepth 20000 in
theorem gX6_layRow_X6_tenthsOf : GoodIn wsX6_layRow (wsV RX6 118 RX6 yX6_tenthsOf wsX6_tenthsOf) := goodIn_app (goodIn_of _ (by decide +kernel)) ggX6_layRow_X6_tenthsOf
set_option maxRecDepth 20000 in
theorem ggX6_layRow_X6_setOf : GoodIn wsX6_layRow wsX6_setOf := goodIn_r _ [17, 1, 4, 21, 22, 23, 24, 25, 26, 27, 28, 29, 30, 31, 32, 33, 34, 35, 36, 37, 38, 39, 40, 41, 42] (by decide +kernel) (by decide +kernel)
set_option maxRecDepth 20000 in
theorem gX6_layRow_X6_setOf : GoodIn wsX6_layRow (wsV RX6 95 RX6 yX6_setOf wsX6_setOf) := goodIn_app (goodIn_of _ (by decide +kernel)) ggX6_layRow_X6_setOf
set_option maxRecDepth 20000 in
theorem ggX6_layRow_X6_ones : GoodIn wsX6_layRow wsX6_ones := goodIn_r _ [20] (by decide +kernel) (by decide +kernel)
set_option maxRecDepth 20000 in
theorem gX6_layRow_X6_ones : GoodIn wsX6_layRow (va_wsS RX6 132 yX6_ones wsX6_ones) := goodIn_app (goodIn_of _ (by decide +kernel)) ggX6_layRow_X6_ones
theorem dX6_layRow_0 : decode cX6_layRow 0 = .ok (.iload_n 1, 1) := by decide +kernel
theorem dX6_layRow_1 : decode cX6_layRow 1 = .ok (.istore_n 2, 1) := by decide +kernel
theorem dX6_layRow_2 : decode cX6_layRow 2 = .ok (.iconst 0, 1) := by decide +kernel
theorem dX6_layRow_3 : decode cX6_layRow 3 = .ok (.istore_n 3, 1) := by decide +kernel
theorem dX6_layRow_4 : decode cX6_layRow 4 = .ok (.aload_n 0, 1) := by decide +kernel
theorem dX6_layRow_5 : decode cX6_layRow 5 = .ok (.getfield 75, 3) := by decide +kernel
theorem dX6_layRow_8 : decode cX6_layRow 8 = .ok (.iconst 1, 1) := by decide +kernel
theorem dX6_layRow_9 : decode cX6_layRow 9 = .ok (.isub, 1) := by decide +kernel
theorem dX6_layRow_10 : decode cX6_layRow 10 = .ok (.istore 4, 2) := by decide +kernel
theorem dX6_layRow_12 : decode cX6_layRow 12 = .ok (.iload 4, 2) := by decide +kernel
theorem dX6_layRow_14 : decode cX6_layRow 14 = .ok (.ifCond .lt 100, 3) := by decide +kernel
theorem dX6_layRow_17 : decode cX6_layRow 17 = .ok (.aload_n 0, 1) := by decide +kernel
theorem dX6_layRow_18 : decode cX6_layRow 18 = .ok (.getfield 19, 3) := by decide +kernel
theorem dX6_layRow_21 : decode cX6_layRow 21 = .ok (.iload 4, 2) := by decide +kernel
theorem dX6_layRow_23 : decode cX6_layRow 23 = .ok (.iload_n 2, 1) := by decide +kernel
theorem dX6_layRow_24 : decode cX6_layRow 24 = .ok (.aload_n 0, 1) := by decide +kernel
theorem dX6_layRow_25 : decode cX6_layRow 25 = .ok (.getfield 72, 3) := by decide +kernel
theorem dX6_layRow_28 : decode cX6_layRow 28 = .ok (.iconst 1, 1) := by decide +kernel
theorem dX6_layRow_29 : decode cX6_layRow 29 = .ok (.iadd, 1) := by decide +kernel
theorem dX6_layRow_30 : decode cX6_layRow 30 = .ok (.irem, 1) := by decide +kernel
theorem dX6_layRow_31 : decode cX6_layRow 31 = .ok (.iconst 1, 1) := by decide +kernel
theorem dX6_layRow_32 : decode cX6_layRow 32 = .ok (.isub, 1) := by decide +kernel
theorem dX6_layRow_33 : decode cX6_layRow 33 = .ok (.iastore, 1) := by decide +kernel
theorem dX6_layRow_34 : decode cX6_layRow 34 = .ok (.iload_n 2, 1) := by decide +kernel
theorem dX6_layRow_35 : decode cX6_layRow 35 = .ok (.aload_n 0, 1) := by decide +kernel
theorem dX6_layRow_36 : decode cX6_layRow 36 = .ok (.getfield 72, 3) := by decide +kernel
theorem dX6_layRow_39 : decode cX6_layRow 39 = .ok (.iconst 1, 1) := by decide +kernel
theorem dX6_layRow_40 : decode cX6_layRow 40 = .ok (.iadd, 1) := by decide +kernel
theorem dX6_layRow_41 : decode cX6_layRow 41 = .ok (.idiv, 1) := by decide +kernel
theorem dX6_layRow_42 : decode cX6_layRow 42 = .ok (.istore_n 2, 1) := by decide +kernel
theorem dX6_layRow_43 : decode cX6_layRow 43 = .ok (.aload_n 0, 1) := by decide +kernel
theorem dX6_layRow_44 : decode cX6_layRow 44 = .ok (.getfield 19, 3) := by decide +kernel
theorem dX6_layRow_47 : decode cX6_layRow 47 = .ok (.iload 4, 2) := by decide +kernel
theorem dX6_layRow_49 : decode cX6_layRow 49 = .ok (.iaload, 1) := by decide +kernel
theorem dX6_layRow_50 : decode cX6_layRow 50 = .ok (.iconst (-1), 1) := by decide +kernel
theorem dX6_layRow_51 : decode cX6_layRow 51 = .ok (.if_icmp .eq 19, 3) := by decide +kernel
theorem dX6_layRow_54 : decode cX6_layRow 54 = .ok (.aload_n 0, 1) := by decide +kernel
theorem dX6_layRow_55 : decode cX6_layRow 55 = .ok (.getfield 16, 3) := by decide +kernel
theorem dX6_layRow_58 : decode cX6_layRow 58 = .ok (.iconst 4, 1) := by decide +kernel
theorem dX6_layRow_59 : decode cX6_layRow 59 = .ok (.iload 4, 2) := by decide +kernel
theorem dX6_layRow_61 : decode cX6_layRow 61 = .ok (.imul, 1) := by decide +kernel
theorem dX6_layRow_62 : decode cX6_layRow 62 = .ok (.iconst 2, 1) := by decide +kernel
theorem dX6_layRow_63 : decode cX6_layRow 63 = .ok (.iadd, 1) := by decide +kernel
theorem dX6_layRow_64 : decode cX6_layRow 64 = .ok (.iaload, 1) := by decide +kernel
theorem dX6_layRow_65 : decode cX6_layRow 65 = .ok (.ifCond .eq 5, 3) := by decide +kernel
theorem dX6_layRow_68 : decode cX6_layRow 68 = .ok (.iconst (-1), 1) := by decide +kernel
theorem dX6_layRow_69 : decode cX6_layRow 69 = .ok (.ireturn, 1) := by decide +kernel
theorem dX6_layRow_70 : decode cX6_layRow 70 = .ok (.iload_n 3, 1) := by decide +kernel
theorem dX6_layRow_71 : decode cX6_layRow 71 = .ok (.aload_n 0, 1) := by decide +kernel
theorem dX6_layRow_72 : decode cX6_layRow 72 = .ok (.getfield 19, 3) := by decide +kernel
theorem dX6_layRow_75 : decode cX6_layRow 75 = .ok (.iload 4, 2) := by decide +kernel
theorem dX6_layRow_77 : decode cX6_layRow 77 = .ok (.iaload, 1) := by decide +kernel
theorem dX6_layRow_78 : decode cX6_layRow 78 = .ok (.iconst (-1), 1) := by decide +kernel
theorem dX6_layRow_79 : decode cX6_layRow 79 = .ok (.if_icmp .ne 7, 3) := by decide +kernel
theorem dX6_layRow_82 : decode cX6_layRow 82 = .ok (.iconst 0, 1) := by decide +kernel
theorem dX6_layRow_83 : decode cX6_layRow 83 = .ok (.goto 23, 3) := by decide +kernel
theorem dX6_layRow_86 : decode cX6_layRow 86 = .ok (.aload_n 0, 1) := by decide +kernel
theorem dX6_layRow_87 : decode cX6_layRow 87 = .ok (.aload_n 0, 1) := by decide +kernel
theorem dX6_layRow_88 : decode cX6_layRow 88 = .ok (.getfield 19, 3) := by decide +kernel
theorem dX6_layRow_91 : decode cX6_layRow 91 = .ok (.iload 4, 2) := by decide +kernel
theorem dX6_layRow_93 : decode cX6_layRow 93 = .ok (.iaload, 1) := by decide +kernel
theorem dX6_layRow_94 : decode cX6_layRow 94 = .ok (.aload_n 0, 1) := by decide +kernel
theorem dX6_layRow_95 : decode cX6_layRow 95 = .ok (.getfield 16, 3) := by decide +kernel
theorem dX6_layRow_98 : decode cX6_layRow 98 = .ok (.iconst 4, 1) := by decide +kernel
theorem dX6_layRow_99 : decode cX6_layRow 99 = .ok (.iload 4, 2) := by decide +kernel
theorem dX6_layRow_101 : decode cX6_layRow 101 = .ok (.imul, 1) := by decide +kernel
theorem dX6_layRow_102 : decode cX6_layRow 102 = .ok (.iaload, 1) := by decide +kernel
theorem dX6_layRow_103 : decode cX6_layRow 103 = .ok (.invokevirtual 118, 3) := by decide +kernel
theorem dX6_layRow_106 : decode cX6_layRow 106 = .ok (.iadd, 1) := by decide +kernel
theorem dX6_layRow_107 : decode cX6_layRow 107 = .ok (.istore_n 3, 1) := by decide +kernel
theorem dX6_layRow_108 : decode cX6_layRow 108 = .ok (.iinc 4 (-1), 3) := by decide +kernel
theorem dX6_layRow_111 : decode cX6_layRow 111 = .ok (.goto (-99), 3) := by decide +kernel
theorem dX6_layRow_114 : decode cX6_layRow 114 = .ok (.iconst 0, 1) := by decide +kernel
theorem dX6_layRow_115 : decode cX6_layRow 115 = .ok (.istore 4, 2) := by decide +kernel
theorem dX6_layRow_117 : decode cX6_layRow 117 = .ok (.iload 4, 2) := by decide +kernel
theorem dX6_layRow_119 : decode cX6_layRow 119 = .ok (.aload_n 0, 1) := by decide +kernel
theorem dX6_layRow_120 : decode cX6_layRow 120 = .ok (.getfield 72, 3) := by decide +kernel
theorem dX6_layRow_123 : decode cX6_layRow 123 = .ok (.if_icmp .ge 79, 3) := by decide +kernel
theorem dX6_layRow_126 : decode cX6_layRow 126 = .ok (.aload_n 0, 1) := by decide +kernel
theorem dX6_layRow_127 : decode cX6_layRow 127 = .ok (.iload 4, 2) := by decide +kernel
theorem dX6_layRow_129 : decode cX6_layRow 129 = .ok (.invokevirtual 95, 3) := by decide +kernel
theorem dX6_layRow_132 : decode cX6_layRow 132 = .ok (.invokestatic 132, 3) := by decide +kernel
theorem dX6_layRow_135 : decode cX6_layRow 135 = .ok (.istore 5, 2) := by decide +kernel
theorem dX6_layRow_137 : decode cX6_layRow 137 = .ok (.iconst 0, 1) := by decide +kernel
theorem dX6_layRow_138 : decode cX6_layRow 138 = .ok (.istore 6, 2) := by decide +kernel
theorem dX6_layRow_140 : decode cX6_layRow 140 = .ok (.iload 6, 2) := by decide +kernel
theorem dX6_layRow_142 : decode cX6_layRow 142 = .ok (.aload_n 0, 1) := by decide +kernel
theorem dX6_layRow_143 : decode cX6_layRow 143 = .ok (.getfield 75, 3) := by decide +kernel
theorem dX6_layRow_146 : decode cX6_layRow 146 = .ok (.if_icmp .ge 31, 3) := by decide +kernel
theorem dX6_layRow_149 : decode cX6_layRow 149 = .ok (.iload 5, 2) := by decide +kernel
theorem dX6_layRow_151 : decode cX6_layRow 151 = .ok (.aload_n 0, 1) := by decide +kernel
theorem dX6_layRow_152 : decode cX6_layRow 152 = .ok (.getfield 19, 3) := by decide +kernel
theorem dX6_layRow_155 : decode cX6_layRow 155 = .ok (.iload 6, 2) := by decide +kernel
theorem dX6_layRow_157 : decode cX6_layRow 157 = .ok (.iaload, 1) := by decide +kernel
theorem dX6_layRow_158 : decode cX6_layRow 158 = .ok (.iload 4, 2) := by decide +kernel
theorem dX6_layRow_160 : decode cX6_layRow 160 = .ok (.if_icmp .ne 7, 3) := by decide +kernel
theorem dX6_layRow_163 : decode cX6_layRow 163 = .ok (.iconst 1, 1) := by decide +kernel
theorem dX6_layRow_164 : decode cX6_layRow 164 = .ok (.goto 4, 3) := by decide +kernel
theorem dX6_layRow_167 : decode cX6_layRow 167 = .ok (.iconst 0, 1) := by decide +kernel
theorem dX6_layRow_168 : decode cX6_layRow 168 = .ok (.iadd, 1) := by decide +kernel
theorem dX6_layRow_169 : decode cX6_layRow 169 = .ok (.istore 5, 2) := by decide +kernel
theorem dX6_layRow_171 : decode cX6_layRow 171 = .ok (.iinc 6 1, 3) := by decide +kernel
theorem dX6_layRow_174 : decode cX6_layRow 174 = .ok (.goto (-34), 3) := by decide +kernel
theorem dX6_layRow_177 : decode cX6_layRow 177 = .ok (.iload 5, 2) := by decide +kernel
theorem dX6_layRow_179 : decode cX6_layRow 179 = .ok (.iconst 2, 1) := by decide +kernel
theorem dX6_layRow_180 : decode cX6_layRow 180 = .ok (.if_icmp .le 7, 3) := by decide +kernel
theorem dX6_layRow_183 : decode cX6_layRow 183 = .ok (.iconst (-1), 1) := by decide +kernel
theorem dX6_layRow_184 : decode cX6_layRow 184 = .ok (.goto 4, 3) := by decide +kernel
theorem dX6_layRow_187 : decode cX6_layRow 187 = .ok (.iload_n 3, 1) := by decide +kernel
theorem dX6_layRow_188 : decode cX6_layRow 188 = .ok (.istore_n 3, 1) := by decide +kernel
theorem dX6_layRow_189 : decode cX6_layRow 189 = .ok (.iload_n 3, 1) := by decide +kernel
theorem dX6_layRow_190 : decode cX6_layRow 190 = .ok (.iconst (-1), 1) := by decide +kernel
theorem dX6_layRow_191 : decode cX6_layRow 191 = .ok (.if_icmp .ne 5, 3) := by decide +kernel
theorem dX6_layRow_194 : decode cX6_layRow 194 = .ok (.iconst (-1), 1) := by decide +kernel
theorem dX6_layRow_195 : decode cX6_layRow 195 = .ok (.ireturn, 1) := by decide +kernel
theorem dX6_layRow_196 : decode cX6_layRow 196 = .ok (.iinc 4 1, 3) := by decide +kernel
theorem dX6_layRow_199 : decode cX6_layRow 199 = .ok (.goto (-82), 3) := by decide +kernel
theorem dX6_layRow_202 : decode cX6_layRow 202 = .ok (.iload_n 3, 1) := by decide +kernel
theorem dX6_layRow_203 : decode cX6_layRow 203 = .ok (.ireturn, 1) := by decide +kernel
set_option maxRecDepth 20000 in
theorem ggX6_matchOf_X6_layRow : GoodIn wsX6_matchOf wsX6_layRow := goodIn_r _ [9, 1, 3, 2, 10, 11, 12, 13, 8, 14, 15, 16, 17, 18, 19, 20, 21, 22, 23, 24, 25, 29, 30, 31, 32, 33, 34, 35, 36, 37, 38, 39, 40, 41, 42, 43, 44, 45, 46, 47, 48, 49, 50] (by decide +kernel) (by decide +kernel)
set_option maxRecDepth 20000 in
theorem gX6_matchOf_X6_layRow : GoodIn wsX6_matchOf (wsV RX6 158 RX6 yX6_layRow wsX6_layRow) := goodIn_app (goodIn_of _ (by decide +kernel)) ggX6_matchOf_X6_layRow
set_option maxRecDepth 20000 in
theorem ggX6_matchOf_X6_copy : GoodIn wsX6_matchOf wsX6_copy := goodIn_r _ [28] (by decide +kernel) (by decide +kernel)
set_option maxRecDepth 20000 in
theorem gX6_matchOf_X6_copy : GoodIn wsX6_matchOf (va_wsS RX6 161 yX6_copy wsX6_copy) := goodIn_app (goodIn_of _ (by decide +kernel)) ggX6_matchOf_X6_copy
theorem dX6_matchOf_0 : decode cX6_matchOf 0 = .ok (.iconst 1, 1) := by decide +kernel
theorem dX6_matchOf_1 : decode cX6_matchOf 1 = .ok (.istore_n 2, 1) := by decide +kernel
theorem dX6_matchOf_2 : decode cX6_matchOf 2 = .ok (.iconst 0, 1) := by decide +kernel
theorem dX6_matchOf_3 : decode cX6_matchOf 3 = .ok (.istore_n 3, 1) := by decide +kernel
theorem dX6_matchOf_4 : decode cX6_matchOf 4 = .ok (.iload_n 3, 1) := by decide +kernel
theorem dX6_matchOf_5 : decode cX6_matchOf 5 = .ok (.aload_n 0, 1) := by decide +kernel
theorem dX6_matchOf_6 : decode cX6_matchOf 6 = .ok (.getfield 75, 3) := by decide +kernel
theorem dX6_matchOf_9 : decode cX6_matchOf 9 = .ok (.if_icmp .ge 18, 3) := by decide +kernel
theorem dX6_matchOf_12 : decode cX6_matchOf 12 = .ok (.iload_n 2, 1) := by decide +kernel
theorem dX6_matchOf_13 : decode cX6_matchOf 13 = .ok (.aload_n 0, 1) := by decide +kernel
theorem dX6_matchOf_14 : decode cX6_matchOf 14 = .ok (.getfield 72, 3) := by decide +kernel
theorem dX6_matchOf_17 : decode cX6_matchOf 17 = .ok (.iconst 1, 1) := by decide +kernel
theorem dX6_matchOf_18 : decode cX6_matchOf 18 = .ok (.iadd, 1) := by decide +kernel
theorem dX6_matchOf_19 : decode cX6_matchOf 19 = .ok (.imul, 1) := by decide +kernel
theorem dX6_matchOf_20 : decode cX6_matchOf 20 = .ok (.istore_n 2, 1) := by decide +kernel
theorem dX6_matchOf_21 : decode cX6_matchOf 21 = .ok (.iinc 3 1, 3) := by decide +kernel
theorem dX6_matchOf_24 : decode cX6_matchOf 24 = .ok (.goto (-20), 3) := by decide +kernel
theorem dX6_matchOf_27 : decode cX6_matchOf 27 = .ok (.iconst (-1), 1) := by decide +kernel
theorem dX6_matchOf_28 : decode cX6_matchOf 28 = .ok (.istore_n 3, 1) := by decide +kernel
theorem dX6_matchOf_29 : decode cX6_matchOf 29 = .ok (.iconst 0, 1) := by decide +kernel
theorem dX6_matchOf_30 : decode cX6_matchOf 30 = .ok (.istore 4, 2) := by decide +kernel
theorem dX6_matchOf_32 : decode cX6_matchOf 32 = .ok (.iload 4, 2) := by decide +kernel
theorem dX6_matchOf_34 : decode cX6_matchOf 34 = .ok (.iload_n 2, 1) := by decide +kernel
theorem dX6_matchOf_35 : decode cX6_matchOf 35 = .ok (.if_icmp .ge 37, 3) := by decide +kernel
theorem dX6_matchOf_38 : decode cX6_matchOf 38 = .ok (.aload_n 0, 1) := by decide +kernel
theorem dX6_matchOf_39 : decode cX6_matchOf 39 = .ok (.iload 4, 2) := by decide +kernel
theorem dX6_matchOf_41 : decode cX6_matchOf 41 = .ok (.invokevirtual 158, 3) := by decide +kernel
theorem dX6_matchOf_44 : decode cX6_matchOf 44 = .ok (.istore 5, 2) := by decide +kernel
theorem dX6_matchOf_46 : decode cX6_matchOf 46 = .ok (.iload 5, 2) := by decide +kernel
theorem dX6_matchOf_48 : decode cX6_matchOf 48 = .ok (.iload_n 3, 1) := by decide +kernel
theorem dX6_matchOf_49 : decode cX6_matchOf 49 = .ok (.if_icmp .le 17, 3) := by decide +kernel
theorem dX6_matchOf_52 : decode cX6_matchOf 52 = .ok (.iload 5, 2) := by decide +kernel
theorem dX6_matchOf_54 : decode cX6_matchOf 54 = .ok (.istore_n 3, 1) := by decide +kernel
theorem dX6_matchOf_55 : decode cX6_matchOf 55 = .ok (.aload_n 0, 1) := by decide +kernel
theorem dX6_matchOf_56 : decode cX6_matchOf 56 = .ok (.getfield 19, 3) := by decide +kernel
theorem dX6_matchOf_59 : decode cX6_matchOf 59 = .ok (.aload_n 0, 1) := by decide +kernel
theorem dX6_matchOf_60 : decode cX6_matchOf 60 = .ok (.getfield 22, 3) := by decide +kernel
theorem dX6_matchOf_63 : decode cX6_matchOf 63 = .ok (.invokestatic 161, 3) := by decide +kernel
theorem dX6_matchOf_66 : decode cX6_matchOf 66 = .ok (.iinc 4 1, 3) := by decide +kernel
theorem dX6_matchOf_69 : decode cX6_matchOf 69 = .ok (.goto (-37), 3) := by decide +kernel
theorem dX6_matchOf_72 : decode cX6_matchOf 72 = .ok (.iload_n 1, 1) := by decide +kernel
theorem dX6_matchOf_73 : decode cX6_matchOf 73 = .ok (.ifCond .ne 7, 3) := by decide +kernel
theorem dX6_matchOf_76 : decode cX6_matchOf 76 = .ok (.iload_n 3, 1) := by decide +kernel
theorem dX6_matchOf_77 : decode cX6_matchOf 77 = .ok (.goto 27, 3) := by decide +kernel
theorem dX6_matchOf_80 : decode cX6_matchOf 80 = .ok (.iload_n 1, 1) := by decide +kernel
theorem dX6_matchOf_81 : decode cX6_matchOf 81 = .ok (.bipush 10, 2) := by decide +kernel
theorem dX6_matchOf_83 : decode cX6_matchOf 83 = .ok (.isub, 1) := by decide +kernel
theorem dX6_matchOf_84 : decode cX6_matchOf 84 = .ok (.aload_n 0, 1) := by decide +kernel
theorem dX6_matchOf_85 : decode cX6_matchOf 85 = .ok (.getfield 75, 3) := by decide +kernel
theorem dX6_matchOf_88 : decode cX6_matchOf 88 = .ok (.if_icmp .ge 15, 3) := by decide +kernel
theorem dX6_matchOf_91 : decode cX6_matchOf 91 = .ok (.aload_n 0, 1) := by decide +kernel
theorem dX6_matchOf_92 : decode cX6_matchOf 92 = .ok (.getfield 22, 3) := by decide +kernel
theorem dX6_matchOf_95 : decode cX6_matchOf 95 = .ok (.iload_n 1, 1) := by decide +kernel
theorem dX6_matchOf_96 : decode cX6_matchOf 96 = .ok (.bipush 10, 2) := by decide +kernel
theorem dX6_matchOf_98 : decode cX6_matchOf 98 = .ok (.isub, 1) := by decide +kernel
theorem dX6_matchOf_99 : decode cX6_matchOf 99 = .ok (.iaload, 1) := by decide +kernel
theorem dX6_matchOf_100 : decode cX6_matchOf 100 = .ok (.goto 4, 3) := by decide +kernel
theorem dX6_matchOf_103 : decode cX6_matchOf 103 = .ok (.iconst (-1), 1) := by decide +kernel
theorem dX6_matchOf_104 : decode cX6_matchOf 104 = .ok (.ireturn, 1) := by decide +kernel
set_option maxRecDepth 20000 in
theorem ggX6_match_X6_in : GoodIn wsX6_match wsX6_in := goodIn_r _ [6] (by decide +kernel) (by decide +kernel)
set_option maxRecDepth 20000 in
theorem gX6_match_X6_in : GoodIn wsX6_match (va_wsS RX6 46 yX6_in wsX6_in) := goodIn_app (goodIn_of _ (by decide +kernel)) ggX6_match_X6_in
set_option maxRecDepth 20000 in
theorem ggX6_match_X6_lacks : GoodIn wsX6_match wsX6_lacks := goodIn_r _ [10, 11, 42, 43, 44, 45, 46, 47, 48, 49, 50, 51, 52, 53, 54, 55, 56, 57, 58, 59, 60, 61, 62, 63] (by decide +kernel) (by decide +kernel)
set_option maxRecDepth 20000 in
theorem gX6_match_X6_lacks : GoodIn wsX6_match (wsV RX6 135 RX6 yX6_lacks wsX6_lacks) := goodIn_app (goodIn_of _ (by decide +kernel)) ggX6_match_X6_lacks
set_option maxRecDepth 20000 in
theorem ggX6_match_X6_matchOf : GoodIn wsX6_match wsX6_matchOf := goodIn_r _ [15, 11, 16, 17, 18, 19, 20, 21, 5, 22, 23, 24, 25, 26, 27, 28, 29, 30, 31, 32, 33, 34, 35, 36, 37, 38, 39, 40, 41, 42, 43, 44, 45, 46, 47, 48, 49, 50, 51, 52, 53, 54, 55, 56, 57, 58, 59, 60, 61, 62, 63] (by decide +kernel) (by decide +kernel)
set_option maxRecDepth 20000 in
theorem gX6_match_X6_matchOf : GoodIn wsX6_match (wsV RX6 167 RX6 yX6_matchOf wsX6_matchOf) := goodIn_app (goodIn_of _ (by decide +kernel)) ggX6_match_X6_matchOf
theorem dX6_match_0 : decode cX6_match 0 = .ok (.iload_n 1, 1) := by decide +kernel
theorem dX6_match_1 : decode cX6_match 1 = .ok (.ifCond .eq 20, 3) := by decide +kernel
theorem dX6_match_4 : decode cX6_match 4 = .ok (.iload_n 1, 1) := by decide +kernel
theorem dX6_match_5 : decode cX6_match 5 = .ok (.i2l, 1) := by decide +kernel
theorem dX6_match_6 : decode cX6_match 6 = .ok (.ldc2_w 142, 3) := by decide +kernel
theorem dX6_match_9 : decode cX6_match 9 = .ok (.ldc2_w 165, 3) := by decide +kernel
theorem dX6_match_12 : decode cX6_match 12 = .ok (.invokestatic 46, 3) := by decide +kernel
theorem dX6_match_15 : decode cX6_match 15 = .ok (.ifCond .ne 6, 3) := by decide +kernel
theorem dX6_match_18 : decode cX6_match 18 = .ok (.bipush (-102), 2) := by decide +kernel
theorem dX6_match_20 : decode cX6_match 20 = .ok (.ireturn, 1) := by decide +kernel
theorem dX6_match_21 : decode cX6_match 21 = .ok (.aload_n 0, 1) := by decide +kernel
theorem dX6_match_22 : decode cX6_match 22 = .ok (.invokevirtual 135, 3) := by decide +kernel
theorem dX6_match_25 : decode cX6_match 25 = .ok (.ifCond .eq 8, 3) := by decide +kernel
theorem dX6_match_28 : decode cX6_match 28 = .ok (.bipush (-103), 2) := by decide +kernel
theorem dX6_match_30 : decode cX6_match 30 = .ok (.goto 8, 3) := by decide +kernel
theorem dX6_match_33 : decode cX6_match 33 = .ok (.aload_n 0, 1) := by decide +kernel
theorem dX6_match_34 : decode cX6_match 34 = .ok (.iload_n 1, 1) := by decide +kernel
theorem dX6_match_35 : decode cX6_match 35 = .ok (.invokevirtual 167, 3) := by decide +kernel
theorem dX6_match_38 : decode cX6_match 38 = .ok (.ireturn, 1) := by decide +kernel
set_option maxRecDepth 20000 in
theorem ggX6_see_X6_isKeeper : GoodIn wsX6_see wsX6_isKeeper := goodIn_r _ [8, 9, 10, 11, 7, 12, 13, 14, 15, 16, 17, 18, 19, 20, 21, 22, 23, 24, 25, 26, 27, 28, 29, 30, 31, 32, 33, 34] (by decide +kernel) (by decide +kernel)
set_option maxRecDepth 20000 in
theorem gX6_see_X6_isKeeper : GoodIn wsX6_see (wsV RX6 107 RX6 yX6_isKeeper wsX6_isKeeper) := goodIn_app (goodIn_of _ (by decide +kernel)) ggX6_see_X6_isKeeper
set_option maxRecDepth 20000 in
theorem ggX6_see_X6_in : GoodIn wsX6_see wsX6_in := goodIn_r _ [12] (by decide +kernel) (by decide +kernel)
set_option maxRecDepth 20000 in
theorem gX6_see_X6_in : GoodIn wsX6_see (va_wsS RX6 46 yX6_in wsX6_in) := goodIn_app (goodIn_of _ (by decide +kernel)) ggX6_see_X6_in
theorem dX6_see_0 : decode cX6_see 0 = .ok (.aload_n 0, 1) := by decide +kernel
theorem dX6_see_1 : decode cX6_see 1 = .ok (.iload_n 1, 1) := by decide +kernel
theorem dX6_see_2 : decode cX6_see 2 = .ok (.invokevirtual 107, 3) := by decide +kernel
theorem dX6_see_5 : decode cX6_see 5 = .ok (.ifCond .ne 6, 3) := by decide +kernel
theorem dX6_see_8 : decode cX6_see 8 = .ok (.bipush (-101), 2) := by decide +kernel
theorem dX6_see_10 : decode cX6_see 10 = .ok (.ireturn, 1) := by decide +kernel
theorem dX6_see_11 : decode cX6_see 11 = .ok (.iload_n 2, 1) := by decide +kernel
theorem dX6_see_12 : decode cX6_see 12 = .ok (.i2l, 1) := by decide +kernel
theorem dX6_see_13 : decode cX6_see 13 = .ok (.lconst 0, 1) := by decide +kernel
theorem dX6_see_14 : decode cX6_see 14 = .ok (.ldc2_w 116, 3) := by decide +kernel
theorem dX6_see_17 : decode cX6_see 17 = .ok (.invokestatic 46, 3) := by decide +kernel
theorem dX6_see_20 : decode cX6_see 20 = .ok (.ifCond .ne 6, 3) := by decide +kernel
theorem dX6_see_23 : decode cX6_see 23 = .ok (.bipush (-102), 2) := by decide +kernel
theorem dX6_see_25 : decode cX6_see 25 = .ok (.ireturn, 1) := by decide +kernel
theorem dX6_see_26 : decode cX6_see 26 = .ok (.aload_n 0, 1) := by decide +kernel
theorem dX6_see_27 : decode cX6_see 27 = .ok (.getfield 85, 3) := by decide +kernel
theorem dX6_see_30 : decode cX6_see 30 = .ok (.bipush 8, 2) := by decide +kernel
theorem dX6_see_32 : decode cX6_see 32 = .ok (.if_icmp .ne 6, 3) := by decide +kernel
theorem dX6_see_35 : decode cX6_see 35 = .ok (.bipush (-104), 2) := by decide +kernel
theorem dX6_see_37 : decode cX6_see 37 = .ok (.ireturn, 1) := by decide +kernel
theorem dX6_see_38 : decode cX6_see 38 = .ok (.aload_n 0, 1) := by decide +kernel
theorem dX6_see_39 : decode cX6_see 39 = .ok (.getfield 25, 3) := by decide +kernel
theorem dX6_see_42 : decode cX6_see 42 = .ok (.iconst 3, 1) := by decide +kernel
theorem dX6_see_43 : decode cX6_see 43 = .ok (.aload_n 0, 1) := by decide +kernel
theorem dX6_see_44 : decode cX6_see 44 = .ok (.getfield 85, 3) := by decide +kernel
theorem dX6_see_47 : decode cX6_see 47 = .ok (.imul, 1) := by decide +kernel
theorem dX6_see_48 : decode cX6_see 48 = .ok (.iload_n 1, 1) := by decide +kernel
theorem dX6_see_49 : decode cX6_see 49 = .ok (.iastore, 1) := by decide +kernel
theorem dX6_see_50 : decode cX6_see 50 = .ok (.aload_n 0, 1) := by decide +kernel
theorem dX6_see_51 : decode cX6_see 51 = .ok (.getfield 25, 3) := by decide +kernel
theorem dX6_see_54 : decode cX6_see 54 = .ok (.iconst 3, 1) := by decide +kernel
theorem dX6_see_55 : decode cX6_see 55 = .ok (.aload_n 0, 1) := by decide +kernel
theorem dX6_see_56 : decode cX6_see 56 = .ok (.getfield 85, 3) := by decide +kernel
theorem dX6_see_59 : decode cX6_see 59 = .ok (.imul, 1) := by decide +kernel
theorem dX6_see_60 : decode cX6_see 60 = .ok (.iconst 1, 1) := by decide +kernel
theorem dX6_see_61 : decode cX6_see 61 = .ok (.iadd, 1) := by decide +kernel
theorem dX6_see_62 : decode cX6_see 62 = .ok (.iload_n 2, 1) := by decide +kernel
theorem dX6_see_63 : decode cX6_see 63 = .ok (.iastore, 1) := by decide +kernel
theorem dX6_see_64 : decode cX6_see 64 = .ok (.aload_n 0, 1) := by decide +kernel
theorem dX6_see_65 : decode cX6_see 65 = .ok (.getfield 25, 3) := by decide +kernel
theorem dX6_see_68 : decode cX6_see 68 = .ok (.iconst 3, 1) := by decide +kernel
theorem dX6_see_69 : decode cX6_see 69 = .ok (.aload_n 0, 1) := by decide +kernel
theorem dX6_see_70 : decode cX6_see 70 = .ok (.getfield 85, 3) := by decide +kernel
theorem dX6_see_73 : decode cX6_see 73 = .ok (.imul, 1) := by decide +kernel
theorem dX6_see_74 : decode cX6_see 74 = .ok (.iconst 2, 1) := by decide +kernel
theorem dX6_see_75 : decode cX6_see 75 = .ok (.iadd, 1) := by decide +kernel
theorem dX6_see_76 : decode cX6_see 76 = .ok (.iload_n 3, 1) := by decide +kernel
theorem dX6_see_77 : decode cX6_see 77 = .ok (.ifCond .eq 7, 3) := by decide +kernel
theorem dX6_see_80 : decode cX6_see 80 = .ok (.iconst 1, 1) := by decide +kernel
theorem dX6_see_81 : decode cX6_see 81 = .ok (.goto 4, 3) := by decide +kernel
theorem dX6_see_84 : decode cX6_see 84 = .ok (.iconst 0, 1) := by decide +kernel
theorem dX6_see_85 : decode cX6_see 85 = .ok (.iastore, 1) := by decide +kernel
theorem dX6_see_86 : decode cX6_see 86 = .ok (.aload_n 0, 1) := by decide +kernel
theorem dX6_see_87 : decode cX6_see 87 = .ok (.dup, 1) := by decide +kernel
theorem dX6_see_88 : decode cX6_see 88 = .ok (.getfield 85, 3) := by decide +kernel
theorem dX6_see_91 : decode cX6_see 91 = .ok (.iconst 1, 1) := by decide +kernel
theorem dX6_see_92 : decode cX6_see 92 = .ok (.iadd, 1) := by decide +kernel
theorem dX6_see_93 : decode cX6_see 93 = .ok (.putfield 85, 3) := by decide +kernel
theorem dX6_see_96 : decode cX6_see 96 = .ok (.aload_n 0, 1) := by decide +kernel
theorem dX6_see_97 : decode cX6_see 97 = .ok (.getfield 85, 3) := by decide +kernel
theorem dX6_see_100 : decode cX6_see 100 = .ok (.ireturn, 1) := by decide +kernel
theorem dX6_forget_0 : decode cX6_forget 0 = .ok (.aload_n 0, 1) := by decide +kernel
theorem dX6_forget_1 : decode cX6_forget 1 = .ok (.getfield 85, 3) := by decide +kernel
theorem dX6_forget_4 : decode cX6_forget 4 = .ok (.istore_n 1, 1) := by decide +kernel
theorem dX6_forget_5 : decode cX6_forget 5 = .ok (.aload_n 0, 1) := by decide +kernel
theorem dX6_forget_6 : decode cX6_forget 6 = .ok (.iconst 0, 1) := by decide +kernel
theorem dX6_forget_7 : decode cX6_forget 7 = .ok (.putfield 85, 3) := by decide +kernel
theorem dX6_forget_10 : decode cX6_forget 10 = .ok (.iload_n 1, 1) := by decide +kernel
theorem dX6_forget_11 : decode cX6_forget 11 = .ok (.ireturn, 1) := by decide +kernel
set_option maxRecDepth 20000 in
theorem ggX6_waysBy_X6_tenthsBy : GoodIn wsX6_waysBy wsX6_tenthsBy := goodIn_r _ [7] (by decide +kernel) (by decide +kernel)
set_option maxRecDepth 20000 in
theorem gX6_waysBy_X6_tenthsBy : GoodIn wsX6_waysBy (va_wsS RX6 91 yX6_tenthsBy wsX6_tenthsBy) := goodIn_app (goodIn_of _ (by decide +kernel)) ggX6_waysBy_X6_tenthsBy
theorem dX6_waysBy_0 : decode cX6_waysBy 0 = .ok (.lconst 1, 1) := by decide +kernel
theorem dX6_waysBy_1 : decode cX6_waysBy 1 = .ok (.lstore_n 3, 1) := by decide +kernel
theorem dX6_waysBy_2 : decode cX6_waysBy 2 = .ok (.iconst 0, 1) := by decide +kernel
theorem dX6_waysBy_3 : decode cX6_waysBy 3 = .ok (.istore 5, 2) := by decide +kernel
theorem dX6_waysBy_5 : decode cX6_waysBy 5 = .ok (.iload 5, 2) := by decide +kernel
theorem dX6_waysBy_7 : decode cX6_waysBy 7 = .ok (.aload_n 0, 1) := by decide +kernel
theorem dX6_waysBy_8 : decode cX6_waysBy 8 = .ok (.getfield 85, 3) := by decide +kernel
theorem dX6_waysBy_11 : decode cX6_waysBy 11 = .ok (.if_icmp .ge 81, 3) := by decide +kernel
theorem dX6_waysBy_14 : decode cX6_waysBy 14 = .ok (.aload_n 0, 1) := by decide +kernel
theorem dX6_waysBy_15 : decode cX6_waysBy 15 = .ok (.getfield 13, 3) := by decide +kernel
theorem dX6_waysBy_18 : decode cX6_waysBy 18 = .ok (.iconst 3, 1) := by decide +kernel
theorem dX6_waysBy_19 : decode cX6_waysBy 19 = .ok (.iload_n 1, 1) := by decide +kernel
theorem dX6_waysBy_20 : decode cX6_waysBy 20 = .ok (.imul, 1) := by decide +kernel
theorem dX6_waysBy_21 : decode cX6_waysBy 21 = .ok (.iaload, 1) := by decide +kernel
theorem dX6_waysBy_22 : decode cX6_waysBy 22 = .ok (.iload_n 2, 1) := by decide +kernel
theorem dX6_waysBy_23 : decode cX6_waysBy 23 = .ok (.aload_n 0, 1) := by decide +kernel
theorem dX6_waysBy_24 : decode cX6_waysBy 24 = .ok (.getfield 25, 3) := by decide +kernel
theorem dX6_waysBy_27 : decode cX6_waysBy 27 = .ok (.iconst 3, 1) := by decide +kernel
theorem dX6_waysBy_28 : decode cX6_waysBy 28 = .ok (.iload 5, 2) := by decide +kernel
theorem dX6_waysBy_30 : decode cX6_waysBy 30 = .ok (.imul, 1) := by decide +kernel
theorem dX6_waysBy_31 : decode cX6_waysBy 31 = .ok (.iconst 1, 1) := by decide +kernel
theorem dX6_waysBy_32 : decode cX6_waysBy 32 = .ok (.iadd, 1) := by decide +kernel
theorem dX6_waysBy_33 : decode cX6_waysBy 33 = .ok (.iaload, 1) := by decide +kernel
theorem dX6_waysBy_34 : decode cX6_waysBy 34 = .ok (.invokestatic 91, 3) := by decide +kernel
theorem dX6_waysBy_37 : decode cX6_waysBy 37 = .ok (.istore 6, 2) := by decide +kernel
theorem dX6_waysBy_39 : decode cX6_waysBy 39 = .ok (.lload_n 3, 1) := by decide +kernel
theorem dX6_waysBy_40 : decode cX6_waysBy 40 = .ok (.aload_n 0, 1) := by decide +kernel
theorem dX6_waysBy_41 : decode cX6_waysBy 41 = .ok (.getfield 25, 3) := by decide +kernel
theorem dX6_waysBy_44 : decode cX6_waysBy 44 = .ok (.iconst 3, 1) := by decide +kernel
theorem dX6_waysBy_45 : decode cX6_waysBy 45 = .ok (.iload 5, 2) := by decide +kernel
theorem dX6_waysBy_47 : decode cX6_waysBy 47 = .ok (.imul, 1) := by decide +kernel
theorem dX6_waysBy_48 : decode cX6_waysBy 48 = .ok (.iaload, 1) := by decide +kernel
theorem dX6_waysBy_49 : decode cX6_waysBy 49 = .ok (.iload_n 1, 1) := by decide +kernel
theorem dX6_waysBy_50 : decode cX6_waysBy 50 = .ok (.if_icmp .eq 7, 3) := by decide +kernel
theorem dX6_waysBy_53 : decode cX6_waysBy 53 = .ok (.lconst 1, 1) := by decide +kernel
theorem dX6_waysBy_54 : decode cX6_waysBy 54 = .ok (.goto 30, 3) := by decide +kernel
theorem dX6_waysBy_57 : decode cX6_waysBy 57 = .ok (.aload_n 0, 1) := by decide +kernel
theorem dX6_waysBy_58 : decode cX6_waysBy 58 = .ok (.getfield 25, 3) := by decide +kernel
theorem dX6_waysBy_61 : decode cX6_waysBy 61 = .ok (.iconst 3, 1) := by decide +kernel
theorem dX6_waysBy_62 : decode cX6_waysBy 62 = .ok (.iload 5, 2) := by decide +kernel
theorem dX6_waysBy_64 : decode cX6_waysBy 64 = .ok (.imul, 1) := by decide +kernel
theorem dX6_waysBy_65 : decode cX6_waysBy 65 = .ok (.iconst 2, 1) := by decide +kernel
theorem dX6_waysBy_66 : decode cX6_waysBy 66 = .ok (.iadd, 1) := by decide +kernel
theorem dX6_waysBy_67 : decode cX6_waysBy 67 = .ok (.iaload, 1) := by decide +kernel
theorem dX6_waysBy_68 : decode cX6_waysBy 68 = .ok (.iconst 1, 1) := by decide +kernel
theorem dX6_waysBy_69 : decode cX6_waysBy 69 = .ok (.if_icmp .ne 9, 3) := by decide +kernel
theorem dX6_waysBy_72 : decode cX6_waysBy 72 = .ok (.iload 6, 2) := by decide +kernel
theorem dX6_waysBy_74 : decode cX6_waysBy 74 = .ok (.i2l, 1) := by decide +kernel
theorem dX6_waysBy_75 : decode cX6_waysBy 75 = .ok (.goto 9, 3) := by decide +kernel
theorem dX6_waysBy_78 : decode cX6_waysBy 78 = .ok (.bipush 10, 2) := by decide +kernel
theorem dX6_waysBy_80 : decode cX6_waysBy 80 = .ok (.iload 6, 2) := by decide +kernel
theorem dX6_waysBy_82 : decode cX6_waysBy 82 = .ok (.isub, 1) := by decide +kernel
theorem dX6_waysBy_83 : decode cX6_waysBy 83 = .ok (.i2l, 1) := by decide +kernel
theorem dX6_waysBy_84 : decode cX6_waysBy 84 = .ok (.lmul, 1) := by decide +kernel
theorem dX6_waysBy_85 : decode cX6_waysBy 85 = .ok (.lstore_n 3, 1) := by decide +kernel
theorem dX6_waysBy_86 : decode cX6_waysBy 86 = .ok (.iinc 5 1, 3) := by decide +kernel
theorem dX6_waysBy_89 : decode cX6_waysBy 89 = .ok (.goto (-84), 3) := by decide +kernel
theorem dX6_waysBy_92 : decode cX6_waysBy 92 = .ok (.lload_n 3, 1) := by decide +kernel
theorem dX6_waysBy_93 : decode cX6_waysBy 93 = .ok (.lreturn, 1) := by decide +kernel
set_option maxRecDepth 20000 in
theorem ggX6_faithsOf_X6_waysBy : GoodIn wsX6_faithsOf wsX6_waysBy := goodIn_r _ [5, 6, 7, 8, 9, 10, 4, 11, 12, 13, 14, 15, 16, 17, 18, 19, 20, 21, 22, 23, 24, 25, 26, 27, 28, 29, 30, 31, 32, 33] (by decide +kernel) (by decide +kernel)
set_option maxRecDepth 20000 in
theorem gX6_faithsOf_X6_waysBy : GoodIn wsX6_faithsOf (wsV RX6 170 RX6 yX6_waysBy wsX6_waysBy) := goodIn_app (goodIn_of _ (by decide +kernel)) ggX6_faithsOf_X6_waysBy
theorem dX6_faithsOf_0 : decode cX6_faithsOf 0 = .ok (.iconst 0, 1) := by decide +kernel
theorem dX6_faithsOf_1 : decode cX6_faithsOf 1 = .ok (.istore_n 2, 1) := by decide +kernel
theorem dX6_faithsOf_2 : decode cX6_faithsOf 2 = .ok (.iconst 0, 1) := by decide +kernel
theorem dX6_faithsOf_3 : decode cX6_faithsOf 3 = .ok (.istore_n 3, 1) := by decide +kernel
theorem dX6_faithsOf_4 : decode cX6_faithsOf 4 = .ok (.iload_n 3, 1) := by decide +kernel
theorem dX6_faithsOf_5 : decode cX6_faithsOf 5 = .ok (.bipush 10, 2) := by decide +kernel
theorem dX6_faithsOf_7 : decode cX6_faithsOf 7 = .ok (.if_icmp .ge 30, 3) := by decide +kernel
theorem dX6_faithsOf_10 : decode cX6_faithsOf 10 = .ok (.iload_n 2, 1) := by decide +kernel
theorem dX6_faithsOf_11 : decode cX6_faithsOf 11 = .ok (.aload_n 0, 1) := by decide +kernel
theorem dX6_faithsOf_12 : decode cX6_faithsOf 12 = .ok (.iload_n 1, 1) := by decide +kernel
theorem dX6_faithsOf_13 : decode cX6_faithsOf 13 = .ok (.iload_n 3, 1) := by decide +kernel
theorem dX6_faithsOf_14 : decode cX6_faithsOf 14 = .ok (.invokevirtual 170, 3) := by decide +kernel
theorem dX6_faithsOf_17 : decode cX6_faithsOf 17 = .ok (.lconst 0, 1) := by decide +kernel
theorem dX6_faithsOf_18 : decode cX6_faithsOf 18 = .ok (.lcmp, 1) := by decide +kernel
theorem dX6_faithsOf_19 : decode cX6_faithsOf 19 = .ok (.ifCond .le 9, 3) := by decide +kernel
theorem dX6_faithsOf_22 : decode cX6_faithsOf 22 = .ok (.iconst 1, 1) := by decide +kernel
theorem dX6_faithsOf_23 : decode cX6_faithsOf 23 = .ok (.iload_n 3, 1) := by decide +kernel
theorem dX6_faithsOf_24 : decode cX6_faithsOf 24 = .ok (.ishl, 1) := by decide +kernel
theorem dX6_faithsOf_25 : decode cX6_faithsOf 25 = .ok (.goto 4, 3) := by decide +kernel
theorem dX6_faithsOf_28 : decode cX6_faithsOf 28 = .ok (.iconst 0, 1) := by decide +kernel
theorem dX6_faithsOf_29 : decode cX6_faithsOf 29 = .ok (.ior, 1) := by decide +kernel
theorem dX6_faithsOf_30 : decode cX6_faithsOf 30 = .ok (.istore_n 2, 1) := by decide +kernel
theorem dX6_faithsOf_31 : decode cX6_faithsOf 31 = .ok (.iinc 3 1, 3) := by decide +kernel
theorem dX6_faithsOf_34 : decode cX6_faithsOf 34 = .ok (.goto (-30), 3) := by decide +kernel
theorem dX6_faithsOf_37 : decode cX6_faithsOf 37 = .ok (.iload_n 2, 1) := by decide +kernel
theorem dX6_faithsOf_38 : decode cX6_faithsOf 38 = .ok (.ireturn, 1) := by decide +kernel
set_option maxRecDepth 20000 in
theorem ggX6_likelyOf_X6_waysBy : GoodIn wsX6_likelyOf wsX6_waysBy := goodIn_r _ [5, 6, 7, 8, 9, 10, 4, 11, 12, 13, 14, 15, 16, 17, 18, 19, 20, 21, 22, 23, 24, 25, 26, 27, 28, 29, 30, 31, 32, 33] (by decide +kernel) (by decide +kernel)
set_option maxRecDepth 20000 in
theorem gX6_likelyOf_X6_waysBy : GoodIn wsX6_likelyOf (wsV RX6 170 RX6 yX6_waysBy wsX6_waysBy) := goodIn_app (goodIn_of _ (by decide +kernel)) ggX6_likelyOf_X6_waysBy
theorem dX6_likelyOf_0 : decode cX6_likelyOf 0 = .ok (.iconst (-1), 1) := by decide +kernel
theorem dX6_likelyOf_1 : decode cX6_likelyOf 1 = .ok (.istore_n 2, 1) := by decide +kernel
theorem dX6_likelyOf_2 : decode cX6_likelyOf 2 = .ok (.lconst 0, 1) := by decide +kernel
theorem dX6_likelyOf_3 : decode cX6_likelyOf 3 = .ok (.lstore_n 3, 1) := by decide +kernel
theorem dX6_likelyOf_4 : decode cX6_likelyOf 4 = .ok (.iconst 0, 1) := by decide +kernel
theorem dX6_likelyOf_5 : decode cX6_likelyOf 5 = .ok (.istore 5, 2) := by decide +kernel
theorem dX6_likelyOf_7 : decode cX6_likelyOf 7 = .ok (.iload 5, 2) := by decide +kernel
theorem dX6_likelyOf_9 : decode cX6_likelyOf 9 = .ok (.bipush 10, 2) := by decide +kernel
theorem dX6_likelyOf_11 : decode cX6_likelyOf 11 = .ok (.if_icmp .ge 46, 3) := by decide +kernel
theorem dX6_likelyOf_14 : decode cX6_likelyOf 14 = .ok (.aload_n 0, 1) := by decide +kernel
theorem dX6_likelyOf_15 : decode cX6_likelyOf 15 = .ok (.iload_n 1, 1) := by decide +kernel
theorem dX6_likelyOf_16 : decode cX6_likelyOf 16 = .ok (.iload 5, 2) := by decide +kernel
theorem dX6_likelyOf_18 : decode cX6_likelyOf 18 = .ok (.invokevirtual 170, 3) := by decide +kernel
theorem dX6_likelyOf_21 : decode cX6_likelyOf 21 = .ok (.lstore 6, 2) := by decide +kernel
theorem dX6_likelyOf_23 : decode cX6_likelyOf 23 = .ok (.lload 6, 2) := by decide +kernel
theorem dX6_likelyOf_25 : decode cX6_likelyOf 25 = .ok (.lload_n 3, 1) := by decide +kernel
theorem dX6_likelyOf_26 : decode cX6_likelyOf 26 = .ok (.lcmp, 1) := by decide +kernel
theorem dX6_likelyOf_27 : decode cX6_likelyOf 27 = .ok (.ifCond .le 8, 3) := by decide +kernel
theorem dX6_likelyOf_30 : decode cX6_likelyOf 30 = .ok (.iload 5, 2) := by decide +kernel
theorem dX6_likelyOf_32 : decode cX6_likelyOf 32 = .ok (.goto 4, 3) := by decide +kernel
theorem dX6_likelyOf_35 : decode cX6_likelyOf 35 = .ok (.iload_n 2, 1) := by decide +kernel
theorem dX6_likelyOf_36 : decode cX6_likelyOf 36 = .ok (.istore_n 2, 1) := by decide +kernel
theorem dX6_likelyOf_37 : decode cX6_likelyOf 37 = .ok (.lload 6, 2) := by decide +kernel
theorem dX6_likelyOf_39 : decode cX6_likelyOf 39 = .ok (.lload_n 3, 1) := by decide +kernel
theorem dX6_likelyOf_40 : decode cX6_likelyOf 40 = .ok (.lcmp, 1) := by decide +kernel
theorem dX6_likelyOf_41 : decode cX6_likelyOf 41 = .ok (.ifCond .le 8, 3) := by decide +kernel
theorem dX6_likelyOf_44 : decode cX6_likelyOf 44 = .ok (.lload 6, 2) := by decide +kernel
theorem dX6_likelyOf_46 : decode cX6_likelyOf 46 = .ok (.goto 4, 3) := by decide +kernel
theorem dX6_likelyOf_49 : decode cX6_likelyOf 49 = .ok (.lload_n 3, 1) := by decide +kernel
theorem dX6_likelyOf_50 : decode cX6_likelyOf 50 = .ok (.lstore_n 3, 1) := by decide +kernel
theorem dX6_likelyOf_51 : decode cX6_likelyOf 51 = .ok (.iinc 5 1, 3) := by decide +kernel
theorem dX6_likelyOf_54 : decode cX6_likelyOf 54 = .ok (.goto (-47), 3) := by decide +kernel
theorem dX6_likelyOf_57 : decode cX6_likelyOf 57 = .ok (.iload_n 2, 1) := by decide +kernel
theorem dX6_likelyOf_58 : decode cX6_likelyOf 58 = .ok (.ireturn, 1) := by decide +kernel
theorem dX6_draw_0 : decode cX6_draw 0 = .ok (.aload_n 0, 1) := by decide +kernel
theorem dX6_draw_1 : decode cX6_draw 1 = .ok (.ldc2_w 173, 3) := by decide +kernel
theorem dX6_draw_4 : decode cX6_draw 4 = .ok (.aload_n 0, 1) := by decide +kernel
theorem dX6_draw_5 : decode cX6_draw 5 = .ok (.getfield 175, 3) := by decide +kernel
theorem dX6_draw_8 : decode cX6_draw 8 = .ok (.i2l, 1) := by decide +kernel
theorem dX6_draw_9 : decode cX6_draw 9 = .ok (.lmul, 1) := by decide +kernel
theorem dX6_draw_10 : decode cX6_draw 10 = .ok (.ldc2_w 178, 3) := by decide +kernel
theorem dX6_draw_13 : decode cX6_draw 13 = .ok (.ladd, 1) := by decide +kernel
theorem dX6_draw_14 : decode cX6_draw 14 = .ok (.ldc2_w 180, 3) := by decide +kernel
theorem dX6_draw_17 : decode cX6_draw 17 = .ok (.land, 1) := by decide +kernel
theorem dX6_draw_18 : decode cX6_draw 18 = .ok (.l2i, 1) := by decide +kernel
theorem dX6_draw_19 : decode cX6_draw 19 = .ok (.putfield 175, 3) := by decide +kernel
theorem dX6_draw_22 : decode cX6_draw 22 = .ok (.aload_n 0, 1) := by decide +kernel
theorem dX6_draw_23 : decode cX6_draw 23 = .ok (.getfield 175, 3) := by decide +kernel
theorem dX6_draw_26 : decode cX6_draw 26 = .ok (.ldc 182, 2) := by decide +kernel
theorem dX6_draw_28 : decode cX6_draw 28 = .ok (.idiv, 1) := by decide +kernel
theorem dX6_draw_29 : decode cX6_draw 29 = .ok (.iload_n 1, 1) := by decide +kernel
theorem dX6_draw_30 : decode cX6_draw 30 = .ok (.irem, 1) := by decide +kernel
theorem dX6_draw_31 : decode cX6_draw 31 = .ok (.ireturn, 1) := by decide +kernel
set_option maxRecDepth 20000 in
theorem ggX6_centuries_X6_in : GoodIn wsX6_centuries wsX6_in := goodIn_r _ [11] (by decide +kernel) (by decide +kernel)
set_option maxRecDepth 20000 in
theorem gX6_centuries_X6_in : GoodIn wsX6_centuries (va_wsS RX6 46 yX6_in wsX6_in) := goodIn_app (goodIn_of _ (by decide +kernel)) ggX6_centuries_X6_in
set_option maxRecDepth 20000 in
theorem ggX6_centuries_X6_lacks : GoodIn wsX6_centuries wsX6_lacks := goodIn_r _ [15, 6, 42, 43, 44, 45, 46, 47, 48, 49, 50, 51, 52, 53, 54, 55, 56, 57, 58, 59, 60, 61, 62, 63] (by decide +kernel) (by decide +kernel)
set_option maxRecDepth 20000 in
theorem gX6_centuries_X6_lacks : GoodIn wsX6_centuries (wsV RX6 135 RX6 yX6_lacks wsX6_lacks) := goodIn_app (goodIn_of _ (by decide +kernel)) ggX6_centuries_X6_lacks
set_option maxRecDepth 20000 in
theorem ggX6_centuries_X6_copy : GoodIn wsX6_centuries wsX6_copy := goodIn_r _ [18] (by decide +kernel) (by decide +kernel)
set_option maxRecDepth 20000 in
theorem gX6_centuries_X6_copy : GoodIn wsX6_centuries (va_wsS RX6 161 yX6_copy wsX6_copy) := goodIn_app (goodIn_of _ (by decide +kernel)) ggX6_centuries_X6_copy
set_option maxRecDepth 20000 in
theorem ggX6_centuries_X6_draw : GoodIn wsX6_centuries wsX6_draw := goodIn_r _ [22, 23, 5, 24, 25, 26, 42, 43, 44, 45, 46, 47, 48, 49, 50, 51, 52, 53, 54, 55, 56, 57, 58, 59, 60, 61, 62, 63] (by decide +kernel) (by decide +kernel)
set_option maxRecDepth 20000 in
theorem gX6_centuries_X6_draw : GoodIn wsX6_centuries (wsV RX6 185 RX6 yX6_draw wsX6_draw) := goodIn_app (goodIn_of _ (by decide +kernel)) ggX6_centuries_X6_draw
set_option maxRecDepth 20000 in
theorem ggX6_centuries_X6_tenthsIn : GoodIn wsX6_centuries wsX6_tenthsIn := goodIn_r _ [30, 3, 31, 32, 33, 10, 34, 7, 35, 36, 37, 42, 43, 44, 45, 46, 47, 48, 49, 50, 51, 52, 53, 54, 55, 56, 57, 58, 59, 60, 61, 62, 63] (by decide +kernel) (by decide +kernel)
set_option maxRecDepth 20000 in
theorem gX6_centuries_X6_tenthsIn : GoodIn wsX6_centuries (wsV RX6 123 RX6 yX6_tenthsIn wsX6_tenthsIn) := goodIn_app (goodIn_of _ (by decide +kernel)) ggX6_centuries_X6_tenthsIn
set_option maxRecDepth 20000 in
theorem ggX6_centuries_X6_eggsIn : GoodIn wsX6_centuries wsX6_eggsIn := goodIn_r _ [41, 6, 3, 42, 43, 44, 45, 46, 47, 48, 49, 50, 51, 52, 53, 54, 55, 56, 57, 58, 59, 60, 61, 62, 63] (by decide +kernel) (by decide +kernel)
set_option maxRecDepth 20000 in
theorem gX6_centuries_X6_eggsIn : GoodIn wsX6_centuries (wsV RX6 98 RX6 yX6_eggsIn wsX6_eggsIn) := goodIn_app (goodIn_of _ (by decide +kernel)) ggX6_centuries_X6_eggsIn
theorem dX6_centuries_0 : decode cX6_centuries 0 = .ok (.iload_n 1, 1) := by decide +kernel
theorem dX6_centuries_1 : decode cX6_centuries 1 = .ok (.i2l, 1) := by decide +kernel
theorem dX6_centuries_2 : decode cX6_centuries 2 = .ok (.lconst 1, 1) := by decide +kernel
theorem dX6_centuries_3 : decode cX6_centuries 3 = .ok (.ldc2_w 183, 3) := by decide +kernel
theorem dX6_centuries_6 : decode cX6_centuries 6 = .ok (.invokestatic 46, 3) := by decide +kernel
theorem dX6_centuries_9 : decode cX6_centuries 9 = .ok (.ifCond .eq 19, 3) := by decide +kernel
theorem dX6_centuries_12 : decode cX6_centuries 12 = .ok (.iload_n 2, 1) := by decide +kernel
theorem dX6_centuries_13 : decode cX6_centuries 13 = .ok (.ifCond .lt 15, 3) := by decide +kernel
theorem dX6_centuries_16 : decode cX6_centuries 16 = .ok (.iload_n 3, 1) := by decide +kernel
theorem dX6_centuries_17 : decode cX6_centuries 17 = .ok (.i2l, 1) := by decide +kernel
theorem dX6_centuries_18 : decode cX6_centuries 18 = .ok (.lconst 0, 1) := by decide +kernel
theorem dX6_centuries_19 : decode cX6_centuries 19 = .ok (.ldc2_w 148, 3) := by decide +kernel
theorem dX6_centuries_22 : decode cX6_centuries 22 = .ok (.invokestatic 46, 3) := by decide +kernel
theorem dX6_centuries_25 : decode cX6_centuries 25 = .ok (.ifCond .ne 6, 3) := by decide +kernel
theorem dX6_centuries_28 : decode cX6_centuries 28 = .ok (.bipush (-102), 2) := by decide +kernel
theorem dX6_centuries_30 : decode cX6_centuries 30 = .ok (.ireturn, 1) := by decide +kernel
theorem dX6_centuries_31 : decode cX6_centuries 31 = .ok (.aload_n 0, 1) := by decide +kernel
theorem dX6_centuries_32 : decode cX6_centuries 32 = .ok (.invokevirtual 135, 3) := by decide +kernel
theorem dX6_centuries_35 : decode cX6_centuries 35 = .ok (.ifCond .eq 6, 3) := by decide +kernel
theorem dX6_centuries_38 : decode cX6_centuries 38 = .ok (.bipush (-103), 2) := by decide +kernel
theorem dX6_centuries_40 : decode cX6_centuries 40 = .ok (.ireturn, 1) := by decide +kernel
theorem dX6_centuries_41 : decode cX6_centuries 41 = .ok (.aload_n 0, 1) := by decide +kernel
theorem dX6_centuries_42 : decode cX6_centuries 42 = .ok (.getfield 16, 3) := by decide +kernel
theorem dX6_centuries_45 : decode cX6_centuries 45 = .ok (.aload_n 0, 1) := by decide +kernel
theorem dX6_centuries_46 : decode cX6_centuries 46 = .ok (.getfield 28, 3) := by decide +kernel
theorem dX6_centuries_49 : decode cX6_centuries 49 = .ok (.invokestatic 161, 3) := by decide +kernel
theorem dX6_centuries_52 : decode cX6_centuries 52 = .ok (.aload_n 0, 1) := by decide +kernel
theorem dX6_centuries_53 : decode cX6_centuries 53 = .ok (.iload_n 2, 1) := by decide +kernel
theorem dX6_centuries_54 : decode cX6_centuries 54 = .ok (.putfield 175, 3) := by decide +kernel
theorem dX6_centuries_57 : decode cX6_centuries 57 = .ok (.iconst 0, 1) := by decide +kernel
theorem dX6_centuries_58 : decode cX6_centuries 58 = .ok (.istore 4, 2) := by decide +kernel
theorem dX6_centuries_60 : decode cX6_centuries 60 = .ok (.iconst 0, 1) := by decide +kernel
theorem dX6_centuries_61 : decode cX6_centuries 61 = .ok (.istore 5, 2) := by decide +kernel
theorem dX6_centuries_63 : decode cX6_centuries 63 = .ok (.iload 5, 2) := by decide +kernel
theorem dX6_centuries_65 : decode cX6_centuries 65 = .ok (.iload_n 1, 1) := by decide +kernel
theorem dX6_centuries_66 : decode cX6_centuries 66 = .ok (.if_icmp .ge 149, 3) := by decide +kernel
theorem dX6_centuries_69 : decode cX6_centuries 69 = .ok (.iconst 0, 1) := by decide +kernel
theorem dX6_centuries_70 : decode cX6_centuries 70 = .ok (.istore 6, 2) := by decide +kernel
theorem dX6_centuries_72 : decode cX6_centuries 72 = .ok (.iload 6, 2) := by decide +kernel
theorem dX6_centuries_74 : decode cX6_centuries 74 = .ok (.aload_n 0, 1) := by decide +kernel
theorem dX6_centuries_75 : decode cX6_centuries 75 = .ok (.getfield 75, 3) := by decide +kernel
theorem dX6_centuries_78 : decode cX6_centuries 78 = .ok (.if_icmp .ge 131, 3) := by decide +kernel
theorem dX6_centuries_81 : decode cX6_centuries 81 = .ok (.aload_n 0, 1) := by decide +kernel
theorem dX6_centuries_82 : decode cX6_centuries 82 = .ok (.getfield 16, 3) := by decide +kernel
theorem dX6_centuries_85 : decode cX6_centuries 85 = .ok (.iconst 4, 1) := by decide +kernel
theorem dX6_centuries_86 : decode cX6_centuries 86 = .ok (.iload 6, 2) := by decide +kernel
theorem dX6_centuries_88 : decode cX6_centuries 88 = .ok (.imul, 1) := by decide +kernel
theorem dX6_centuries_89 : decode cX6_centuries 89 = .ok (.iconst 1, 1) := by decide +kernel
theorem dX6_centuries_90 : decode cX6_centuries 90 = .ok (.iadd, 1) := by decide +kernel
theorem dX6_centuries_91 : decode cX6_centuries 91 = .ok (.iaload, 1) := by decide +kernel
theorem dX6_centuries_92 : decode cX6_centuries 92 = .ok (.iconst (-1), 1) := by decide +kernel
theorem dX6_centuries_93 : decode cX6_centuries 93 = .ok (.if_icmp .eq 110, 3) := by decide +kernel
theorem dX6_centuries_96 : decode cX6_centuries 96 = .ok (.aload_n 0, 1) := by decide +kernel
theorem dX6_centuries_97 : decode cX6_centuries 97 = .ok (.bipush 10, 2) := by decide +kernel
theorem dX6_centuries_99 : decode cX6_centuries 99 = .ok (.invokevirtual 185, 3) := by decide +kernel
theorem dX6_centuries_102 : decode cX6_centuries 102 = .ok (.aload_n 0, 1) := by decide +kernel
theorem dX6_centuries_103 : decode cX6_centuries 103 = .ok (.iload 6, 2) := by decide +kernel
theorem dX6_centuries_105 : decode cX6_centuries 105 = .ok (.invokevirtual 123, 3) := by decide +kernel
theorem dX6_centuries_108 : decode cX6_centuries 108 = .ok (.if_icmp .ge 7, 3) := by decide +kernel
theorem dX6_centuries_111 : decode cX6_centuries 111 = .ok (.iconst 1, 1) := by decide +kernel
theorem dX6_centuries_112 : decode cX6_centuries 112 = .ok (.goto 4, 3) := by decide +kernel
theorem dX6_centuries_115 : decode cX6_centuries 115 = .ok (.iconst 0, 1) := by decide +kernel
theorem dX6_centuries_116 : decode cX6_centuries 116 = .ok (.istore 7, 2) := by decide +kernel
theorem dX6_centuries_118 : decode cX6_centuries 118 = .ok (.iload 4, 2) := by decide +kernel
theorem dX6_centuries_120 : decode cX6_centuries 120 = .ok (.iload 7, 2) := by decide +kernel
theorem dX6_centuries_122 : decode cX6_centuries 122 = .ok (.ifCond .eq 7, 3) := by decide +kernel
theorem dX6_centuries_125 : decode cX6_centuries 125 = .ok (.iconst 0, 1) := by decide +kernel
theorem dX6_centuries_126 : decode cX6_centuries 126 = .ok (.goto 4, 3) := by decide +kernel
theorem dX6_centuries_129 : decode cX6_centuries 129 = .ok (.iconst 1, 1) := by decide +kernel
theorem dX6_centuries_130 : decode cX6_centuries 130 = .ok (.iadd, 1) := by decide +kernel
theorem dX6_centuries_131 : decode cX6_centuries 131 = .ok (.istore 4, 2) := by decide +kernel
theorem dX6_centuries_133 : decode cX6_centuries 133 = .ok (.aload_n 0, 1) := by decide +kernel
theorem dX6_centuries_134 : decode cX6_centuries 134 = .ok (.getfield 16, 3) := by decide +kernel
theorem dX6_centuries_137 : decode cX6_centuries 137 = .ok (.iconst 4, 1) := by decide +kernel
theorem dX6_centuries_138 : decode cX6_centuries 138 = .ok (.iload 6, 2) := by decide +kernel
theorem dX6_centuries_140 : decode cX6_centuries 140 = .ok (.imul, 1) := by decide +kernel
theorem dX6_centuries_141 : decode cX6_centuries 141 = .ok (.iconst 3, 1) := by decide +kernel
theorem dX6_centuries_142 : decode cX6_centuries 142 = .ok (.iadd, 1) := by decide +kernel
theorem dX6_centuries_143 : decode cX6_centuries 143 = .ok (.dup2, 1) := by decide +kernel
theorem dX6_centuries_144 : decode cX6_centuries 144 = .ok (.iaload, 1) := by decide +kernel
theorem dX6_centuries_145 : decode cX6_centuries 145 = .ok (.iload 7, 2) := by decide +kernel
theorem dX6_centuries_147 : decode cX6_centuries 147 = .ok (.ifCond .eq 7, 3) := by decide +kernel
theorem dX6_centuries_150 : decode cX6_centuries 150 = .ok (.iconst 1, 1) := by decide +kernel
theorem dX6_centuries_151 : decode cX6_centuries 151 = .ok (.goto 4, 3) := by decide +kernel
theorem dX6_centuries_154 : decode cX6_centuries 154 = .ok (.iconst 0, 1) := by decide +kernel
theorem dX6_centuries_155 : decode cX6_centuries 155 = .ok (.imul, 1) := by decide +kernel
theorem dX6_centuries_156 : decode cX6_centuries 156 = .ok (.iastore, 1) := by decide +kernel
theorem dX6_centuries_157 : decode cX6_centuries 157 = .ok (.aload_n 0, 1) := by decide +kernel
theorem dX6_centuries_158 : decode cX6_centuries 158 = .ok (.getfield 16, 3) := by decide +kernel
theorem dX6_centuries_161 : decode cX6_centuries 161 = .ok (.iconst 4, 1) := by decide +kernel
theorem dX6_centuries_162 : decode cX6_centuries 162 = .ok (.iload 6, 2) := by decide +kernel
theorem dX6_centuries_164 : decode cX6_centuries 164 = .ok (.imul, 1) := by decide +kernel
theorem dX6_centuries_165 : decode cX6_centuries 165 = .ok (.iconst 3, 1) := by decide +kernel
theorem dX6_centuries_166 : decode cX6_centuries 166 = .ok (.iadd, 1) := by decide +kernel
theorem dX6_centuries_167 : decode cX6_centuries 167 = .ok (.dup2, 1) := by decide +kernel
theorem dX6_centuries_168 : decode cX6_centuries 168 = .ok (.iaload, 1) := by decide +kernel
theorem dX6_centuries_169 : decode cX6_centuries 169 = .ok (.iload 7, 2) := by decide +kernel
theorem dX6_centuries_171 : decode cX6_centuries 171 = .ok (.ifCond .eq 29, 3) := by decide +kernel
theorem dX6_centuries_174 : decode cX6_centuries 174 = .ok (.aload_n 0, 1) := by decide +kernel
theorem dX6_centuries_175 : decode cX6_centuries 175 = .ok (.getfield 13, 3) := by decide +kernel
theorem dX6_centuries_178 : decode cX6_centuries 178 = .ok (.iconst 3, 1) := by decide +kernel
theorem dX6_centuries_179 : decode cX6_centuries 179 = .ok (.aload_n 0, 1) := by decide +kernel
theorem dX6_centuries_180 : decode cX6_centuries 180 = .ok (.getfield 16, 3) := by decide +kernel
theorem dX6_centuries_183 : decode cX6_centuries 183 = .ok (.iconst 4, 1) := by decide +kernel
theorem dX6_centuries_184 : decode cX6_centuries 184 = .ok (.iload 6, 2) := by decide +kernel
theorem dX6_centuries_186 : decode cX6_centuries 186 = .ok (.imul, 1) := by decide +kernel
theorem dX6_centuries_187 : decode cX6_centuries 187 = .ok (.iconst 1, 1) := by decide +kernel
theorem dX6_centuries_188 : decode cX6_centuries 188 = .ok (.iadd, 1) := by decide +kernel
theorem dX6_centuries_189 : decode cX6_centuries 189 = .ok (.iaload, 1) := by decide +kernel
theorem dX6_centuries_190 : decode cX6_centuries 190 = .ok (.imul, 1) := by decide +kernel
theorem dX6_centuries_191 : decode cX6_centuries 191 = .ok (.iaload, 1) := by decide +kernel
theorem dX6_centuries_192 : decode cX6_centuries 192 = .ok (.iconst 2, 1) := by decide +kernel
theorem dX6_centuries_193 : decode cX6_centuries 193 = .ok (.if_icmp .eq 7, 3) := by decide +kernel
theorem dX6_centuries_196 : decode cX6_centuries 196 = .ok (.iconst 1, 1) := by decide +kernel
theorem dX6_centuries_197 : decode cX6_centuries 197 = .ok (.goto 4, 3) := by decide +kernel
theorem dX6_centuries_200 : decode cX6_centuries 200 = .ok (.iconst 0, 1) := by decide +kernel
theorem dX6_centuries_201 : decode cX6_centuries 201 = .ok (.iadd, 1) := by decide +kernel
theorem dX6_centuries_202 : decode cX6_centuries 202 = .ok (.iastore, 1) := by decide +kernel
theorem dX6_centuries_203 : decode cX6_centuries 203 = .ok (.iinc 6 1, 3) := by decide +kernel
theorem dX6_centuries_206 : decode cX6_centuries 206 = .ok (.goto (-134), 3) := by decide +kernel
theorem dX6_centuries_209 : decode cX6_centuries 209 = .ok (.iinc 5 1, 3) := by decide +kernel
theorem dX6_centuries_212 : decode cX6_centuries 212 = .ok (.goto (-149), 3) := by decide +kernel
theorem dX6_centuries_215 : decode cX6_centuries 215 = .ok (.aload_n 0, 1) := by decide +kernel
theorem dX6_centuries_216 : decode cX6_centuries 216 = .ok (.bipush 31, 2) := by decide +kernel
theorem dX6_centuries_218 : decode cX6_centuries 218 = .ok (.invokevirtual 98, 3) := by decide +kernel
theorem dX6_centuries_221 : decode cX6_centuries 221 = .ok (.istore 5, 2) := by decide +kernel
theorem dX6_centuries_223 : decode cX6_centuries 223 = .ok (.aload_n 0, 1) := by decide +kernel
theorem dX6_centuries_224 : decode cX6_centuries 224 = .ok (.getfield 28, 3) := by decide +kernel
theorem dX6_centuries_227 : decode cX6_centuries 227 = .ok (.aload_n 0, 1) := by decide +kernel
theorem dX6_centuries_228 : decode cX6_centuries 228 = .ok (.getfield 16, 3) := by decide +kernel
theorem dX6_centuries_231 : decode cX6_centuries 231 = .ok (.invokestatic 161, 3) := by decide +kernel
theorem dX6_centuries_234 : decode cX6_centuries 234 = .ok (.iload_n 3, 1) := by decide +kernel
theorem dX6_centuries_235 : decode cX6_centuries 235 = .ok (.ifCond .ne 8, 3) := by decide +kernel
theorem dX6_centuries_238 : decode cX6_centuries 238 = .ok (.iload 4, 2) := by decide +kernel
theorem dX6_centuries_240 : decode cX6_centuries 240 = .ok (.goto 17, 3) := by decide +kernel
theorem dX6_centuries_243 : decode cX6_centuries 243 = .ok (.iload_n 3, 1) := by decide +kernel
theorem dX6_centuries_244 : decode cX6_centuries 244 = .ok (.iconst 1, 1) := by decide +kernel
theorem dX6_centuries_245 : decode cX6_centuries 245 = .ok (.if_icmp .ne 8, 3) := by decide +kernel
theorem dX6_centuries_248 : decode cX6_centuries 248 = .ok (.iload 5, 2) := by decide +kernel
theorem dX6_centuries_250 : decode cX6_centuries 250 = .ok (.goto 7, 3) := by decide +kernel
theorem dX6_centuries_253 : decode cX6_centuries 253 = .ok (.aload_n 0, 1) := by decide +kernel
theorem dX6_centuries_254 : decode cX6_centuries 254 = .ok (.getfield 175, 3) := by decide +kernel
theorem dX6_centuries_257 : decode cX6_centuries 257 = .ok (.ireturn, 1) := by decide +kernel
set_option maxRecDepth 20000 in
theorem ggX6_image_X6_lacks : GoodIn wsX6_image wsX6_lacks := goodIn_r _ [17, 18, 22, 23, 24, 25, 26, 27, 28, 29, 30, 31, 32, 33, 34, 35, 36, 37, 38, 39, 40, 41, 42, 43] (by decide +kernel) (by decide +kernel)
set_option maxRecDepth 20000 in
theorem gX6_image_X6_lacks : GoodIn wsX6_image (wsV RX6 135 RX6 yX6_lacks wsX6_lacks) := goodIn_app (goodIn_of _ (by decide +kernel)) ggX6_image_X6_lacks
set_option maxRecDepth 20000 in
theorem ggX6_image_X6_copy : GoodIn wsX6_image wsX6_copy := goodIn_r _ [21] (by decide +kernel) (by decide +kernel)
set_option maxRecDepth 20000 in
theorem gX6_image_X6_copy : GoodIn wsX6_image (va_wsS RX6 161 yX6_copy wsX6_copy) := goodIn_app (goodIn_of _ (by decide +kernel)) ggX6_image_X6_copy
theorem dX6_image_0 : decode cX6_image 0 = .ok (.aload_n 0, 1) := by decide +kernel
theorem dX6_image_1 : decode cX6_image 1 = .ok (.invokevirtual 135, 3) := by decide +kernel
theorem dX6_image_4 : decode cX6_image 4 = .ok (.ifCond .eq 6, 3) := by decide +kernel
theorem dX6_image_7 : decode cX6_image 7 = .ok (.bipush (-103), 2) := by decide +kernel
theorem dX6_image_9 : decode cX6_image 9 = .ok (.ireturn, 1) := by decide +kernel
theorem dX6_image_10 : decode cX6_image 10 = .ok (.aload_n 0, 1) := by decide +kernel
theorem dX6_image_11 : decode cX6_image 11 = .ok (.getfield 13, 3) := by decide +kernel
theorem dX6_image_14 : decode cX6_image 14 = .ok (.aload_n 0, 1) := by decide +kernel
theorem dX6_image_15 : decode cX6_image 15 = .ok (.getfield 31, 3) := by decide +kernel
theorem dX6_image_18 : decode cX6_image 18 = .ok (.invokestatic 161, 3) := by decide +kernel
theorem dX6_image_21 : decode cX6_image 21 = .ok (.aload_n 0, 1) := by decide +kernel
theorem dX6_image_22 : decode cX6_image 22 = .ok (.getfield 16, 3) := by decide +kernel
theorem dX6_image_25 : decode cX6_image 25 = .ok (.aload_n 0, 1) := by decide +kernel
theorem dX6_image_26 : decode cX6_image 26 = .ok (.getfield 34, 3) := by decide +kernel
theorem dX6_image_29 : decode cX6_image 29 = .ok (.invokestatic 161, 3) := by decide +kernel
theorem dX6_image_32 : decode cX6_image 32 = .ok (.aload_n 0, 1) := by decide +kernel
theorem dX6_image_33 : decode cX6_image 33 = .ok (.getfield 25, 3) := by decide +kernel
theorem dX6_image_36 : decode cX6_image 36 = .ok (.aload_n 0, 1) := by decide +kernel
theorem dX6_image_37 : decode cX6_image 37 = .ok (.getfield 37, 3) := by decide +kernel
theorem dX6_image_40 : decode cX6_image 40 = .ok (.invokestatic 161, 3) := by decide +kernel
theorem dX6_image_43 : decode cX6_image 43 = .ok (.aload_n 0, 1) := by decide +kernel
theorem dX6_image_44 : decode cX6_image 44 = .ok (.aload_n 0, 1) := by decide +kernel
theorem dX6_image_45 : decode cX6_image 45 = .ok (.getfield 82, 3) := by decide +kernel
theorem dX6_image_48 : decode cX6_image 48 = .ok (.putfield 188, 3) := by decide +kernel
theorem dX6_image_51 : decode cX6_image 51 = .ok (.aload_n 0, 1) := by decide +kernel
theorem dX6_image_52 : decode cX6_image 52 = .ok (.aload_n 0, 1) := by decide +kernel
theorem dX6_image_53 : decode cX6_image 53 = .ok (.getfield 85, 3) := by decide +kernel
theorem dX6_image_56 : decode cX6_image 56 = .ok (.putfield 191, 3) := by decide +kernel
theorem dX6_image_59 : decode cX6_image 59 = .ok (.aload_n 0, 1) := by decide +kernel
theorem dX6_image_60 : decode cX6_image 60 = .ok (.aload_n 0, 1) := by decide +kernel
theorem dX6_image_61 : decode cX6_image 61 = .ok (.getfield 88, 3) := by decide +kernel
theorem dX6_image_64 : decode cX6_image 64 = .ok (.putfield 40, 3) := by decide +kernel
theorem dX6_image_67 : decode cX6_image 67 = .ok (.aload_n 0, 1) := by decide +kernel
theorem dX6_image_68 : decode cX6_image 68 = .ok (.getfield 82, 3) := by decide +kernel
theorem dX6_image_71 : decode cX6_image 71 = .ok (.ireturn, 1) := by decide +kernel
set_option maxRecDepth 20000 in
theorem ggX6_restore_X6_copy : GoodIn wsX6_restore wsX6_copy := goodIn_r _ [16] (by decide +kernel) (by decide +kernel)
set_option maxRecDepth 20000 in
theorem gX6_restore_X6_copy : GoodIn wsX6_restore (va_wsS RX6 161 yX6_copy wsX6_copy) := goodIn_app (goodIn_of _ (by decide +kernel)) ggX6_restore_X6_copy
theorem dX6_restore_0 : decode cX6_restore 0 = .ok (.aload_n 0, 1) := by decide +kernel
theorem dX6_restore_1 : decode cX6_restore 1 = .ok (.getfield 40, 3) := by decide +kernel
theorem dX6_restore_4 : decode cX6_restore 4 = .ok (.aload_n 0, 1) := by decide +kernel
theorem dX6_restore_5 : decode cX6_restore 5 = .ok (.getfield 88, 3) := by decide +kernel
theorem dX6_restore_8 : decode cX6_restore 8 = .ok (.if_icmp .eq 6, 3) := by decide +kernel
theorem dX6_restore_11 : decode cX6_restore 11 = .ok (.bipush (-103), 2) := by decide +kernel
theorem dX6_restore_13 : decode cX6_restore 13 = .ok (.ireturn, 1) := by decide +kernel
theorem dX6_restore_14 : decode cX6_restore 14 = .ok (.aload_n 0, 1) := by decide +kernel
theorem dX6_restore_15 : decode cX6_restore 15 = .ok (.getfield 31, 3) := by decide +kernel
theorem dX6_restore_18 : decode cX6_restore 18 = .ok (.aload_n 0, 1) := by decide +kernel
theorem dX6_restore_19 : decode cX6_restore 19 = .ok (.getfield 13, 3) := by decide +kernel
theorem dX6_restore_22 : decode cX6_restore 22 = .ok (.invokestatic 161, 3) := by decide +kernel
theorem dX6_restore_25 : decode cX6_restore 25 = .ok (.aload_n 0, 1) := by decide +kernel
theorem dX6_restore_26 : decode cX6_restore 26 = .ok (.getfield 34, 3) := by decide +kernel
theorem dX6_restore_29 : decode cX6_restore 29 = .ok (.aload_n 0, 1) := by decide +kernel
theorem dX6_restore_30 : decode cX6_restore 30 = .ok (.getfield 16, 3) := by decide +kernel
theorem dX6_restore_33 : decode cX6_restore 33 = .ok (.invokestatic 161, 3) := by decide +kernel
theorem dX6_restore_36 : decode cX6_restore 36 = .ok (.aload_n 0, 1) := by decide +kernel
theorem dX6_restore_37 : decode cX6_restore 37 = .ok (.getfield 37, 3) := by decide +kernel
theorem dX6_restore_40 : decode cX6_restore 40 = .ok (.aload_n 0, 1) := by decide +kernel
theorem dX6_restore_41 : decode cX6_restore 41 = .ok (.getfield 25, 3) := by decide +kernel
theorem dX6_restore_44 : decode cX6_restore 44 = .ok (.invokestatic 161, 3) := by decide +kernel
theorem dX6_restore_47 : decode cX6_restore 47 = .ok (.aload_n 0, 1) := by decide +kernel
theorem dX6_restore_48 : decode cX6_restore 48 = .ok (.aload_n 0, 1) := by decide +kernel
theorem dX6_restore_49 : decode cX6_restore 49 = .ok (.getfield 188, 3) := by decide +kernel
theorem dX6_restore_52 : decode cX6_restore 52 = .ok (.putfield 82, 3) := by decide +kernel
theorem dX6_restore_55 : decode cX6_restore 55 = .ok (.aload_n 0, 1) := by decide +kernel
theorem dX6_restore_56 : decode cX6_restore 56 = .ok (.aload_n 0, 1) := by decide +kernel
theorem dX6_restore_57 : decode cX6_restore 57 = .ok (.getfield 191, 3) := by decide +kernel
theorem dX6_restore_60 : decode cX6_restore 60 = .ok (.putfield 85, 3) := by decide +kernel
theorem dX6_restore_63 : decode cX6_restore 63 = .ok (.aload_n 0, 1) := by decide +kernel
theorem dX6_restore_64 : decode cX6_restore 64 = .ok (.getfield 82, 3) := by decide +kernel
theorem dX6_restore_67 : decode cX6_restore 67 = .ok (.ireturn, 1) := by decide +kernel
theorem dX6_birds_0 : decode cX6_birds 0 = .ok (.iconst 0, 1) := by decide +kernel
theorem dX6_birds_1 : decode cX6_birds 1 = .ok (.istore_n 2, 1) := by decide +kernel
theorem dX6_birds_2 : decode cX6_birds 2 = .ok (.iconst 0, 1) := by decide +kernel
theorem dX6_birds_3 : decode cX6_birds 3 = .ok (.istore_n 3, 1) := by decide +kernel
theorem dX6_birds_4 : decode cX6_birds 4 = .ok (.iload_n 3, 1) := by decide +kernel
theorem dX6_birds_5 : decode cX6_birds 5 = .ok (.aload_n 0, 1) := by decide +kernel
theorem dX6_birds_6 : decode cX6_birds 6 = .ok (.getfield 75, 3) := by decide +kernel
theorem dX6_birds_9 : decode cX6_birds 9 = .ok (.if_icmp .ge 31, 3) := by decide +kernel
theorem dX6_birds_12 : decode cX6_birds 12 = .ok (.iload_n 2, 1) := by decide +kernel
theorem dX6_birds_13 : decode cX6_birds 13 = .ok (.aload_n 0, 1) := by decide +kernel
theorem dX6_birds_14 : decode cX6_birds 14 = .ok (.getfield 16, 3) := by decide +kernel
theorem dX6_birds_17 : decode cX6_birds 17 = .ok (.iconst 4, 1) := by decide +kernel
theorem dX6_birds_18 : decode cX6_birds 18 = .ok (.iload_n 3, 1) := by decide +kernel
theorem dX6_birds_19 : decode cX6_birds 19 = .ok (.imul, 1) := by decide +kernel
theorem dX6_birds_20 : decode cX6_birds 20 = .ok (.iconst 2, 1) := by decide +kernel
theorem dX6_birds_21 : decode cX6_birds 21 = .ok (.iadd, 1) := by decide +kernel
theorem dX6_birds_22 : decode cX6_birds 22 = .ok (.iaload, 1) := by decide +kernel
theorem dX6_birds_23 : decode cX6_birds 23 = .ok (.iload_n 1, 1) := by decide +kernel
theorem dX6_birds_24 : decode cX6_birds 24 = .ok (.if_icmp .ne 7, 3) := by decide +kernel
theorem dX6_birds_27 : decode cX6_birds 27 = .ok (.iconst 1, 1) := by decide +kernel
theorem dX6_birds_28 : decode cX6_birds 28 = .ok (.goto 4, 3) := by decide +kernel
theorem dX6_birds_31 : decode cX6_birds 31 = .ok (.iconst 0, 1) := by decide +kernel
theorem dX6_birds_32 : decode cX6_birds 32 = .ok (.iadd, 1) := by decide +kernel
theorem dX6_birds_33 : decode cX6_birds 33 = .ok (.istore_n 2, 1) := by decide +kernel
theorem dX6_birds_34 : decode cX6_birds 34 = .ok (.iinc 3 1, 3) := by decide +kernel
theorem dX6_birds_37 : decode cX6_birds 37 = .ok (.goto (-33), 3) := by decide +kernel
theorem dX6_birds_40 : decode cX6_birds 40 = .ok (.iload_n 2, 1) := by decide +kernel
theorem dX6_birds_41 : decode cX6_birds 41 = .ok (.ireturn, 1) := by decide +kernel
theorem dX6_brokenAll_0 : decode cX6_brokenAll 0 = .ok (.iconst 0, 1) := by decide +kernel
theorem dX6_brokenAll_1 : decode cX6_brokenAll 1 = .ok (.istore_n 1, 1) := by decide +kernel
theorem dX6_brokenAll_2 : decode cX6_brokenAll 2 = .ok (.iconst 0, 1) := by decide +kernel
theorem dX6_brokenAll_3 : decode cX6_brokenAll 3 = .ok (.istore_n 2, 1) := by decide +kernel
theorem dX6_brokenAll_4 : decode cX6_brokenAll 4 = .ok (.iload_n 2, 1) := by decide +kernel
theorem dX6_brokenAll_5 : decode cX6_brokenAll 5 = .ok (.aload_n 0, 1) := by decide +kernel
theorem dX6_brokenAll_6 : decode cX6_brokenAll 6 = .ok (.getfield 72, 3) := by decide +kernel
theorem dX6_brokenAll_9 : decode cX6_brokenAll 9 = .ok (.if_icmp .ge 22, 3) := by decide +kernel
theorem dX6_brokenAll_12 : decode cX6_brokenAll 12 = .ok (.iload_n 1, 1) := by decide +kernel
theorem dX6_brokenAll_13 : decode cX6_brokenAll 13 = .ok (.aload_n 0, 1) := by decide +kernel
theorem dX6_brokenAll_14 : decode cX6_brokenAll 14 = .ok (.getfield 13, 3) := by decide +kernel
theorem dX6_brokenAll_17 : decode cX6_brokenAll 17 = .ok (.iconst 3, 1) := by decide +kernel
theorem dX6_brokenAll_18 : decode cX6_brokenAll 18 = .ok (.iload_n 2, 1) := by decide +kernel
theorem dX6_brokenAll_19 : decode cX6_brokenAll 19 = .ok (.imul, 1) := by decide +kernel
theorem dX6_brokenAll_20 : decode cX6_brokenAll 20 = .ok (.iconst 2, 1) := by decide +kernel
theorem dX6_brokenAll_21 : decode cX6_brokenAll 21 = .ok (.iadd, 1) := by decide +kernel
theorem dX6_brokenAll_22 : decode cX6_brokenAll 22 = .ok (.iaload, 1) := by decide +kernel
theorem dX6_brokenAll_23 : decode cX6_brokenAll 23 = .ok (.iadd, 1) := by decide +kernel
theorem dX6_brokenAll_24 : decode cX6_brokenAll 24 = .ok (.istore_n 1, 1) := by decide +kernel
theorem dX6_brokenAll_25 : decode cX6_brokenAll 25 = .ok (.iinc 2 1, 3) := by decide +kernel
theorem dX6_brokenAll_28 : decode cX6_brokenAll 28 = .ok (.goto (-24), 3) := by decide +kernel
theorem dX6_brokenAll_31 : decode cX6_brokenAll 31 = .ok (.iload_n 1, 1) := by decide +kernel
theorem dX6_brokenAll_32 : decode cX6_brokenAll 32 = .ok (.ireturn, 1) := by decide +kernel
set_option maxRecDepth 20000 in
theorem ggX6_countOf_X6_birds : GoodIn wsX6_countOf wsX6_birds := goodIn_r _ [11, 2, 12, 22, 23, 24, 25, 26, 27, 28, 29, 30, 31, 32, 33, 34, 35, 36, 37, 38, 39, 40, 41, 42, 43] (by decide +kernel) (by decide +kernel)
set_option maxRecDepth 20000 in
theorem gX6_countOf_X6_birds : GoodIn wsX6_countOf (wsV RX6 194 RX6 yX6_birds wsX6_birds) := goodIn_app (goodIn_of _ (by decide +kernel)) ggX6_countOf_X6_birds
set_option maxRecDepth 20000 in
theorem ggX6_countOf_X6_eggsIn : GoodIn wsX6_countOf wsX6_eggsIn := goodIn_r _ [16, 2, 12, 22, 23, 24, 25, 26, 27, 28, 29, 30, 31, 32, 33, 34, 35, 36, 37, 38, 39, 40, 41, 42, 43] (by decide +kernel) (by decide +kernel)
set_option maxRecDepth 20000 in
theorem gX6_countOf_X6_eggsIn : GoodIn wsX6_countOf (wsV RX6 98 RX6 yX6_eggsIn wsX6_eggsIn) := goodIn_app (goodIn_of _ (by decide +kernel)) ggX6_countOf_X6_eggsIn
set_option maxRecDepth 20000 in
theorem ggX6_countOf_X6_brokenAll : GoodIn wsX6_countOf wsX6_brokenAll := goodIn_r _ [20, 1, 21, 22, 23, 24, 25, 26, 27, 28, 29, 30, 31, 32, 33, 34, 35, 36, 37, 38, 39, 40, 41, 42, 43] (by decide +kernel) (by decide +kernel)
set_option maxRecDepth 20000 in
theorem gX6_countOf_X6_brokenAll : GoodIn wsX6_countOf (wsV RX6 197 RX6 yX6_brokenAll wsX6_brokenAll) := goodIn_app (goodIn_of _ (by decide +kernel)) ggX6_countOf_X6_brokenAll
theorem dX6_countOf_0 : decode cX6_countOf 0 = .ok (.iload_n 1, 1) := by decide +kernel
theorem dX6_countOf_1 : decode cX6_countOf 1 = .ok (.tableswitch 109 0 9 #[55, 60, 65, 71, 77, 84, 89, 94, 99, 104], 55) := by decide +kernel
theorem dX6_countOf_56 : decode cX6_countOf 56 = .ok (.aload_n 0, 1) := by decide +kernel
theorem dX6_countOf_57 : decode cX6_countOf 57 = .ok (.getfield 72, 3) := by decide +kernel
theorem dX6_countOf_60 : decode cX6_countOf 60 = .ok (.ireturn, 1) := by decide +kernel
theorem dX6_countOf_61 : decode cX6_countOf 61 = .ok (.aload_n 0, 1) := by decide +kernel
theorem dX6_countOf_62 : decode cX6_countOf 62 = .ok (.getfield 75, 3) := by decide +kernel
theorem dX6_countOf_65 : decode cX6_countOf 65 = .ok (.ireturn, 1) := by decide +kernel
theorem dX6_countOf_66 : decode cX6_countOf 66 = .ok (.aload_n 0, 1) := by decide +kernel
theorem dX6_countOf_67 : decode cX6_countOf 67 = .ok (.iconst 1, 1) := by decide +kernel
theorem dX6_countOf_68 : decode cX6_countOf 68 = .ok (.invokevirtual 194, 3) := by decide +kernel
theorem dX6_countOf_71 : decode cX6_countOf 71 = .ok (.ireturn, 1) := by decide +kernel
theorem dX6_countOf_72 : decode cX6_countOf 72 = .ok (.aload_n 0, 1) := by decide +kernel
theorem dX6_countOf_73 : decode cX6_countOf 73 = .ok (.iconst 2, 1) := by decide +kernel
theorem dX6_countOf_74 : decode cX6_countOf 74 = .ok (.invokevirtual 194, 3) := by decide +kernel
theorem dX6_countOf_77 : decode cX6_countOf 77 = .ok (.ireturn, 1) := by decide +kernel
theorem dX6_countOf_78 : decode cX6_countOf 78 = .ok (.aload_n 0, 1) := by decide +kernel
theorem dX6_countOf_79 : decode cX6_countOf 79 = .ok (.bipush 31, 2) := by decide +kernel
theorem dX6_countOf_81 : decode cX6_countOf 81 = .ok (.invokevirtual 98, 3) := by decide +kernel
theorem dX6_countOf_84 : decode cX6_countOf 84 = .ok (.ireturn, 1) := by decide +kernel
theorem dX6_countOf_85 : decode cX6_countOf 85 = .ok (.aload_n 0, 1) := by decide +kernel
theorem dX6_countOf_86 : decode cX6_countOf 86 = .ok (.invokevirtual 197, 3) := by decide +kernel
theorem dX6_countOf_89 : decode cX6_countOf 89 = .ok (.ireturn, 1) := by decide +kernel
theorem dX6_countOf_90 : decode cX6_countOf 90 = .ok (.aload_n 0, 1) := by decide +kernel
theorem dX6_countOf_91 : decode cX6_countOf 91 = .ok (.getfield 82, 3) := by decide +kernel
theorem dX6_countOf_94 : decode cX6_countOf 94 = .ok (.ireturn, 1) := by decide +kernel
theorem dX6_countOf_95 : decode cX6_countOf 95 = .ok (.aload_n 0, 1) := by decide +kernel
theorem dX6_countOf_96 : decode cX6_countOf 96 = .ok (.getfield 85, 3) := by decide +kernel
theorem dX6_countOf_99 : decode cX6_countOf 99 = .ok (.ireturn, 1) := by decide +kernel
theorem dX6_countOf_100 : decode cX6_countOf 100 = .ok (.aload_n 0, 1) := by decide +kernel
theorem dX6_countOf_101 : decode cX6_countOf 101 = .ok (.getfield 50, 3) := by decide +kernel
theorem dX6_countOf_104 : decode cX6_countOf 104 = .ok (.ireturn, 1) := by decide +kernel
theorem dX6_countOf_105 : decode cX6_countOf 105 = .ok (.aload_n 0, 1) := by decide +kernel
theorem dX6_countOf_106 : decode cX6_countOf 106 = .ok (.getfield 88, 3) := by decide +kernel
theorem dX6_countOf_109 : decode cX6_countOf 109 = .ok (.ireturn, 1) := by decide +kernel
theorem dX6_countOf_110 : decode cX6_countOf 110 = .ok (.bipush (-102), 2) := by decide +kernel
theorem dX6_countOf_112 : decode cX6_countOf 112 = .ok (.ireturn, 1) := by decide +kernel
set_option maxRecDepth 20000 in
theorem ggX6_count_X6_countOf : GoodIn wsX6_count wsX6_countOf := goodIn_r _ [5, 6, 7, 8, 9, 10, 11, 12, 13, 14, 4, 15, 16, 17, 18, 19, 20, 21, 22, 23, 24, 25, 26, 27, 28, 29, 30, 31, 32, 33, 34, 35, 36, 37, 38, 39, 40, 41, 42, 43, 44, 45, 46, 47] (by decide +kernel) (by decide +kernel)
set_option maxRecDepth 20000 in
theorem gX6_count_X6_countOf : GoodIn wsX6_count (wsV RX6 200 RX6 yX6_countOf wsX6_countOf) := goodIn_app (goodIn_of _ (by decide +kernel)) ggX6_count_X6_countOf
theorem dX6_count_0 : decode cX6_count 0 = .ok (.aload_n 0, 1) := by decide +kernel
theorem dX6_count_1 : decode cX6_count 1 = .ok (.iload_n 1, 1) := by decide +kernel
theorem dX6_count_2 : decode cX6_count 2 = .ok (.invokevirtual 200, 3) := by decide +kernel
theorem dX6_count_5 : decode cX6_count 5 = .ok (.ireturn, 1) := by decide +kernel
theorem dX6_say_0 : decode cX6_say 0 = .ok (.aload_n 0, 1) := by decide +kernel
theorem dX6_say_1 : decode cX6_say 1 = .ok (.ldc2_w 203, 3) := by decide +kernel
theorem dX6_say_4 : decode cX6_say 4 = .ok (.aload_n 0, 1) := by decide +kernel
theorem dX6_say_5 : decode cX6_say 5 = .ok (.getfield 205, 3) := by decide +kernel
theorem dX6_say_8 : decode cX6_say 8 = .ok (.lmul, 1) := by decide +kernel
theorem dX6_say_9 : decode cX6_say 9 = .ok (.lload_n 1, 1) := by decide +kernel
theorem dX6_say_10 : decode cX6_say 10 = .ok (.ladd, 1) := by decide +kernel
theorem dX6_say_11 : decode cX6_say 11 = .ok (.putfield 205, 3) := by decide +kernel
theorem dX6_say_14 : decode cX6_say 14 = .ok (.return_, 1) := by decide +kernel
set_option maxRecDepth 20000 in
theorem ggX6_sayKeeper_X6_tellKeeper : GoodIn wsX6_sayKeeper wsX6_tellKeeper := goodIn_r _ [5, 6, 7, 8, 9, 4, 10, 11, 12, 13, 14, 15, 16, 17, 18, 19, 20, 21, 22, 23, 24, 25, 26, 27, 28, 29, 30, 31, 32, 33, 44, 45, 46, 47, 48, 49, 50, 51, 52, 53, 54, 55, 56, 57, 58, 59, 60, 61, 62, 63, 64, 65] (by decide +kernel) (by decide +kernel)
set_option maxRecDepth 20000 in
theorem gX6_sayKeeper_X6_tellKeeper : GoodIn wsX6_sayKeeper (wsV RX6 110 RX6 yX6_tellKeeper wsX6_tellKeeper) := goodIn_app (goodIn_of _ (by decide +kernel)) ggX6_sayKeeper_X6_tellKeeper
set_option maxRecDepth 20000 in
theorem ggX6_sayKeeper_X6_say : GoodIn wsX6_sayKeeper wsX6_say := goodIn_r _ [37, 38, 39, 44, 45, 46, 47, 48, 49, 50, 51, 52, 53, 54, 55, 56, 57, 58, 59, 60, 61, 62, 63, 64, 65] (by decide +kernel) (by decide +kernel)
set_option maxRecDepth 20000 in
theorem gX6_sayKeeper_X6_say : GoodIn wsX6_sayKeeper (wsV RX6 209 RX6 yX6_say wsX6_say) := goodIn_app (goodIn_of _ (by decide +kernel)) ggX6_sayKeeper_X6_say
set_option maxRecDepth 20000 in
theorem ggX6_sayKeeper_X6_tenthsOf : GoodIn wsX6_sayKeeper wsX6_tenthsOf := goodIn_r _ [43, 6, 27, 28, 4, 29, 44, 45, 46, 47, 48, 49, 50, 51, 52, 53, 54, 55, 56, 57, 58, 59, 60, 61, 62, 63, 64, 65] (by decide +kernel) (by decide +kernel)
set_option maxRecDepth 20000 in
theorem gX6_sayKeeper_X6_tenthsOf : GoodIn wsX6_sayKeeper (wsV RX6 118 RX6 yX6_tenthsOf wsX6_tenthsOf) := goodIn_app (goodIn_of _ (by decide +kernel)) ggX6_sayKeeper_X6_tenthsOf
theorem dX6_sayKeeper_0 : decode cX6_sayKeeper 0 = .ok (.iconst 0, 1) := by decide +kernel
theorem dX6_sayKeeper_1 : decode cX6_sayKeeper 1 = .ok (.istore_n 2, 1) := by decide +kernel
theorem dX6_sayKeeper_2 : decode cX6_sayKeeper 2 = .ok (.iload_n 2, 1) := by decide +kernel
theorem dX6_sayKeeper_3 : decode cX6_sayKeeper 3 = .ok (.bipush 7, 2) := by decide +kernel
theorem dX6_sayKeeper_5 : decode cX6_sayKeeper 5 = .ok (.if_icmp .ge 20, 3) := by decide +kernel
theorem dX6_sayKeeper_8 : decode cX6_sayKeeper 8 = .ok (.aload_n 0, 1) := by decide +kernel
theorem dX6_sayKeeper_9 : decode cX6_sayKeeper 9 = .ok (.aload_n 0, 1) := by decide +kernel
theorem dX6_sayKeeper_10 : decode cX6_sayKeeper 10 = .ok (.iload_n 1, 1) := by decide +kernel
theorem dX6_sayKeeper_11 : decode cX6_sayKeeper 11 = .ok (.iload_n 2, 1) := by decide +kernel
theorem dX6_sayKeeper_12 : decode cX6_sayKeeper 12 = .ok (.invokevirtual 110, 3) := by decide +kernel
theorem dX6_sayKeeper_15 : decode cX6_sayKeeper 15 = .ok (.i2l, 1) := by decide +kernel
theorem dX6_sayKeeper_16 : decode cX6_sayKeeper 16 = .ok (.invokevirtual 209, 3) := by decide +kernel
theorem dX6_sayKeeper_19 : decode cX6_sayKeeper 19 = .ok (.iinc 2 1, 3) := by decide +kernel
theorem dX6_sayKeeper_22 : decode cX6_sayKeeper 22 = .ok (.goto (-20), 3) := by decide +kernel
theorem dX6_sayKeeper_25 : decode cX6_sayKeeper 25 = .ok (.aload_n 0, 1) := by decide +kernel
theorem dX6_sayKeeper_26 : decode cX6_sayKeeper 26 = .ok (.aload_n 0, 1) := by decide +kernel
theorem dX6_sayKeeper_27 : decode cX6_sayKeeper 27 = .ok (.iload_n 1, 1) := by decide +kernel
theorem dX6_sayKeeper_28 : decode cX6_sayKeeper 28 = .ok (.iconst 0, 1) := by decide +kernel
theorem dX6_sayKeeper_29 : decode cX6_sayKeeper 29 = .ok (.invokevirtual 118, 3) := by decide +kernel
theorem dX6_sayKeeper_32 : decode cX6_sayKeeper 32 = .ok (.i2l, 1) := by decide +kernel
theorem dX6_sayKeeper_33 : decode cX6_sayKeeper 33 = .ok (.invokevirtual 209, 3) := by decide +kernel
theorem dX6_sayKeeper_36 : decode cX6_sayKeeper 36 = .ok (.aload_n 0, 1) := by decide +kernel
theorem dX6_sayKeeper_37 : decode cX6_sayKeeper 37 = .ok (.aload_n 0, 1) := by decide +kernel
theorem dX6_sayKeeper_38 : decode cX6_sayKeeper 38 = .ok (.iload_n 1, 1) := by decide +kernel
theorem dX6_sayKeeper_39 : decode cX6_sayKeeper 39 = .ok (.iconst 5, 1) := by decide +kernel
theorem dX6_sayKeeper_40 : decode cX6_sayKeeper 40 = .ok (.invokevirtual 118, 3) := by decide +kernel
theorem dX6_sayKeeper_43 : decode cX6_sayKeeper 43 = .ok (.i2l, 1) := by decide +kernel
theorem dX6_sayKeeper_44 : decode cX6_sayKeeper 44 = .ok (.invokevirtual 209, 3) := by decide +kernel
theorem dX6_sayKeeper_47 : decode cX6_sayKeeper 47 = .ok (.aload_n 0, 1) := by decide +kernel
theorem dX6_sayKeeper_48 : decode cX6_sayKeeper 48 = .ok (.aload_n 0, 1) := by decide +kernel
theorem dX6_sayKeeper_49 : decode cX6_sayKeeper 49 = .ok (.iload_n 1, 1) := by decide +kernel
theorem dX6_sayKeeper_50 : decode cX6_sayKeeper 50 = .ok (.bipush 9, 2) := by decide +kernel
theorem dX6_sayKeeper_52 : decode cX6_sayKeeper 52 = .ok (.invokevirtual 118, 3) := by decide +kernel
theorem dX6_sayKeeper_55 : decode cX6_sayKeeper 55 = .ok (.i2l, 1) := by decide +kernel
theorem dX6_sayKeeper_56 : decode cX6_sayKeeper 56 = .ok (.invokevirtual 209, 3) := by decide +kernel
theorem dX6_sayKeeper_59 : decode cX6_sayKeeper 59 = .ok (.return_, 1) := by decide +kernel
set_option maxRecDepth 20000 in
theorem ggX6_digest_X6_sayKeeper : GoodIn wsX6_digest wsX6_sayKeeper := goodIn_r _ [11, 12, 13, 14, 10, 15, 16, 17, 18, 19, 20, 4, 21, 22, 23, 24, 25, 26, 27, 28, 29, 30, 31, 32, 33, 34, 35, 36, 37, 38, 39, 40, 41, 42, 43, 44, 45, 46, 47, 2, 48, 49, 50, 51, 106, 107, 108, 109, 110, 111, 112, 113, 114, 115, 116, 117, 118, 119, 120, 121, 122, 123, 124, 125, 126, 127] (by decide +kernel) (by decide +kernel)
set_option maxRecDepth 20000 in
theorem gX6_digest_X6_sayKeeper : GoodIn wsX6_digest (wsV RX6 215 RX6 yX6_sayKeeper wsX6_sayKeeper) := goodIn_app (goodIn_of _ (by decide +kernel)) ggX6_digest_X6_sayKeeper
set_option maxRecDepth 20000 in
theorem ggX6_digest_X6_tellHole : GoodIn wsX6_digest wsX6_tellHole := goodIn_r _ [55, 56, 21, 57, 58, 10, 59, 60, 61, 62, 63, 48, 49, 50, 51, 16, 36, 37, 38, 106, 107, 108, 109, 110, 111, 112, 113, 114, 115, 116, 117, 118, 119, 120, 121, 122, 123, 124, 125, 126, 127] (by decide +kernel) (by decide +kernel)
set_option maxRecDepth 20000 in
theorem gX6_digest_X6_tellHole : GoodIn wsX6_digest (wsV RX6 129 RX6 yX6_tellHole wsX6_tellHole) := goodIn_app (goodIn_of _ (by decide +kernel)) ggX6_digest_X6_tellHole
set_option maxRecDepth 20000 in
theorem ggX6_digest_X6_say : GoodIn wsX6_digest wsX6_say := goodIn_r _ [46, 47, 2, 106, 107, 108, 109, 110, 111, 112, 113, 114, 115, 116, 117, 118, 119, 120, 121, 122, 123, 124, 125, 126, 127] (by decide +kernel) (by decide +kernel)
set_option maxRecDepth 20000 in
theorem gX6_digest_X6_say : GoodIn wsX6_digest (wsV RX6 209 RX6 yX6_say wsX6_say) := goodIn_app (goodIn_of _ (by decide +kernel)) ggX6_digest_X6_say
set_option maxRecDepth 20000 in
theorem ggX6_digest_X6_lacks : GoodIn wsX6_digest wsX6_lacks := goodIn_r _ [67, 4, 106, 107, 108, 109, 110, 111, 112, 113, 114, 115, 116, 117, 118, 119, 120, 121, 122, 123, 124, 125, 126, 127] (by decide +kernel) (by decide +kernel)
set_option maxRecDepth 20000 in
theorem gX6_digest_X6_lacks : GoodIn wsX6_digest (wsV RX6 135 RX6 yX6_lacks wsX6_lacks) := goodIn_app (goodIn_of _ (by decide +kernel)) ggX6_digest_X6_lacks
set_option maxRecDepth 20000 in
theorem ggX6_digest_X6_oddsOf : GoodIn wsX6_digest wsX6_oddsOf := goodIn_r _ [71, 4, 21, 72, 60, 61, 62, 10, 63, 48, 49, 50, 51, 16, 36, 37, 38, 73, 74, 75, 106, 107, 108, 109, 110, 111, 112, 113, 114, 115, 116, 117, 118, 119, 120, 121, 122, 123, 124, 125, 126, 127] (by decide +kernel) (by decide +kernel)
set_option maxRecDepth 20000 in
theorem gX6_digest_X6_oddsOf : GoodIn wsX6_digest (wsV RX6 154 RX6 yX6_oddsOf wsX6_oddsOf) := goodIn_app (goodIn_of _ (by decide +kernel)) ggX6_digest_X6_oddsOf
set_option maxRecDepth 20000 in
theorem ggX6_digest_X6_matchOf : GoodIn wsX6_digest wsX6_matchOf := goodIn_r _ [79, 4, 3, 80, 81, 82, 83, 84, 10, 85, 21, 48, 49, 50, 51, 16, 36, 37, 38, 17, 18, 19, 20, 86, 87, 88, 89, 90, 91, 106, 107, 108, 109, 110, 111, 112, 113, 114, 115, 116, 117, 118, 119, 120, 121, 122, 123, 124, 125, 126, 127] (by decide +kernel) (by decide +kernel)
set_option maxRecDepth 20000 in
theorem gX6_digest_X6_matchOf : GoodIn wsX6_digest (wsV RX6 167 RX6 yX6_matchOf wsX6_matchOf) := goodIn_app (goodIn_of _ (by decide +kernel)) ggX6_digest_X6_matchOf
set_option maxRecDepth 20000 in
theorem ggX6_digest_X6_countOf : GoodIn wsX6_digest wsX6_countOf := goodIn_r _ [95, 3, 4, 96, 34, 5, 97, 98, 99, 100, 10, 101, 21, 22, 23, 24, 25, 102, 103, 104, 105, 16, 106, 107, 108, 109, 110, 111, 112, 113, 114, 115, 116, 117, 118, 119, 120, 121, 122, 123, 124, 125, 126, 127] (by decide +kernel) (by decide +kernel)
set_option maxRecDepth 20000 in
theorem gX6_digest_X6_countOf : GoodIn wsX6_digest (wsV RX6 200 RX6 yX6_countOf wsX6_countOf) := goodIn_app (goodIn_of _ (by decide +kernel)) ggX6_digest_X6_countOf
theorem dX6_digest_0 : decode cX6_digest 0 = .ok (.aload_n 0, 1) := by decide +kernel
theorem dX6_digest_1 : decode cX6_digest 1 = .ok (.ldc2_w 213, 3) := by decide +kernel
theorem dX6_digest_4 : decode cX6_digest 4 = .ok (.putfield 205, 3) := by decide +kernel
theorem dX6_digest_7 : decode cX6_digest 7 = .ok (.iconst 0, 1) := by decide +kernel
theorem dX6_digest_8 : decode cX6_digest 8 = .ok (.istore_n 1, 1) := by decide +kernel
theorem dX6_digest_9 : decode cX6_digest 9 = .ok (.iload_n 1, 1) := by decide +kernel
theorem dX6_digest_10 : decode cX6_digest 10 = .ok (.aload_n 0, 1) := by decide +kernel
theorem dX6_digest_11 : decode cX6_digest 11 = .ok (.getfield 72, 3) := by decide +kernel
theorem dX6_digest_14 : decode cX6_digest 14 = .ok (.if_icmp .ge 14, 3) := by decide +kernel
theorem dX6_digest_17 : decode cX6_digest 17 = .ok (.aload_n 0, 1) := by decide +kernel
theorem dX6_digest_18 : decode cX6_digest 18 = .ok (.iload_n 1, 1) := by decide +kernel
theorem dX6_digest_19 : decode cX6_digest 19 = .ok (.invokevirtual 215, 3) := by decide +kernel
theorem dX6_digest_22 : decode cX6_digest 22 = .ok (.iinc 1 1, 3) := by decide +kernel
theorem dX6_digest_25 : decode cX6_digest 25 = .ok (.goto (-16), 3) := by decide +kernel
theorem dX6_digest_28 : decode cX6_digest 28 = .ok (.iconst 0, 1) := by decide +kernel
theorem dX6_digest_29 : decode cX6_digest 29 = .ok (.istore_n 1, 1) := by decide +kernel
theorem dX6_digest_30 : decode cX6_digest 30 = .ok (.iload_n 1, 1) := by decide +kernel
theorem dX6_digest_31 : decode cX6_digest 31 = .ok (.aload_n 0, 1) := by decide +kernel
theorem dX6_digest_32 : decode cX6_digest 32 = .ok (.getfield 75, 3) := by decide +kernel
theorem dX6_digest_35 : decode cX6_digest 35 = .ok (.if_icmp .ge 33, 3) := by decide +kernel
theorem dX6_digest_38 : decode cX6_digest 38 = .ok (.iconst 0, 1) := by decide +kernel
theorem dX6_digest_39 : decode cX6_digest 39 = .ok (.istore_n 2, 1) := by decide +kernel
theorem dX6_digest_40 : decode cX6_digest 40 = .ok (.iload_n 2, 1) := by decide +kernel
theorem dX6_digest_41 : decode cX6_digest 41 = .ok (.iconst 5, 1) := by decide +kernel
theorem dX6_digest_42 : decode cX6_digest 42 = .ok (.if_icmp .ge 20, 3) := by decide +kernel
theorem dX6_digest_45 : decode cX6_digest 45 = .ok (.aload_n 0, 1) := by decide +kernel
theorem dX6_digest_46 : decode cX6_digest 46 = .ok (.aload_n 0, 1) := by decide +kernel
theorem dX6_digest_47 : decode cX6_digest 47 = .ok (.iload_n 1, 1) := by decide +kernel
theorem dX6_digest_48 : decode cX6_digest 48 = .ok (.iload_n 2, 1) := by decide +kernel
theorem dX6_digest_49 : decode cX6_digest 49 = .ok (.invokevirtual 129, 3) := by decide +kernel
theorem dX6_digest_52 : decode cX6_digest 52 = .ok (.i2l, 1) := by decide +kernel
theorem dX6_digest_53 : decode cX6_digest 53 = .ok (.invokevirtual 209, 3) := by decide +kernel
theorem dX6_digest_56 : decode cX6_digest 56 = .ok (.iinc 2 1, 3) := by decide +kernel
theorem dX6_digest_59 : decode cX6_digest 59 = .ok (.goto (-19), 3) := by decide +kernel
theorem dX6_digest_62 : decode cX6_digest 62 = .ok (.iinc 1 1, 3) := by decide +kernel
theorem dX6_digest_65 : decode cX6_digest 65 = .ok (.goto (-35), 3) := by decide +kernel
theorem dX6_digest_68 : decode cX6_digest 68 = .ok (.aload_n 0, 1) := by decide +kernel
theorem dX6_digest_69 : decode cX6_digest 69 = .ok (.invokevirtual 135, 3) := by decide +kernel
theorem dX6_digest_72 : decode cX6_digest 72 = .ok (.ifCond .ne 58, 3) := by decide +kernel
theorem dX6_digest_75 : decode cX6_digest 75 = .ok (.aload_n 0, 1) := by decide +kernel
theorem dX6_digest_76 : decode cX6_digest 76 = .ok (.aload_n 0, 1) := by decide +kernel
theorem dX6_digest_77 : decode cX6_digest 77 = .ok (.iconst 2, 1) := by decide +kernel
theorem dX6_digest_78 : decode cX6_digest 78 = .ok (.iconst 0, 1) := by decide +kernel
theorem dX6_digest_79 : decode cX6_digest 79 = .ok (.invokevirtual 154, 3) := by decide +kernel
theorem dX6_digest_82 : decode cX6_digest 82 = .ok (.invokevirtual 209, 3) := by decide +kernel
theorem dX6_digest_85 : decode cX6_digest 85 = .ok (.aload_n 0, 1) := by decide +kernel
theorem dX6_digest_86 : decode cX6_digest 86 = .ok (.aload_n 0, 1) := by decide +kernel
theorem dX6_digest_87 : decode cX6_digest 87 = .ok (.iconst 2, 1) := by decide +kernel
theorem dX6_digest_88 : decode cX6_digest 88 = .ok (.iconst 1, 1) := by decide +kernel
theorem dX6_digest_89 : decode cX6_digest 89 = .ok (.invokevirtual 154, 3) := by decide +kernel
theorem dX6_digest_92 : decode cX6_digest 92 = .ok (.invokevirtual 209, 3) := by decide +kernel
theorem dX6_digest_95 : decode cX6_digest 95 = .ok (.aload_n 0, 1) := by decide +kernel
theorem dX6_digest_96 : decode cX6_digest 96 = .ok (.aload_n 0, 1) := by decide +kernel
theorem dX6_digest_97 : decode cX6_digest 97 = .ok (.iconst 0, 1) := by decide +kernel
theorem dX6_digest_98 : decode cX6_digest 98 = .ok (.invokevirtual 167, 3) := by decide +kernel
theorem dX6_digest_101 : decode cX6_digest 101 = .ok (.i2l, 1) := by decide +kernel
theorem dX6_digest_102 : decode cX6_digest 102 = .ok (.invokevirtual 209, 3) := by decide +kernel
theorem dX6_digest_105 : decode cX6_digest 105 = .ok (.bipush 10, 2) := by decide +kernel
theorem dX6_digest_107 : decode cX6_digest 107 = .ok (.istore_n 1, 1) := by decide +kernel
theorem dX6_digest_108 : decode cX6_digest 108 = .ok (.iload_n 1, 1) := by decide +kernel
theorem dX6_digest_109 : decode cX6_digest 109 = .ok (.bipush 15, 2) := by decide +kernel
theorem dX6_digest_111 : decode cX6_digest 111 = .ok (.if_icmp .ge 19, 3) := by decide +kernel
theorem dX6_digest_114 : decode cX6_digest 114 = .ok (.aload_n 0, 1) := by decide +kernel
theorem dX6_digest_115 : decode cX6_digest 115 = .ok (.aload_n 0, 1) := by decide +kernel
theorem dX6_digest_116 : decode cX6_digest 116 = .ok (.iload_n 1, 1) := by decide +kernel
