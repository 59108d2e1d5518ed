set_option maxRecDepth 20000 in
theorem ggX0_init_J7_fill_53178 : GoodIn wsX0_init wsJ7_fill_53178 := goodIn_r _ [16] (by decide +kernel) (by decide +kernel)
set_option maxRecDepth 20000 in
theorem gX0_init_J7_fill_53178 : GoodIn wsX0_init (va_wsS RX0 34 yJ7_fill_53178 wsJ7_fill_53178) := goodIn_app (goodIn_of _ (by decide +kernel)) ggX0_init_J7_fill_53178
theorem dX0_init_0 : decode cX0_init 0 = .ok (.aload_n 0, 1) := by decide +kernel
theorem dX0_init_1 : decode cX0_init 1 = .ok (.invokespecial 3, 3) := by decide +kernel
theorem dX0_init_4 : decode cX0_init 4 = .ok (.aload_n 0, 1) := by decide +kernel
theorem dX0_init_5 : decode cX0_init 5 = .ok (.iconst 5, 1) := by decide +kernel
theorem dX0_init_6 : decode cX0_init 6 = .ok (.newarray .int, 2) := by decide +kernel
theorem dX0_init_8 : decode cX0_init 8 = .ok (.putfield 9, 3) := by decide +kernel
theorem dX0_init_11 : decode cX0_init 11 = .ok (.aload_n 0, 1) := by decide +kernel
theorem dX0_init_12 : decode cX0_init 12 = .ok (.iconst 5, 1) := by decide +kernel
theorem dX0_init_13 : decode cX0_init 13 = .ok (.newarray .int, 2) := by decide +kernel
theorem dX0_init_15 : decode cX0_init 15 = .ok (.putfield 15, 3) := by decide +kernel
theorem dX0_init_18 : decode cX0_init 18 = .ok (.aload_n 0, 1) := by decide +kernel
theorem dX0_init_19 : decode cX0_init 19 = .ok (.iconst 5, 1) := by decide +kernel
theorem dX0_init_20 : decode cX0_init 20 = .ok (.newarray .int, 2) := by decide +kernel
theorem dX0_init_22 : decode cX0_init 22 = .ok (.putfield 18, 3) := by decide +kernel
theorem dX0_init_25 : decode cX0_init 25 = .ok (.aload_n 0, 1) := by decide +kernel
theorem dX0_init_26 : decode cX0_init 26 = .ok (.iconst 5, 1) := by decide +kernel
theorem dX0_init_27 : decode cX0_init 27 = .ok (.newarray .int, 2) := by decide +kernel
theorem dX0_init_29 : decode cX0_init 29 = .ok (.putfield 21, 3) := by decide +kernel
theorem dX0_init_32 : decode cX0_init 32 = .ok (.aload_n 0, 1) := by decide +kernel
theorem dX0_init_33 : decode cX0_init 33 = .ok (.bipush 8, 2) := by decide +kernel
theorem dX0_init_35 : decode cX0_init 35 = .ok (.newarray .int, 2) := by decide +kernel
theorem dX0_init_37 : decode cX0_init 37 = .ok (.putfield 24, 3) := by decide +kernel
theorem dX0_init_40 : decode cX0_init 40 = .ok (.aload_n 0, 1) := by decide +kernel
theorem dX0_init_41 : decode cX0_init 41 = .ok (.bipush 8, 2) := by decide +kernel
theorem dX0_init_43 : decode cX0_init 43 = .ok (.newarray .int, 2) := by decide +kernel
theorem dX0_init_45 : decode cX0_init 45 = .ok (.putfield 27, 3) := by decide +kernel
theorem dX0_init_48 : decode cX0_init 48 = .ok (.aload_n 0, 1) := by decide +kernel
theorem dX0_init_49 : decode cX0_init 49 = .ok (.bipush 8, 2) := by decide +kernel
theorem dX0_init_51 : decode cX0_init 51 = .ok (.newarray .boolean, 2) := by decide +kernel
theorem dX0_init_53 : decode cX0_init 53 = .ok (.putfield 30, 3) := by decide +kernel
theorem dX0_init_56 : decode cX0_init 56 = .ok (.aload_n 0, 1) := by decide +kernel
theorem dX0_init_57 : decode cX0_init 57 = .ok (.getfield 9, 3) := by decide +kernel
theorem dX0_init_60 : decode cX0_init 60 = .ok (.iconst (-1), 1) := by decide +kernel
theorem dX0_init_61 : decode cX0_init 61 = .ok (.invokestatic 34, 3) := by decide +kernel
theorem dX0_init_64 : decode cX0_init 64 = .ok (.return_, 1) := by decide +kernel
set_option maxRecDepth 20000 in
theorem ggX0_clear_X0_empty : GoodIn wsX0_clear wsX0_empty := goodIn_r _ [8, 9, 10, 11, 16, 17, 18, 19, 20, 21, 22, 23, 24] (by decide +kernel) (by decide +kernel)
set_option maxRecDepth 20000 in
theorem gX0_clear_X0_empty : GoodIn wsX0_clear (wsV RX0 40 RX0 yX0_empty wsX0_empty) := goodIn_app (goodIn_of _ (by decide +kernel)) ggX0_clear_X0_empty
set_option maxRecDepth 20000 in
theorem ggX0_clear_J7_fill_53178 : GoodIn wsX0_clear wsJ7_fill_53178 := goodIn_r _ [15] (by decide +kernel) (by decide +kernel)
set_option maxRecDepth 20000 in
theorem gX0_clear_J7_fill_53178 : GoodIn wsX0_clear (va_wsS RX0 34 yJ7_fill_53178 wsJ7_fill_53178) := goodIn_app (goodIn_of _ (by decide +kernel)) ggX0_clear_J7_fill_53178
theorem dX0_clear_0 : decode cX0_clear 0 = .ok (.iconst 0, 1) := by decide +kernel
theorem dX0_clear_1 : decode cX0_clear 1 = .ok (.istore_n 1, 1) := by decide +kernel
theorem dX0_clear_2 : decode cX0_clear 2 = .ok (.iload_n 1, 1) := by decide +kernel
theorem dX0_clear_3 : decode cX0_clear 3 = .ok (.iconst 5, 1) := by decide +kernel
theorem dX0_clear_4 : decode cX0_clear 4 = .ok (.if_icmp .ge 15, 3) := by decide +kernel
theorem dX0_clear_7 : decode cX0_clear 7 = .ok (.aload_n 0, 1) := by decide +kernel
theorem dX0_clear_8 : decode cX0_clear 8 = .ok (.iload_n 1, 1) := by decide +kernel
theorem dX0_clear_9 : decode cX0_clear 9 = .ok (.iconst 0, 1) := by decide +kernel
theorem dX0_clear_10 : decode cX0_clear 10 = .ok (.invokevirtual 40, 3) := by decide +kernel
theorem dX0_clear_13 : decode cX0_clear 13 = .ok (.iinc 1 1, 3) := by decide +kernel
theorem dX0_clear_16 : decode cX0_clear 16 = .ok (.goto (-14), 3) := by decide +kernel
theorem dX0_clear_19 : decode cX0_clear 19 = .ok (.aload_n 0, 1) := by decide +kernel
theorem dX0_clear_20 : decode cX0_clear 20 = .ok (.getfield 21, 3) := by decide +kernel
theorem dX0_clear_23 : decode cX0_clear 23 = .ok (.iconst 0, 1) := by decide +kernel
theorem dX0_clear_24 : decode cX0_clear 24 = .ok (.invokestatic 34, 3) := by decide +kernel
theorem dX0_clear_27 : decode cX0_clear 27 = .ok (.aload_n 0, 1) := by decide +kernel
theorem dX0_clear_28 : decode cX0_clear 28 = .ok (.iconst 0, 1) := by decide +kernel
theorem dX0_clear_29 : decode cX0_clear 29 = .ok (.putfield 44, 3) := by decide +kernel
theorem dX0_clear_32 : decode cX0_clear 32 = .ok (.aload_n 0, 1) := by decide +kernel
theorem dX0_clear_33 : decode cX0_clear 33 = .ok (.iconst 0, 1) := by decide +kernel
theorem dX0_clear_34 : decode cX0_clear 34 = .ok (.putfield 48, 3) := by decide +kernel
theorem dX0_clear_37 : decode cX0_clear 37 = .ok (.return_, 1) := by decide +kernel
theorem dX0_copyFrom_0 : decode cX0_copyFrom 0 = .ok (.aload_n 1, 1) := by decide +kernel
theorem dX0_copyFrom_1 : decode cX0_copyFrom 1 = .ok (.getfield 9, 3) := by decide +kernel
theorem dX0_copyFrom_4 : decode cX0_copyFrom 4 = .ok (.iconst 0, 1) := by decide +kernel
theorem dX0_copyFrom_5 : decode cX0_copyFrom 5 = .ok (.aload_n 0, 1) := by decide +kernel
theorem dX0_copyFrom_6 : decode cX0_copyFrom 6 = .ok (.getfield 9, 3) := by decide +kernel
theorem dX0_copyFrom_9 : decode cX0_copyFrom 9 = .ok (.iconst 0, 1) := by decide +kernel
theorem dX0_copyFrom_10 : decode cX0_copyFrom 10 = .ok (.iconst 5, 1) := by decide +kernel
theorem dX0_copyFrom_11 : decode cX0_copyFrom 11 = .ok (.invokestatic 51, 3) := by decide +kernel
theorem dX0_copyFrom_14 : decode cX0_copyFrom 14 = .ok (.aload_n 1, 1) := by decide +kernel
theorem dX0_copyFrom_15 : decode cX0_copyFrom 15 = .ok (.getfield 15, 3) := by decide +kernel
theorem dX0_copyFrom_18 : decode cX0_copyFrom 18 = .ok (.iconst 0, 1) := by decide +kernel
theorem dX0_copyFrom_19 : decode cX0_copyFrom 19 = .ok (.aload_n 0, 1) := by decide +kernel
theorem dX0_copyFrom_20 : decode cX0_copyFrom 20 = .ok (.getfield 15, 3) := by decide +kernel
theorem dX0_copyFrom_23 : decode cX0_copyFrom 23 = .ok (.iconst 0, 1) := by decide +kernel
theorem dX0_copyFrom_24 : decode cX0_copyFrom 24 = .ok (.iconst 5, 1) := by decide +kernel
theorem dX0_copyFrom_25 : decode cX0_copyFrom 25 = .ok (.invokestatic 51, 3) := by decide +kernel
theorem dX0_copyFrom_28 : decode cX0_copyFrom 28 = .ok (.aload_n 1, 1) := by decide +kernel
theorem dX0_copyFrom_29 : decode cX0_copyFrom 29 = .ok (.getfield 18, 3) := by decide +kernel
theorem dX0_copyFrom_32 : decode cX0_copyFrom 32 = .ok (.iconst 0, 1) := by decide +kernel
theorem dX0_copyFrom_33 : decode cX0_copyFrom 33 = .ok (.aload_n 0, 1) := by decide +kernel
theorem dX0_copyFrom_34 : decode cX0_copyFrom 34 = .ok (.getfield 18, 3) := by decide +kernel
theorem dX0_copyFrom_37 : decode cX0_copyFrom 37 = .ok (.iconst 0, 1) := by decide +kernel
theorem dX0_copyFrom_38 : decode cX0_copyFrom 38 = .ok (.iconst 5, 1) := by decide +kernel
theorem dX0_copyFrom_39 : decode cX0_copyFrom 39 = .ok (.invokestatic 51, 3) := by decide +kernel
theorem dX0_copyFrom_42 : decode cX0_copyFrom 42 = .ok (.aload_n 1, 1) := by decide +kernel
theorem dX0_copyFrom_43 : decode cX0_copyFrom 43 = .ok (.getfield 21, 3) := by decide +kernel
theorem dX0_copyFrom_46 : decode cX0_copyFrom 46 = .ok (.iconst 0, 1) := by decide +kernel
theorem dX0_copyFrom_47 : decode cX0_copyFrom 47 = .ok (.aload_n 0, 1) := by decide +kernel
theorem dX0_copyFrom_48 : decode cX0_copyFrom 48 = .ok (.getfield 21, 3) := by decide +kernel
theorem dX0_copyFrom_51 : decode cX0_copyFrom 51 = .ok (.iconst 0, 1) := by decide +kernel
theorem dX0_copyFrom_52 : decode cX0_copyFrom 52 = .ok (.iconst 5, 1) := by decide +kernel
theorem dX0_copyFrom_53 : decode cX0_copyFrom 53 = .ok (.invokestatic 51, 3) := by decide +kernel
theorem dX0_copyFrom_56 : decode cX0_copyFrom 56 = .ok (.aload_n 1, 1) := by decide +kernel
theorem dX0_copyFrom_57 : decode cX0_copyFrom 57 = .ok (.getfield 24, 3) := by decide +kernel
theorem dX0_copyFrom_60 : decode cX0_copyFrom 60 = .ok (.iconst 0, 1) := by decide +kernel
theorem dX0_copyFrom_61 : decode cX0_copyFrom 61 = .ok (.aload_n 0, 1) := by decide +kernel
theorem dX0_copyFrom_62 : decode cX0_copyFrom 62 = .ok (.getfield 24, 3) := by decide +kernel
theorem dX0_copyFrom_65 : decode cX0_copyFrom 65 = .ok (.iconst 0, 1) := by decide +kernel
theorem dX0_copyFrom_66 : decode cX0_copyFrom 66 = .ok (.bipush 8, 2) := by decide +kernel
theorem dX0_copyFrom_68 : decode cX0_copyFrom 68 = .ok (.invokestatic 51, 3) := by decide +kernel
theorem dX0_copyFrom_71 : decode cX0_copyFrom 71 = .ok (.aload_n 1, 1) := by decide +kernel
theorem dX0_copyFrom_72 : decode cX0_copyFrom 72 = .ok (.getfield 27, 3) := by decide +kernel
theorem dX0_copyFrom_75 : decode cX0_copyFrom 75 = .ok (.iconst 0, 1) := by decide +kernel
theorem dX0_copyFrom_76 : decode cX0_copyFrom 76 = .ok (.aload_n 0, 1) := by decide +kernel
theorem dX0_copyFrom_77 : decode cX0_copyFrom 77 = .ok (.getfield 27, 3) := by decide +kernel
theorem dX0_copyFrom_80 : decode cX0_copyFrom 80 = .ok (.iconst 0, 1) := by decide +kernel
theorem dX0_copyFrom_81 : decode cX0_copyFrom 81 = .ok (.bipush 8, 2) := by decide +kernel
theorem dX0_copyFrom_83 : decode cX0_copyFrom 83 = .ok (.invokestatic 51, 3) := by decide +kernel
theorem dX0_copyFrom_86 : decode cX0_copyFrom 86 = .ok (.iconst 0, 1) := by decide +kernel
theorem dX0_copyFrom_87 : decode cX0_copyFrom 87 = .ok (.istore_n 2, 1) := by decide +kernel
theorem dX0_copyFrom_88 : decode cX0_copyFrom 88 = .ok (.iload_n 2, 1) := by decide +kernel
theorem dX0_copyFrom_89 : decode cX0_copyFrom 89 = .ok (.bipush 8, 2) := by decide +kernel
theorem dX0_copyFrom_91 : decode cX0_copyFrom 91 = .ok (.if_icmp .ge 21, 3) := by decide +kernel
theorem dX0_copyFrom_94 : decode cX0_copyFrom 94 = .ok (.aload_n 0, 1) := by decide +kernel
theorem dX0_copyFrom_95 : decode cX0_copyFrom 95 = .ok (.getfield 30, 3) := by decide +kernel
theorem dX0_copyFrom_98 : decode cX0_copyFrom 98 = .ok (.iload_n 2, 1) := by decide +kernel
theorem dX0_copyFrom_99 : decode cX0_copyFrom 99 = .ok (.aload_n 1, 1) := by decide +kernel
theorem dX0_copyFrom_100 : decode cX0_copyFrom 100 = .ok (.getfield 30, 3) := by decide +kernel
theorem dX0_copyFrom_103 : decode cX0_copyFrom 103 = .ok (.iload_n 2, 1) := by decide +kernel
theorem dX0_copyFrom_104 : decode cX0_copyFrom 104 = .ok (.baload, 1) := by decide +kernel
theorem dX0_copyFrom_105 : decode cX0_copyFrom 105 = .ok (.bastore, 1) := by decide +kernel
theorem dX0_copyFrom_106 : decode cX0_copyFrom 106 = .ok (.iinc 2 1, 3) := by decide +kernel
theorem dX0_copyFrom_109 : decode cX0_copyFrom 109 = .ok (.goto (-21), 3) := by decide +kernel
theorem dX0_copyFrom_112 : decode cX0_copyFrom 112 = .ok (.aload_n 0, 1) := by decide +kernel
theorem dX0_copyFrom_113 : decode cX0_copyFrom 113 = .ok (.aload_n 1, 1) := by decide +kernel
theorem dX0_copyFrom_114 : decode cX0_copyFrom 114 = .ok (.getfield 44, 3) := by decide +kernel
theorem dX0_copyFrom_117 : decode cX0_copyFrom 117 = .ok (.putfield 44, 3) := by decide +kernel
theorem dX0_copyFrom_120 : decode cX0_copyFrom 120 = .ok (.aload_n 0, 1) := by decide +kernel
theorem dX0_copyFrom_121 : decode cX0_copyFrom 121 = .ok (.aload_n 1, 1) := by decide +kernel
theorem dX0_copyFrom_122 : decode cX0_copyFrom 122 = .ok (.getfield 48, 3) := by decide +kernel
theorem dX0_copyFrom_125 : decode cX0_copyFrom 125 = .ok (.putfield 48, 3) := by decide +kernel
theorem dX0_copyFrom_128 : decode cX0_copyFrom 128 = .ok (.return_, 1) := by decide +kernel
theorem dX0_empty_0 : decode cX0_empty 0 = .ok (.aload_n 0, 1) := by decide +kernel
theorem dX0_empty_1 : decode cX0_empty 1 = .ok (.getfield 9, 3) := by decide +kernel
theorem dX0_empty_4 : decode cX0_empty 4 = .ok (.iload_n 1, 1) := by decide +kernel
theorem dX0_empty_5 : decode cX0_empty 5 = .ok (.iconst (-1), 1) := by decide +kernel
theorem dX0_empty_6 : decode cX0_empty 6 = .ok (.iastore, 1) := by decide +kernel
theorem dX0_empty_7 : decode cX0_empty 7 = .ok (.aload_n 0, 1) := by decide +kernel
theorem dX0_empty_8 : decode cX0_empty 8 = .ok (.getfield 15, 3) := by decide +kernel
theorem dX0_empty_11 : decode cX0_empty 11 = .ok (.iload_n 1, 1) := by decide +kernel
theorem dX0_empty_12 : decode cX0_empty 12 = .ok (.iload_n 2, 1) := by decide +kernel
theorem dX0_empty_13 : decode cX0_empty 13 = .ok (.iastore, 1) := by decide +kernel
theorem dX0_empty_14 : decode cX0_empty 14 = .ok (.aload_n 0, 1) := by decide +kernel
theorem dX0_empty_15 : decode cX0_empty 15 = .ok (.getfield 18, 3) := by decide +kernel
theorem dX0_empty_18 : decode cX0_empty 18 = .ok (.iload_n 1, 1) := by decide +kernel
theorem dX0_empty_19 : decode cX0_empty 19 = .ok (.iconst 0, 1) := by decide +kernel
theorem dX0_empty_20 : decode cX0_empty 20 = .ok (.iastore, 1) := by decide +kernel
theorem dX0_empty_21 : decode cX0_empty 21 = .ok (.return_, 1) := by decide +kernel
theorem dX0_holesOf_0 : decode cX0_holesOf 0 = .ok (.iconst 0, 1) := by decide +kernel
theorem dX0_holesOf_1 : decode cX0_holesOf 1 = .ok (.istore_n 2, 1) := by decide +kernel
theorem dX0_holesOf_2 : decode cX0_holesOf 2 = .ok (.iconst 0, 1) := by decide +kernel
theorem dX0_holesOf_3 : decode cX0_holesOf 3 = .ok (.istore_n 3, 1) := by decide +kernel
theorem dX0_holesOf_4 : decode cX0_holesOf 4 = .ok (.iload_n 3, 1) := by decide +kernel
theorem dX0_holesOf_5 : decode cX0_holesOf 5 = .ok (.iconst 5, 1) := by decide +kernel
theorem dX0_holesOf_6 : decode cX0_holesOf 6 = .ok (.if_icmp .ge 25, 3) := by decide +kernel
theorem dX0_holesOf_9 : decode cX0_holesOf 9 = .ok (.aload_n 0, 1) := by decide +kernel
theorem dX0_holesOf_10 : decode cX0_holesOf 10 = .ok (.getfield 9, 3) := by decide +kernel
theorem dX0_holesOf_13 : decode cX0_holesOf 13 = .ok (.iload_n 3, 1) := by decide +kernel
theorem dX0_holesOf_14 : decode cX0_holesOf 14 = .ok (.iaload, 1) := by decide +kernel
theorem dX0_holesOf_15 : decode cX0_holesOf 15 = .ok (.iload_n 1, 1) := by decide +kernel
theorem dX0_holesOf_16 : decode cX0_holesOf 16 = .ok (.if_icmp .ne 9, 3) := by decide +kernel
theorem dX0_holesOf_19 : decode cX0_holesOf 19 = .ok (.iload_n 2, 1) := by decide +kernel
theorem dX0_holesOf_20 : decode cX0_holesOf 20 = .ok (.iconst 1, 1) := by decide +kernel
theorem dX0_holesOf_21 : decode cX0_holesOf 21 = .ok (.iload_n 3, 1) := by decide +kernel
theorem dX0_holesOf_22 : decode cX0_holesOf 22 = .ok (.ishl, 1) := by decide +kernel
theorem dX0_holesOf_23 : decode cX0_holesOf 23 = .ok (.ior, 1) := by decide +kernel
theorem dX0_holesOf_24 : decode cX0_holesOf 24 = .ok (.istore_n 2, 1) := by decide +kernel
theorem dX0_holesOf_25 : decode cX0_holesOf 25 = .ok (.iinc 3 1, 3) := by decide +kernel
theorem dX0_holesOf_28 : decode cX0_holesOf 28 = .ok (.goto (-24), 3) := by decide +kernel
theorem dX0_holesOf_31 : decode cX0_holesOf 31 = .ok (.iload_n 2, 1) := by decide +kernel
theorem dX0_holesOf_32 : decode cX0_holesOf 32 = .ok (.ireturn, 1) := by decide +kernel
theorem dX0_eggsOf_0 : decode cX0_eggsOf 0 = .ok (.iconst 0, 1) := by decide +kernel
theorem dX0_eggsOf_1 : decode cX0_eggsOf 1 = .ok (.istore_n 2, 1) := by decide +kernel
theorem dX0_eggsOf_2 : decode cX0_eggsOf 2 = .ok (.iconst 0, 1) := by decide +kernel
theorem dX0_eggsOf_3 : decode cX0_eggsOf 3 = .ok (.istore_n 3, 1) := by decide +kernel
theorem dX0_eggsOf_4 : decode cX0_eggsOf 4 = .ok (.iload_n 3, 1) := by decide +kernel
theorem dX0_eggsOf_5 : decode cX0_eggsOf 5 = .ok (.iconst 5, 1) := by decide +kernel
theorem dX0_eggsOf_6 : decode cX0_eggsOf 6 = .ok (.if_icmp .ge 28, 3) := by decide +kernel
theorem dX0_eggsOf_9 : decode cX0_eggsOf 9 = .ok (.aload_n 0, 1) := by decide +kernel
theorem dX0_eggsOf_10 : decode cX0_eggsOf 10 = .ok (.getfield 9, 3) := by decide +kernel
theorem dX0_eggsOf_13 : decode cX0_eggsOf 13 = .ok (.iload_n 3, 1) := by decide +kernel
theorem dX0_eggsOf_14 : decode cX0_eggsOf 14 = .ok (.iaload, 1) := by decide +kernel
theorem dX0_eggsOf_15 : decode cX0_eggsOf 15 = .ok (.iload_n 1, 1) := by decide +kernel
theorem dX0_eggsOf_16 : decode cX0_eggsOf 16 = .ok (.if_icmp .ne 12, 3) := by decide +kernel
theorem dX0_eggsOf_19 : decode cX0_eggsOf 19 = .ok (.iload_n 2, 1) := by decide +kernel
theorem dX0_eggsOf_20 : decode cX0_eggsOf 20 = .ok (.aload_n 0, 1) := by decide +kernel
theorem dX0_eggsOf_21 : decode cX0_eggsOf 21 = .ok (.getfield 18, 3) := by decide +kernel
theorem dX0_eggsOf_24 : decode cX0_eggsOf 24 = .ok (.iload_n 3, 1) := by decide +kernel
theorem dX0_eggsOf_25 : decode cX0_eggsOf 25 = .ok (.iaload, 1) := by decide +kernel
theorem dX0_eggsOf_26 : decode cX0_eggsOf 26 = .ok (.iadd, 1) := by decide +kernel
theorem dX0_eggsOf_27 : decode cX0_eggsOf 27 = .ok (.istore_n 2, 1) := by decide +kernel
theorem dX0_eggsOf_28 : decode cX0_eggsOf 28 = .ok (.iinc 3 1, 3) := by decide +kernel
theorem dX0_eggsOf_31 : decode cX0_eggsOf 31 = .ok (.goto (-27), 3) := by decide +kernel
theorem dX0_eggsOf_34 : decode cX0_eggsOf 34 = .ok (.iload_n 2, 1) := by decide +kernel
theorem dX0_eggsOf_35 : decode cX0_eggsOf 35 = .ok (.ireturn, 1) := by decide +kernel
set_option maxRecDepth 20000 in
theorem ggX0_roomOf_X0_holesOf : GoodIn wsX0_roomOf wsX0_holesOf := goodIn_r _ [5, 6, 14, 15, 16, 17, 18, 19, 20, 21, 22] (by decide +kernel) (by decide +kernel)
set_option maxRecDepth 20000 in
theorem gX0_roomOf_X0_holesOf : GoodIn wsX0_roomOf (wsV RX0 57 RX0 yX0_holesOf wsX0_holesOf) := goodIn_app (goodIn_of _ (by decide +kernel)) ggX0_roomOf_X0_holesOf
set_option maxRecDepth 20000 in
theorem ggX0_roomOf_J6_bitCount_0f7a4 : GoodIn wsX0_roomOf wsJ6_bitCount_0f7a4 := goodIn_r _ [10, 11, 12, 13] (by decide +kernel) (by decide +kernel)
set_option maxRecDepth 20000 in
theorem gX0_roomOf_J6_bitCount_0f7a4 : GoodIn wsX0_roomOf (va_wsS RX0 61 yJ6_bitCount_0f7a4 wsJ6_bitCount_0f7a4) := goodIn_app (goodIn_of _ (by decide +kernel)) ggX0_roomOf_J6_bitCount_0f7a4
theorem dX0_roomOf_0 : decode cX0_roomOf 0 = .ok (.iconst 2, 1) := by decide +kernel
theorem dX0_roomOf_1 : decode cX0_roomOf 1 = .ok (.aload_n 0, 1) := by decide +kernel
theorem dX0_roomOf_2 : decode cX0_roomOf 2 = .ok (.iload_n 1, 1) := by decide +kernel
theorem dX0_roomOf_3 : decode cX0_roomOf 3 = .ok (.invokevirtual 57, 3) := by decide +kernel
theorem dX0_roomOf_6 : decode cX0_roomOf 6 = .ok (.invokestatic 61, 3) := by decide +kernel
theorem dX0_roomOf_9 : decode cX0_roomOf 9 = .ok (.isub, 1) := by decide +kernel
theorem dX0_roomOf_10 : decode cX0_roomOf 10 = .ok (.ireturn, 1) := by decide +kernel
theorem dX0_holesWith_0 : decode cX0_holesWith 0 = .ok (.iconst 0, 1) := by decide +kernel
theorem dX0_holesWith_1 : decode cX0_holesWith 1 = .ok (.istore_n 2, 1) := by decide +kernel
theorem dX0_holesWith_2 : decode cX0_holesWith 2 = .ok (.aload_n 0, 1) := by decide +kernel
theorem dX0_holesWith_3 : decode cX0_holesWith 3 = .ok (.getfield 15, 3) := by decide +kernel
theorem dX0_holesWith_6 : decode cX0_holesWith 6 = .ok (.astore_n 3, 1) := by decide +kernel
theorem dX0_holesWith_7 : decode cX0_holesWith 7 = .ok (.aload_n 3, 1) := by decide +kernel
theorem dX0_holesWith_8 : decode cX0_holesWith 8 = .ok (.arraylength, 1) := by decide +kernel
theorem dX0_holesWith_9 : decode cX0_holesWith 9 = .ok (.istore 4, 2) := by decide +kernel
theorem dX0_holesWith_11 : decode cX0_holesWith 11 = .ok (.iconst 0, 1) := by decide +kernel
theorem dX0_holesWith_12 : decode cX0_holesWith 12 = .ok (.istore 5, 2) := by decide +kernel
theorem dX0_holesWith_14 : decode cX0_holesWith 14 = .ok (.iload 5, 2) := by decide +kernel
theorem dX0_holesWith_16 : decode cX0_holesWith 16 = .ok (.iload 4, 2) := by decide +kernel
theorem dX0_holesWith_18 : decode cX0_holesWith 18 = .ok (.if_icmp .ge 24, 3) := by decide +kernel
theorem dX0_holesWith_21 : decode cX0_holesWith 21 = .ok (.aload_n 3, 1) := by decide +kernel
theorem dX0_holesWith_22 : decode cX0_holesWith 22 = .ok (.iload 5, 2) := by decide +kernel
theorem dX0_holesWith_24 : decode cX0_holesWith 24 = .ok (.iaload, 1) := by decide +kernel
theorem dX0_holesWith_25 : decode cX0_holesWith 25 = .ok (.istore 6, 2) := by decide +kernel
theorem dX0_holesWith_27 : decode cX0_holesWith 27 = .ok (.iload 6, 2) := by decide +kernel
theorem dX0_holesWith_29 : decode cX0_holesWith 29 = .ok (.iload_n 1, 1) := by decide +kernel
theorem dX0_holesWith_30 : decode cX0_holesWith 30 = .ok (.if_icmp .ne 6, 3) := by decide +kernel
theorem dX0_holesWith_33 : decode cX0_holesWith 33 = .ok (.iinc 2 1, 3) := by decide +kernel
theorem dX0_holesWith_36 : decode cX0_holesWith 36 = .ok (.iinc 5 1, 3) := by decide +kernel
theorem dX0_holesWith_39 : decode cX0_holesWith 39 = .ok (.goto (-25), 3) := by decide +kernel
theorem dX0_holesWith_42 : decode cX0_holesWith 42 = .ok (.iload_n 2, 1) := by decide +kernel
theorem dX0_holesWith_43 : decode cX0_holesWith 43 = .ok (.ireturn, 1) := by decide +kernel
theorem dX1_init_0 : decode cX1_init 0 = .ok (.aload_n 0, 1) := by decide +kernel
theorem dX1_init_1 : decode cX1_init 1 = .ok (.invokespecial 3, 3) := by decide +kernel
theorem dX1_init_4 : decode cX1_init 4 = .ok (.aload_n 0, 1) := by decide +kernel
theorem dX1_init_5 : decode cX1_init 5 = .ok (.iconst 5, 1) := by decide +kernel
theorem dX1_init_6 : decode cX1_init 6 = .ok (.newarray .int, 2) := by decide +kernel
theorem dX1_init_8 : decode cX1_init 8 = .ok (.putfield 9, 3) := by decide +kernel
theorem dX1_init_11 : decode cX1_init 11 = .ok (.return_, 1) := by decide +kernel
set_option maxRecDepth 20000 in
theorem ggX1_pass_X1_passYear : GoodIn wsX1_pass wsX1_passYear := goodIn_r _ [16, 17, 2, 7, 18, 19, 20, 15, 21, 22, 8, 23, 24, 25, 26, 27, 28, 29, 30, 31, 32, 33, 34, 35, 36, 37, 38, 39, 40, 41, 42, 43, 44, 45, 46, 47, 48, 49, 50, 51, 52, 53, 54, 55, 68, 69, 70, 71, 72, 65, 66, 67] (by decide +kernel) (by decide +kernel)
set_option maxRecDepth 20000 in
theorem gX1_pass_X1_passYear : GoodIn wsX1_pass (wsV RX1 43 RX1 yX1_passYear wsX1_passYear) := goodIn_app (goodIn_of _ (by decide +kernel)) ggX1_pass_X1_passYear
theorem dX1_pass_0 : decode cX1_pass 0 = .ok (.aload_n 2, 1) := by decide +kernel
theorem dX1_pass_1 : decode cX1_pass 1 = .ok (.getfield 15, 3) := by decide +kernel
theorem dX1_pass_4 : decode cX1_pass 4 = .ok (.iconst 0, 1) := by decide +kernel
theorem dX1_pass_5 : decode cX1_pass 5 = .ok (.aload_n 0, 1) := by decide +kernel
theorem dX1_pass_6 : decode cX1_pass 6 = .ok (.getfield 9, 3) := by decide +kernel
theorem dX1_pass_9 : decode cX1_pass 9 = .ok (.iconst 0, 1) := by decide +kernel
theorem dX1_pass_10 : decode cX1_pass 10 = .ok (.iconst 5, 1) := by decide +kernel
theorem dX1_pass_11 : decode cX1_pass 11 = .ok (.invokestatic 18, 3) := by decide +kernel
theorem dX1_pass_14 : decode cX1_pass 14 = .ok (.aload_n 0, 1) := by decide +kernel
theorem dX1_pass_15 : decode cX1_pass 15 = .ok (.iconst 0, 1) := by decide +kernel
theorem dX1_pass_16 : decode cX1_pass 16 = .ok (.putfield 24, 3) := by decide +kernel
theorem dX1_pass_19 : decode cX1_pass 19 = .ok (.aload_n 0, 1) := by decide +kernel
theorem dX1_pass_20 : decode cX1_pass 20 = .ok (.iload 4, 2) := by decide +kernel
theorem dX1_pass_22 : decode cX1_pass 22 = .ok (.i2l, 1) := by decide +kernel
theorem dX1_pass_23 : decode cX1_pass 23 = .ok (.putfield 28, 3) := by decide +kernel
theorem dX1_pass_26 : decode cX1_pass 26 = .ok (.iconst 0, 1) := by decide +kernel
theorem dX1_pass_27 : decode cX1_pass 27 = .ok (.istore 5, 2) := by decide +kernel
theorem dX1_pass_29 : decode cX1_pass 29 = .ok (.iload 5, 2) := by decide +kernel
theorem dX1_pass_31 : decode cX1_pass 31 = .ok (.iload_n 3, 1) := by decide +kernel
theorem dX1_pass_32 : decode cX1_pass 32 = .ok (.if_icmp .ge 52, 3) := by decide +kernel
theorem dX1_pass_35 : decode cX1_pass 35 = .ok (.iconst 0, 1) := by decide +kernel
theorem dX1_pass_36 : decode cX1_pass 36 = .ok (.istore 6, 2) := by decide +kernel
theorem dX1_pass_38 : decode cX1_pass 38 = .ok (.iload 6, 2) := by decide +kernel
theorem dX1_pass_40 : decode cX1_pass 40 = .ok (.aload_n 1, 1) := by decide +kernel
theorem dX1_pass_41 : decode cX1_pass 41 = .ok (.getfield 32, 3) := by decide +kernel
theorem dX1_pass_44 : decode cX1_pass 44 = .ok (.if_icmp .ge 34, 3) := by decide +kernel
theorem dX1_pass_47 : decode cX1_pass 47 = .ok (.aload_n 2, 1) := by decide +kernel
theorem dX1_pass_48 : decode cX1_pass 48 = .ok (.getfield 37, 3) := by decide +kernel
theorem dX1_pass_51 : decode cX1_pass 51 = .ok (.iload 6, 2) := by decide +kernel
theorem dX1_pass_53 : decode cX1_pass 53 = .ok (.iaload, 1) := by decide +kernel
theorem dX1_pass_54 : decode cX1_pass 54 = .ok (.iconst 1, 1) := by decide +kernel
theorem dX1_pass_55 : decode cX1_pass 55 = .ok (.if_icmp .ne 17, 3) := by decide +kernel
theorem dX1_pass_58 : decode cX1_pass 58 = .ok (.aload_n 0, 1) := by decide +kernel
theorem dX1_pass_59 : decode cX1_pass 59 = .ok (.aload_n 1, 1) := by decide +kernel
theorem dX1_pass_60 : decode cX1_pass 60 = .ok (.iload 6, 2) := by decide +kernel
theorem dX1_pass_62 : decode cX1_pass 62 = .ok (.aload_n 2, 1) := by decide +kernel
theorem dX1_pass_63 : decode cX1_pass 63 = .ok (.getfield 40, 3) := by decide +kernel
theorem dX1_pass_66 : decode cX1_pass 66 = .ok (.iload 6, 2) := by decide +kernel
theorem dX1_pass_68 : decode cX1_pass 68 = .ok (.iaload, 1) := by decide +kernel
theorem dX1_pass_69 : decode cX1_pass 69 = .ok (.invokevirtual 43, 3) := by decide +kernel
theorem dX1_pass_72 : decode cX1_pass 72 = .ok (.iinc 6 1, 3) := by decide +kernel
theorem dX1_pass_75 : decode cX1_pass 75 = .ok (.goto (-37), 3) := by decide +kernel
theorem dX1_pass_78 : decode cX1_pass 78 = .ok (.iinc 5 1, 3) := by decide +kernel
theorem dX1_pass_81 : decode cX1_pass 81 = .ok (.goto (-52), 3) := by decide +kernel
theorem dX1_pass_84 : decode cX1_pass 84 = .ok (.return_, 1) := by decide +kernel
set_option maxRecDepth 20000 in
theorem ggX1_allEggs_X5_sum : GoodIn wsX1_allEggs wsX5_sum := goodIn_r _ [4] (by decide +kernel) (by decide +kernel)
set_option maxRecDepth 20000 in
theorem gX1_allEggs_X5_sum_n47 : GoodIn wsX1_allEggs (wsX5_sum) := ggX1_allEggs_X5_sum
theorem dX1_allEggs_0 : decode cX1_allEggs 0 = .ok (.aload_n 0, 1) := by decide +kernel
theorem dX1_allEggs_1 : decode cX1_allEggs 1 = .ok (.getfield 9, 3) := by decide +kernel
theorem dX1_allEggs_4 : decode cX1_allEggs 4 = .ok (.invokestatic 47, 3) := by decide +kernel
theorem dX1_allEggs_7 : decode cX1_allEggs 7 = .ok (.ireturn, 1) := by decide +kernel
set_option maxRecDepth 20000 in
theorem ggX1_passYear_X1_drawOfTen : GoodIn wsX1_passYear wsX1_drawOfTen := goodIn_r _ [8, 9, 10, 11, 12, 13, 14, 49, 50, 51] (by decide +kernel) (by decide +kernel)
set_option maxRecDepth 20000 in
theorem gX1_passYear_X1_drawOfTen : GoodIn wsX1_passYear (wsV RX1 51 RX1 yX1_drawOfTen wsX1_drawOfTen) := goodIn_app (goodIn_of _ (by decide +kernel)) ggX1_passYear_X1_drawOfTen
set_option maxRecDepth 20000 in
theorem ggX1_passYear_X2_yearsKept : GoodIn wsX1_passYear wsX2_yearsKept := goodIn_r _ [19, 20, 21, 22, 23, 24, 18, 25, 26, 27, 28, 29, 30, 31, 32, 33, 34, 35, 36, 37, 38, 39, 44, 45, 46, 47, 48] (by decide +kernel) (by decide +kernel)
set_option maxRecDepth 20000 in
theorem gX1_passYear_X2_yearsKept : GoodIn wsX1_passYear (wsV RX1 58 RX2 yX2_yearsKept wsX2_yearsKept) := goodIn_app (goodIn_of _ (by decide +kernel)) ggX1_passYear_X2_yearsKept
set_option maxRecDepth 20000 in
theorem ggX1_passYear_X2_eggsOfAYear : GoodIn wsX1_passYear wsX2_eggsOfAYear := goodIn_r _ [43, 20, 22, 23, 24, 18, 25, 26, 38, 28, 39, 44, 45, 46, 47, 48] (by decide +kernel) (by decide +kernel)
set_option maxRecDepth 20000 in
theorem gX1_passYear_X2_eggsOfAYear : GoodIn wsX1_passYear (wsV RX1 62 RX2 yX2_eggsOfAYear wsX2_eggsOfAYear) := goodIn_app (goodIn_of _ (by decide +kernel)) ggX1_passYear_X2_eggsOfAYear
theorem dX1_passYear_0 : decode cX1_passYear 0 = .ok (.aload_n 0, 1) := by decide +kernel
theorem dX1_passYear_1 : decode cX1_passYear 1 = .ok (.invokevirtual 51, 3) := by decide +kernel
theorem dX1_passYear_4 : decode cX1_passYear 4 = .ok (.aload_n 1, 1) := by decide +kernel
theorem dX1_passYear_5 : decode cX1_passYear 5 = .ok (.iload_n 3, 1) := by decide +kernel
theorem dX1_passYear_6 : decode cX1_passYear 6 = .ok (.aload_n 1, 1) := by decide +kernel
theorem dX1_passYear_7 : decode cX1_passYear 7 = .ok (.getfield 55, 3) := by decide +kernel
theorem dX1_passYear_10 : decode cX1_passYear 10 = .ok (.iload_n 2, 1) := by decide +kernel
theorem dX1_passYear_11 : decode cX1_passYear 11 = .ok (.iaload, 1) := by decide +kernel
theorem dX1_passYear_12 : decode cX1_passYear 12 = .ok (.invokevirtual 58, 3) := by decide +kernel
theorem dX1_passYear_15 : decode cX1_passYear 15 = .ok (.i2l, 1) := by decide +kernel
theorem dX1_passYear_16 : decode cX1_passYear 16 = .ok (.lcmp, 1) := by decide +kernel
theorem dX1_passYear_17 : decode cX1_passYear 17 = .ok (.ifCond .ge 20, 3) := by decide +kernel
theorem dX1_passYear_20 : decode cX1_passYear 20 = .ok (.aload_n 0, 1) := by decide +kernel
theorem dX1_passYear_21 : decode cX1_passYear 21 = .ok (.getfield 9, 3) := by decide +kernel
theorem dX1_passYear_24 : decode cX1_passYear 24 = .ok (.iload_n 2, 1) := by decide +kernel
theorem dX1_passYear_25 : decode cX1_passYear 25 = .ok (.dup2, 1) := by decide +kernel
theorem dX1_passYear_26 : decode cX1_passYear 26 = .ok (.iaload, 1) := by decide +kernel
theorem dX1_passYear_27 : decode cX1_passYear 27 = .ok (.aload_n 1, 1) := by decide +kernel
theorem dX1_passYear_28 : decode cX1_passYear 28 = .ok (.iload_n 3, 1) := by decide +kernel
theorem dX1_passYear_29 : decode cX1_passYear 29 = .ok (.invokevirtual 62, 3) := by decide +kernel
theorem dX1_passYear_32 : decode cX1_passYear 32 = .ok (.iadd, 1) := by decide +kernel
theorem dX1_passYear_33 : decode cX1_passYear 33 = .ok (.iastore, 1) := by decide +kernel
theorem dX1_passYear_34 : decode cX1_passYear 34 = .ok (.goto 20, 3) := by decide +kernel
theorem dX1_passYear_37 : decode cX1_passYear 37 = .ok (.aload_n 0, 1) := by decide +kernel
theorem dX1_passYear_38 : decode cX1_passYear 38 = .ok (.getfield 9, 3) := by decide +kernel
theorem dX1_passYear_41 : decode cX1_passYear 41 = .ok (.iload_n 2, 1) := by decide +kernel
theorem dX1_passYear_42 : decode cX1_passYear 42 = .ok (.iconst 0, 1) := by decide +kernel
theorem dX1_passYear_43 : decode cX1_passYear 43 = .ok (.iastore, 1) := by decide +kernel
theorem dX1_passYear_44 : decode cX1_passYear 44 = .ok (.aload_n 0, 1) := by decide +kernel
theorem dX1_passYear_45 : decode cX1_passYear 45 = .ok (.dup, 1) := by decide +kernel
theorem dX1_passYear_46 : decode cX1_passYear 46 = .ok (.getfield 24, 3) := by decide +kernel
theorem dX1_passYear_49 : decode cX1_passYear 49 = .ok (.iconst 1, 1) := by decide +kernel
theorem dX1_passYear_50 : decode cX1_passYear 50 = .ok (.iadd, 1) := by decide +kernel
theorem dX1_passYear_51 : decode cX1_passYear 51 = .ok (.putfield 24, 3) := by decide +kernel
theorem dX1_passYear_54 : decode cX1_passYear 54 = .ok (.return_, 1) := by decide +kernel
theorem dX1_drawOfTen_0 : decode cX1_drawOfTen 0 = .ok (.aload_n 0, 1) := by decide +kernel
theorem dX1_drawOfTen_1 : decode cX1_drawOfTen 1 = .ok (.ldc2_w 66, 3) := by decide +kernel
theorem dX1_drawOfTen_4 : decode cX1_drawOfTen 4 = .ok (.aload_n 0, 1) := by decide +kernel
theorem dX1_drawOfTen_5 : decode cX1_drawOfTen 5 = .ok (.getfield 28, 3) := by decide +kernel
theorem dX1_drawOfTen_8 : decode cX1_drawOfTen 8 = .ok (.lmul, 1) := by decide +kernel
theorem dX1_drawOfTen_9 : decode cX1_drawOfTen 9 = .ok (.ldc2_w 68, 3) := by decide +kernel
theorem dX1_drawOfTen_12 : decode cX1_drawOfTen 12 = .ok (.ladd, 1) := by decide +kernel
theorem dX1_drawOfTen_13 : decode cX1_drawOfTen 13 = .ok (.ldc2_w 70, 3) := by decide +kernel
theorem dX1_drawOfTen_16 : decode cX1_drawOfTen 16 = .ok (.land, 1) := by decide +kernel
theorem dX1_drawOfTen_17 : decode cX1_drawOfTen 17 = .ok (.putfield 28, 3) := by decide +kernel
theorem dX1_drawOfTen_20 : decode cX1_drawOfTen 20 = .ok (.aload_n 0, 1) := by decide +kernel
theorem dX1_drawOfTen_21 : decode cX1_drawOfTen 21 = .ok (.getfield 28, 3) := by decide +kernel
theorem dX1_drawOfTen_24 : decode cX1_drawOfTen 24 = .ok (.ldc2_w 72, 3) := by decide +kernel
theorem dX1_drawOfTen_27 : decode cX1_drawOfTen 27 = .ok (.ldiv, 1) := by decide +kernel
theorem dX1_drawOfTen_28 : decode cX1_drawOfTen 28 = .ok (.ldc2_w 74, 3) := by decide +kernel
theorem dX1_drawOfTen_31 : decode cX1_drawOfTen 31 = .ok (.lrem, 1) := by decide +kernel
theorem dX1_drawOfTen_32 : decode cX1_drawOfTen 32 = .ok (.lreturn, 1) := by decide +kernel
theorem dX2_init_0 : decode cX2_init 0 = .ok (.aload_n 0, 1) := by decide +kernel
theorem dX2_init_1 : decode cX2_init 1 = .ok (.invokespecial 3, 3) := by decide +kernel
theorem dX2_init_4 : decode cX2_init 4 = .ok (.aload_n 0, 1) := by decide +kernel
theorem dX2_init_5 : decode cX2_init 5 = .ok (.iconst 5, 1) := by decide +kernel
theorem dX2_init_6 : decode cX2_init 6 = .ok (.newarray .int, 2) := by decide +kernel
theorem dX2_init_8 : decode cX2_init 8 = .ok (.putfield 9, 3) := by decide +kernel
theorem dX2_init_11 : decode cX2_init 11 = .ok (.aload_n 0, 1) := by decide +kernel
theorem dX2_init_12 : decode cX2_init 12 = .ok (.iconst 5, 1) := by decide +kernel
theorem dX2_init_13 : decode cX2_init 13 = .ok (.newarray .int, 2) := by decide +kernel
theorem dX2_init_15 : decode cX2_init 15 = .ok (.putfield 15, 3) := by decide +kernel
theorem dX2_init_18 : decode cX2_init 18 = .ok (.aload_n 0, 1) := by decide +kernel
theorem dX2_init_19 : decode cX2_init 19 = .ok (.iconst 5, 1) := by decide +kernel
theorem dX2_init_20 : decode cX2_init 20 = .ok (.newarray .int, 2) := by decide +kernel
theorem dX2_init_22 : decode cX2_init 22 = .ok (.putfield 18, 3) := by decide +kernel
theorem dX2_init_25 : decode cX2_init 25 = .ok (.return_, 1) := by decide +kernel
set_option maxRecDepth 20000 in
theorem ggX2_readFrom_J0_indexOf_0f7a4 : GoodIn wsX2_readFrom wsJ0_indexOf_0f7a4 := goodIn_r _ [17, 18, 19, 20, 16, 21, 22, 23, 24, 25, 26, 27, 28, 29, 30, 31, 32, 33, 34, 35, 36, 37, 38, 39, 40, 41, 42, 4, 43, 44, 3, 5, 45, 46, 47, 48, 49, 50, 51, 52, 53, 54, 55, 56, 57, 58, 59, 60, 61, 62, 63, 64, 65, 66, 67, 68, 69, 70, 71, 72, 73, 74, 75, 76, 77, 78, 79, 80, 81, 82, 83, 84, 85, 86, 87, 88, 89, 90, 91, 92, 93, 94, 95, 96, 97, 98] (by decide +kernel) (by decide +kernel)
set_option maxRecDepth 20000 in
theorem gX2_readFrom_J0_indexOf_0f7a4 : GoodIn wsX2_readFrom (wsV RX2 47 RJ0 yJ0_indexOf_0f7a4 wsJ0_indexOf_0f7a4) := goodIn_app (goodIn_of _ (by decide +kernel)) ggX2_readFrom_J0_indexOf_0f7a4
theorem dX2_readFrom_0 : decode cX2_readFrom 0 = .ok (.aload_n 0, 1) := by decide +kernel
theorem dX2_readFrom_1 : decode cX2_readFrom 1 = .ok (.iconst 5, 1) := by decide +kernel
theorem dX2_readFrom_2 : decode cX2_readFrom 2 = .ok (.aload_n 1, 1) := by decide +kernel
theorem dX2_readFrom_3 : decode cX2_readFrom 3 = .ok (.getfield 21, 3) := by decide +kernel
theorem dX2_readFrom_6 : decode cX2_readFrom 6 = .ok (.iconst 3, 1) := by decide +kernel
theorem dX2_readFrom_7 : decode cX2_readFrom 7 = .ok (.idiv, 1) := by decide +kernel
theorem dX2_readFrom_8 : decode cX2_readFrom 8 = .ok (.invokestatic 27, 3) := by decide +kernel
theorem dX2_readFrom_11 : decode cX2_readFrom 11 = .ok (.putfield 33, 3) := by decide +kernel
theorem dX2_readFrom_14 : decode cX2_readFrom 14 = .ok (.aload_n 0, 1) := by decide +kernel
theorem dX2_readFrom_15 : decode cX2_readFrom 15 = .ok (.iconst 5, 1) := by decide +kernel
theorem dX2_readFrom_16 : decode cX2_readFrom 16 = .ok (.aload_n 1, 1) := by decide +kernel
theorem dX2_readFrom_17 : decode cX2_readFrom 17 = .ok (.getfield 36, 3) := by decide +kernel
theorem dX2_readFrom_20 : decode cX2_readFrom 20 = .ok (.aload_n 1, 1) := by decide +kernel
theorem dX2_readFrom_21 : decode cX2_readFrom 21 = .ok (.getfield 21, 3) := by decide +kernel
theorem dX2_readFrom_24 : decode cX2_readFrom 24 = .ok (.isub, 1) := by decide +kernel
theorem dX2_readFrom_25 : decode cX2_readFrom 25 = .ok (.invokestatic 27, 3) := by decide +kernel
theorem dX2_readFrom_28 : decode cX2_readFrom 28 = .ok (.putfield 39, 3) := by decide +kernel
theorem dX2_readFrom_31 : decode cX2_readFrom 31 = .ok (.iconst 0, 1) := by decide +kernel
theorem dX2_readFrom_32 : decode cX2_readFrom 32 = .ok (.istore_n 2, 1) := by decide +kernel
theorem dX2_readFrom_33 : decode cX2_readFrom 33 = .ok (.iload_n 2, 1) := by decide +kernel
theorem dX2_readFrom_34 : decode cX2_readFrom 34 = .ok (.aload_n 0, 1) := by decide +kernel
theorem dX2_readFrom_35 : decode cX2_readFrom 35 = .ok (.getfield 33, 3) := by decide +kernel
theorem dX2_readFrom_38 : decode cX2_readFrom 38 = .ok (.if_icmp .ge 48, 3) := by decide +kernel
theorem dX2_readFrom_41 : decode cX2_readFrom 41 = .ok (.aload_n 0, 1) := by decide +kernel
theorem dX2_readFrom_42 : decode cX2_readFrom 42 = .ok (.getfield 9, 3) := by decide +kernel
theorem dX2_readFrom_45 : decode cX2_readFrom 45 = .ok (.iload_n 2, 1) := by decide +kernel
theorem dX2_readFrom_46 : decode cX2_readFrom 46 = .ok (.ldc 42, 2) := by decide +kernel
theorem dX2_readFrom_48 : decode cX2_readFrom 48 = .ok (.aload_n 1, 1) := by decide +kernel
theorem dX2_readFrom_49 : decode cX2_readFrom 49 = .ok (.getfield 44, 3) := by decide +kernel
theorem dX2_readFrom_52 : decode cX2_readFrom 52 = .ok (.iconst 3, 1) := by decide +kernel
theorem dX2_readFrom_53 : decode cX2_readFrom 53 = .ok (.iload_n 2, 1) := by decide +kernel
theorem dX2_readFrom_54 : decode cX2_readFrom 54 = .ok (.imul, 1) := by decide +kernel
theorem dX2_readFrom_55 : decode cX2_readFrom 55 = .ok (.iaload, 1) := by decide +kernel
theorem dX2_readFrom_56 : decode cX2_readFrom 56 = .ok (.i2c, 1) := by decide +kernel
theorem dX2_readFrom_57 : decode cX2_readFrom 57 = .ok (.invokevirtual 47, 3) := by decide +kernel
theorem dX2_readFrom_60 : decode cX2_readFrom 60 = .ok (.iastore, 1) := by decide +kernel
theorem dX2_readFrom_61 : decode cX2_readFrom 61 = .ok (.aload_n 0, 1) := by decide +kernel
theorem dX2_readFrom_62 : decode cX2_readFrom 62 = .ok (.getfield 15, 3) := by decide +kernel
theorem dX2_readFrom_65 : decode cX2_readFrom 65 = .ok (.iload_n 2, 1) := by decide +kernel
theorem dX2_readFrom_66 : decode cX2_readFrom 66 = .ok (.aload_n 1, 1) := by decide +kernel
theorem dX2_readFrom_67 : decode cX2_readFrom 67 = .ok (.getfield 44, 3) := by decide +kernel
theorem dX2_readFrom_70 : decode cX2_readFrom 70 = .ok (.iconst 3, 1) := by decide +kernel
theorem dX2_readFrom_71 : decode cX2_readFrom 71 = .ok (.iload_n 2, 1) := by decide +kernel
theorem dX2_readFrom_72 : decode cX2_readFrom 72 = .ok (.imul, 1) := by decide +kernel
theorem dX2_readFrom_73 : decode cX2_readFrom 73 = .ok (.iconst 1, 1) := by decide +kernel
theorem dX2_readFrom_74 : decode cX2_readFrom 74 = .ok (.iadd, 1) := by decide +kernel
theorem dX2_readFrom_75 : decode cX2_readFrom 75 = .ok (.iaload, 1) := by decide +kernel
theorem dX2_readFrom_76 : decode cX2_readFrom 76 = .ok (.bipush 48, 2) := by decide +kernel
theorem dX2_readFrom_78 : decode cX2_readFrom 78 = .ok (.isub, 1) := by decide +kernel
theorem dX2_readFrom_79 : decode cX2_readFrom 79 = .ok (.iastore, 1) := by decide +kernel
theorem dX2_readFrom_80 : decode cX2_readFrom 80 = .ok (.iinc 2 1, 3) := by decide +kernel
theorem dX2_readFrom_83 : decode cX2_readFrom 83 = .ok (.goto (-50), 3) := by decide +kernel
theorem dX2_readFrom_86 : decode cX2_readFrom 86 = .ok (.iconst 0, 1) := by decide +kernel
theorem dX2_readFrom_87 : decode cX2_readFrom 87 = .ok (.istore_n 2, 1) := by decide +kernel
theorem dX2_readFrom_88 : decode cX2_readFrom 88 = .ok (.iload_n 2, 1) := by decide +kernel
theorem dX2_readFrom_89 : decode cX2_readFrom 89 = .ok (.aload_n 0, 1) := by decide +kernel
theorem dX2_readFrom_90 : decode cX2_readFrom 90 = .ok (.getfield 39, 3) := by decide +kernel
theorem dX2_readFrom_93 : decode cX2_readFrom 93 = .ok (.if_icmp .ge 29, 3) := by decide +kernel
theorem dX2_readFrom_96 : decode cX2_readFrom 96 = .ok (.aload_n 0, 1) := by decide +kernel
theorem dX2_readFrom_97 : decode cX2_readFrom 97 = .ok (.getfield 18, 3) := by decide +kernel
theorem dX2_readFrom_100 : decode cX2_readFrom 100 = .ok (.iload_n 2, 1) := by decide +kernel
theorem dX2_readFrom_101 : decode cX2_readFrom 101 = .ok (.aload_n 1, 1) := by decide +kernel
theorem dX2_readFrom_102 : decode cX2_readFrom 102 = .ok (.getfield 44, 3) := by decide +kernel
theorem dX2_readFrom_105 : decode cX2_readFrom 105 = .ok (.aload_n 1, 1) := by decide +kernel
theorem dX2_readFrom_106 : decode cX2_readFrom 106 = .ok (.getfield 21, 3) := by decide +kernel
theorem dX2_readFrom_109 : decode cX2_readFrom 109 = .ok (.iload_n 2, 1) := by decide +kernel
theorem dX2_readFrom_110 : decode cX2_readFrom 110 = .ok (.iadd, 1) := by decide +kernel
theorem dX2_readFrom_111 : decode cX2_readFrom 111 = .ok (.iaload, 1) := by decide +kernel
theorem dX2_readFrom_112 : decode cX2_readFrom 112 = .ok (.bipush 48, 2) := by decide +kernel
theorem dX2_readFrom_114 : decode cX2_readFrom 114 = .ok (.isub, 1) := by decide +kernel
theorem dX2_readFrom_115 : decode cX2_readFrom 115 = .ok (.iastore, 1) := by decide +kernel
theorem dX2_readFrom_116 : decode cX2_readFrom 116 = .ok (.iinc 2 1, 3) := by decide +kernel
theorem dX2_readFrom_119 : decode cX2_readFrom 119 = .ok (.goto (-31), 3) := by decide +kernel
theorem dX2_readFrom_122 : decode cX2_readFrom 122 = .ok (.return_, 1) := by decide +kernel
theorem dX2_stands_0 : decode cX2_stands 0 = .ok (.aload_n 0, 1) := by decide +kernel
theorem dX2_stands_1 : decode cX2_stands 1 = .ok (.getfield 33, 3) := by decide +kernel
theorem dX2_stands_4 : decode cX2_stands 4 = .ok (.ifCond .le 7, 3) := by decide +kernel
theorem dX2_stands_7 : decode cX2_stands 7 = .ok (.iconst 1, 1) := by decide +kernel
theorem dX2_stands_8 : decode cX2_stands 8 = .ok (.goto 4, 3) := by decide +kernel
theorem dX2_stands_11 : decode cX2_stands 11 = .ok (.iconst 0, 1) := by decide +kernel
theorem dX2_stands_12 : decode cX2_stands 12 = .ok (.ireturn, 1) := by decide +kernel
theorem dX2_hasKeeper_0 : decode cX2_hasKeeper 0 = .ok (.iload_n 1, 1) := by decide +kernel
theorem dX2_hasKeeper_1 : decode cX2_hasKeeper 1 = .ok (.ifCond .lt 15, 3) := by decide +kernel
theorem dX2_hasKeeper_4 : decode cX2_hasKeeper 4 = .ok (.iload_n 1, 1) := by decide +kernel
theorem dX2_hasKeeper_5 : decode cX2_hasKeeper 5 = .ok (.aload_n 0, 1) := by decide +kernel
theorem dX2_hasKeeper_6 : decode cX2_hasKeeper 6 = .ok (.getfield 33, 3) := by decide +kernel
theorem dX2_hasKeeper_9 : decode cX2_hasKeeper 9 = .ok (.if_icmp .ge 7, 3) := by decide +kernel
theorem dX2_hasKeeper_12 : decode cX2_hasKeeper 12 = .ok (.iconst 1, 1) := by decide +kernel
theorem dX2_hasKeeper_13 : decode cX2_hasKeeper 13 = .ok (.goto 4, 3) := by decide +kernel
theorem dX2_hasKeeper_16 : decode cX2_hasKeeper 16 = .ok (.iconst 0, 1) := by decide +kernel
theorem dX2_hasKeeper_17 : decode cX2_hasKeeper 17 = .ok (.ireturn, 1) := by decide +kernel
theorem dX2_hasHole_0 : decode cX2_hasHole 0 = .ok (.iload_n 1, 1) := by decide +kernel
theorem dX2_hasHole_1 : decode cX2_hasHole 1 = .ok (.ifCond .lt 15, 3) := by decide +kernel
theorem dX2_hasHole_4 : decode cX2_hasHole 4 = .ok (.iload_n 1, 1) := by decide +kernel
theorem dX2_hasHole_5 : decode cX2_hasHole 5 = .ok (.aload_n 0, 1) := by decide +kernel
theorem dX2_hasHole_6 : decode cX2_hasHole 6 = .ok (.getfield 39, 3) := by decide +kernel
theorem dX2_hasHole_9 : decode cX2_hasHole 9 = .ok (.if_icmp .ge 7, 3) := by decide +kernel
theorem dX2_hasHole_12 : decode cX2_hasHole 12 = .ok (.iconst 1, 1) := by decide +kernel
theorem dX2_hasHole_13 : decode cX2_hasHole 13 = .ok (.goto 4, 3) := by decide +kernel
theorem dX2_hasHole_16 : decode cX2_hasHole 16 = .ok (.iconst 0, 1) := by decide +kernel
theorem dX2_hasHole_17 : decode cX2_hasHole 17 = .ok (.ireturn, 1) := by decide +kernel
set_option maxRecDepth 20000 in
theorem ggX2_yearsKept_X2_hasKeeper : GoodIn wsX2_yearsKept wsX2_hasKeeper := goodIn_r _ [7, 8, 22, 23, 24, 25, 26] (by decide +kernel) (by decide +kernel)
set_option maxRecDepth 20000 in
theorem gX2_yearsKept_X2_hasKeeper : GoodIn wsX2_yearsKept (wsV RX2 53 RX2 yX2_hasKeeper wsX2_hasKeeper) := goodIn_app (goodIn_of _ (by decide +kernel)) ggX2_yearsKept_X2_hasKeeper
set_option maxRecDepth 20000 in
theorem ggX2_yearsKept_X5_yearsKeptBy : GoodIn wsX2_yearsKept wsX5_yearsKeptBy := goodIn_r _ [11, 12, 13, 14, 15, 16, 17, 18, 19, 20, 10, 21] (by decide +kernel) (by decide +kernel)
set_option maxRecDepth 20000 in
theorem gX2_yearsKept_X5_yearsKeptBy_n57 : GoodIn wsX2_yearsKept (wsX5_yearsKeptBy) := ggX2_yearsKept_X5_yearsKeptBy
theorem dX2_yearsKept_0 : decode cX2_yearsKept 0 = .ok (.aload_n 0, 1) := by decide +kernel
theorem dX2_yearsKept_1 : decode cX2_yearsKept 1 = .ok (.iload_n 1, 1) := by decide +kernel
theorem dX2_yearsKept_2 : decode cX2_yearsKept 2 = .ok (.invokevirtual 53, 3) := by decide +kernel
theorem dX2_yearsKept_5 : decode cX2_yearsKept 5 = .ok (.ifCond .eq 22, 3) := by decide +kernel
theorem dX2_yearsKept_8 : decode cX2_yearsKept 8 = .ok (.aload_n 0, 1) := by decide +kernel
theorem dX2_yearsKept_9 : decode cX2_yearsKept 9 = .ok (.getfield 9, 3) := by decide +kernel
theorem dX2_yearsKept_12 : decode cX2_yearsKept 12 = .ok (.iload_n 1, 1) := by decide +kernel
theorem dX2_yearsKept_13 : decode cX2_yearsKept 13 = .ok (.iaload, 1) := by decide +kernel
theorem dX2_yearsKept_14 : decode cX2_yearsKept 14 = .ok (.aload_n 0, 1) := by decide +kernel
theorem dX2_yearsKept_15 : decode cX2_yearsKept 15 = .ok (.getfield 15, 3) := by decide +kernel
theorem dX2_yearsKept_18 : decode cX2_yearsKept 18 = .ok (.iload_n 1, 1) := by decide +kernel
theorem dX2_yearsKept_19 : decode cX2_yearsKept 19 = .ok (.iaload, 1) := by decide +kernel
theorem dX2_yearsKept_20 : decode cX2_yearsKept 20 = .ok (.iload_n 2, 1) := by decide +kernel
theorem dX2_yearsKept_21 : decode cX2_yearsKept 21 = .ok (.invokestatic 57, 3) := by decide +kernel
theorem dX2_yearsKept_24 : decode cX2_yearsKept 24 = .ok (.goto 4, 3) := by decide +kernel
theorem dX2_yearsKept_27 : decode cX2_yearsKept 27 = .ok (.iconst (-1), 1) := by decide +kernel
theorem dX2_yearsKept_28 : decode cX2_yearsKept 28 = .ok (.ireturn, 1) := by decide +kernel
set_option maxRecDepth 20000 in
theorem ggX2_eggsOfAYear_X2_hasKeeper : GoodIn wsX2_eggsOfAYear wsX2_hasKeeper := goodIn_r _ [6, 7, 11, 12, 13, 14, 15] (by decide +kernel) (by decide +kernel)
set_option maxRecDepth 20000 in
theorem gX2_eggsOfAYear_X2_hasKeeper : GoodIn wsX2_eggsOfAYear (wsV RX2 53 RX2 yX2_hasKeeper wsX2_hasKeeper) := goodIn_app (goodIn_of _ (by decide +kernel)) ggX2_eggsOfAYear_X2_hasKeeper
set_option maxRecDepth 20000 in
theorem ggX2_eggsOfAYear_X5_isOfKind : GoodIn wsX2_eggsOfAYear wsX5_isOfKind := goodIn_r _ [10] (by decide +kernel) (by decide +kernel)
set_option maxRecDepth 20000 in
theorem gX2_eggsOfAYear_X5_isOfKind_n61 : GoodIn wsX2_eggsOfAYear (wsX5_isOfKind) := ggX2_eggsOfAYear_X5_isOfKind
theorem dX2_eggsOfAYear_0 : decode cX2_eggsOfAYear 0 = .ok (.aload_n 0, 1) := by decide +kernel
theorem dX2_eggsOfAYear_1 : decode cX2_eggsOfAYear 1 = .ok (.iload_n 1, 1) := by decide +kernel
theorem dX2_eggsOfAYear_2 : decode cX2_eggsOfAYear 2 = .ok (.invokevirtual 53, 3) := by decide +kernel
theorem dX2_eggsOfAYear_5 : decode cX2_eggsOfAYear 5 = .ok (.ifCond .eq 20, 3) := by decide +kernel
theorem dX2_eggsOfAYear_8 : decode cX2_eggsOfAYear 8 = .ok (.aload_n 0, 1) := by decide +kernel
theorem dX2_eggsOfAYear_9 : decode cX2_eggsOfAYear 9 = .ok (.getfield 9, 3) := by decide +kernel
theorem dX2_eggsOfAYear_12 : decode cX2_eggsOfAYear 12 = .ok (.iload_n 1, 1) := by decide +kernel
theorem dX2_eggsOfAYear_13 : decode cX2_eggsOfAYear 13 = .ok (.iaload, 1) := by decide +kernel
theorem dX2_eggsOfAYear_14 : decode cX2_eggsOfAYear 14 = .ok (.iconst 2, 1) := by decide +kernel
theorem dX2_eggsOfAYear_15 : decode cX2_eggsOfAYear 15 = .ok (.invokestatic 61, 3) := by decide +kernel
theorem dX2_eggsOfAYear_18 : decode cX2_eggsOfAYear 18 = .ok (.ifCond .eq 7, 3) := by decide +kernel
theorem dX2_eggsOfAYear_21 : decode cX2_eggsOfAYear 21 = .ok (.iconst 0, 1) := by decide +kernel
theorem dX2_eggsOfAYear_22 : decode cX2_eggsOfAYear 22 = .ok (.goto 4, 3) := by decide +kernel
theorem dX2_eggsOfAYear_25 : decode cX2_eggsOfAYear 25 = .ok (.iconst 1, 1) := by decide +kernel
theorem dX2_eggsOfAYear_26 : decode cX2_eggsOfAYear 26 = .ok (.ireturn, 1) := by decide +kernel
theorem dX3_init_0 : decode cX3_init 0 = .ok (.aload_n 0, 1) := by decide +kernel
theorem dX3_init_1 : decode cX3_init 1 = .ok (.invokespecial 3, 3) := by decide +kernel
theorem dX3_init_4 : decode cX3_init 4 = .ok (.aload_n 0, 1) := by decide +kernel
theorem dX3_init_5 : decode cX3_init 5 = .ok (.iconst 5, 1) := by decide +kernel
theorem dX3_init_6 : decode cX3_init 6 = .ok (.iconst 5, 1) := by decide +kernel
theorem dX3_init_7 : decode cX3_init 7 = .ok (.multianewarray 9 2, 4) := by decide +kernel
theorem dX3_init_11 : decode cX3_init 11 = .ok (.putfield 11, 3) := by decide +kernel
theorem dX3_init_14 : decode cX3_init 14 = .ok (.aload_n 0, 1) := by decide +kernel
theorem dX3_init_15 : decode cX3_init 15 = .ok (.bipush 6, 2) := by decide +kernel
theorem dX3_init_17 : decode cX3_init 17 = .ok (.newarray .int, 2) := by decide +kernel
theorem dX3_init_19 : decode cX3_init 19 = .ok (.putfield 16, 3) := by decide +kernel
theorem dX3_init_22 : decode cX3_init 22 = .ok (.aload_n 0, 1) := by decide +kernel
theorem dX3_init_23 : decode cX3_init 23 = .ok (.iconst 5, 1) := by decide +kernel
theorem dX3_init_24 : decode cX3_init 24 = .ok (.newarray .int, 2) := by decide +kernel
theorem dX3_init_26 : decode cX3_init 26 = .ok (.putfield 20, 3) := by decide +kernel
theorem dX3_init_29 : decode cX3_init 29 = .ok (.aload_n 0, 1) := by decide +kernel
theorem dX3_init_30 : decode cX3_init 30 = .ok (.iconst 5, 1) := by decide +kernel
theorem dX3_init_31 : decode cX3_init 31 = .ok (.newarray .int, 2) := by decide +kernel
theorem dX3_init_33 : decode cX3_init 33 = .ok (.putfield 23, 3) := by decide +kernel
theorem dX3_init_36 : decode cX3_init 36 = .ok (.aload_n 0, 1) := by decide +kernel
theorem dX3_init_37 : decode cX3_init 37 = .ok (.iconst 5, 1) := by decide +kernel
theorem dX3_init_38 : decode cX3_init 38 = .ok (.newarray .int, 2) := by decide +kernel
theorem dX3_init_40 : decode cX3_init 40 = .ok (.putfield 26, 3) := by decide +kernel
theorem dX3_init_43 : decode cX3_init 43 = .ok (.return_, 1) := by decide +kernel
set_option maxRecDepth 20000 in
theorem ggX3_solve_X2_hasKeeper : GoodIn wsX3_solve wsX2_hasKeeper := goodIn_r _ [10, 11, 85, 86, 87, 88, 89] (by decide +kernel) (by decide +kernel)
set_option maxRecDepth 20000 in
theorem gX3_solve_X2_hasKeeper : GoodIn wsX3_solve (wsV RX3 29 RX2 yX2_hasKeeper wsX2_hasKeeper) := goodIn_app (goodIn_of _ (by decide +kernel)) ggX3_solve_X2_hasKeeper
set_option maxRecDepth 20000 in
theorem ggX3_solve_X0_roomOf : GoodIn wsX3_solve wsX0_roomOf := goodIn_r _ [16, 17, 18, 19, 15, 20, 21, 22, 23, 24, 25, 26, 27, 28, 76, 77, 78, 79, 80, 81, 82, 83, 84] (by decide +kernel) (by decide +kernel)
set_option maxRecDepth 20000 in
theorem gX3_solve_X0_roomOf : GoodIn wsX3_solve (wsV RX3 35 RX0 yX0_roomOf wsX0_roomOf) := goodIn_app (goodIn_of _ (by decide +kernel)) ggX3_solve_X0_roomOf
set_option maxRecDepth 20000 in
theorem ggX3_solve_X2_hasHole : GoodIn wsX3_solve wsX2_hasHole := goodIn_r _ [32, 33, 85, 86, 87, 88, 89] (by decide +kernel) (by decide +kernel)
set_option maxRecDepth 20000 in
theorem gX3_solve_X2_hasHole : GoodIn wsX3_solve (wsV RX3 41 RX2 yX2_hasHole wsX2_hasHole) := goodIn_app (goodIn_of _ (by decide +kernel)) ggX3_solve_X2_hasHole
set_option maxRecDepth 20000 in
theorem ggX3_solve_X3_weigh : GoodIn wsX3_solve wsX3_weigh := goodIn_r _ [38, 39, 40, 41, 42, 43, 44, 45, 46, 47, 9, 48, 49, 50, 51, 7, 8, 10, 11, 52, 53, 54, 55, 56, 57, 58, 59, 60, 61, 70, 71, 72, 73, 74, 75, 85, 86, 87, 88, 89] (by decide +kernel) (by decide +kernel)
set_option maxRecDepth 20000 in
theorem gX3_solve_X3_weigh : GoodIn wsX3_solve (wsV RX3 47 RX3 yX3_weigh wsX3_weigh) := goodIn_app (goodIn_of _ (by decide +kernel)) ggX3_solve_X3_weigh
set_option maxRecDepth 20000 in
theorem ggX3_solve_X3_search : GoodIn wsX3_solve wsX3_search := goodIn_r _ [64, 3, 5, 4, 65, 66, 67, 68, 69, 1, 39, 62, 63, 37, 70, 71, 72, 73, 74, 75] (by decide +kernel) (by decide +kernel)
set_option maxRecDepth 20000 in
theorem gX3_solve_X3_search : GoodIn wsX3_solve (va_wsS RX3 55 yX3_search wsX3_search) := goodIn_app (goodIn_of _ (by decide +kernel)) ggX3_solve_X3_search
theorem dX3_solve_0 : decode cX3_solve 0 = .ok (.iconst 0, 1) := by decide +kernel
theorem dX3_solve_1 : decode cX3_solve 1 = .ok (.istore_n 3, 1) := by decide +kernel
theorem dX3_solve_2 : decode cX3_solve 2 = .ok (.iload_n 3, 1) := by decide +kernel
theorem dX3_solve_3 : decode cX3_solve 3 = .ok (.iconst 5, 1) := by decide +kernel
theorem dX3_solve_4 : decode cX3_solve 4 = .ok (.if_icmp .ge 32, 3) := by decide +kernel
theorem dX3_solve_7 : decode cX3_solve 7 = .ok (.aload_n 0, 1) := by decide +kernel
theorem dX3_solve_8 : decode cX3_solve 8 = .ok (.getfield 20, 3) := by decide +kernel
theorem dX3_solve_11 : decode cX3_solve 11 = .ok (.iload_n 3, 1) := by decide +kernel
theorem dX3_solve_12 : decode cX3_solve 12 = .ok (.aload_n 1, 1) := by decide +kernel
theorem dX3_solve_13 : decode cX3_solve 13 = .ok (.iload_n 3, 1) := by decide +kernel
theorem dX3_solve_14 : decode cX3_solve 14 = .ok (.invokevirtual 29, 3) := by decide +kernel
theorem dX3_solve_17 : decode cX3_solve 17 = .ok (.ifCond .eq 11, 3) := by decide +kernel
theorem dX3_solve_20 : decode cX3_solve 20 = .ok (.aload_n 2, 1) := by decide +kernel
theorem dX3_solve_21 : decode cX3_solve 21 = .ok (.iload_n 3, 1) := by decide +kernel
theorem dX3_solve_22 : decode cX3_solve 22 = .ok (.invokevirtual 35, 3) := by decide +kernel
theorem dX3_solve_25 : decode cX3_solve 25 = .ok (.goto 4, 3) := by decide +kernel
theorem dX3_solve_28 : decode cX3_solve 28 = .ok (.iconst 0, 1) := by decide +kernel
theorem dX3_solve_29 : decode cX3_solve 29 = .ok (.iastore, 1) := by decide +kernel
theorem dX3_solve_30 : decode cX3_solve 30 = .ok (.iinc 3 1, 3) := by decide +kernel
theorem dX3_solve_33 : decode cX3_solve 33 = .ok (.goto (-31), 3) := by decide +kernel
theorem dX3_solve_36 : decode cX3_solve 36 = .ok (.iconst 4, 1) := by decide +kernel
theorem dX3_solve_37 : decode cX3_solve 37 = .ok (.istore_n 3, 1) := by decide +kernel
theorem dX3_solve_38 : decode cX3_solve 38 = .ok (.iload_n 3, 1) := by decide +kernel
theorem dX3_solve_39 : decode cX3_solve 39 = .ok (.ifCond .lt 63, 3) := by decide +kernel
theorem dX3_solve_42 : decode cX3_solve 42 = .ok (.aload_n 1, 1) := by decide +kernel
theorem dX3_solve_43 : decode cX3_solve 43 = .ok (.iload_n 3, 1) := by decide +kernel
theorem dX3_solve_44 : decode cX3_solve 44 = .ok (.invokevirtual 41, 3) := by decide +kernel
theorem dX3_solve_47 : decode cX3_solve 47 = .ok (.ifCond .eq 16, 3) := by decide +kernel
theorem dX3_solve_50 : decode cX3_solve 50 = .ok (.aload_n 2, 1) := by decide +kernel
theorem dX3_solve_51 : decode cX3_solve 51 = .ok (.getfield 44, 3) := by decide +kernel
theorem dX3_solve_54 : decode cX3_solve 54 = .ok (.iload_n 3, 1) := by decide +kernel
theorem dX3_solve_55 : decode cX3_solve 55 = .ok (.iaload, 1) := by decide +kernel
theorem dX3_solve_56 : decode cX3_solve 56 = .ok (.ifCond .ne 7, 3) := by decide +kernel
theorem dX3_solve_59 : decode cX3_solve 59 = .ok (.iconst 1, 1) := by decide +kernel
theorem dX3_solve_60 : decode cX3_solve 60 = .ok (.goto 4, 3) := by decide +kernel
theorem dX3_solve_63 : decode cX3_solve 63 = .ok (.iconst 0, 1) := by decide +kernel
theorem dX3_solve_64 : decode cX3_solve 64 = .ok (.istore 4, 2) := by decide +kernel
theorem dX3_solve_66 : decode cX3_solve 66 = .ok (.aload_n 0, 1) := by decide +kernel
theorem dX3_solve_67 : decode cX3_solve 67 = .ok (.getfield 16, 3) := by decide +kernel
theorem dX3_solve_70 : decode cX3_solve 70 = .ok (.iload_n 3, 1) := by decide +kernel
theorem dX3_solve_71 : decode cX3_solve 71 = .ok (.aload_n 0, 1) := by decide +kernel
theorem dX3_solve_72 : decode cX3_solve 72 = .ok (.getfield 16, 3) := by decide +kernel
theorem dX3_solve_75 : decode cX3_solve 75 = .ok (.iload_n 3, 1) := by decide +kernel
theorem dX3_solve_76 : decode cX3_solve 76 = .ok (.iconst 1, 1) := by decide +kernel
theorem dX3_solve_77 : decode cX3_solve 77 = .ok (.iadd, 1) := by decide +kernel
theorem dX3_solve_78 : decode cX3_solve 78 = .ok (.iaload, 1) := by decide +kernel
theorem dX3_solve_79 : decode cX3_solve 79 = .ok (.aload_n 0, 1) := by decide +kernel
theorem dX3_solve_80 : decode cX3_solve 80 = .ok (.aload_n 1, 1) := by decide +kernel
theorem dX3_solve_81 : decode cX3_solve 81 = .ok (.iload_n 3, 1) := by decide +kernel
theorem dX3_solve_82 : decode cX3_solve 82 = .ok (.iload 4, 2) := by decide +kernel
theorem dX3_solve_84 : decode cX3_solve 84 = .ok (.invokevirtual 47, 3) := by decide +kernel
theorem dX3_solve_87 : decode cX3_solve 87 = .ok (.iadd, 1) := by decide +kernel
theorem dX3_solve_88 : decode cX3_solve 88 = .ok (.iastore, 1) := by decide +kernel
theorem dX3_solve_89 : decode cX3_solve 89 = .ok (.aload_n 0, 1) := by decide +kernel
theorem dX3_solve_90 : decode cX3_solve 90 = .ok (.getfield 23, 3) := by decide +kernel
theorem dX3_solve_93 : decode cX3_solve 93 = .ok (.iload_n 3, 1) := by decide +kernel
theorem dX3_solve_94 : decode cX3_solve 94 = .ok (.iconst (-1), 1) := by decide +kernel
theorem dX3_solve_95 : decode cX3_solve 95 = .ok (.iastore, 1) := by decide +kernel
theorem dX3_solve_96 : decode cX3_solve 96 = .ok (.iinc 3 (-1), 3) := by decide +kernel
theorem dX3_solve_99 : decode cX3_solve 99 = .ok (.goto (-61), 3) := by decide +kernel
theorem dX3_solve_102 : decode cX3_solve 102 = .ok (.aload_n 0, 1) := by decide +kernel
theorem dX3_solve_103 : decode cX3_solve 103 = .ok (.iconst (-1), 1) := by decide +kernel
theorem dX3_solve_104 : decode cX3_solve 104 = .ok (.putfield 51, 3) := by decide +kernel
theorem dX3_solve_107 : decode cX3_solve 107 = .ok (.aload_n 0, 1) := by decide +kernel
theorem dX3_solve_108 : decode cX3_solve 108 = .ok (.iconst 0, 1) := by decide +kernel
theorem dX3_solve_109 : decode cX3_solve 109 = .ok (.iconst 0, 1) := by decide +kernel
theorem dX3_solve_110 : decode cX3_solve 110 = .ok (.invokestatic 55, 3) := by decide +kernel
theorem dX3_solve_113 : decode cX3_solve 113 = .ok (.return_, 1) := by decide +kernel
set_option maxRecDepth 20000 in
theorem ggX3_weigh_X2_yearsKept : GoodIn wsX3_weigh wsX2_yearsKept := goodIn_r _ [11, 12, 13, 14, 15, 16, 10, 17, 18, 19, 20, 21, 22, 23, 5, 24, 25, 4, 6, 26, 27, 28, 35, 36, 37, 38, 39] (by decide +kernel) (by decide +kernel)
set_option maxRecDepth 20000 in
theorem gX3_weigh_X2_yearsKept : GoodIn wsX3_weigh (wsV RX3 62 RX2 yX2_yearsKept wsX2_yearsKept) := goodIn_app (goodIn_of _ (by decide +kernel)) ggX3_weigh_X2_yearsKept
theorem dX3_weigh_0 : decode cX3_weigh 0 = .ok (.iconst 0, 1) := by decide +kernel
theorem dX3_weigh_1 : decode cX3_weigh 1 = .ok (.istore 4, 2) := by decide +kernel
theorem dX3_weigh_3 : decode cX3_weigh 3 = .ok (.iconst 0, 1) := by decide +kernel
theorem dX3_weigh_4 : decode cX3_weigh 4 = .ok (.istore 5, 2) := by decide +kernel
theorem dX3_weigh_6 : decode cX3_weigh 6 = .ok (.iload 5, 2) := by decide +kernel
theorem dX3_weigh_8 : decode cX3_weigh 8 = .ok (.iconst 5, 1) := by decide +kernel
theorem dX3_weigh_9 : decode cX3_weigh 9 = .ok (.if_icmp .ge 54, 3) := by decide +kernel
theorem dX3_weigh_12 : decode cX3_weigh 12 = .ok (.aload_n 0, 1) := by decide +kernel
theorem dX3_weigh_13 : decode cX3_weigh 13 = .ok (.getfield 11, 3) := by decide +kernel
theorem dX3_weigh_16 : decode cX3_weigh 16 = .ok (.iload_n 2, 1) := by decide +kernel
theorem dX3_weigh_17 : decode cX3_weigh 17 = .ok (.aaload, 1) := by decide +kernel
theorem dX3_weigh_18 : decode cX3_weigh 18 = .ok (.iload 5, 2) := by decide +kernel
theorem dX3_weigh_20 : decode cX3_weigh 20 = .ok (.iload_n 3, 1) := by decide +kernel
theorem dX3_weigh_21 : decode cX3_weigh 21 = .ok (.ifCond .eq 18, 3) := by decide +kernel
theorem dX3_weigh_24 : decode cX3_weigh 24 = .ok (.aload_n 1, 1) := by decide +kernel
theorem dX3_weigh_25 : decode cX3_weigh 25 = .ok (.iload 5, 2) := by decide +kernel
theorem dX3_weigh_27 : decode cX3_weigh 27 = .ok (.aload_n 1, 1) := by decide +kernel
theorem dX3_weigh_28 : decode cX3_weigh 28 = .ok (.getfield 59, 3) := by decide +kernel
theorem dX3_weigh_31 : decode cX3_weigh 31 = .ok (.iload_n 2, 1) := by decide +kernel
theorem dX3_weigh_32 : decode cX3_weigh 32 = .ok (.iaload, 1) := by decide +kernel
theorem dX3_weigh_33 : decode cX3_weigh 33 = .ok (.invokevirtual 62, 3) := by decide +kernel
theorem dX3_weigh_36 : decode cX3_weigh 36 = .ok (.goto 4, 3) := by decide +kernel
theorem dX3_weigh_39 : decode cX3_weigh 39 = .ok (.iconst 0, 1) := by decide +kernel
theorem dX3_weigh_40 : decode cX3_weigh 40 = .ok (.iastore, 1) := by decide +kernel
theorem dX3_weigh_41 : decode cX3_weigh 41 = .ok (.iload 4, 2) := by decide +kernel
theorem dX3_weigh_43 : decode cX3_weigh 43 = .ok (.aload_n 0, 1) := by decide +kernel
theorem dX3_weigh_44 : decode cX3_weigh 44 = .ok (.getfield 11, 3) := by decide +kernel
theorem dX3_weigh_47 : decode cX3_weigh 47 = .ok (.iload_n 2, 1) := by decide +kernel
theorem dX3_weigh_48 : decode cX3_weigh 48 = .ok (.aaload, 1) := by decide +kernel
theorem dX3_weigh_49 : decode cX3_weigh 49 = .ok (.iload 5, 2) := by decide +kernel
theorem dX3_weigh_51 : decode cX3_weigh 51 = .ok (.iaload, 1) := by decide +kernel
theorem dX3_weigh_52 : decode cX3_weigh 52 = .ok (.invokestatic 66, 3) := by decide +kernel
theorem dX3_weigh_55 : decode cX3_weigh 55 = .ok (.istore 4, 2) := by decide +kernel
theorem dX3_weigh_57 : decode cX3_weigh 57 = .ok (.iinc 5 1, 3) := by decide +kernel
theorem dX3_weigh_60 : decode cX3_weigh 60 = .ok (.goto (-54), 3) := by decide +kernel
theorem dX3_weigh_63 : decode cX3_weigh 63 = .ok (.iload 4, 2) := by decide +kernel
theorem dX3_weigh_65 : decode cX3_weigh 65 = .ok (.ireturn, 1) := by decide +kernel
set_option maxRecDepth 20000 in
theorem ggX3_search_X3_search : GoodIn wsX3_search wsX3_search := goodIn_r _ [0, 1, 2, 3, 4, 5, 6, 7, 8, 9, 10, 11, 12, 13, 14, 15, 16, 17, 18, 19] (by decide +kernel) (by decide +kernel)
set_option maxRecDepth 20000 in
theorem gX3_search_X3_search : GoodIn wsX3_search (va_wsS RX3 55 yX3_search wsX3_search) := goodIn_app (goodIn_of _ (by decide +kernel)) ggX3_search_X3_search
theorem dX3_search_0 : decode cX3_search 0 = .ok (.iload_n 2, 1) := by decide +kernel
theorem dX3_search_1 : decode cX3_search 1 = .ok (.aload_n 0, 1) := by decide +kernel
theorem dX3_search_2 : decode cX3_search 2 = .ok (.getfield 16, 3) := by decide +kernel
theorem dX3_search_5 : decode cX3_search 5 = .ok (.iload_n 1, 1) := by decide +kernel
theorem dX3_search_6 : decode cX3_search 6 = .ok (.iaload, 1) := by decide +kernel
theorem dX3_search_7 : decode cX3_search 7 = .ok (.iadd, 1) := by decide +kernel
theorem dX3_search_8 : decode cX3_search 8 = .ok (.aload_n 0, 1) := by decide +kernel
theorem dX3_search_9 : decode cX3_search 9 = .ok (.getfield 51, 3) := by decide +kernel
theorem dX3_search_12 : decode cX3_search 12 = .ok (.if_icmp .gt 4, 3) := by decide +kernel
theorem dX3_search_15 : decode cX3_search 15 = .ok (.return_, 1) := by decide +kernel
theorem dX3_search_16 : decode cX3_search 16 = .ok (.iload_n 1, 1) := by decide +kernel
theorem dX3_search_17 : decode cX3_search 17 = .ok (.iconst 5, 1) := by decide +kernel
theorem dX3_search_18 : decode cX3_search 18 = .ok (.if_icmp .lt 23, 3) := by decide +kernel
theorem dX3_search_21 : decode cX3_search 21 = .ok (.aload_n 0, 1) := by decide +kernel
theorem dX3_search_22 : decode cX3_search 22 = .ok (.iload_n 2, 1) := by decide +kernel
theorem dX3_search_23 : decode cX3_search 23 = .ok (.putfield 51, 3) := by decide +kernel
theorem dX3_search_26 : decode cX3_search 26 = .ok (.aload_n 0, 1) := by decide +kernel
theorem dX3_search_27 : decode cX3_search 27 = .ok (.getfield 23, 3) := by decide +kernel
theorem dX3_search_30 : decode cX3_search 30 = .ok (.iconst 0, 1) := by decide +kernel
theorem dX3_search_31 : decode cX3_search 31 = .ok (.aload_n 0, 1) := by decide +kernel
theorem dX3_search_32 : decode cX3_search 32 = .ok (.getfield 26, 3) := by decide +kernel
theorem dX3_search_35 : decode cX3_search 35 = .ok (.iconst 0, 1) := by decide +kernel
theorem dX3_search_36 : decode cX3_search 36 = .ok (.iconst 5, 1) := by decide +kernel
theorem dX3_search_37 : decode cX3_search 37 = .ok (.invokestatic 71, 3) := by decide +kernel
theorem dX3_search_40 : decode cX3_search 40 = .ok (.return_, 1) := by decide +kernel
theorem dX3_search_41 : decode cX3_search 41 = .ok (.aload_n 0, 1) := by decide +kernel
theorem dX3_search_42 : decode cX3_search 42 = .ok (.iload_n 1, 1) := by decide +kernel
theorem dX3_search_43 : decode cX3_search 43 = .ok (.iconst 1, 1) := by decide +kernel
theorem dX3_search_44 : decode cX3_search 44 = .ok (.iadd, 1) := by decide +kernel
theorem dX3_search_45 : decode cX3_search 45 = .ok (.iload_n 2, 1) := by decide +kernel
theorem dX3_search_46 : decode cX3_search 46 = .ok (.invokestatic 55, 3) := by decide +kernel
theorem dX3_search_49 : decode cX3_search 49 = .ok (.iconst 0, 1) := by decide +kernel
theorem dX3_search_50 : decode cX3_search 50 = .ok (.istore_n 3, 1) := by decide +kernel
theorem dX3_search_51 : decode cX3_search 51 = .ok (.iload_n 3, 1) := by decide +kernel
theorem dX3_search_52 : decode cX3_search 52 = .ok (.iconst 5, 1) := by decide +kernel
theorem dX3_search_53 : decode cX3_search 53 = .ok (.if_icmp .ge 73, 3) := by decide +kernel
theorem dX3_search_56 : decode cX3_search 56 = .ok (.aload_n 0, 1) := by decide +kernel
theorem dX3_search_57 : decode cX3_search 57 = .ok (.getfield 20, 3) := by decide +kernel
theorem dX3_search_60 : decode cX3_search 60 = .ok (.iload_n 3, 1) := by decide +kernel
theorem dX3_search_61 : decode cX3_search 61 = .ok (.iaload, 1) := by decide +kernel
theorem dX3_search_62 : decode cX3_search 62 = .ok (.ifCond .le 58, 3) := by decide +kernel
theorem dX3_search_65 : decode cX3_search 65 = .ok (.aload_n 0, 1) := by decide +kernel
theorem dX3_search_66 : decode cX3_search 66 = .ok (.getfield 11, 3) := by decide +kernel
theorem dX3_search_69 : decode cX3_search 69 = .ok (.iload_n 1, 1) := by decide +kernel
theorem dX3_search_70 : decode cX3_search 70 = .ok (.aaload, 1) := by decide +kernel
theorem dX3_search_71 : decode cX3_search 71 = .ok (.iload_n 3, 1) := by decide +kernel
theorem dX3_search_72 : decode cX3_search 72 = .ok (.iaload, 1) := by decide +kernel
theorem dX3_search_73 : decode cX3_search 73 = .ok (.ifCond .le 47, 3) := by decide +kernel
theorem dX3_search_76 : decode cX3_search 76 = .ok (.aload_n 0, 1) := by decide +kernel
theorem dX3_search_77 : decode cX3_search 77 = .ok (.getfield 20, 3) := by decide +kernel
theorem dX3_search_80 : decode cX3_search 80 = .ok (.iload_n 3, 1) := by decide +kernel
theorem dX3_search_81 : decode cX3_search 81 = .ok (.dup2, 1) := by decide +kernel
theorem dX3_search_82 : decode cX3_search 82 = .ok (.iaload, 1) := by decide +kernel
theorem dX3_search_83 : decode cX3_search 83 = .ok (.iconst 1, 1) := by decide +kernel
theorem dX3_search_84 : decode cX3_search 84 = .ok (.isub, 1) := by decide +kernel
theorem dX3_search_85 : decode cX3_search 85 = .ok (.iastore, 1) := by decide +kernel
theorem dX3_search_86 : decode cX3_search 86 = .ok (.aload_n 0, 1) := by decide +kernel
theorem dX3_search_87 : decode cX3_search 87 = .ok (.getfield 23, 3) := by decide +kernel
theorem dX3_search_90 : decode cX3_search 90 = .ok (.iload_n 1, 1) := by decide +kernel
theorem dX3_search_91 : decode cX3_search 91 = .ok (.iload_n 3, 1) := by decide +kernel
theorem dX3_search_92 : decode cX3_search 92 = .ok (.iastore, 1) := by decide +kernel
theorem dX3_search_93 : decode cX3_search 93 = .ok (.aload_n 0, 1) := by decide +kernel
theorem dX3_search_94 : decode cX3_search 94 = .ok (.iload_n 1, 1) := by decide +kernel
theorem dX3_search_95 : decode cX3_search 95 = .ok (.iconst 1, 1) := by decide +kernel
theorem dX3_search_96 : decode cX3_search 96 = .ok (.iadd, 1) := by decide +kernel
theorem dX3_search_97 : decode cX3_search 97 = .ok (.iload_n 2, 1) := by decide +kernel
theorem dX3_search_98 : decode cX3_search 98 = .ok (.aload_n 0, 1) := by decide +kernel
theorem dX3_search_99 : decode cX3_search 99 = .ok (.getfield 11, 3) := by decide +kernel
theorem dX3_search_102 : decode cX3_search 102 = .ok (.iload_n 1, 1) := by decide +kernel
theorem dX3_search_103 : decode cX3_search 103 = .ok (.aaload, 1) := by decide +kernel
theorem dX3_search_104 : decode cX3_search 104 = .ok (.iload_n 3, 1) := by decide +kernel
theorem dX3_search_105 : decode cX3_search 105 = .ok (.iaload, 1) := by decide +kernel
theorem dX3_search_106 : decode cX3_search 106 = .ok (.iadd, 1) := by decide +kernel
theorem dX3_search_107 : decode cX3_search 107 = .ok (.invokestatic 55, 3) := by decide +kernel
theorem dX3_search_110 : decode cX3_search 110 = .ok (.aload_n 0, 1) := by decide +kernel
theorem dX3_search_111 : decode cX3_search 111 = .ok (.getfield 20, 3) := by decide +kernel
theorem dX3_search_114 : decode cX3_search 114 = .ok (.iload_n 3, 1) := by decide +kernel
theorem dX3_search_115 : decode cX3_search 115 = .ok (.dup2, 1) := by decide +kernel
theorem dX3_search_116 : decode cX3_search 116 = .ok (.iaload, 1) := by decide +kernel
theorem dX3_search_117 : decode cX3_search 117 = .ok (.iconst 1, 1) := by decide +kernel
theorem dX3_search_118 : decode cX3_search 118 = .ok (.iadd, 1) := by decide +kernel
theorem dX3_search_119 : decode cX3_search 119 = .ok (.iastore, 1) := by decide +kernel
theorem dX3_search_120 : decode cX3_search 120 = .ok (.iinc 3 1, 3) := by decide +kernel
theorem dX3_search_123 : decode cX3_search 123 = .ok (.goto (-72), 3) := by decide +kernel
theorem dX3_search_126 : decode cX3_search 126 = .ok (.aload_n 0, 1) := by decide +kernel
theorem dX3_search_127 : decode cX3_search 127 = .ok (.getfield 23, 3) := by decide +kernel
theorem dX3_search_130 : decode cX3_search 130 = .ok (.iload_n 1, 1) := by decide +kernel
theorem dX3_search_131 : decode cX3_search 131 = .ok (.iconst (-1), 1) := by decide +kernel
theorem dX3_search_132 : decode cX3_search 132 = .ok (.iastore, 1) := by decide +kernel
theorem dX3_search_133 : decode cX3_search 133 = .ok (.return_, 1) := by decide +kernel
theorem dX4_init_0 : decode cX4_init 0 = .ok (.aload_n 0, 1) := by decide +kernel
theorem dX4_init_1 : decode cX4_init 1 = .ok (.invokespecial 3, 3) := by decide +kernel
theorem dX4_init_4 : decode cX4_init 4 = .ok (.aload_n 0, 1) := by decide +kernel
theorem dX4_init_5 : decode cX4_init 5 = .ok (.bipush 22, 2) := by decide +kernel
theorem dX4_init_7 : decode cX4_init 7 = .ok (.newarray .int, 2) := by decide +kernel
theorem dX4_init_9 : decode cX4_init 9 = .ok (.putfield 9, 3) := by decide +kernel
theorem dX4_init_12 : decode cX4_init 12 = .ok (.return_, 1) := by decide +kernel
set_option maxRecDepth 20000 in
theorem ggX4_scan_X4_fits : GoodIn wsX4_scan wsX4_fits := goodIn_r _ [7, 8, 1, 9, 10, 6, 11, 12, 13, 14, 15, 16, 17, 18, 19, 20, 21, 22, 23, 24, 25, 26, 27, 28, 29, 30, 31, 32, 33, 34, 35, 36, 37, 38, 39, 40, 41, 42, 43, 44, 45, 46, 47, 48, 49, 50, 51, 52, 53, 54, 55, 56, 57, 58, 59, 60, 61, 62, 63, 64, 65, 66, 67, 68, 69, 70, 71, 72, 73, 74, 75, 76, 77, 78, 79, 80, 81, 82, 83, 84, 85, 86, 87, 88, 89, 90, 91, 92, 93, 94, 95, 96, 97, 98, 99, 100, 101, 102, 103, 104, 105, 106, 107] (by decide +kernel) (by decide +kernel)
set_option maxRecDepth 20000 in
theorem gX4_scan_X4_fits : GoodIn wsX4_scan (wsV RX4 22 RX4 yX4_fits wsX4_fits) := goodIn_app (goodIn_of _ (by decide +kernel)) ggX4_scan_X4_fits
theorem dX4_scan_0 : decode cX4_scan 0 = .ok (.aload_n 0, 1) := by decide +kernel
theorem dX4_scan_1 : decode cX4_scan 1 = .ok (.iconst 0, 1) := by decide +kernel
theorem dX4_scan_2 : decode cX4_scan 2 = .ok (.putfield 15, 3) := by decide +kernel
theorem dX4_scan_5 : decode cX4_scan 5 = .ok (.iconst 0, 1) := by decide +kernel
theorem dX4_scan_6 : decode cX4_scan 6 = .ok (.istore_n 1, 1) := by decide +kernel
theorem dX4_scan_7 : decode cX4_scan 7 = .ok (.iload_n 1, 1) := by decide +kernel
theorem dX4_scan_8 : decode cX4_scan 8 = .ok (.aload_n 0, 1) := by decide +kernel
theorem dX4_scan_9 : decode cX4_scan 9 = .ok (.getfield 19, 3) := by decide +kernel
theorem dX4_scan_12 : decode cX4_scan 12 = .ok (.if_icmp .ge 19, 3) := by decide +kernel
theorem dX4_scan_15 : decode cX4_scan 15 = .ok (.aload_n 0, 1) := by decide +kernel
theorem dX4_scan_16 : decode cX4_scan 16 = .ok (.iload_n 1, 1) := by decide +kernel
theorem dX4_scan_17 : decode cX4_scan 17 = .ok (.invokevirtual 22, 3) := by decide +kernel
theorem dX4_scan_20 : decode cX4_scan 20 = .ok (.ifCond .ne 5, 3) := by decide +kernel
theorem dX4_scan_23 : decode cX4_scan 23 = .ok (.iload_n 1, 1) := by decide +kernel
theorem dX4_scan_24 : decode cX4_scan 24 = .ok (.ireturn, 1) := by decide +kernel
theorem dX4_scan_25 : decode cX4_scan 25 = .ok (.iinc 1 1, 3) := by decide +kernel
theorem dX4_scan_28 : decode cX4_scan 28 = .ok (.goto (-21), 3) := by decide +kernel
theorem dX4_scan_31 : decode cX4_scan 31 = .ok (.aload_n 0, 1) := by decide +kernel
theorem dX4_scan_32 : decode cX4_scan 32 = .ok (.getfield 19, 3) := by decide +kernel
theorem dX4_scan_35 : decode cX4_scan 35 = .ok (.ireturn, 1) := by decide +kernel
set_option maxRecDepth 20000 in
theorem ggX4_isTower_X4_scan : GoodIn wsX4_isTower wsX4_scan := goodIn_r _ [7, 2, 1, 8, 9, 10, 6, 11, 12, 13, 14, 15, 16, 17, 18, 19, 20, 21, 22, 23, 24, 25, 26, 27, 28, 29, 30, 31, 32, 33, 34, 35, 36, 37, 38, 39, 40, 41, 42, 43, 44, 45, 46, 47, 48, 49, 50, 51, 52, 53, 54, 55, 56, 57, 58, 59, 60, 61, 62, 63, 64, 65, 66, 67, 68, 69, 70, 71, 72, 73, 74, 75, 76, 77, 78, 79, 80, 81, 82, 83, 84, 85, 86, 87, 88, 89, 90, 91, 92, 93, 94, 95, 96, 97, 98, 99, 100, 101, 102, 103, 104, 105, 106, 107, 108, 109, 110, 111] (by decide +kernel) (by decide +kernel)
set_option maxRecDepth 20000 in
theorem gX4_isTower_X4_scan : GoodIn wsX4_isTower (wsV RX4 26 RX4 yX4_scan wsX4_scan) := goodIn_app (goodIn_of _ (by decide +kernel)) ggX4_isTower_X4_scan
theorem dX4_isTower_0 : decode cX4_isTower 0 = .ok (.aload_n 0, 1) := by decide +kernel
theorem dX4_isTower_1 : decode cX4_isTower 1 = .ok (.invokevirtual 26, 3) := by decide +kernel
theorem dX4_isTower_4 : decode cX4_isTower 4 = .ok (.aload_n 0, 1) := by decide +kernel
theorem dX4_isTower_5 : decode cX4_isTower 5 = .ok (.getfield 19, 3) := by decide +kernel
theorem dX4_isTower_8 : decode cX4_isTower 8 = .ok (.if_icmp .ne 27, 3) := by decide +kernel
theorem dX4_isTower_11 : decode cX4_isTower 11 = .ok (.aload_n 0, 1) := by decide +kernel
theorem dX4_isTower_12 : decode cX4_isTower 12 = .ok (.getfield 15, 3) := by decide +kernel
theorem dX4_isTower_15 : decode cX4_isTower 15 = .ok (.ifCond .le 20, 3) := by decide +kernel
theorem dX4_isTower_18 : decode cX4_isTower 18 = .ok (.aload_n 0, 1) := by decide +kernel
theorem dX4_isTower_19 : decode cX4_isTower 19 = .ok (.getfield 19, 3) := by decide +kernel
theorem dX4_isTower_22 : decode cX4_isTower 22 = .ok (.aload_n 0, 1) := by decide +kernel
theorem dX4_isTower_23 : decode cX4_isTower 23 = .ok (.getfield 15, 3) := by decide +kernel
theorem dX4_isTower_26 : decode cX4_isTower 26 = .ok (.isub, 1) := by decide +kernel
theorem dX4_isTower_27 : decode cX4_isTower 27 = .ok (.iconst 2, 1) := by decide +kernel
theorem dX4_isTower_28 : decode cX4_isTower 28 = .ok (.if_icmp .lt 7, 3) := by decide +kernel
theorem dX4_isTower_31 : decode cX4_isTower 31 = .ok (.iconst 1, 1) := by decide +kernel
theorem dX4_isTower_32 : decode cX4_isTower 32 = .ok (.goto 4, 3) := by decide +kernel
theorem dX4_isTower_35 : decode cX4_isTower 35 = .ok (.iconst 0, 1) := by decide +kernel
theorem dX4_isTower_36 : decode cX4_isTower 36 = .ok (.ireturn, 1) := by decide +kernel
set_option maxRecDepth 20000 in
theorem ggX4_fits_X4_isDigit : GoodIn wsX4_fits wsX4_isDigit := goodIn_r _ [6] (by decide +kernel) (by decide +kernel)
set_option maxRecDepth 20000 in
theorem gX4_fits_X4_isDigit : GoodIn wsX4_fits (va_wsS RX4 30 yX4_isDigit wsX4_isDigit) := goodIn_app (goodIn_of _ (by decide +kernel)) ggX4_fits_X4_isDigit
set_option maxRecDepth 20000 in
theorem ggX4_fits_J0_indexOf_0f7a4 : GoodIn wsX4_fits wsJ0_indexOf_0f7a4 := goodIn_r _ [11, 12, 13, 14, 10, 15, 16, 17, 18, 19, 20, 21, 22, 23, 24, 25, 26, 27, 28, 29, 30, 31, 32, 33, 34, 35, 36, 37, 38, 39, 40, 41, 42, 43, 44, 45, 46, 47, 48, 49, 50, 51, 52, 53, 54, 55, 56, 57, 58, 59, 60, 61, 62, 63, 64, 65, 66, 67, 68, 69, 70, 71, 72, 73, 74, 75, 76, 77, 78, 79, 80, 81, 82, 83, 84, 85, 86, 87, 88, 89, 90, 91, 92, 93, 94, 95] (by decide +kernel) (by decide +kernel)
set_option maxRecDepth 20000 in
theorem gX4_fits_J0_indexOf_0f7a4 : GoodIn wsX4_fits (wsV RX4 35 RJ0 yJ0_indexOf_0f7a4 wsJ0_indexOf_0f7a4) := goodIn_app (goodIn_of _ (by decide +kernel)) ggX4_fits_J0_indexOf_0f7a4
set_option maxRecDepth 20000 in
theorem ggX4_fits_X4_endsKeeper : GoodIn wsX4_fits wsX4_endsKeeper := goodIn_r _ [99, 2, 100, 101, 102] (by decide +kernel) (by decide +kernel)
set_option maxRecDepth 20000 in
theorem gX4_fits_X4_endsKeeper : GoodIn wsX4_fits (wsV RX4 41 RX4 yX4_endsKeeper wsX4_endsKeeper) := goodIn_app (goodIn_of _ (by decide +kernel)) ggX4_fits_X4_endsKeeper
theorem dX4_fits_0 : decode cX4_fits 0 = .ok (.aload_n 0, 1) := by decide +kernel
theorem dX4_fits_1 : decode cX4_fits 1 = .ok (.getfield 9, 3) := by decide +kernel
theorem dX4_fits_4 : decode cX4_fits 4 = .ok (.iload_n 1, 1) := by decide +kernel
theorem dX4_fits_5 : decode cX4_fits 5 = .ok (.iaload, 1) := by decide +kernel
theorem dX4_fits_6 : decode cX4_fits 6 = .ok (.istore_n 2, 1) := by decide +kernel
theorem dX4_fits_7 : decode cX4_fits 7 = .ok (.aload_n 0, 1) := by decide +kernel
theorem dX4_fits_8 : decode cX4_fits 8 = .ok (.getfield 15, 3) := by decide +kernel
theorem dX4_fits_11 : decode cX4_fits 11 = .ok (.ifCond .le 26, 3) := by decide +kernel
theorem dX4_fits_14 : decode cX4_fits 14 = .ok (.iload_n 2, 1) := by decide +kernel
theorem dX4_fits_15 : decode cX4_fits 15 = .ok (.invokestatic 30, 3) := by decide +kernel
theorem dX4_fits_18 : decode cX4_fits 18 = .ok (.ifCond .eq 17, 3) := by decide +kernel
theorem dX4_fits_21 : decode cX4_fits 21 = .ok (.iload_n 1, 1) := by decide +kernel
theorem dX4_fits_22 : decode cX4_fits 22 = .ok (.aload_n 0, 1) := by decide +kernel
theorem dX4_fits_23 : decode cX4_fits 23 = .ok (.getfield 15, 3) := by decide +kernel
theorem dX4_fits_26 : decode cX4_fits 26 = .ok (.isub, 1) := by decide +kernel
theorem dX4_fits_27 : decode cX4_fits 27 = .ok (.iconst 5, 1) := by decide +kernel
theorem dX4_fits_28 : decode cX4_fits 28 = .ok (.if_icmp .ge 7, 3) := by decide +kernel
theorem dX4_fits_31 : decode cX4_fits 31 = .ok (.iconst 1, 1) := by decide +kernel
theorem dX4_fits_32 : decode cX4_fits 32 = .ok (.goto 4, 3) := by decide +kernel
theorem dX4_fits_35 : decode cX4_fits 35 = .ok (.iconst 0, 1) := by decide +kernel
theorem dX4_fits_36 : decode cX4_fits 36 = .ok (.ireturn, 1) := by decide +kernel
theorem dX4_fits_37 : decode cX4_fits 37 = .ok (.iload_n 1, 1) := by decide +kernel
theorem dX4_fits_38 : decode cX4_fits 38 = .ok (.iconst 3, 1) := by decide +kernel
theorem dX4_fits_39 : decode cX4_fits 39 = .ok (.irem, 1) := by decide +kernel
theorem dX4_fits_40 : decode cX4_fits 40 = .ok (.lookupswitch 49 #[(0, 28), (1, 44)], 28) := by decide +kernel
theorem dX4_fits_68 : decode cX4_fits 68 = .ok (.ldc 33, 2) := by decide +kernel
theorem dX4_fits_70 : decode cX4_fits 70 = .ok (.iload_n 2, 1) := by decide +kernel
theorem dX4_fits_71 : decode cX4_fits 71 = .ok (.i2c, 1) := by decide +kernel
theorem dX4_fits_72 : decode cX4_fits 72 = .ok (.invokevirtual 35, 3) := by decide +kernel
theorem dX4_fits_75 : decode cX4_fits 75 = .ok (.ifCond .lt 7, 3) := by decide +kernel
theorem dX4_fits_78 : decode cX4_fits 78 = .ok (.iconst 1, 1) := by decide +kernel
theorem dX4_fits_79 : decode cX4_fits 79 = .ok (.goto 4, 3) := by decide +kernel
theorem dX4_fits_82 : decode cX4_fits 82 = .ok (.iconst 0, 1) := by decide +kernel
theorem dX4_fits_83 : decode cX4_fits 83 = .ok (.ireturn, 1) := by decide +kernel
theorem dX4_fits_84 : decode cX4_fits 84 = .ok (.iload_n 2, 1) := by decide +kernel
theorem dX4_fits_85 : decode cX4_fits 85 = .ok (.invokestatic 30, 3) := by decide +kernel
theorem dX4_fits_88 : decode cX4_fits 88 = .ok (.ireturn, 1) := by decide +kernel
theorem dX4_fits_89 : decode cX4_fits 89 = .ok (.aload_n 0, 1) := by decide +kernel
theorem dX4_fits_90 : decode cX4_fits 90 = .ok (.iload_n 1, 1) := by decide +kernel
theorem dX4_fits_91 : decode cX4_fits 91 = .ok (.iload_n 2, 1) := by decide +kernel
theorem dX4_fits_92 : decode cX4_fits 92 = .ok (.invokevirtual 41, 3) := by decide +kernel
theorem dX4_fits_95 : decode cX4_fits 95 = .ok (.ireturn, 1) := by decide +kernel
theorem dX4_endsKeeper_0 : decode cX4_endsKeeper 0 = .ok (.iload_n 1, 1) := by decide +kernel
theorem dX4_endsKeeper_1 : decode cX4_endsKeeper 1 = .ok (.iconst 3, 1) := by decide +kernel
theorem dX4_endsKeeper_2 : decode cX4_endsKeeper 2 = .ok (.idiv, 1) := by decide +kernel
theorem dX4_endsKeeper_3 : decode cX4_endsKeeper 3 = .ok (.iconst 1, 1) := by decide +kernel
theorem dX4_endsKeeper_4 : decode cX4_endsKeeper 4 = .ok (.iadd, 1) := by decide +kernel
theorem dX4_endsKeeper_5 : decode cX4_endsKeeper 5 = .ok (.istore_n 3, 1) := by decide +kernel
theorem dX4_endsKeeper_6 : decode cX4_endsKeeper 6 = .ok (.iload_n 2, 1) := by decide +kernel
theorem dX4_endsKeeper_7 : decode cX4_endsKeeper 7 = .ok (.bipush 59, 2) := by decide +kernel
theorem dX4_endsKeeper_9 : decode cX4_endsKeeper 9 = .ok (.if_icmp .ne 17, 3) := by decide +kernel
theorem dX4_endsKeeper_12 : decode cX4_endsKeeper 12 = .ok (.iload_n 3, 1) := by decide +kernel
theorem dX4_endsKeeper_13 : decode cX4_endsKeeper 13 = .ok (.iconst 2, 1) := by decide +kernel
theorem dX4_endsKeeper_14 : decode cX4_endsKeeper 14 = .ok (.if_icmp .lt 12, 3) := by decide +kernel
theorem dX4_endsKeeper_17 : decode cX4_endsKeeper 17 = .ok (.aload_n 0, 1) := by decide +kernel
theorem dX4_endsKeeper_18 : decode cX4_endsKeeper 18 = .ok (.iload_n 1, 1) := by decide +kernel
theorem dX4_endsKeeper_19 : decode cX4_endsKeeper 19 = .ok (.iconst 1, 1) := by decide +kernel
theorem dX4_endsKeeper_20 : decode cX4_endsKeeper 20 = .ok (.iadd, 1) := by decide +kernel
theorem dX4_endsKeeper_21 : decode cX4_endsKeeper 21 = .ok (.putfield 15, 3) := by decide +kernel
theorem dX4_endsKeeper_24 : decode cX4_endsKeeper 24 = .ok (.iconst 1, 1) := by decide +kernel
theorem dX4_endsKeeper_25 : decode cX4_endsKeeper 25 = .ok (.ireturn, 1) := by decide +kernel
theorem dX4_endsKeeper_26 : decode cX4_endsKeeper 26 = .ok (.iload_n 2, 1) := by decide +kernel
theorem dX4_endsKeeper_27 : decode cX4_endsKeeper 27 = .ok (.bipush 44, 2) := by decide +kernel
theorem dX4_endsKeeper_29 : decode cX4_endsKeeper 29 = .ok (.if_icmp .ne 12, 3) := by decide +kernel
theorem dX4_endsKeeper_32 : decode cX4_endsKeeper 32 = .ok (.iload_n 3, 1) := by decide +kernel
theorem dX4_endsKeeper_33 : decode cX4_endsKeeper 33 = .ok (.iconst 5, 1) := by decide +kernel
theorem dX4_endsKeeper_34 : decode cX4_endsKeeper 34 = .ok (.if_icmp .ge 7, 3) := by decide +kernel
theorem dX4_endsKeeper_37 : decode cX4_endsKeeper 37 = .ok (.iconst 1, 1) := by decide +kernel
theorem dX4_endsKeeper_38 : decode cX4_endsKeeper 38 = .ok (.goto 4, 3) := by decide +kernel
theorem dX4_endsKeeper_41 : decode cX4_endsKeeper 41 = .ok (.iconst 0, 1) := by decide +kernel
theorem dX4_endsKeeper_42 : decode cX4_endsKeeper 42 = .ok (.ireturn, 1) := by decide +kernel
theorem dX4_isDigit_0 : decode cX4_isDigit 0 = .ok (.iload_n 0, 1) := by decide +kernel
theorem dX4_isDigit_1 : decode cX4_isDigit 1 = .ok (.bipush 48, 2) := by decide +kernel
theorem dX4_isDigit_3 : decode cX4_isDigit 3 = .ok (.if_icmp .lt 13, 3) := by decide +kernel
theorem dX4_isDigit_6 : decode cX4_isDigit 6 = .ok (.iload_n 0, 1) := by decide +kernel
theorem dX4_isDigit_7 : decode cX4_isDigit 7 = .ok (.bipush 57, 2) := by decide +kernel
theorem dX4_isDigit_9 : decode cX4_isDigit 9 = .ok (.if_icmp .gt 7, 3) := by decide +kernel
theorem dX4_isDigit_12 : decode cX4_isDigit 12 = .ok (.iconst 1, 1) := by decide +kernel
theorem dX4_isDigit_13 : decode cX4_isDigit 13 = .ok (.goto 4, 3) := by decide +kernel
theorem dX4_isDigit_16 : decode cX4_isDigit 16 = .ok (.iconst 0, 1) := by decide +kernel
theorem dX4_isDigit_17 : decode cX4_isDigit 17 = .ok (.ireturn, 1) := by decide +kernel
set_option maxRecDepth 20000 in
theorem ggX5_init_X4_init : GoodIn wsX5_init wsX4_init := goodIn_r _ [28, 29, 2, 3, 30, 31, 67, 68, 69] (by decide +kernel) (by decide +kernel)
set_option maxRecDepth 20000 in
theorem gX5_init_X4_init_n9 : GoodIn wsX5_init (wsX4_init) := ggX5_init_X4_init
set_option maxRecDepth 20000 in
theorem ggX5_init_X2_init : GoodIn wsX5_init wsX2_init := goodIn_r _ [33, 34, 2, 3, 30, 35, 36, 37, 78, 79, 80, 81, 82] (by decide +kernel) (by decide +kernel)
set_option maxRecDepth 20000 in
theorem gX5_init_X2_init_n18 : GoodIn wsX5_init (wsX2_init) := ggX5_init_X2_init
set_option maxRecDepth 20000 in
theorem ggX5_init_X0_init : GoodIn wsX5_init wsX0_init := goodIn_r _ [40, 41, 2, 3, 30, 42, 43, 44, 45, 46, 47, 48, 49, 50, 51, 52, 53, 83, 84, 85, 86, 87, 88, 89, 90, 91] (by decide +kernel) (by decide +kernel)
set_option maxRecDepth 20000 in
theorem gX5_init_X0_init : GoodIn wsX5_init (wsX0_init) := ggX5_init_X0_init
set_option maxRecDepth 20000 in
theorem ggX5_init_X3_init : GoodIn wsX5_init wsX3_init := goodIn_r _ [55, 56, 2, 3, 57, 30, 58, 59, 60, 61, 62, 92, 93, 94, 95, 96, 97] (by decide +kernel) (by decide +kernel)
set_option maxRecDepth 20000 in
theorem gX5_init_X3_init_n35 : GoodIn wsX5_init (wsX3_init) := ggX5_init_X3_init
set_option maxRecDepth 20000 in
theorem ggX5_init_X1_init : GoodIn wsX5_init wsX1_init := goodIn_r _ [64, 65, 2, 3, 30, 66, 98, 99, 100] (by decide +kernel) (by decide +kernel)
set_option maxRecDepth 20000 in
theorem gX5_init_X1_init_n42 : GoodIn wsX5_init (wsX1_init) := ggX5_init_X1_init
theorem dX5_init_0 : decode cX5_init 0 = .ok (.aload_n 0, 1) := by decide +kernel
theorem dX5_init_1 : decode cX5_init 1 = .ok (.invokespecial 1, 3) := by decide +kernel
theorem dX5_init_4 : decode cX5_init 4 = .ok (.aload_n 0, 1) := by decide +kernel
theorem dX5_init_5 : decode cX5_init 5 = .ok (.new 7, 3) := by decide +kernel
theorem dX5_init_8 : decode cX5_init 8 = .ok (.dup, 1) := by decide +kernel
theorem dX5_init_9 : decode cX5_init 9 = .ok (.invokespecial 9, 3) := by decide +kernel
theorem dX5_init_12 : decode cX5_init 12 = .ok (.putfield 10, 3) := by decide +kernel
theorem dX5_init_15 : decode cX5_init 15 = .ok (.aload_n 0, 1) := by decide +kernel
theorem dX5_init_16 : decode cX5_init 16 = .ok (.new 16, 3) := by decide +kernel
theorem dX5_init_19 : decode cX5_init 19 = .ok (.dup, 1) := by decide +kernel
theorem dX5_init_20 : decode cX5_init 20 = .ok (.invokespecial 18, 3) := by decide +kernel
theorem dX5_init_23 : decode cX5_init 23 = .ok (.putfield 19, 3) := by decide +kernel
theorem dX5_init_26 : decode cX5_init 26 = .ok (.aload_n 0, 1) := by decide +kernel
theorem dX5_init_27 : decode cX5_init 27 = .ok (.new 23, 3) := by decide +kernel
theorem dX5_init_30 : decode cX5_init 30 = .ok (.dup, 1) := by decide +kernel
theorem dX5_init_31 : decode cX5_init 31 = .ok (.invokespecial 25, 3) := by decide +kernel
theorem dX5_init_34 : decode cX5_init 34 = .ok (.putfield 26, 3) := by decide +kernel
theorem dX5_init_37 : decode cX5_init 37 = .ok (.aload_n 0, 1) := by decide +kernel
theorem dX5_init_38 : decode cX5_init 38 = .ok (.new 23, 3) := by decide +kernel
theorem dX5_init_41 : decode cX5_init 41 = .ok (.dup, 1) := by decide +kernel
theorem dX5_init_42 : decode cX5_init 42 = .ok (.invokespecial 25, 3) := by decide +kernel
theorem dX5_init_45 : decode cX5_init 45 = .ok (.putfield 30, 3) := by decide +kernel
theorem dX5_init_48 : decode cX5_init 48 = .ok (.aload_n 0, 1) := by decide +kernel
theorem dX5_init_49 : decode cX5_init 49 = .ok (.new 33, 3) := by decide +kernel
theorem dX5_init_52 : decode cX5_init 52 = .ok (.dup, 1) := by decide +kernel
theorem dX5_init_53 : decode cX5_init 53 = .ok (.invokespecial 35, 3) := by decide +kernel
theorem dX5_init_56 : decode cX5_init 56 = .ok (.putfield 36, 3) := by decide +kernel
theorem dX5_init_59 : decode cX5_init 59 = .ok (.aload_n 0, 1) := by decide +kernel
theorem dX5_init_60 : decode cX5_init 60 = .ok (.new 40, 3) := by decide +kernel
theorem dX5_init_63 : decode cX5_init 63 = .ok (.dup, 1) := by decide +kernel
theorem dX5_init_64 : decode cX5_init 64 = .ok (.invokespecial 42, 3) := by decide +kernel
theorem dX5_init_67 : decode cX5_init 67 = .ok (.putfield 43, 3) := by decide +kernel
theorem dX5_init_70 : decode cX5_init 70 = .ok (.aload_n 0, 1) := by decide +kernel
theorem dX5_init_71 : decode cX5_init 71 = .ok (.iconst 0, 1) := by decide +kernel
theorem dX5_init_72 : decode cX5_init 72 = .ok (.putfield 47, 3) := by decide +kernel
theorem dX5_init_75 : decode cX5_init 75 = .ok (.aload_n 0, 1) := by decide +kernel
theorem dX5_init_76 : decode cX5_init 76 = .ok (.iconst 0, 1) := by decide +kernel
theorem dX5_init_77 : decode cX5_init 77 = .ok (.putfield 51, 3) := by decide +kernel
theorem dX5_init_80 : decode cX5_init 80 = .ok (.return_, 1) := by decide +kernel
theorem dX5_letter_0 : decode cX5_letter 0 = .ok (.iload_n 1, 1) := by decide +kernel
theorem dX5_letter_1 : decode cX5_letter 1 = .ok (.iconst 1, 1) := by decide +kernel
theorem dX5_letter_2 : decode cX5_letter 2 = .ok (.if_icmp .lt 9, 3) := by decide +kernel
theorem dX5_letter_5 : decode cX5_letter 5 = .ok (.iload_n 1, 1) := by decide +kernel
theorem dX5_letter_6 : decode cX5_letter 6 = .ok (.bipush 126, 2) := by decide +kernel
theorem dX5_letter_8 : decode cX5_letter 8 = .ok (.if_icmp .le 6, 3) := by decide +kernel
theorem dX5_letter_11 : decode cX5_letter 11 = .ok (.bipush (-102), 2) := by decide +kernel
theorem dX5_letter_13 : decode cX5_letter 13 = .ok (.ireturn, 1) := by decide +kernel
theorem dX5_letter_14 : decode cX5_letter 14 = .ok (.aload_n 0, 1) := by decide +kernel
theorem dX5_letter_15 : decode cX5_letter 15 = .ok (.getfield 10, 3) := by decide +kernel
theorem dX5_letter_18 : decode cX5_letter 18 = .ok (.getfield 55, 3) := by decide +kernel
theorem dX5_letter_21 : decode cX5_letter 21 = .ok (.bipush 22, 2) := by decide +kernel
theorem dX5_letter_23 : decode cX5_letter 23 = .ok (.if_icmp .lt 6, 3) := by decide +kernel
theorem dX5_letter_26 : decode cX5_letter 26 = .ok (.bipush (-104), 2) := by decide +kernel
theorem dX5_letter_28 : decode cX5_letter 28 = .ok (.ireturn, 1) := by decide +kernel
theorem dX5_letter_29 : decode cX5_letter 29 = .ok (.aload_n 0, 1) := by decide +kernel
theorem dX5_letter_30 : decode cX5_letter 30 = .ok (.getfield 10, 3) := by decide +kernel
theorem dX5_letter_33 : decode cX5_letter 33 = .ok (.getfield 58, 3) := by decide +kernel
theorem dX5_letter_36 : decode cX5_letter 36 = .ok (.aload_n 0, 1) := by decide +kernel
theorem dX5_letter_37 : decode cX5_letter 37 = .ok (.getfield 10, 3) := by decide +kernel
theorem dX5_letter_40 : decode cX5_letter 40 = .ok (.getfield 55, 3) := by decide +kernel
theorem dX5_letter_43 : decode cX5_letter 43 = .ok (.iload_n 1, 1) := by decide +kernel
theorem dX5_letter_44 : decode cX5_letter 44 = .ok (.iastore, 1) := by decide +kernel
theorem dX5_letter_45 : decode cX5_letter 45 = .ok (.aload_n 0, 1) := by decide +kernel
theorem dX5_letter_46 : decode cX5_letter 46 = .ok (.getfield 10, 3) := by decide +kernel
theorem dX5_letter_49 : decode cX5_letter 49 = .ok (.dup, 1) := by decide +kernel
theorem dX5_letter_50 : decode cX5_letter 50 = .ok (.getfield 55, 3) := by decide +kernel
theorem dX5_letter_53 : decode cX5_letter 53 = .ok (.iconst 1, 1) := by decide +kernel
theorem dX5_letter_54 : decode cX5_letter 54 = .ok (.iadd, 1) := by decide +kernel
theorem dX5_letter_55 : decode cX5_letter 55 = .ok (.putfield 55, 3) := by decide +kernel
theorem dX5_letter_58 : decode cX5_letter 58 = .ok (.aload_n 0, 1) := by decide +kernel
theorem dX5_letter_59 : decode cX5_letter 59 = .ok (.getfield 10, 3) := by decide +kernel
theorem dX5_letter_62 : decode cX5_letter 62 = .ok (.getfield 55, 3) := by decide +kernel
theorem dX5_letter_65 : decode cX5_letter 65 = .ok (.ireturn, 1) := by decide +kernel
theorem dX5_blank_0 : decode cX5_blank 0 = .ok (.aload_n 0, 1) := by decide +kernel
theorem dX5_blank_1 : decode cX5_blank 1 = .ok (.getfield 10, 3) := by decide +kernel
theorem dX5_blank_4 : decode cX5_blank 4 = .ok (.getfield 55, 3) := by decide +kernel
theorem dX5_blank_7 : decode cX5_blank 7 = .ok (.istore_n 1, 1) := by decide +kernel
theorem dX5_blank_8 : decode cX5_blank 8 = .ok (.aload_n 0, 1) := by decide +kernel
theorem dX5_blank_9 : decode cX5_blank 9 = .ok (.getfield 10, 3) := by decide +kernel
theorem dX5_blank_12 : decode cX5_blank 12 = .ok (.iconst 0, 1) := by decide +kernel
theorem dX5_blank_13 : decode cX5_blank 13 = .ok (.putfield 55, 3) := by decide +kernel
theorem dX5_blank_16 : decode cX5_blank 16 = .ok (.iload_n 1, 1) := by decide +kernel
theorem dX5_blank_17 : decode cX5_blank 17 = .ok (.ireturn, 1) := by decide +kernel
set_option maxRecDepth 20000 in
theorem ggX5_fault_X4_scan : GoodIn wsX5_fault wsX4_scan := goodIn_r _ [6, 7, 8, 9, 10, 11, 5, 12, 13, 14, 15, 16, 17, 18, 19, 20, 21, 22, 23, 24, 25, 26, 27, 28, 29, 30, 31, 32, 33, 34, 35, 36, 37, 38, 39, 40, 41, 42, 43, 44, 45, 46, 47, 48, 49, 50, 51, 52, 53, 54, 55, 56, 57, 58, 59, 60, 61, 62, 63, 64, 65, 66, 67, 68, 69, 70, 71, 72, 73, 74, 75, 76, 77, 78, 79, 80, 81, 82, 83, 84, 85, 86, 87, 88, 89, 90, 91, 92, 93, 94, 95, 96, 97, 98, 99, 100, 101, 102, 103, 104, 105, 106, 107, 108, 109, 118, 119, 120] (by decide +kernel) (by decide +kernel)
set_option maxRecDepth 20000 in
theorem gX5_fault_X4_scan : GoodIn wsX5_fault (wsV RX5 62 RX4 yX4_scan wsX4_scan) := goodIn_app (goodIn_of _ (by decide +kernel)) ggX5_fault_X4_scan
theorem dX5_fault_0 : decode cX5_fault 0 = .ok (.aload_n 0, 1) := by decide +kernel
theorem dX5_fault_1 : decode cX5_fault 1 = .ok (.getfield 10, 3) := by decide +kernel
theorem dX5_fault_4 : decode cX5_fault 4 = .ok (.invokevirtual 62, 3) := by decide +kernel
theorem dX5_fault_7 : decode cX5_fault 7 = .ok (.ireturn, 1) := by decide +kernel
set_option maxRecDepth 20000 in
theorem ggX5_tower_X4_isTower : GoodIn wsX5_tower wsX4_isTower := goodIn_r _ [12, 13, 14, 15, 16, 17, 11, 18, 19, 20, 21, 22, 23, 24, 25, 26, 27, 28, 29, 30, 31, 32, 33, 34, 35, 36, 37, 38, 39, 40, 41, 42, 43, 44, 45, 46, 47, 48, 49, 50, 51, 52, 53, 54, 55, 56, 57, 58, 59, 60, 61, 62, 63, 64, 65, 66, 67, 68, 69, 70, 71, 72, 73, 74, 75, 76, 77, 78, 79, 80, 81, 82, 83, 84, 85, 86, 87, 88, 89, 90, 91, 92, 93, 94, 95, 96, 97, 98, 99, 100, 101, 102, 103, 104, 105, 106, 107, 108, 109, 110, 111, 112, 113, 114, 115, 116, 117, 118, 119, 162, 163, 164] (by decide +kernel) (by decide +kernel)
set_option maxRecDepth 20000 in
theorem gX5_tower_X4_isTower : GoodIn wsX5_tower (wsV RX5 66 RX4 yX4_isTower wsX4_isTower) := goodIn_app (goodIn_of _ (by decide +kernel)) ggX5_tower_X4_isTower
set_option maxRecDepth 20000 in
theorem ggX5_tower_X2_readFrom : GoodIn wsX5_tower wsX2_readFrom := goodIn_r _ [124, 125, 126, 60, 57, 61, 127, 128, 129, 130, 131, 132, 133, 134, 28, 29, 30, 31, 32, 33, 34, 35, 36, 37, 38, 39, 40, 41, 42, 43, 44, 45, 46, 47, 48, 49, 50, 51, 52, 53, 54, 55, 56, 58, 59, 62, 63, 64, 65, 66, 67, 68, 69, 70, 71, 72, 73, 74, 75, 76, 77, 78, 79, 80, 81, 82, 83, 84, 85, 86, 87, 88, 89, 90, 91, 92, 93, 94, 95, 96, 97, 98, 99, 100, 101, 102, 103, 104, 105, 106, 107, 108, 109, 110, 111, 112, 113, 114, 115, 162, 163, 164, 165, 166, 167, 168, 169] (by decide +kernel) (by decide +kernel)
set_option maxRecDepth 20000 in
theorem gX5_tower_X2_readFrom : GoodIn wsX5_tower (wsV RX5 70 RX2 yX2_readFrom wsX2_readFrom) := goodIn_app (goodIn_of _ (by decide +kernel)) ggX5_tower_X2_readFrom
set_option maxRecDepth 20000 in
theorem ggX5_tower_X0_clear : GoodIn wsX5_tower wsX0_clear := goodIn_r _ [139, 140, 141, 142, 143, 144, 145, 138, 146, 147, 148, 149, 150, 151, 152, 153, 170, 171, 172, 173, 174, 175, 176, 177, 178] (by decide +kernel) (by decide +kernel)
set_option maxRecDepth 20000 in
theorem gX5_tower_X0_clear : GoodIn wsX5_tower (wsV RX5 74 RX0 yX0_clear wsX0_clear) := goodIn_app (goodIn_of _ (by decide +kernel)) ggX5_tower_X0_clear
theorem dX5_tower_0 : decode cX5_tower 0 = .ok (.aload_n 0, 1) := by decide +kernel
theorem dX5_tower_1 : decode cX5_tower 1 = .ok (.getfield 10, 3) := by decide +kernel
theorem dX5_tower_4 : decode cX5_tower 4 = .ok (.invokevirtual 66, 3) := by decide +kernel
theorem dX5_tower_7 : decode cX5_tower 7 = .ok (.ifCond .ne 6, 3) := by decide +kernel
theorem dX5_tower_10 : decode cX5_tower 10 = .ok (.bipush (-103), 2) := by decide +kernel
theorem dX5_tower_12 : decode cX5_tower 12 = .ok (.ireturn, 1) := by decide +kernel
theorem dX5_tower_13 : decode cX5_tower 13 = .ok (.aload_n 0, 1) := by decide +kernel
theorem dX5_tower_14 : decode cX5_tower 14 = .ok (.getfield 19, 3) := by decide +kernel
theorem dX5_tower_17 : decode cX5_tower 17 = .ok (.aload_n 0, 1) := by decide +kernel
theorem dX5_tower_18 : decode cX5_tower 18 = .ok (.getfield 10, 3) := by decide +kernel
theorem dX5_tower_21 : decode cX5_tower 21 = .ok (.invokevirtual 70, 3) := by decide +kernel
theorem dX5_tower_24 : decode cX5_tower 24 = .ok (.aload_n 0, 1) := by decide +kernel
theorem dX5_tower_25 : decode cX5_tower 25 = .ok (.getfield 26, 3) := by decide +kernel
theorem dX5_tower_28 : decode cX5_tower 28 = .ok (.invokevirtual 74, 3) := by decide +kernel
theorem dX5_tower_31 : decode cX5_tower 31 = .ok (.aload_n 0, 1) := by decide +kernel
theorem dX5_tower_32 : decode cX5_tower 32 = .ok (.iconst 0, 1) := by decide +kernel
theorem dX5_tower_33 : decode cX5_tower 33 = .ok (.putfield 47, 3) := by decide +kernel
theorem dX5_tower_36 : decode cX5_tower 36 = .ok (.aload_n 0, 1) := by decide +kernel
theorem dX5_tower_37 : decode cX5_tower 37 = .ok (.dup, 1) := by decide +kernel
theorem dX5_tower_38 : decode cX5_tower 38 = .ok (.getfield 51, 3) := by decide +kernel
theorem dX5_tower_41 : decode cX5_tower 41 = .ok (.iconst 1, 1) := by decide +kernel
theorem dX5_tower_42 : decode cX5_tower 42 = .ok (.iadd, 1) := by decide +kernel
theorem dX5_tower_43 : decode cX5_tower 43 = .ok (.putfield 51, 3) := by decide +kernel
theorem dX5_tower_46 : decode cX5_tower 46 = .ok (.aload_n 0, 1) := by decide +kernel
theorem dX5_tower_47 : decode cX5_tower 47 = .ok (.getfield 10, 3) := by decide +kernel
theorem dX5_tower_50 : decode cX5_tower 50 = .ok (.iconst 0, 1) := by decide +kernel
theorem dX5_tower_51 : decode cX5_tower 51 = .ok (.putfield 55, 3) := by decide +kernel
theorem dX5_tower_54 : decode cX5_tower 54 = .ok (.aload_n 0, 1) := by decide +kernel
theorem dX5_tower_55 : decode cX5_tower 55 = .ok (.getfield 19, 3) := by decide +kernel
theorem dX5_tower_58 : decode cX5_tower 58 = .ok (.getfield 77, 3) := by decide +kernel
theorem dX5_tower_61 : decode cX5_tower 61 = .ok (.ireturn, 1) := by decide +kernel
set_option maxRecDepth 20000 in
theorem ggX5_keeper_X2_hasKeeper : GoodIn wsX5_keeper wsX2_hasKeeper := goodIn_r _ [10, 11, 61, 62, 63, 64, 65] (by decide +kernel) (by decide +kernel)
set_option maxRecDepth 20000 in
theorem gX5_keeper_X2_hasKeeper : GoodIn wsX5_keeper (wsV RX5 80 RX2 yX2_hasKeeper wsX2_hasKeeper) := goodIn_app (goodIn_of _ (by decide +kernel)) ggX5_keeper_X2_hasKeeper
set_option maxRecDepth 20000 in
theorem ggX5_keeper_X0_holesOf : GoodIn wsX5_keeper wsX0_holesOf := goodIn_r _ [16, 17, 66, 67, 68, 69, 70, 71, 72, 73, 74] (by decide +kernel) (by decide +kernel)
set_option maxRecDepth 20000 in
theorem gX5_keeper_X0_holesOf : GoodIn wsX5_keeper (wsV RX5 90 RX0 yX0_holesOf wsX0_holesOf) := goodIn_app (goodIn_of _ (by decide +kernel)) ggX5_keeper_X0_holesOf
set_option maxRecDepth 20000 in
theorem ggX5_keeper_X0_eggsOf : GoodIn wsX5_keeper wsX0_eggsOf := goodIn_r _ [21, 17, 22, 66, 67, 68, 69, 70, 71, 72, 73, 74] (by decide +kernel) (by decide +kernel)
set_option maxRecDepth 20000 in
theorem gX5_keeper_X0_eggsOf : GoodIn wsX5_keeper (wsV RX5 94 RX0 yX0_eggsOf wsX0_eggsOf) := goodIn_app (goodIn_of _ (by decide +kernel)) ggX5_keeper_X0_eggsOf
set_option maxRecDepth 20000 in
theorem ggX5_keeper_X5_possibleFaiths : GoodIn wsX5_keeper wsX5_possibleFaiths := goodIn_r _ [27, 28, 29, 30, 26, 31, 4, 32, 33, 1, 2, 34, 35, 36, 37, 38, 39, 40, 41, 42, 43, 44, 45, 46, 47, 48, 53, 54, 55, 56, 57, 58, 59, 60, 66, 67, 68, 69, 70, 71, 72, 73, 74, 61, 62, 63, 64, 65] (by decide +kernel) (by decide +kernel)
set_option maxRecDepth 20000 in
theorem gX5_keeper_X5_possibleFaiths : GoodIn wsX5_keeper (wsV RX5 100 RX5 yX5_possibleFaiths wsX5_possibleFaiths) := goodIn_app (goodIn_of _ (by decide +kernel)) ggX5_keeper_X5_possibleFaiths
set_option maxRecDepth 20000 in
theorem ggX5_keeper_X5_likelyFaith : GoodIn wsX5_keeper wsX5_likelyFaith := goodIn_r _ [52, 28, 29, 30, 26, 31, 4, 32, 33, 1, 2, 34, 35, 36, 37, 38, 39, 40, 41, 42, 43, 44, 45, 46, 47, 48, 53, 54, 55, 56, 57, 58, 59, 60, 66, 67, 68, 69, 70, 71, 72, 73, 74, 61, 62, 63, 64, 65] (by decide +kernel) (by decide +kernel)
set_option maxRecDepth 20000 in
theorem gX5_keeper_X5_likelyFaith : GoodIn wsX5_keeper (wsV RX5 103 RX5 yX5_likelyFaith wsX5_likelyFaith) := goodIn_app (goodIn_of _ (by decide +kernel)) ggX5_keeper_X5_likelyFaith
theorem dX5_keeper_0 : decode cX5_keeper 0 = .ok (.aload_n 0, 1) := by decide +kernel
theorem dX5_keeper_1 : decode cX5_keeper 1 = .ok (.getfield 19, 3) := by decide +kernel
theorem dX5_keeper_4 : decode cX5_keeper 4 = .ok (.iload_n 1, 1) := by decide +kernel
theorem dX5_keeper_5 : decode cX5_keeper 5 = .ok (.invokevirtual 80, 3) := by decide +kernel
theorem dX5_keeper_8 : decode cX5_keeper 8 = .ok (.ifCond .ne 6, 3) := by decide +kernel
theorem dX5_keeper_11 : decode cX5_keeper 11 = .ok (.bipush (-101), 2) := by decide +kernel
theorem dX5_keeper_13 : decode cX5_keeper 13 = .ok (.ireturn, 1) := by decide +kernel
theorem dX5_keeper_14 : decode cX5_keeper 14 = .ok (.iload_n 2, 1) := by decide +kernel
theorem dX5_keeper_15 : decode cX5_keeper 15 = .ok (.tableswitch 101 0 6 #[41, 51, 61, 70, 79, 89, 95], 41) := by decide +kernel
theorem dX5_keeper_56 : decode cX5_keeper 56 = .ok (.aload_n 0, 1) := by decide +kernel
theorem dX5_keeper_57 : decode cX5_keeper 57 = .ok (.getfield 19, 3) := by decide +kernel
theorem dX5_keeper_60 : decode cX5_keeper 60 = .ok (.getfield 84, 3) := by decide +kernel
theorem dX5_keeper_63 : decode cX5_keeper 63 = .ok (.iload_n 1, 1) := by decide +kernel
theorem dX5_keeper_64 : decode cX5_keeper 64 = .ok (.iaload, 1) := by decide +kernel
theorem dX5_keeper_65 : decode cX5_keeper 65 = .ok (.ireturn, 1) := by decide +kernel
theorem dX5_keeper_66 : decode cX5_keeper 66 = .ok (.aload_n 0, 1) := by decide +kernel
theorem dX5_keeper_67 : decode cX5_keeper 67 = .ok (.getfield 19, 3) := by decide +kernel
theorem dX5_keeper_70 : decode cX5_keeper 70 = .ok (.getfield 87, 3) := by decide +kernel
theorem dX5_keeper_73 : decode cX5_keeper 73 = .ok (.iload_n 1, 1) := by decide +kernel
theorem dX5_keeper_74 : decode cX5_keeper 74 = .ok (.iaload, 1) := by decide +kernel
theorem dX5_keeper_75 : decode cX5_keeper 75 = .ok (.ireturn, 1) := by decide +kernel
theorem dX5_keeper_76 : decode cX5_keeper 76 = .ok (.aload_n 0, 1) := by decide +kernel
theorem dX5_keeper_77 : decode cX5_keeper 77 = .ok (.getfield 26, 3) := by decide +kernel
theorem dX5_keeper_80 : decode cX5_keeper 80 = .ok (.iload_n 1, 1) := by decide +kernel
theorem dX5_keeper_81 : decode cX5_keeper 81 = .ok (.invokevirtual 90, 3) := by decide +kernel
theorem dX5_keeper_84 : decode cX5_keeper 84 = .ok (.ireturn, 1) := by decide +kernel
theorem dX5_keeper_85 : decode cX5_keeper 85 = .ok (.aload_n 0, 1) := by decide +kernel
theorem dX5_keeper_86 : decode cX5_keeper 86 = .ok (.getfield 26, 3) := by decide +kernel
theorem dX5_keeper_89 : decode cX5_keeper 89 = .ok (.iload_n 1, 1) := by decide +kernel
theorem dX5_keeper_90 : decode cX5_keeper 90 = .ok (.invokevirtual 94, 3) := by decide +kernel
theorem dX5_keeper_93 : decode cX5_keeper 93 = .ok (.ireturn, 1) := by decide +kernel
theorem dX5_keeper_94 : decode cX5_keeper 94 = .ok (.aload_n 0, 1) := by decide +kernel
theorem dX5_keeper_95 : decode cX5_keeper 95 = .ok (.getfield 26, 3) := by decide +kernel
theorem dX5_keeper_98 : decode cX5_keeper 98 = .ok (.getfield 97, 3) := by decide +kernel
theorem dX5_keeper_101 : decode cX5_keeper 101 = .ok (.iload_n 1, 1) := by decide +kernel
theorem dX5_keeper_102 : decode cX5_keeper 102 = .ok (.iaload, 1) := by decide +kernel
theorem dX5_keeper_103 : decode cX5_keeper 103 = .ok (.ireturn, 1) := by decide +kernel
theorem dX5_keeper_104 : decode cX5_keeper 104 = .ok (.aload_n 0, 1) := by decide +kernel
theorem dX5_keeper_105 : decode cX5_keeper 105 = .ok (.iload_n 1, 1) := by decide +kernel
theorem dX5_keeper_106 : decode cX5_keeper 106 = .ok (.invokevirtual 100, 3) := by decide +kernel
theorem dX5_keeper_109 : decode cX5_keeper 109 = .ok (.ireturn, 1) := by decide +kernel
theorem dX5_keeper_110 : decode cX5_keeper 110 = .ok (.aload_n 0, 1) := by decide +kernel
theorem dX5_keeper_111 : decode cX5_keeper 111 = .ok (.iload_n 1, 1) := by decide +kernel
theorem dX5_keeper_112 : decode cX5_keeper 112 = .ok (.invokevirtual 103, 3) := by decide +kernel
theorem dX5_keeper_115 : decode cX5_keeper 115 = .ok (.ireturn, 1) := by decide +kernel
theorem dX5_keeper_116 : decode cX5_keeper 116 = .ok (.bipush (-102), 2) := by decide +kernel
theorem dX5_keeper_118 : decode cX5_keeper 118 = .ok (.ireturn, 1) := by decide +kernel
set_option maxRecDepth 20000 in
theorem ggX5_as_X2_hasKeeper : GoodIn wsX5_as wsX2_hasKeeper := goodIn_r _ [7, 8, 21, 22, 23, 24, 25] (by decide +kernel) (by decide +kernel)
set_option maxRecDepth 20000 in
theorem gX5_as_X2_hasKeeper : GoodIn wsX5_as (wsV RX5 80 RX2 yX2_hasKeeper wsX2_hasKeeper) := goodIn_app (goodIn_of _ (by decide +kernel)) ggX5_as_X2_hasKeeper
set_option maxRecDepth 20000 in
theorem ggX5_as_X5_isOfKind : GoodIn wsX5_as wsX5_isOfKind := goodIn_r _ [12] (by decide +kernel) (by decide +kernel)
set_option maxRecDepth 20000 in
theorem gX5_as_X5_isOfKind : GoodIn wsX5_as (va_wsS RX5 106 yX5_isOfKind wsX5_isOfKind) := goodIn_app (goodIn_of _ (by decide +kernel)) ggX5_as_X5_isOfKind
theorem dX5_as_0 : decode cX5_as 0 = .ok (.aload_n 0, 1) := by decide +kernel
theorem dX5_as_1 : decode cX5_as 1 = .ok (.getfield 19, 3) := by decide +kernel
theorem dX5_as_4 : decode cX5_as 4 = .ok (.iload_n 1, 1) := by decide +kernel
theorem dX5_as_5 : decode cX5_as 5 = .ok (.invokevirtual 80, 3) := by decide +kernel
theorem dX5_as_8 : decode cX5_as 8 = .ok (.ifCond .ne 6, 3) := by decide +kernel
theorem dX5_as_11 : decode cX5_as 11 = .ok (.bipush (-101), 2) := by decide +kernel
theorem dX5_as_13 : decode cX5_as 13 = .ok (.ireturn, 1) := by decide +kernel
theorem dX5_as_14 : decode cX5_as 14 = .ok (.iload_n 2, 1) := by decide +kernel
theorem dX5_as_15 : decode cX5_as 15 = .ok (.ifCond .lt 8, 3) := by decide +kernel
theorem dX5_as_18 : decode cX5_as 18 = .ok (.iload_n 2, 1) := by decide +kernel
theorem dX5_as_19 : decode cX5_as 19 = .ok (.iconst 4, 1) := by decide +kernel
theorem dX5_as_20 : decode cX5_as 20 = .ok (.if_icmp .le 6, 3) := by decide +kernel
theorem dX5_as_23 : decode cX5_as 23 = .ok (.bipush (-102), 2) := by decide +kernel
theorem dX5_as_25 : decode cX5_as 25 = .ok (.ireturn, 1) := by decide +kernel
theorem dX5_as_26 : decode cX5_as 26 = .ok (.aload_n 0, 1) := by decide +kernel
theorem dX5_as_27 : decode cX5_as 27 = .ok (.getfield 19, 3) := by decide +kernel
theorem dX5_as_30 : decode cX5_as 30 = .ok (.getfield 84, 3) := by decide +kernel
theorem dX5_as_33 : decode cX5_as 33 = .ok (.iload_n 1, 1) := by decide +kernel
theorem dX5_as_34 : decode cX5_as 34 = .ok (.iaload, 1) := by decide +kernel
theorem dX5_as_35 : decode cX5_as 35 = .ok (.iload_n 2, 1) := by decide +kernel
theorem dX5_as_36 : decode cX5_as 36 = .ok (.invokestatic 106, 3) := by decide +kernel
theorem dX5_as_39 : decode cX5_as 39 = .ok (.ifCond .eq 7, 3) := by decide +kernel
theorem dX5_as_42 : decode cX5_as 42 = .ok (.iload_n 1, 1) := by decide +kernel
theorem dX5_as_43 : decode cX5_as 43 = .ok (.goto 4, 3) := by decide +kernel
theorem dX5_as_46 : decode cX5_as 46 = .ok (.iconst (-1), 1) := by decide +kernel
theorem dX5_as_47 : decode cX5_as 47 = .ok (.ireturn, 1) := by decide +kernel
set_option maxRecDepth 20000 in
theorem ggX5_keeps_X2_hasKeeper : GoodIn wsX5_keeps wsX2_hasKeeper := goodIn_r _ [6, 7, 36, 37, 38, 39, 40] (by decide +kernel) (by decide +kernel)
set_option maxRecDepth 20000 in
theorem gX5_keeps_X2_hasKeeper : GoodIn wsX5_keeps (wsV RX5 80 RX2 yX2_hasKeeper wsX2_hasKeeper) := goodIn_app (goodIn_of _ (by decide +kernel)) ggX5_keeps_X2_hasKeeper
set_option maxRecDepth 20000 in
theorem ggX5_keeps_X2_yearsKept : GoodIn wsX5_keeps wsX2_yearsKept := goodIn_r _ [11, 12, 13, 14, 3, 4, 5, 6, 7, 15, 16, 17, 18, 19, 20, 21, 22, 23, 24, 25, 26, 27, 36, 37, 38, 39, 40] (by decide +kernel) (by decide +kernel)
set_option maxRecDepth 20000 in
theorem gX5_keeps_X2_yearsKept : GoodIn wsX5_keeps (wsV RX5 110 RX2 yX2_yearsKept wsX2_yearsKept) := goodIn_app (goodIn_of _ (by decide +kernel)) ggX5_keeps_X2_yearsKept
theorem dX5_keeps_0 : decode cX5_keeps 0 = .ok (.aload_n 0, 1) := by decide +kernel
theorem dX5_keeps_1 : decode cX5_keeps 1 = .ok (.getfield 19, 3) := by decide +kernel
theorem dX5_keeps_4 : decode cX5_keeps 4 = .ok (.iload_n 1, 1) := by decide +kernel
theorem dX5_keeps_5 : decode cX5_keeps 5 = .ok (.invokevirtual 80, 3) := by decide +kernel
theorem dX5_keeps_8 : decode cX5_keeps 8 = .ok (.ifCond .ne 6, 3) := by decide +kernel
theorem dX5_keeps_11 : decode cX5_keeps 11 = .ok (.bipush (-101), 2) := by decide +kernel
theorem dX5_keeps_13 : decode cX5_keeps 13 = .ok (.ireturn, 1) := by decide +kernel
theorem dX5_keeps_14 : decode cX5_keeps 14 = .ok (.iload_n 2, 1) := by decide +kernel
theorem dX5_keeps_15 : decode cX5_keeps 15 = .ok (.ifCond .lt 9, 3) := by decide +kernel
theorem dX5_keeps_18 : decode cX5_keeps 18 = .ok (.iload_n 2, 1) := by decide +kernel
theorem dX5_keeps_19 : decode cX5_keeps 19 = .ok (.bipush 9, 2) := by decide +kernel
theorem dX5_keeps_21 : decode cX5_keeps 21 = .ok (.if_icmp .le 6, 3) := by decide +kernel
theorem dX5_keeps_24 : decode cX5_keeps 24 = .ok (.bipush (-102), 2) := by decide +kernel
theorem dX5_keeps_26 : decode cX5_keeps 26 = .ok (.ireturn, 1) := by decide +kernel
theorem dX5_keeps_27 : decode cX5_keeps 27 = .ok (.aload_n 0, 1) := by decide +kernel
theorem dX5_keeps_28 : decode cX5_keeps 28 = .ok (.getfield 19, 3) := by decide +kernel
theorem dX5_keeps_31 : decode cX5_keeps 31 = .ok (.iload_n 1, 1) := by decide +kernel
theorem dX5_keeps_32 : decode cX5_keeps 32 = .ok (.iload_n 2, 1) := by decide +kernel
theorem dX5_keeps_33 : decode cX5_keeps 33 = .ok (.invokevirtual 110, 3) := by decide +kernel
theorem dX5_keeps_36 : decode cX5_keeps 36 = .ok (.ireturn, 1) := by decide +kernel
set_option maxRecDepth 20000 in
theorem ggX5_hole_X2_hasHole : GoodIn wsX5_hole wsX2_hasHole := goodIn_r _ [11, 12, 45, 46, 47, 48, 49] (by decide +kernel) (by decide +kernel)
set_option maxRecDepth 20000 in
theorem gX5_hole_X2_hasHole : GoodIn wsX5_hole (wsV RX5 114 RX2 yX2_hasHole wsX2_hasHole) := goodIn_app (goodIn_of _ (by decide +kernel)) ggX5_hole_X2_hasHole
set_option maxRecDepth 20000 in
theorem ggX5_hole_X2_yearsKept : GoodIn wsX5_hole wsX2_yearsKept := goodIn_r _ [16, 17, 18, 19, 20, 21, 10, 22, 23, 24, 25, 26, 27, 28, 29, 30, 31, 32, 33, 34, 35, 36, 45, 46, 47, 48, 49] (by decide +kernel) (by decide +kernel)
set_option maxRecDepth 20000 in
theorem gX5_hole_X2_yearsKept : GoodIn wsX5_hole (wsV RX5 110 RX2 yX2_yearsKept wsX2_yearsKept) := goodIn_app (goodIn_of _ (by decide +kernel)) ggX5_hole_X2_yearsKept
theorem dX5_hole_0 : decode cX5_hole 0 = .ok (.aload_n 0, 1) := by decide +kernel
theorem dX5_hole_1 : decode cX5_hole 1 = .ok (.getfield 19, 3) := by decide +kernel
theorem dX5_hole_4 : decode cX5_hole 4 = .ok (.iload_n 1, 1) := by decide +kernel
theorem dX5_hole_5 : decode cX5_hole 5 = .ok (.invokevirtual 114, 3) := by decide +kernel
theorem dX5_hole_8 : decode cX5_hole 8 = .ok (.ifCond .ne 6, 3) := by decide +kernel
theorem dX5_hole_11 : decode cX5_hole 11 = .ok (.bipush (-101), 2) := by decide +kernel
theorem dX5_hole_13 : decode cX5_hole 13 = .ok (.ireturn, 1) := by decide +kernel
theorem dX5_hole_14 : decode cX5_hole 14 = .ok (.iload_n 2, 1) := by decide +kernel
theorem dX5_hole_15 : decode cX5_hole 15 = .ok (.tableswitch 99 0 4 #[33, 43, 53, 63, 73], 33) := by decide +kernel
theorem dX5_hole_48 : decode cX5_hole 48 = .ok (.aload_n 0, 1) := by decide +kernel
theorem dX5_hole_49 : decode cX5_hole 49 = .ok (.getfield 19, 3) := by decide +kernel
theorem dX5_hole_52 : decode cX5_hole 52 = .ok (.getfield 117, 3) := by decide +kernel
theorem dX5_hole_55 : decode cX5_hole 55 = .ok (.iload_n 1, 1) := by decide +kernel
theorem dX5_hole_56 : decode cX5_hole 56 = .ok (.iaload, 1) := by decide +kernel
theorem dX5_hole_57 : decode cX5_hole 57 = .ok (.ireturn, 1) := by decide +kernel
theorem dX5_hole_58 : decode cX5_hole 58 = .ok (.aload_n 0, 1) := by decide +kernel
theorem dX5_hole_59 : decode cX5_hole 59 = .ok (.getfield 26, 3) := by decide +kernel
theorem dX5_hole_62 : decode cX5_hole 62 = .ok (.getfield 120, 3) := by decide +kernel
theorem dX5_hole_65 : decode cX5_hole 65 = .ok (.iload_n 1, 1) := by decide +kernel
theorem dX5_hole_66 : decode cX5_hole 66 = .ok (.iaload, 1) := by decide +kernel
theorem dX5_hole_67 : decode cX5_hole 67 = .ok (.ireturn, 1) := by decide +kernel
theorem dX5_hole_68 : decode cX5_hole 68 = .ok (.aload_n 0, 1) := by decide +kernel
theorem dX5_hole_69 : decode cX5_hole 69 = .ok (.getfield 26, 3) := by decide +kernel
theorem dX5_hole_72 : decode cX5_hole 72 = .ok (.getfield 123, 3) := by decide +kernel
theorem dX5_hole_75 : decode cX5_hole 75 = .ok (.iload_n 1, 1) := by decide +kernel
theorem dX5_hole_76 : decode cX5_hole 76 = .ok (.iaload, 1) := by decide +kernel
theorem dX5_hole_77 : decode cX5_hole 77 = .ok (.ireturn, 1) := by decide +kernel
theorem dX5_hole_78 : decode cX5_hole 78 = .ok (.aload_n 0, 1) := by decide +kernel
theorem dX5_hole_79 : decode cX5_hole 79 = .ok (.getfield 26, 3) := by decide +kernel
theorem dX5_hole_82 : decode cX5_hole 82 = .ok (.getfield 126, 3) := by decide +kernel
theorem dX5_hole_85 : decode cX5_hole 85 = .ok (.iload_n 1, 1) := by decide +kernel
theorem dX5_hole_86 : decode cX5_hole 86 = .ok (.iaload, 1) := by decide +kernel
theorem dX5_hole_87 : decode cX5_hole 87 = .ok (.ireturn, 1) := by decide +kernel
theorem dX5_hole_88 : decode cX5_hole 88 = .ok (.aload_n 0, 1) := by decide +kernel
theorem dX5_hole_89 : decode cX5_hole 89 = .ok (.getfield 19, 3) := by decide +kernel
theorem dX5_hole_92 : decode cX5_hole 92 = .ok (.aload_n 0, 1) := by decide +kernel
theorem dX5_hole_93 : decode cX5_hole 93 = .ok (.getfield 26, 3) := by decide +kernel
theorem dX5_hole_96 : decode cX5_hole 96 = .ok (.getfield 120, 3) := by decide +kernel
theorem dX5_hole_99 : decode cX5_hole 99 = .ok (.iload_n 1, 1) := by decide +kernel
theorem dX5_hole_100 : decode cX5_hole 100 = .ok (.iaload, 1) := by decide +kernel
theorem dX5_hole_101 : decode cX5_hole 101 = .ok (.aload_n 0, 1) := by decide +kernel
theorem dX5_hole_102 : decode cX5_hole 102 = .ok (.getfield 19, 3) := by decide +kernel
theorem dX5_hole_105 : decode cX5_hole 105 = .ok (.getfield 117, 3) := by decide +kernel
theorem dX5_hole_108 : decode cX5_hole 108 = .ok (.iload_n 1, 1) := by decide +kernel
theorem dX5_hole_109 : decode cX5_hole 109 = .ok (.iaload, 1) := by decide +kernel
theorem dX5_hole_110 : decode cX5_hole 110 = .ok (.invokevirtual 110, 3) := by decide +kernel
theorem dX5_hole_113 : decode cX5_hole 113 = .ok (.ireturn, 1) := by decide +kernel
theorem dX5_hole_114 : decode cX5_hole 114 = .ok (.bipush (-102), 2) := by decide +kernel
theorem dX5_hole_116 : decode cX5_hole 116 = .ok (.ireturn, 1) := by decide +kernel
set_option maxRecDepth 20000 in
theorem ggX5_let_X2_hasHole : GoodIn wsX5_let wsX2_hasHole := goodIn_r _ [9, 10, 52, 53, 54, 55, 56] (by decide +kernel) (by decide +kernel)
set_option maxRecDepth 20000 in
theorem gX5_let_X2_hasHole : GoodIn wsX5_let (wsV RX5 114 RX2 yX2_hasHole wsX2_hasHole) := goodIn_app (goodIn_of _ (by decide +kernel)) ggX5_let_X2_hasHole
set_option maxRecDepth 20000 in
theorem ggX5_let_X2_hasKeeper : GoodIn wsX5_let wsX2_hasKeeper := goodIn_r _ [14, 15, 52, 53, 54, 55, 56] (by decide +kernel) (by decide +kernel)
set_option maxRecDepth 20000 in
theorem gX5_let_X2_hasKeeper : GoodIn wsX5_let (wsV RX5 80 RX2 yX2_hasKeeper wsX2_hasKeeper) := goodIn_app (goodIn_of _ (by decide +kernel)) ggX5_let_X2_hasKeeper
set_option maxRecDepth 20000 in
theorem ggX5_let_X0_roomOf : GoodIn wsX5_let wsX0_roomOf := goodIn_r _ [20, 21, 22, 23, 19, 24, 25, 26, 27, 28, 29, 30, 31, 32, 43, 44, 45, 46, 47, 48, 49, 50, 51] (by decide +kernel) (by decide +kernel)
set_option maxRecDepth 20000 in
theorem gX5_let_X0_roomOf : GoodIn wsX5_let (wsV RX5 129 RX0 yX0_roomOf wsX0_roomOf) := goodIn_app (goodIn_of _ (by decide +kernel)) ggX5_let_X0_roomOf
set_option maxRecDepth 20000 in
theorem ggX5_let_X0_holesOf : GoodIn wsX5_let wsX0_holesOf := goodIn_r _ [24, 25, 43, 44, 45, 46, 47, 48, 49, 50, 51] (by decide +kernel) (by decide +kernel)
set_option maxRecDepth 20000 in
theorem gX5_let_X0_holesOf : GoodIn wsX5_let (wsV RX5 90 RX0 yX0_holesOf wsX0_holesOf) := goodIn_app (goodIn_of _ (by decide +kernel)) ggX5_let_X0_holesOf
set_option maxRecDepth 20000 in
theorem ggX5_let_J6_bitCount_0f7a4 : GoodIn wsX5_let wsJ6_bitCount_0f7a4 := goodIn_r _ [29, 30, 31, 32] (by decide +kernel) (by decide +kernel)
set_option maxRecDepth 20000 in
theorem gX5_let_J6_bitCount_0f7a4 : GoodIn wsX5_let (va_wsS RX5 132 yJ6_bitCount_0f7a4 wsJ6_bitCount_0f7a4) := goodIn_app (goodIn_of _ (by decide +kernel)) ggX5_let_J6_bitCount_0f7a4
theorem dX5_let_0 : decode cX5_let 0 = .ok (.aload_n 0, 1) := by decide +kernel
theorem dX5_let_1 : decode cX5_let 1 = .ok (.getfield 19, 3) := by decide +kernel
theorem dX5_let_4 : decode cX5_let 4 = .ok (.iload_n 1, 1) := by decide +kernel
theorem dX5_let_5 : decode cX5_let 5 = .ok (.invokevirtual 114, 3) := by decide +kernel
theorem dX5_let_8 : decode cX5_let 8 = .ok (.ifCond .eq 14, 3) := by decide +kernel
theorem dX5_let_11 : decode cX5_let 11 = .ok (.aload_n 0, 1) := by decide +kernel
theorem dX5_let_12 : decode cX5_let 12 = .ok (.getfield 19, 3) := by decide +kernel
theorem dX5_let_15 : decode cX5_let 15 = .ok (.iload_n 2, 1) := by decide +kernel
theorem dX5_let_16 : decode cX5_let 16 = .ok (.invokevirtual 80, 3) := by decide +kernel
theorem dX5_let_19 : decode cX5_let 19 = .ok (.ifCond .ne 6, 3) := by decide +kernel
theorem dX5_let_22 : decode cX5_let 22 = .ok (.bipush (-101), 2) := by decide +kernel
theorem dX5_let_24 : decode cX5_let 24 = .ok (.ireturn, 1) := by decide +kernel
theorem dX5_let_25 : decode cX5_let 25 = .ok (.aload_n 0, 1) := by decide +kernel
theorem dX5_let_26 : decode cX5_let 26 = .ok (.getfield 26, 3) := by decide +kernel
theorem dX5_let_29 : decode cX5_let 29 = .ok (.getfield 123, 3) := by decide +kernel
theorem dX5_let_32 : decode cX5_let 32 = .ok (.iload_n 1, 1) := by decide +kernel
theorem dX5_let_33 : decode cX5_let 33 = .ok (.iaload, 1) := by decide +kernel
theorem dX5_let_34 : decode cX5_let 34 = .ok (.ifCond .ne 14, 3) := by decide +kernel
theorem dX5_let_37 : decode cX5_let 37 = .ok (.aload_n 0, 1) := by decide +kernel
theorem dX5_let_38 : decode cX5_let 38 = .ok (.getfield 26, 3) := by decide +kernel
theorem dX5_let_41 : decode cX5_let 41 = .ok (.iload_n 2, 1) := by decide +kernel
theorem dX5_let_42 : decode cX5_let 42 = .ok (.invokevirtual 129, 3) := by decide +kernel
theorem dX5_let_45 : decode cX5_let 45 = .ok (.ifCond .gt 6, 3) := by decide +kernel
theorem dX5_let_48 : decode cX5_let 48 = .ok (.bipush (-103), 2) := by decide +kernel
theorem dX5_let_50 : decode cX5_let 50 = .ok (.ireturn, 1) := by decide +kernel
theorem dX5_let_51 : decode cX5_let 51 = .ok (.aload_n 0, 1) := by decide +kernel
theorem dX5_let_52 : decode cX5_let 52 = .ok (.getfield 26, 3) := by decide +kernel
theorem dX5_let_55 : decode cX5_let 55 = .ok (.getfield 120, 3) := by decide +kernel
theorem dX5_let_58 : decode cX5_let 58 = .ok (.iload_n 1, 1) := by decide +kernel
theorem dX5_let_59 : decode cX5_let 59 = .ok (.iload_n 2, 1) := by decide +kernel
theorem dX5_let_60 : decode cX5_let 60 = .ok (.iastore, 1) := by decide +kernel
theorem dX5_let_61 : decode cX5_let 61 = .ok (.aload_n 0, 1) := by decide +kernel
theorem dX5_let_62 : decode cX5_let 62 = .ok (.getfield 26, 3) := by decide +kernel
theorem dX5_let_65 : decode cX5_let 65 = .ok (.getfield 123, 3) := by decide +kernel
theorem dX5_let_68 : decode cX5_let 68 = .ok (.iload_n 1, 1) := by decide +kernel
theorem dX5_let_69 : decode cX5_let 69 = .ok (.iconst 1, 1) := by decide +kernel
theorem dX5_let_70 : decode cX5_let 70 = .ok (.iastore, 1) := by decide +kernel
theorem dX5_let_71 : decode cX5_let 71 = .ok (.aload_n 0, 1) := by decide +kernel
theorem dX5_let_72 : decode cX5_let 72 = .ok (.getfield 26, 3) := by decide +kernel
theorem dX5_let_75 : decode cX5_let 75 = .ok (.iload_n 2, 1) := by decide +kernel
theorem dX5_let_76 : decode cX5_let 76 = .ok (.invokevirtual 90, 3) := by decide +kernel
theorem dX5_let_79 : decode cX5_let 79 = .ok (.invokestatic 132, 3) := by decide +kernel
theorem dX5_let_82 : decode cX5_let 82 = .ok (.ireturn, 1) := by decide +kernel
set_option maxRecDepth 20000 in
theorem ggX5_leave_X2_hasHole : GoodIn wsX5_leave wsX2_hasHole := goodIn_r _ [9, 10, 36, 37, 38, 39, 40] (by decide +kernel) (by decide +kernel)
set_option maxRecDepth 20000 in
theorem gX5_leave_X2_hasHole : GoodIn wsX5_leave (wsV RX5 114 RX2 yX2_hasHole wsX2_hasHole) := goodIn_app (goodIn_of _ (by decide +kernel)) ggX5_leave_X2_hasHole
set_option maxRecDepth 20000 in
theorem ggX5_leave_X0_empty : GoodIn wsX5_leave wsX0_empty := goodIn_r _ [15, 16, 17, 18, 27, 28, 29, 30, 31, 32, 33, 34, 35] (by decide +kernel) (by decide +kernel)
set_option maxRecDepth 20000 in
theorem gX5_leave_X0_empty : GoodIn wsX5_leave (wsV RX5 137 RX0 yX0_empty wsX0_empty) := goodIn_app (goodIn_of _ (by decide +kernel)) ggX5_leave_X0_empty
theorem dX5_leave_0 : decode cX5_leave 0 = .ok (.aload_n 0, 1) := by decide +kernel
theorem dX5_leave_1 : decode cX5_leave 1 = .ok (.getfield 19, 3) := by decide +kernel
theorem dX5_leave_4 : decode cX5_leave 4 = .ok (.iload_n 1, 1) := by decide +kernel
theorem dX5_leave_5 : decode cX5_leave 5 = .ok (.invokevirtual 114, 3) := by decide +kernel
theorem dX5_leave_8 : decode cX5_leave 8 = .ok (.ifCond .ne 6, 3) := by decide +kernel
theorem dX5_leave_11 : decode cX5_leave 11 = .ok (.bipush (-101), 2) := by decide +kernel
theorem dX5_leave_13 : decode cX5_leave 13 = .ok (.ireturn, 1) := by decide +kernel
theorem dX5_leave_14 : decode cX5_leave 14 = .ok (.aload_n 0, 1) := by decide +kernel
theorem dX5_leave_15 : decode cX5_leave 15 = .ok (.getfield 26, 3) := by decide +kernel
theorem dX5_leave_18 : decode cX5_leave 18 = .ok (.getfield 123, 3) := by decide +kernel
theorem dX5_leave_21 : decode cX5_leave 21 = .ok (.iload_n 1, 1) := by decide +kernel
theorem dX5_leave_22 : decode cX5_leave 22 = .ok (.iaload, 1) := by decide +kernel
theorem dX5_leave_23 : decode cX5_leave 23 = .ok (.iconst 1, 1) := by decide +kernel
theorem dX5_leave_24 : decode cX5_leave 24 = .ok (.if_icmp .eq 6, 3) := by decide +kernel
theorem dX5_leave_27 : decode cX5_leave 27 = .ok (.bipush (-103), 2) := by decide +kernel
theorem dX5_leave_29 : decode cX5_leave 29 = .ok (.ireturn, 1) := by decide +kernel
theorem dX5_leave_30 : decode cX5_leave 30 = .ok (.aload_n 0, 1) := by decide +kernel
theorem dX5_leave_31 : decode cX5_leave 31 = .ok (.getfield 26, 3) := by decide +kernel
theorem dX5_leave_34 : decode cX5_leave 34 = .ok (.getfield 126, 3) := by decide +kernel
theorem dX5_leave_37 : decode cX5_leave 37 = .ok (.iload_n 1, 1) := by decide +kernel
theorem dX5_leave_38 : decode cX5_leave 38 = .ok (.iaload, 1) := by decide +kernel
theorem dX5_leave_39 : decode cX5_leave 39 = .ok (.istore_n 2, 1) := by decide +kernel
theorem dX5_leave_40 : decode cX5_leave 40 = .ok (.aload_n 0, 1) := by decide +kernel
theorem dX5_leave_41 : decode cX5_leave 41 = .ok (.getfield 26, 3) := by decide +kernel
theorem dX5_leave_44 : decode cX5_leave 44 = .ok (.iload_n 1, 1) := by decide +kernel
theorem dX5_leave_45 : decode cX5_leave 45 = .ok (.iconst 0, 1) := by decide +kernel
theorem dX5_leave_46 : decode cX5_leave 46 = .ok (.invokevirtual 137, 3) := by decide +kernel
theorem dX5_leave_49 : decode cX5_leave 49 = .ok (.iload_n 2, 1) := by decide +kernel
theorem dX5_leave_50 : decode cX5_leave 50 = .ok (.ireturn, 1) := by decide +kernel
set_option maxRecDepth 20000 in
theorem ggX5_year_X2_stands : GoodIn wsX5_year wsX2_stands := goodIn_r _ [12, 13, 43, 44, 45, 46, 47] (by decide +kernel) (by decide +kernel)
set_option maxRecDepth 20000 in
theorem gX5_year_X2_stands : GoodIn wsX5_year (wsV RX5 141 RX2 yX2_stands wsX2_stands) := goodIn_app (goodIn_of _ (by decide +kernel)) ggX5_year_X2_stands
set_option maxRecDepth 20000 in
theorem ggX5_year_X2_hasKeeper : GoodIn wsX5_year wsX2_hasKeeper := goodIn_r _ [17, 13, 43, 44, 45, 46, 47] (by decide +kernel) (by decide +kernel)
set_option maxRecDepth 20000 in
theorem gX5_year_X2_hasKeeper : GoodIn wsX5_year (wsV RX5 80 RX2 yX2_hasKeeper wsX2_hasKeeper) := goodIn_app (goodIn_of _ (by decide +kernel)) ggX5_year_X2_hasKeeper
set_option maxRecDepth 20000 in
theorem ggX5_year_X2_eggsOfAYear : GoodIn wsX5_year wsX2_eggsOfAYear := goodIn_r _ [21, 22, 23, 15, 16, 11, 17, 13, 24, 25, 26, 43, 44, 45, 46, 47] (by decide +kernel) (by decide +kernel)
set_option maxRecDepth 20000 in
theorem gX5_year_X2_eggsOfAYear : GoodIn wsX5_year (wsV RX5 147 RX2 yX2_eggsOfAYear wsX2_eggsOfAYear) := goodIn_app (goodIn_of _ (by decide +kernel)) ggX5_year_X2_eggsOfAYear
set_option maxRecDepth 20000 in
theorem ggX5_year_X0_empty : GoodIn wsX5_year wsX0_empty := goodIn_r _ [31, 32, 33, 34, 48, 49, 50, 51, 52, 53, 54, 55, 56] (by decide +kernel) (by decide +kernel)
set_option maxRecDepth 20000 in
theorem gX5_year_X0_empty : GoodIn wsX5_year (wsV RX5 137 RX0 yX0_empty wsX0_empty) := goodIn_app (goodIn_of _ (by decide +kernel)) ggX5_year_X0_empty
theorem dX5_year_0 : decode cX5_year 0 = .ok (.iload_n 1, 1) := by decide +kernel
theorem dX5_year_1 : decode cX5_year 1 = .ok (.ifCond .lt 16, 3) := by decide +kernel
theorem dX5_year_4 : decode cX5_year 4 = .ok (.iload_n 1, 1) := by decide +kernel
theorem dX5_year_5 : decode cX5_year 5 = .ok (.iconst 1, 1) := by decide +kernel
theorem dX5_year_6 : decode cX5_year 6 = .ok (.aload_n 0, 1) := by decide +kernel
theorem dX5_year_7 : decode cX5_year 7 = .ok (.getfield 19, 3) := by decide +kernel
theorem dX5_year_10 : decode cX5_year 10 = .ok (.getfield 77, 3) := by decide +kernel
theorem dX5_year_13 : decode cX5_year 13 = .ok (.ishl, 1) := by decide +kernel
theorem dX5_year_14 : decode cX5_year 14 = .ok (.if_icmp .lt 6, 3) := by decide +kernel
theorem dX5_year_17 : decode cX5_year 17 = .ok (.bipush (-102), 2) := by decide +kernel
theorem dX5_year_19 : decode cX5_year 19 = .ok (.ireturn, 1) := by decide +kernel
theorem dX5_year_20 : decode cX5_year 20 = .ok (.aload_n 0, 1) := by decide +kernel
theorem dX5_year_21 : decode cX5_year 21 = .ok (.getfield 19, 3) := by decide +kernel
theorem dX5_year_24 : decode cX5_year 24 = .ok (.invokevirtual 141, 3) := by decide +kernel
theorem dX5_year_27 : decode cX5_year 27 = .ok (.ifCond .ne 6, 3) := by decide +kernel
theorem dX5_year_30 : decode cX5_year 30 = .ok (.bipush (-103), 2) := by decide +kernel
theorem dX5_year_32 : decode cX5_year 32 = .ok (.ireturn, 1) := by decide +kernel
theorem dX5_year_33 : decode cX5_year 33 = .ok (.aload_n 0, 1) := by decide +kernel
theorem dX5_year_34 : decode cX5_year 34 = .ok (.getfield 26, 3) := by decide +kernel
theorem dX5_year_37 : decode cX5_year 37 = .ok (.getfield 144, 3) := by decide +kernel
theorem dX5_year_40 : decode cX5_year 40 = .ok (.bipush 99, 2) := by decide +kernel
theorem dX5_year_42 : decode cX5_year 42 = .ok (.if_icmp .lt 6, 3) := by decide +kernel
theorem dX5_year_45 : decode cX5_year 45 = .ok (.bipush (-104), 2) := by decide +kernel
theorem dX5_year_47 : decode cX5_year 47 = .ok (.ireturn, 1) := by decide +kernel
theorem dX5_year_48 : decode cX5_year 48 = .ok (.aload_n 0, 1) := by decide +kernel
theorem dX5_year_49 : decode cX5_year 49 = .ok (.getfield 26, 3) := by decide +kernel
theorem dX5_year_52 : decode cX5_year 52 = .ok (.dup, 1) := by decide +kernel
theorem dX5_year_53 : decode cX5_year 53 = .ok (.getfield 144, 3) := by decide +kernel
theorem dX5_year_56 : decode cX5_year 56 = .ok (.iconst 1, 1) := by decide +kernel
theorem dX5_year_57 : decode cX5_year 57 = .ok (.iadd, 1) := by decide +kernel
theorem dX5_year_58 : decode cX5_year 58 = .ok (.putfield 144, 3) := by decide +kernel
theorem dX5_year_61 : decode cX5_year 61 = .ok (.iconst 0, 1) := by decide +kernel
theorem dX5_year_62 : decode cX5_year 62 = .ok (.istore_n 2, 1) := by decide +kernel
theorem dX5_year_63 : decode cX5_year 63 = .ok (.iconst 0, 1) := by decide +kernel
theorem dX5_year_64 : decode cX5_year 64 = .ok (.istore_n 3, 1) := by decide +kernel
theorem dX5_year_65 : decode cX5_year 65 = .ok (.iload_n 3, 1) := by decide +kernel
theorem dX5_year_66 : decode cX5_year 66 = .ok (.aload_n 0, 1) := by decide +kernel
theorem dX5_year_67 : decode cX5_year 67 = .ok (.getfield 19, 3) := by decide +kernel
theorem dX5_year_70 : decode cX5_year 70 = .ok (.getfield 77, 3) := by decide +kernel
theorem dX5_year_73 : decode cX5_year 73 = .ok (.if_icmp .ge 94, 3) := by decide +kernel
theorem dX5_year_76 : decode cX5_year 76 = .ok (.aload_n 0, 1) := by decide +kernel
theorem dX5_year_77 : decode cX5_year 77 = .ok (.getfield 26, 3) := by decide +kernel
theorem dX5_year_80 : decode cX5_year 80 = .ok (.getfield 120, 3) := by decide +kernel
theorem dX5_year_83 : decode cX5_year 83 = .ok (.iload_n 3, 1) := by decide +kernel
theorem dX5_year_84 : decode cX5_year 84 = .ok (.iaload, 1) := by decide +kernel
theorem dX5_year_85 : decode cX5_year 85 = .ok (.istore 4, 2) := by decide +kernel
theorem dX5_year_87 : decode cX5_year 87 = .ok (.aload_n 0, 1) := by decide +kernel
theorem dX5_year_88 : decode cX5_year 88 = .ok (.getfield 19, 3) := by decide +kernel
theorem dX5_year_91 : decode cX5_year 91 = .ok (.iload 4, 2) := by decide +kernel
theorem dX5_year_93 : decode cX5_year 93 = .ok (.invokevirtual 80, 3) := by decide +kernel
theorem dX5_year_96 : decode cX5_year 96 = .ok (.ifCond .ne 6, 3) := by decide +kernel
theorem dX5_year_99 : decode cX5_year 99 = .ok (.goto 62, 3) := by decide +kernel
theorem dX5_year_102 : decode cX5_year 102 = .ok (.iload_n 1, 1) := by decide +kernel
theorem dX5_year_103 : decode cX5_year 103 = .ok (.iload_n 3, 1) := by decide +kernel
theorem dX5_year_104 : decode cX5_year 104 = .ok (.ishr, 1) := by decide +kernel
theorem dX5_year_105 : decode cX5_year 105 = .ok (.iconst 1, 1) := by decide +kernel
theorem dX5_year_106 : decode cX5_year 106 = .ok (.iand, 1) := by decide +kernel
theorem dX5_year_107 : decode cX5_year 107 = .ok (.iconst 1, 1) := by decide +kernel
theorem dX5_year_108 : decode cX5_year 108 = .ok (.if_icmp .ne 30, 3) := by decide +kernel
theorem dX5_year_111 : decode cX5_year 111 = .ok (.iinc 2 1, 3) := by decide +kernel
theorem dX5_year_114 : decode cX5_year 114 = .ok (.aload_n 0, 1) := by decide +kernel
theorem dX5_year_115 : decode cX5_year 115 = .ok (.getfield 26, 3) := by decide +kernel
theorem dX5_year_118 : decode cX5_year 118 = .ok (.getfield 126, 3) := by decide +kernel
theorem dX5_year_121 : decode cX5_year 121 = .ok (.iload_n 3, 1) := by decide +kernel
theorem dX5_year_122 : decode cX5_year 122 = .ok (.dup2, 1) := by decide +kernel
theorem dX5_year_123 : decode cX5_year 123 = .ok (.iaload, 1) := by decide +kernel
theorem dX5_year_124 : decode cX5_year 124 = .ok (.aload_n 0, 1) := by decide +kernel
theorem dX5_year_125 : decode cX5_year 125 = .ok (.getfield 19, 3) := by decide +kernel
theorem dX5_year_128 : decode cX5_year 128 = .ok (.iload 4, 2) := by decide +kernel
theorem dX5_year_130 : decode cX5_year 130 = .ok (.invokevirtual 147, 3) := by decide +kernel
theorem dX5_year_133 : decode cX5_year 133 = .ok (.iadd, 1) := by decide +kernel
theorem dX5_year_134 : decode cX5_year 134 = .ok (.iastore, 1) := by decide +kernel
theorem dX5_year_135 : decode cX5_year 135 = .ok (.goto 26, 3) := by decide +kernel
theorem dX5_year_138 : decode cX5_year 138 = .ok (.aload_n 0, 1) := by decide +kernel
theorem dX5_year_139 : decode cX5_year 139 = .ok (.getfield 26, 3) := by decide +kernel
theorem dX5_year_142 : decode cX5_year 142 = .ok (.getfield 97, 3) := by decide +kernel
theorem dX5_year_145 : decode cX5_year 145 = .ok (.iload 4, 2) := by decide +kernel
theorem dX5_year_147 : decode cX5_year 147 = .ok (.dup2, 1) := by decide +kernel
theorem dX5_year_148 : decode cX5_year 148 = .ok (.iaload, 1) := by decide +kernel
theorem dX5_year_149 : decode cX5_year 149 = .ok (.iconst 1, 1) := by decide +kernel
theorem dX5_year_150 : decode cX5_year 150 = .ok (.iadd, 1) := by decide +kernel
theorem dX5_year_151 : decode cX5_year 151 = .ok (.iastore, 1) := by decide +kernel
theorem dX5_year_152 : decode cX5_year 152 = .ok (.aload_n 0, 1) := by decide +kernel
theorem dX5_year_153 : decode cX5_year 153 = .ok (.getfield 26, 3) := by decide +kernel
theorem dX5_year_156 : decode cX5_year 156 = .ok (.iload_n 3, 1) := by decide +kernel
theorem dX5_year_157 : decode cX5_year 157 = .ok (.iconst 2, 1) := by decide +kernel
theorem dX5_year_158 : decode cX5_year 158 = .ok (.invokevirtual 137, 3) := by decide +kernel
theorem dX5_year_161 : decode cX5_year 161 = .ok (.iinc 3 1, 3) := by decide +kernel
theorem dX5_year_164 : decode cX5_year 164 = .ok (.goto (-99), 3) := by decide +kernel
theorem dX5_year_167 : decode cX5_year 167 = .ok (.iload_n 2, 1) := by decide +kernel
theorem dX5_year_168 : decode cX5_year 168 = .ok (.ireturn, 1) := by decide +kernel
set_option maxRecDepth 20000 in
theorem ggX5_forgive_X0_empty : GoodIn wsX5_forgive wsX0_empty := goodIn_r _ [9, 10, 11, 12, 26, 27, 28, 29, 30, 31, 32, 33, 34] (by decide +kernel) (by decide +kernel)
set_option maxRecDepth 20000 in
theorem gX5_forgive_X0_empty : GoodIn wsX5_forgive (wsV RX5 137 RX0 yX0_empty wsX0_empty) := goodIn_app (goodIn_of _ (by decide +kernel)) ggX5_forgive_X0_empty
theorem dX5_forgive_0 : decode cX5_forgive 0 = .ok (.iconst 0, 1) := by decide +kernel
theorem dX5_forgive_1 : decode cX5_forgive 1 = .ok (.istore_n 1, 1) := by decide +kernel
theorem dX5_forgive_2 : decode cX5_forgive 2 = .ok (.iconst 0, 1) := by decide +kernel
theorem dX5_forgive_3 : decode cX5_forgive 3 = .ok (.istore_n 2, 1) := by decide +kernel
theorem dX5_forgive_4 : decode cX5_forgive 4 = .ok (.iload_n 2, 1) := by decide +kernel
theorem dX5_forgive_5 : decode cX5_forgive 5 = .ok (.aload_n 0, 1) := by decide +kernel
theorem dX5_forgive_6 : decode cX5_forgive 6 = .ok (.getfield 19, 3) := by decide +kernel
theorem dX5_forgive_9 : decode cX5_forgive 9 = .ok (.getfield 77, 3) := by decide +kernel
theorem dX5_forgive_12 : decode cX5_forgive 12 = .ok (.if_icmp .ge 34, 3) := by decide +kernel
theorem dX5_forgive_15 : decode cX5_forgive 15 = .ok (.aload_n 0, 1) := by decide +kernel
theorem dX5_forgive_16 : decode cX5_forgive 16 = .ok (.getfield 26, 3) := by decide +kernel
theorem dX5_forgive_19 : decode cX5_forgive 19 = .ok (.getfield 123, 3) := by decide +kernel
theorem dX5_forgive_22 : decode cX5_forgive 22 = .ok (.iload_n 2, 1) := by decide +kernel
theorem dX5_forgive_23 : decode cX5_forgive 23 = .ok (.iaload, 1) := by decide +kernel
theorem dX5_forgive_24 : decode cX5_forgive 24 = .ok (.iconst 2, 1) := by decide +kernel
theorem dX5_forgive_25 : decode cX5_forgive 25 = .ok (.if_icmp .ne 15, 3) := by decide +kernel
theorem dX5_forgive_28 : decode cX5_forgive 28 = .ok (.aload_n 0, 1) := by decide +kernel
theorem dX5_forgive_29 : decode cX5_forgive 29 = .ok (.getfield 26, 3) := by decide +kernel
theorem dX5_forgive_32 : decode cX5_forgive 32 = .ok (.iload_n 2, 1) := by decide +kernel
theorem dX5_forgive_33 : decode cX5_forgive 33 = .ok (.iconst 0, 1) := by decide +kernel
theorem dX5_forgive_34 : decode cX5_forgive 34 = .ok (.invokevirtual 137, 3) := by decide +kernel
theorem dX5_forgive_37 : decode cX5_forgive 37 = .ok (.iinc 1 1, 3) := by decide +kernel
