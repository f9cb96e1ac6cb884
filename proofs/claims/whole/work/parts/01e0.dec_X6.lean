theorem dX6_init_0 : decode cX6_init 0 = .ok (.aload_n 0, 1) := by decide +kernel
theorem dX6_init_1 : decode cX6_init 1 = .ok (.invokespecial 1, 3) := by decide +kernel
theorem dX6_init_4 : decode cX6_init 4 = .ok (.aload_n 0, 1) := by decide +kernel
theorem dX6_init_5 : decode cX6_init 5 = .ok (.bipush 6, 2) := by decide +kernel
theorem dX6_init_7 : decode cX6_init 7 = .ok (.newarray .int, 2) := by decide +kernel
theorem dX6_init_9 : decode cX6_init 9 = .ok (.putfield 7, 3) := by decide +kernel
theorem dX6_init_12 : decode cX6_init 12 = .ok (.aload_n 0, 1) := by decide +kernel
theorem dX6_init_13 : decode cX6_init 13 = .ok (.bipush 6, 2) := by decide +kernel
theorem dX6_init_15 : decode cX6_init 15 = .ok (.newarray .int, 2) := by decide +kernel
theorem dX6_init_17 : decode cX6_init 17 = .ok (.putfield 13, 3) := by decide +kernel
theorem dX6_init_20 : decode cX6_init 20 = .ok (.aload_n 0, 1) := by decide +kernel
theorem dX6_init_21 : decode cX6_init 21 = .ok (.bipush 30, 2) := by decide +kernel
theorem dX6_init_23 : decode cX6_init 23 = .ok (.newarray .int, 2) := by decide +kernel
theorem dX6_init_25 : decode cX6_init 25 = .ok (.putfield 16, 3) := by decide +kernel
theorem dX6_init_28 : decode cX6_init 28 = .ok (.aload_n 0, 1) := by decide +kernel
theorem dX6_init_29 : decode cX6_init 29 = .ok (.bipush 18, 2) := by decide +kernel
theorem dX6_init_31 : decode cX6_init 31 = .ok (.newarray .int, 2) := by decide +kernel
theorem dX6_init_33 : decode cX6_init 33 = .ok (.putfield 19, 3) := by decide +kernel
theorem dX6_init_36 : decode cX6_init 36 = .ok (.aload_n 0, 1) := by decide +kernel
theorem dX6_init_37 : decode cX6_init 37 = .ok (.bipush 6, 2) := by decide +kernel
theorem dX6_init_39 : decode cX6_init 39 = .ok (.newarray .int, 2) := by decide +kernel
theorem dX6_init_41 : decode cX6_init 41 = .ok (.putfield 22, 3) := by decide +kernel
theorem dX6_init_44 : decode cX6_init 44 = .ok (.aload_n 0, 1) := by decide +kernel
theorem dX6_init_45 : decode cX6_init 45 = .ok (.bipush 56, 2) := by decide +kernel
theorem dX6_init_47 : decode cX6_init 47 = .ok (.newarray .int, 2) := by decide +kernel
theorem dX6_init_49 : decode cX6_init 49 = .ok (.putfield 25, 3) := by decide +kernel
theorem dX6_init_52 : decode cX6_init 52 = .ok (.aload_n 0, 1) := by decide +kernel
theorem dX6_init_53 : decode cX6_init 53 = .ok (.sipush 210, 3) := by decide +kernel
theorem dX6_init_56 : decode cX6_init 56 = .ok (.newarray .int, 2) := by decide +kernel
theorem dX6_init_58 : decode cX6_init 58 = .ok (.putfield 28, 3) := by decide +kernel
theorem dX6_init_61 : decode cX6_init 61 = .ok (.aload_n 0, 1) := by decide +kernel
theorem dX6_init_62 : decode cX6_init 62 = .ok (.bipush 6, 2) := by decide +kernel
theorem dX6_init_64 : decode cX6_init 64 = .ok (.newarray .int, 2) := by decide +kernel
theorem dX6_init_66 : decode cX6_init 66 = .ok (.putfield 31, 3) := by decide +kernel
theorem dX6_init_69 : decode cX6_init 69 = .ok (.aload_n 0, 1) := by decide +kernel
theorem dX6_init_70 : decode cX6_init 70 = .ok (.bipush 6, 2) := by decide +kernel
theorem dX6_init_72 : decode cX6_init 72 = .ok (.newarray .int, 2) := by decide +kernel
theorem dX6_init_74 : decode cX6_init 74 = .ok (.putfield 34, 3) := by decide +kernel
theorem dX6_init_77 : decode cX6_init 77 = .ok (.aload_n 0, 1) := by decide +kernel
theorem dX6_init_78 : decode cX6_init 78 = .ok (.bipush 6, 2) := by decide +kernel
theorem dX6_init_80 : decode cX6_init 80 = .ok (.newarray .int, 2) := by decide +kernel
theorem dX6_init_82 : decode cX6_init 82 = .ok (.putfield 37, 3) := by decide +kernel
theorem dX6_init_85 : decode cX6_init 85 = .ok (.aload_n 0, 1) := by decide +kernel
theorem dX6_init_86 : decode cX6_init 86 = .ok (.iconst 2, 1) := by decide +kernel
theorem dX6_init_87 : decode cX6_init 87 = .ok (.newarray .boolean, 2) := by decide +kernel
theorem dX6_init_89 : decode cX6_init 89 = .ok (.putfield 40, 3) := by decide +kernel
theorem dX6_init_92 : decode cX6_init 92 = .ok (.aload_n 0, 1) := by decide +kernel
theorem dX6_init_93 : decode cX6_init 93 = .ok (.bipush 30, 2) := by decide +kernel
theorem dX6_init_95 : decode cX6_init 95 = .ok (.newarray .int, 2) := by decide +kernel
theorem dX6_init_97 : decode cX6_init 97 = .ok (.putfield 44, 3) := by decide +kernel
theorem dX6_init_100 : decode cX6_init 100 = .ok (.aload_n 0, 1) := by decide +kernel
theorem dX6_init_101 : decode cX6_init 101 = .ok (.iconst 1, 1) := by decide +kernel
theorem dX6_init_102 : decode cX6_init 102 = .ok (.putfield 47, 3) := by decide +kernel
theorem dX6_init_105 : decode cX6_init 105 = .ok (.return_, 1) := by decide +kernel
theorem dX6_in_0 : decode cX6_in 0 = .ok (.lload_n 0, 1) := by decide +kernel
theorem dX6_in_1 : decode cX6_in 1 = .ok (.lload_n 2, 1) := by decide +kernel
theorem dX6_in_2 : decode cX6_in 2 = .ok (.lcmp, 1) := by decide +kernel
theorem dX6_in_3 : decode cX6_in 3 = .ok (.ifCond .lt 14, 3) := by decide +kernel
theorem dX6_in_6 : decode cX6_in 6 = .ok (.lload_n 0, 1) := by decide +kernel
theorem dX6_in_7 : decode cX6_in 7 = .ok (.lload 4, 2) := by decide +kernel
theorem dX6_in_9 : decode cX6_in 9 = .ok (.lcmp, 1) := by decide +kernel
theorem dX6_in_10 : decode cX6_in 10 = .ok (.ifCond .gt 7, 3) := by decide +kernel
theorem dX6_in_13 : decode cX6_in 13 = .ok (.iconst 1, 1) := by decide +kernel
theorem dX6_in_14 : decode cX6_in 14 = .ok (.goto 4, 3) := by decide +kernel
theorem dX6_in_17 : decode cX6_in 17 = .ok (.iconst 0, 1) := by decide +kernel
theorem dX6_in_18 : decode cX6_in 18 = .ok (.ireturn, 1) := by decide +kernel
theorem dX6_has_0 : decode cX6_has 0 = .ok (.iload_n 0, 1) := by decide +kernel
theorem dX6_has_1 : decode cX6_has 1 = .ok (.iload_n 1, 1) := by decide +kernel
theorem dX6_has_2 : decode cX6_has 2 = .ok (.ishr, 1) := by decide +kernel
theorem dX6_has_3 : decode cX6_has 3 = .ok (.iconst 1, 1) := by decide +kernel
theorem dX6_has_4 : decode cX6_has 4 = .ok (.iand, 1) := by decide +kernel
theorem dX6_has_5 : decode cX6_has 5 = .ok (.iconst 1, 1) := by decide +kernel
theorem dX6_has_6 : decode cX6_has 6 = .ok (.if_icmp .ne 7, 3) := by decide +kernel
theorem dX6_has_9 : decode cX6_has 9 = .ok (.iconst 1, 1) := by decide +kernel
theorem dX6_has_10 : decode cX6_has 10 = .ok (.goto 4, 3) := by decide +kernel
theorem dX6_has_13 : decode cX6_has 13 = .ok (.iconst 0, 1) := by decide +kernel
theorem dX6_has_14 : decode cX6_has 14 = .ok (.ireturn, 1) := by decide +kernel
theorem dX6_ones_0 : decode cX6_ones 0 = .ok (.iconst 0, 1) := by decide +kernel
theorem dX6_ones_1 : decode cX6_ones 1 = .ok (.istore_n 1, 1) := by decide +kernel
theorem dX6_ones_2 : decode cX6_ones 2 = .ok (.iconst 0, 1) := by decide +kernel
theorem dX6_ones_3 : decode cX6_ones 3 = .ok (.istore_n 2, 1) := by decide +kernel
theorem dX6_ones_4 : decode cX6_ones 4 = .ok (.iload_n 2, 1) := by decide +kernel
theorem dX6_ones_5 : decode cX6_ones 5 = .ok (.bipush 6, 2) := by decide +kernel
theorem dX6_ones_7 : decode cX6_ones 7 = .ok (.if_icmp .ge 17, 3) := by decide +kernel
theorem dX6_ones_10 : decode cX6_ones 10 = .ok (.iload_n 1, 1) := by decide +kernel
theorem dX6_ones_11 : decode cX6_ones 11 = .ok (.iload_n 0, 1) := by decide +kernel
theorem dX6_ones_12 : decode cX6_ones 12 = .ok (.iload_n 2, 1) := by decide +kernel
theorem dX6_ones_13 : decode cX6_ones 13 = .ok (.ishr, 1) := by decide +kernel
theorem dX6_ones_14 : decode cX6_ones 14 = .ok (.iconst 1, 1) := by decide +kernel
theorem dX6_ones_15 : decode cX6_ones 15 = .ok (.iand, 1) := by decide +kernel
theorem dX6_ones_16 : decode cX6_ones 16 = .ok (.iadd, 1) := by decide +kernel
theorem dX6_ones_17 : decode cX6_ones 17 = .ok (.istore_n 1, 1) := by decide +kernel
theorem dX6_ones_18 : decode cX6_ones 18 = .ok (.iinc 2 1, 3) := by decide +kernel
theorem dX6_ones_21 : decode cX6_ones 21 = .ok (.goto (-17), 3) := by decide +kernel
theorem dX6_ones_24 : decode cX6_ones 24 = .ok (.iload_n 1, 1) := by decide +kernel
theorem dX6_ones_25 : decode cX6_ones 25 = .ok (.ireturn, 1) := by decide +kernel
set_option maxRecDepth 20000 in
theorem ggX6_write_X6_in : GoodIn wsX6_write wsX6_in := goodIn_r _ [7] (by decide +kernel) (by decide +kernel)
set_option maxRecDepth 20000 in
theorem gX6_write_X6_in : GoodIn wsX6_write (va_wsS RX6 53 yX6_in wsX6_in) := goodIn_app (goodIn_of _ (by decide +kernel)) ggX6_write_X6_in
theorem dX6_write_0 : decode cX6_write 0 = .ok (.iload_n 1, 1) := by decide +kernel
theorem dX6_write_1 : decode cX6_write 1 = .ok (.i2l, 1) := by decide +kernel
theorem dX6_write_2 : decode cX6_write 2 = .ok (.lconst 0, 1) := by decide +kernel
theorem dX6_write_3 : decode cX6_write 3 = .ok (.ldc2_w 51, 3) := by decide +kernel
theorem dX6_write_6 : decode cX6_write 6 = .ok (.invokestatic 53, 3) := by decide +kernel
theorem dX6_write_9 : decode cX6_write 9 = .ok (.ifCond .ne 6, 3) := by decide +kernel
theorem dX6_write_12 : decode cX6_write 12 = .ok (.bipush (-2), 2) := by decide +kernel
theorem dX6_write_14 : decode cX6_write 14 = .ok (.ireturn, 1) := by decide +kernel
theorem dX6_write_15 : decode cX6_write 15 = .ok (.aload_n 0, 1) := by decide +kernel
theorem dX6_write_16 : decode cX6_write 16 = .ok (.getfield 57, 3) := by decide +kernel
theorem dX6_write_19 : decode cX6_write 19 = .ok (.bipush 56, 2) := by decide +kernel
theorem dX6_write_21 : decode cX6_write 21 = .ok (.if_icmp .ne 6, 3) := by decide +kernel
theorem dX6_write_24 : decode cX6_write 24 = .ok (.bipush (-4), 2) := by decide +kernel
theorem dX6_write_26 : decode cX6_write 26 = .ok (.ireturn, 1) := by decide +kernel
theorem dX6_write_27 : decode cX6_write 27 = .ok (.aload_n 0, 1) := by decide +kernel
theorem dX6_write_28 : decode cX6_write 28 = .ok (.getfield 25, 3) := by decide +kernel
theorem dX6_write_31 : decode cX6_write 31 = .ok (.aload_n 0, 1) := by decide +kernel
theorem dX6_write_32 : decode cX6_write 32 = .ok (.getfield 57, 3) := by decide +kernel
theorem dX6_write_35 : decode cX6_write 35 = .ok (.iload_n 1, 1) := by decide +kernel
theorem dX6_write_36 : decode cX6_write 36 = .ok (.iastore, 1) := by decide +kernel
theorem dX6_write_37 : decode cX6_write 37 = .ok (.aload_n 0, 1) := by decide +kernel
theorem dX6_write_38 : decode cX6_write 38 = .ok (.dup, 1) := by decide +kernel
theorem dX6_write_39 : decode cX6_write 39 = .ok (.getfield 57, 3) := by decide +kernel
theorem dX6_write_42 : decode cX6_write 42 = .ok (.iconst 1, 1) := by decide +kernel
theorem dX6_write_43 : decode cX6_write 43 = .ok (.iadd, 1) := by decide +kernel
theorem dX6_write_44 : decode cX6_write 44 = .ok (.putfield 57, 3) := by decide +kernel
theorem dX6_write_47 : decode cX6_write 47 = .ok (.aload_n 0, 1) := by decide +kernel
theorem dX6_write_48 : decode cX6_write 48 = .ok (.getfield 57, 3) := by decide +kernel
theorem dX6_write_51 : decode cX6_write 51 = .ok (.ireturn, 1) := by decide +kernel
theorem dX6_wipe_0 : decode cX6_wipe 0 = .ok (.aload_n 0, 1) := by decide +kernel
theorem dX6_wipe_1 : decode cX6_wipe 1 = .ok (.getfield 57, 3) := by decide +kernel
theorem dX6_wipe_4 : decode cX6_wipe 4 = .ok (.istore_n 1, 1) := by decide +kernel
theorem dX6_wipe_5 : decode cX6_wipe 5 = .ok (.aload_n 0, 1) := by decide +kernel
theorem dX6_wipe_6 : decode cX6_wipe 6 = .ok (.iconst 0, 1) := by decide +kernel
theorem dX6_wipe_7 : decode cX6_wipe 7 = .ok (.putfield 57, 3) := by decide +kernel
theorem dX6_wipe_10 : decode cX6_wipe 10 = .ok (.iload_n 1, 1) := by decide +kernel
theorem dX6_wipe_11 : decode cX6_wipe 11 = .ok (.ireturn, 1) := by decide +kernel
set_option maxRecDepth 20000 in
theorem ggX6_figureOf_X6_in : GoodIn wsX6_figureOf wsX6_in := goodIn_r _ [9] (by decide +kernel) (by decide +kernel)
set_option maxRecDepth 20000 in
theorem gX6_figureOf_X6_in : GoodIn wsX6_figureOf (va_wsS RX6 53 yX6_in wsX6_in) := goodIn_app (goodIn_of _ (by decide +kernel)) ggX6_figureOf_X6_in
set_option maxRecDepth 20000 in
theorem ggX6_figureOf_X6_has : GoodIn wsX6_figureOf wsX6_has := goodIn_r _ [12] (by decide +kernel) (by decide +kernel)
set_option maxRecDepth 20000 in
theorem gX6_figureOf_X6_has : GoodIn wsX6_figureOf (va_wsS RX6 68 yX6_has wsX6_has) := goodIn_app (goodIn_of _ (by decide +kernel)) ggX6_figureOf_X6_has
theorem dX6_figureOf_0 : decode cX6_figureOf 0 = .ok (.aload_n 0, 1) := by decide +kernel
theorem dX6_figureOf_1 : decode cX6_figureOf 1 = .ok (.getfield 60, 3) := by decide +kernel
theorem dX6_figureOf_4 : decode cX6_figureOf 4 = .ok (.bipush (-9), 2) := by decide +kernel
theorem dX6_figureOf_6 : decode cX6_figureOf 6 = .ok (.if_icmp .ne 29, 3) := by decide +kernel
theorem dX6_figureOf_9 : decode cX6_figureOf 9 = .ok (.aload_n 0, 1) := by decide +kernel
theorem dX6_figureOf_10 : decode cX6_figureOf 10 = .ok (.getfield 63, 3) := by decide +kernel
theorem dX6_figureOf_13 : decode cX6_figureOf 13 = .ok (.aload_n 0, 1) := by decide +kernel
theorem dX6_figureOf_14 : decode cX6_figureOf 14 = .ok (.getfield 57, 3) := by decide +kernel
theorem dX6_figureOf_17 : decode cX6_figureOf 17 = .ok (.if_icmp .ge 18, 3) := by decide +kernel
theorem dX6_figureOf_20 : decode cX6_figureOf 20 = .ok (.aload_n 0, 1) := by decide +kernel
theorem dX6_figureOf_21 : decode cX6_figureOf 21 = .ok (.getfield 25, 3) := by decide +kernel
theorem dX6_figureOf_24 : decode cX6_figureOf 24 = .ok (.aload_n 0, 1) := by decide +kernel
theorem dX6_figureOf_25 : decode cX6_figureOf 25 = .ok (.getfield 63, 3) := by decide +kernel
theorem dX6_figureOf_28 : decode cX6_figureOf 28 = .ok (.iaload, 1) := by decide +kernel
theorem dX6_figureOf_29 : decode cX6_figureOf 29 = .ok (.bipush 48, 2) := by decide +kernel
theorem dX6_figureOf_31 : decode cX6_figureOf 31 = .ok (.isub, 1) := by decide +kernel
theorem dX6_figureOf_32 : decode cX6_figureOf 32 = .ok (.goto 5, 3) := by decide +kernel
theorem dX6_figureOf_35 : decode cX6_figureOf 35 = .ok (.bipush (-9), 2) := by decide +kernel
theorem dX6_figureOf_37 : decode cX6_figureOf 37 = .ok (.istore_n 2, 1) := by decide +kernel
theorem dX6_figureOf_38 : decode cX6_figureOf 38 = .ok (.iload_n 2, 1) := by decide +kernel
theorem dX6_figureOf_39 : decode cX6_figureOf 39 = .ok (.i2l, 1) := by decide +kernel
theorem dX6_figureOf_40 : decode cX6_figureOf 40 = .ok (.lconst 0, 1) := by decide +kernel
theorem dX6_figureOf_41 : decode cX6_figureOf 41 = .ok (.ldc2_w 66, 3) := by decide +kernel
theorem dX6_figureOf_44 : decode cX6_figureOf 44 = .ok (.invokestatic 53, 3) := by decide +kernel
theorem dX6_figureOf_47 : decode cX6_figureOf 47 = .ok (.ifCond .eq 11, 3) := by decide +kernel
theorem dX6_figureOf_50 : decode cX6_figureOf 50 = .ok (.iload_n 1, 1) := by decide +kernel
theorem dX6_figureOf_51 : decode cX6_figureOf 51 = .ok (.iload_n 2, 1) := by decide +kernel
theorem dX6_figureOf_52 : decode cX6_figureOf 52 = .ok (.invokestatic 68, 3) := by decide +kernel
theorem dX6_figureOf_55 : decode cX6_figureOf 55 = .ok (.ifCond .ne 29, 3) := by decide +kernel
theorem dX6_figureOf_58 : decode cX6_figureOf 58 = .ok (.aload_n 0, 1) := by decide +kernel
theorem dX6_figureOf_59 : decode cX6_figureOf 59 = .ok (.aload_n 0, 1) := by decide +kernel
theorem dX6_figureOf_60 : decode cX6_figureOf 60 = .ok (.getfield 60, 3) := by decide +kernel
theorem dX6_figureOf_63 : decode cX6_figureOf 63 = .ok (.bipush (-9), 2) := by decide +kernel
theorem dX6_figureOf_65 : decode cX6_figureOf 65 = .ok (.if_icmp .ne 10, 3) := by decide +kernel
theorem dX6_figureOf_68 : decode cX6_figureOf 68 = .ok (.aload_n 0, 1) := by decide +kernel
theorem dX6_figureOf_69 : decode cX6_figureOf 69 = .ok (.getfield 63, 3) := by decide +kernel
theorem dX6_figureOf_72 : decode cX6_figureOf 72 = .ok (.goto 7, 3) := by decide +kernel
theorem dX6_figureOf_75 : decode cX6_figureOf 75 = .ok (.aload_n 0, 1) := by decide +kernel
theorem dX6_figureOf_76 : decode cX6_figureOf 76 = .ok (.getfield 60, 3) := by decide +kernel
theorem dX6_figureOf_79 : decode cX6_figureOf 79 = .ok (.putfield 60, 3) := by decide +kernel
theorem dX6_figureOf_82 : decode cX6_figureOf 82 = .ok (.iconst 0, 1) := by decide +kernel
theorem dX6_figureOf_83 : decode cX6_figureOf 83 = .ok (.ireturn, 1) := by decide +kernel
theorem dX6_figureOf_84 : decode cX6_figureOf 84 = .ok (.aload_n 0, 1) := by decide +kernel
theorem dX6_figureOf_85 : decode cX6_figureOf 85 = .ok (.dup, 1) := by decide +kernel
theorem dX6_figureOf_86 : decode cX6_figureOf 86 = .ok (.getfield 63, 3) := by decide +kernel
theorem dX6_figureOf_89 : decode cX6_figureOf 89 = .ok (.iconst 1, 1) := by decide +kernel
theorem dX6_figureOf_90 : decode cX6_figureOf 90 = .ok (.iadd, 1) := by decide +kernel
theorem dX6_figureOf_91 : decode cX6_figureOf 91 = .ok (.putfield 63, 3) := by decide +kernel
theorem dX6_figureOf_94 : decode cX6_figureOf 94 = .ok (.iload_n 2, 1) := by decide +kernel
theorem dX6_figureOf_95 : decode cX6_figureOf 95 = .ok (.ireturn, 1) := by decide +kernel
theorem dX6_left_0 : decode cX6_left 0 = .ok (.iconst 1, 1) := by decide +kernel
theorem dX6_left_1 : decode cX6_left 1 = .ok (.aload_n 0, 1) := by decide +kernel
theorem dX6_left_2 : decode cX6_left 2 = .ok (.getfield 72, 3) := by decide +kernel
theorem dX6_left_5 : decode cX6_left 5 = .ok (.ishl, 1) := by decide +kernel
theorem dX6_left_6 : decode cX6_left 6 = .ok (.iconst 1, 1) := by decide +kernel
theorem dX6_left_7 : decode cX6_left 7 = .ok (.isub, 1) := by decide +kernel
theorem dX6_left_8 : decode cX6_left 8 = .ok (.aload_n 0, 1) := by decide +kernel
theorem dX6_left_9 : decode cX6_left 9 = .ok (.getfield 22, 3) := by decide +kernel
theorem dX6_left_12 : decode cX6_left 12 = .ok (.iload_n 1, 1) := by decide +kernel
theorem dX6_left_13 : decode cX6_left 13 = .ok (.iaload, 1) := by decide +kernel
theorem dX6_left_14 : decode cX6_left 14 = .ok (.iconst (-1), 1) := by decide +kernel
theorem dX6_left_15 : decode cX6_left 15 = .ok (.ixor, 1) := by decide +kernel
theorem dX6_left_16 : decode cX6_left 16 = .ok (.iand, 1) := by decide +kernel
theorem dX6_left_17 : decode cX6_left 17 = .ok (.iconst 1, 1) := by decide +kernel
theorem dX6_left_18 : decode cX6_left 18 = .ok (.iload_n 1, 1) := by decide +kernel
theorem dX6_left_19 : decode cX6_left 19 = .ok (.ishl, 1) := by decide +kernel
theorem dX6_left_20 : decode cX6_left 20 = .ok (.iconst (-1), 1) := by decide +kernel
theorem dX6_left_21 : decode cX6_left 21 = .ok (.ixor, 1) := by decide +kernel
theorem dX6_left_22 : decode cX6_left 22 = .ok (.iand, 1) := by decide +kernel
theorem dX6_left_23 : decode cX6_left 23 = .ok (.ireturn, 1) := by decide +kernel
set_option maxRecDepth 20000 in
theorem ggX6_firstsLeft_X6_left : GoodIn wsX6_firstsLeft wsX6_left := goodIn_r _ [6, 1, 7, 8, 9, 10, 11, 12, 13, 14, 15, 16, 17, 18, 19, 20, 21, 22, 23, 24, 25, 26, 27, 28, 29, 30, 31] (by decide +kernel) (by decide +kernel)
set_option maxRecDepth 20000 in
theorem gX6_firstsLeft_X6_left : GoodIn wsX6_firstsLeft (wsV RX6 75 RX6 yX6_left wsX6_left) := goodIn_app (goodIn_of _ (by decide +kernel)) ggX6_firstsLeft_X6_left
theorem dX6_firstsLeft_0 : decode cX6_firstsLeft 0 = .ok (.iconst 0, 1) := by decide +kernel
theorem dX6_firstsLeft_1 : decode cX6_firstsLeft 1 = .ok (.istore_n 1, 1) := by decide +kernel
theorem dX6_firstsLeft_2 : decode cX6_firstsLeft 2 = .ok (.iconst 0, 1) := by decide +kernel
theorem dX6_firstsLeft_3 : decode cX6_firstsLeft 3 = .ok (.istore_n 2, 1) := by decide +kernel
theorem dX6_firstsLeft_4 : decode cX6_firstsLeft 4 = .ok (.iload_n 2, 1) := by decide +kernel
theorem dX6_firstsLeft_5 : decode cX6_firstsLeft 5 = .ok (.aload_n 0, 1) := by decide +kernel
theorem dX6_firstsLeft_6 : decode cX6_firstsLeft 6 = .ok (.getfield 72, 3) := by decide +kernel
theorem dX6_firstsLeft_9 : decode cX6_firstsLeft 9 = .ok (.if_icmp .ge 27, 3) := by decide +kernel
theorem dX6_firstsLeft_12 : decode cX6_firstsLeft 12 = .ok (.iload_n 1, 1) := by decide +kernel
theorem dX6_firstsLeft_13 : decode cX6_firstsLeft 13 = .ok (.aload_n 0, 1) := by decide +kernel
theorem dX6_firstsLeft_14 : decode cX6_firstsLeft 14 = .ok (.iload_n 2, 1) := by decide +kernel
theorem dX6_firstsLeft_15 : decode cX6_firstsLeft 15 = .ok (.invokevirtual 75, 3) := by decide +kernel
theorem dX6_firstsLeft_18 : decode cX6_firstsLeft 18 = .ok (.ifCond .eq 9, 3) := by decide +kernel
theorem dX6_firstsLeft_21 : decode cX6_firstsLeft 21 = .ok (.iconst 1, 1) := by decide +kernel
theorem dX6_firstsLeft_22 : decode cX6_firstsLeft 22 = .ok (.iload_n 2, 1) := by decide +kernel
theorem dX6_firstsLeft_23 : decode cX6_firstsLeft 23 = .ok (.ishl, 1) := by decide +kernel
theorem dX6_firstsLeft_24 : decode cX6_firstsLeft 24 = .ok (.goto 4, 3) := by decide +kernel
theorem dX6_firstsLeft_27 : decode cX6_firstsLeft 27 = .ok (.iconst 0, 1) := by decide +kernel
theorem dX6_firstsLeft_28 : decode cX6_firstsLeft 28 = .ok (.ior, 1) := by decide +kernel
theorem dX6_firstsLeft_29 : decode cX6_firstsLeft 29 = .ok (.istore_n 1, 1) := by decide +kernel
theorem dX6_firstsLeft_30 : decode cX6_firstsLeft 30 = .ok (.iinc 2 1, 3) := by decide +kernel
theorem dX6_firstsLeft_33 : decode cX6_firstsLeft 33 = .ok (.goto (-29), 3) := by decide +kernel
theorem dX6_firstsLeft_36 : decode cX6_firstsLeft 36 = .ok (.iload_n 1, 1) := by decide +kernel
theorem dX6_firstsLeft_37 : decode cX6_firstsLeft 37 = .ok (.ireturn, 1) := by decide +kernel
set_option maxRecDepth 20000 in
theorem ggX6_readText_X6_figureOf : GoodIn wsX6_readText wsX6_figureOf := goodIn_r _ [12, 2, 1, 5, 6, 13, 14, 15, 11, 16, 17, 18, 19, 33, 34, 35, 36, 37, 38, 39, 40, 41, 42, 43, 44, 45, 46, 47, 48, 49, 50, 51, 52, 53, 54, 55, 56] (by decide +kernel) (by decide +kernel)
set_option maxRecDepth 20000 in
theorem gX6_readText_X6_figureOf : GoodIn wsX6_readText (wsV RX6 79 RX6 yX6_figureOf wsX6_figureOf) := goodIn_app (goodIn_of _ (by decide +kernel)) ggX6_readText_X6_figureOf
set_option maxRecDepth 20000 in
theorem ggX6_readText_X6_readPart : GoodIn wsX6_readText wsX6_readPart := goodIn_r _ [23, 3, 1, 24, 4, 2, 8, 9, 10, 11, 12, 5, 6, 13, 14, 15, 16, 17, 18, 19, 25, 26, 27, 28, 29, 30, 31, 32, 33, 34, 35, 36, 37, 38, 39, 40, 41, 42, 43, 44, 45, 46, 47, 48, 49, 50, 51, 52, 53, 54, 55, 56] (by decide +kernel) (by decide +kernel)
set_option maxRecDepth 20000 in
theorem gX6_readText_X6_readPart : GoodIn wsX6_readText (wsV RX6 85 RX6 yX6_readPart wsX6_readPart) := goodIn_app (goodIn_of _ (by decide +kernel)) ggX6_readText_X6_readPart
theorem dX6_readText_0 : decode cX6_readText 0 = .ok (.aload_n 0, 1) := by decide +kernel
theorem dX6_readText_1 : decode cX6_readText 1 = .ok (.iconst 0, 1) := by decide +kernel
theorem dX6_readText_2 : decode cX6_readText 2 = .ok (.putfield 63, 3) := by decide +kernel
theorem dX6_readText_5 : decode cX6_readText 5 = .ok (.aload_n 0, 1) := by decide +kernel
theorem dX6_readText_6 : decode cX6_readText 6 = .ok (.bipush (-9), 2) := by decide +kernel
theorem dX6_readText_8 : decode cX6_readText 8 = .ok (.putfield 60, 3) := by decide +kernel
theorem dX6_readText_11 : decode cX6_readText 11 = .ok (.aload_n 0, 1) := by decide +kernel
theorem dX6_readText_12 : decode cX6_readText 12 = .ok (.iconst 0, 1) := by decide +kernel
theorem dX6_readText_13 : decode cX6_readText 13 = .ok (.putfield 72, 3) := by decide +kernel
theorem dX6_readText_16 : decode cX6_readText 16 = .ok (.iconst 0, 1) := by decide +kernel
theorem dX6_readText_17 : decode cX6_readText 17 = .ok (.istore_n 1, 1) := by decide +kernel
theorem dX6_readText_18 : decode cX6_readText 18 = .ok (.iload_n 1, 1) := by decide +kernel
theorem dX6_readText_19 : decode cX6_readText 19 = .ok (.bipush 6, 2) := by decide +kernel
theorem dX6_readText_21 : decode cX6_readText 21 = .ok (.if_icmp .ge 16, 3) := by decide +kernel
theorem dX6_readText_24 : decode cX6_readText 24 = .ok (.aload_n 0, 1) := by decide +kernel
theorem dX6_readText_25 : decode cX6_readText 25 = .ok (.getfield 22, 3) := by decide +kernel
theorem dX6_readText_28 : decode cX6_readText 28 = .ok (.iload_n 1, 1) := by decide +kernel
theorem dX6_readText_29 : decode cX6_readText 29 = .ok (.iconst 0, 1) := by decide +kernel
theorem dX6_readText_30 : decode cX6_readText 30 = .ok (.iastore, 1) := by decide +kernel
theorem dX6_readText_31 : decode cX6_readText 31 = .ok (.iinc 1 1, 3) := by decide +kernel
theorem dX6_readText_34 : decode cX6_readText 34 = .ok (.goto (-16), 3) := by decide +kernel
theorem dX6_readText_37 : decode cX6_readText 37 = .ok (.aload_n 0, 1) := by decide +kernel
theorem dX6_readText_38 : decode cX6_readText 38 = .ok (.getfield 57, 3) := by decide +kernel
theorem dX6_readText_41 : decode cX6_readText 41 = .ok (.ifCond .eq 14, 3) := by decide +kernel
theorem dX6_readText_44 : decode cX6_readText 44 = .ok (.aload_n 0, 1) := by decide +kernel
theorem dX6_readText_45 : decode cX6_readText 45 = .ok (.getfield 25, 3) := by decide +kernel
theorem dX6_readText_48 : decode cX6_readText 48 = .ok (.iconst 0, 1) := by decide +kernel
theorem dX6_readText_49 : decode cX6_readText 49 = .ok (.iaload, 1) := by decide +kernel
theorem dX6_readText_50 : decode cX6_readText 50 = .ok (.bipush 74, 2) := by decide +kernel
theorem dX6_readText_52 : decode cX6_readText 52 = .ok (.if_icmp .eq 5, 3) := by decide +kernel
theorem dX6_readText_55 : decode cX6_readText 55 = .ok (.iconst 0, 1) := by decide +kernel
theorem dX6_readText_56 : decode cX6_readText 56 = .ok (.ireturn, 1) := by decide +kernel
theorem dX6_readText_57 : decode cX6_readText 57 = .ok (.aload_n 0, 1) := by decide +kernel
theorem dX6_readText_58 : decode cX6_readText 58 = .ok (.iconst 1, 1) := by decide +kernel
theorem dX6_readText_59 : decode cX6_readText 59 = .ok (.putfield 63, 3) := by decide +kernel
theorem dX6_readText_62 : decode cX6_readText 62 = .ok (.aload_n 0, 1) := by decide +kernel
theorem dX6_readText_63 : decode cX6_readText 63 = .ok (.aload_n 0, 1) := by decide +kernel
theorem dX6_readText_64 : decode cX6_readText 64 = .ok (.bipush 126, 2) := by decide +kernel
theorem dX6_readText_66 : decode cX6_readText 66 = .ok (.invokevirtual 79, 3) := by decide +kernel
theorem dX6_readText_69 : decode cX6_readText 69 = .ok (.putfield 82, 3) := by decide +kernel
theorem dX6_readText_72 : decode cX6_readText 72 = .ok (.aload_n 0, 1) := by decide +kernel
theorem dX6_readText_73 : decode cX6_readText 73 = .ok (.getfield 60, 3) := by decide +kernel
theorem dX6_readText_76 : decode cX6_readText 76 = .ok (.bipush (-9), 2) := by decide +kernel
theorem dX6_readText_78 : decode cX6_readText 78 = .ok (.if_icmp .ne 30, 3) := by decide +kernel
theorem dX6_readText_81 : decode cX6_readText 81 = .ok (.aload_n 0, 1) := by decide +kernel
theorem dX6_readText_82 : decode cX6_readText 82 = .ok (.getfield 63, 3) := by decide +kernel
theorem dX6_readText_85 : decode cX6_readText 85 = .ok (.aload_n 0, 1) := by decide +kernel
theorem dX6_readText_86 : decode cX6_readText 86 = .ok (.getfield 57, 3) := by decide +kernel
theorem dX6_readText_89 : decode cX6_readText 89 = .ok (.if_icmp .ge 19, 3) := by decide +kernel
theorem dX6_readText_92 : decode cX6_readText 92 = .ok (.aload_n 0, 1) := by decide +kernel
theorem dX6_readText_93 : decode cX6_readText 93 = .ok (.aload_n 0, 1) := by decide +kernel
theorem dX6_readText_94 : decode cX6_readText 94 = .ok (.getfield 25, 3) := by decide +kernel
theorem dX6_readText_97 : decode cX6_readText 97 = .ok (.aload_n 0, 1) := by decide +kernel
theorem dX6_readText_98 : decode cX6_readText 98 = .ok (.getfield 63, 3) := by decide +kernel
theorem dX6_readText_101 : decode cX6_readText 101 = .ok (.iaload, 1) := by decide +kernel
theorem dX6_readText_102 : decode cX6_readText 102 = .ok (.invokevirtual 85, 3) := by decide +kernel
theorem dX6_readText_105 : decode cX6_readText 105 = .ok (.goto (-33), 3) := by decide +kernel
theorem dX6_readText_108 : decode cX6_readText 108 = .ok (.aload_n 0, 1) := by decide +kernel
theorem dX6_readText_109 : decode cX6_readText 109 = .ok (.getfield 60, 3) := by decide +kernel
theorem dX6_readText_112 : decode cX6_readText 112 = .ok (.ireturn, 1) := by decide +kernel
set_option maxRecDepth 20000 in
theorem ggX6_readPart_X6_figureOf : GoodIn wsX6_readPart wsX6_figureOf := goodIn_r _ [10, 5, 2, 11, 12, 13, 14, 15, 9, 16, 17, 18, 19, 28, 29, 30, 31, 32, 33, 34, 35, 36, 37, 38, 39, 40, 41, 42, 43, 44, 45, 46, 47, 48, 49, 50, 51] (by decide +kernel) (by decide +kernel)
set_option maxRecDepth 20000 in
theorem gX6_readPart_X6_figureOf : GoodIn wsX6_readPart (wsV RX6 79 RX6 yX6_figureOf wsX6_figureOf) := goodIn_app (goodIn_of _ (by decide +kernel)) ggX6_readPart_X6_figureOf
set_option maxRecDepth 20000 in
theorem ggX6_readPart_X6_firstsLeft : GoodIn wsX6_readPart wsX6_firstsLeft := goodIn_r _ [23, 1, 24, 25, 26, 9, 27, 4, 28, 29, 30, 31, 32, 33, 34, 35, 36, 37, 38, 39, 40, 41, 42, 43, 44, 45, 46, 47, 48, 49, 50, 51] (by decide +kernel) (by decide +kernel)
set_option maxRecDepth 20000 in
theorem gX6_readPart_X6_firstsLeft : GoodIn wsX6_readPart (wsV RX6 89 RX6 yX6_firstsLeft wsX6_firstsLeft) := goodIn_app (goodIn_of _ (by decide +kernel)) ggX6_readPart_X6_firstsLeft
set_option maxRecDepth 20000 in
theorem ggX6_readPart_X6_left : GoodIn wsX6_readPart wsX6_left := goodIn_r _ [27, 1, 4, 28, 29, 30, 31, 32, 33, 34, 35, 36, 37, 38, 39, 40, 41, 42, 43, 44, 45, 46, 47, 48, 49, 50, 51] (by decide +kernel) (by decide +kernel)
set_option maxRecDepth 20000 in
theorem gX6_readPart_X6_left : GoodIn wsX6_readPart (wsV RX6 75 RX6 yX6_left wsX6_left) := goodIn_app (goodIn_of _ (by decide +kernel)) ggX6_readPart_X6_left
theorem dX6_readPart_0 : decode cX6_readPart 0 = .ok (.iload_n 1, 1) := by decide +kernel
theorem dX6_readPart_1 : decode cX6_readPart 1 = .ok (.bipush 80, 2) := by decide +kernel
theorem dX6_readPart_3 : decode cX6_readPart 3 = .ok (.if_icmp .ne 90, 3) := by decide +kernel
theorem dX6_readPart_6 : decode cX6_readPart 6 = .ok (.aload_n 0, 1) := by decide +kernel
theorem dX6_readPart_7 : decode cX6_readPart 7 = .ok (.getfield 72, 3) := by decide +kernel
theorem dX6_readPart_10 : decode cX6_readPart 10 = .ok (.bipush 6, 2) := by decide +kernel
theorem dX6_readPart_12 : decode cX6_readPart 12 = .ok (.if_icmp .ge 81, 3) := by decide +kernel
theorem dX6_readPart_15 : decode cX6_readPart 15 = .ok (.aload_n 0, 1) := by decide +kernel
theorem dX6_readPart_16 : decode cX6_readPart 16 = .ok (.dup, 1) := by decide +kernel
theorem dX6_readPart_17 : decode cX6_readPart 17 = .ok (.getfield 63, 3) := by decide +kernel
theorem dX6_readPart_20 : decode cX6_readPart 20 = .ok (.iconst 1, 1) := by decide +kernel
theorem dX6_readPart_21 : decode cX6_readPart 21 = .ok (.iadd, 1) := by decide +kernel
theorem dX6_readPart_22 : decode cX6_readPart 22 = .ok (.putfield 63, 3) := by decide +kernel
theorem dX6_readPart_25 : decode cX6_readPart 25 = .ok (.aload_n 0, 1) := by decide +kernel
theorem dX6_readPart_26 : decode cX6_readPart 26 = .ok (.getfield 19, 3) := by decide +kernel
theorem dX6_readPart_29 : decode cX6_readPart 29 = .ok (.iconst 3, 1) := by decide +kernel
theorem dX6_readPart_30 : decode cX6_readPart 30 = .ok (.aload_n 0, 1) := by decide +kernel
theorem dX6_readPart_31 : decode cX6_readPart 31 = .ok (.getfield 72, 3) := by decide +kernel
theorem dX6_readPart_34 : decode cX6_readPart 34 = .ok (.imul, 1) := by decide +kernel
theorem dX6_readPart_35 : decode cX6_readPart 35 = .ok (.aload_n 0, 1) := by decide +kernel
theorem dX6_readPart_36 : decode cX6_readPart 36 = .ok (.iconst 3, 1) := by decide +kernel
theorem dX6_readPart_37 : decode cX6_readPart 37 = .ok (.invokevirtual 79, 3) := by decide +kernel
theorem dX6_readPart_40 : decode cX6_readPart 40 = .ok (.iastore, 1) := by decide +kernel
theorem dX6_readPart_41 : decode cX6_readPart 41 = .ok (.aload_n 0, 1) := by decide +kernel
theorem dX6_readPart_42 : decode cX6_readPart 42 = .ok (.getfield 19, 3) := by decide +kernel
theorem dX6_readPart_45 : decode cX6_readPart 45 = .ok (.iconst 3, 1) := by decide +kernel
theorem dX6_readPart_46 : decode cX6_readPart 46 = .ok (.aload_n 0, 1) := by decide +kernel
theorem dX6_readPart_47 : decode cX6_readPart 47 = .ok (.getfield 72, 3) := by decide +kernel
theorem dX6_readPart_50 : decode cX6_readPart 50 = .ok (.imul, 1) := by decide +kernel
theorem dX6_readPart_51 : decode cX6_readPart 51 = .ok (.iconst 1, 1) := by decide +kernel
theorem dX6_readPart_52 : decode cX6_readPart 52 = .ok (.iadd, 1) := by decide +kernel
theorem dX6_readPart_53 : decode cX6_readPart 53 = .ok (.aload_n 0, 1) := by decide +kernel
theorem dX6_readPart_54 : decode cX6_readPart 54 = .ok (.sipush 1022, 3) := by decide +kernel
theorem dX6_readPart_57 : decode cX6_readPart 57 = .ok (.invokevirtual 79, 3) := by decide +kernel
theorem dX6_readPart_60 : decode cX6_readPart 60 = .ok (.iastore, 1) := by decide +kernel
theorem dX6_readPart_61 : decode cX6_readPart 61 = .ok (.aload_n 0, 1) := by decide +kernel
theorem dX6_readPart_62 : decode cX6_readPart 62 = .ok (.getfield 19, 3) := by decide +kernel
theorem dX6_readPart_65 : decode cX6_readPart 65 = .ok (.iconst 3, 1) := by decide +kernel
theorem dX6_readPart_66 : decode cX6_readPart 66 = .ok (.aload_n 0, 1) := by decide +kernel
theorem dX6_readPart_67 : decode cX6_readPart 67 = .ok (.getfield 72, 3) := by decide +kernel
theorem dX6_readPart_70 : decode cX6_readPart 70 = .ok (.imul, 1) := by decide +kernel
theorem dX6_readPart_71 : decode cX6_readPart 71 = .ok (.iconst 2, 1) := by decide +kernel
theorem dX6_readPart_72 : decode cX6_readPart 72 = .ok (.iadd, 1) := by decide +kernel
theorem dX6_readPart_73 : decode cX6_readPart 73 = .ok (.aload_n 0, 1) := by decide +kernel
theorem dX6_readPart_74 : decode cX6_readPart 74 = .ok (.bipush 15, 2) := by decide +kernel
theorem dX6_readPart_76 : decode cX6_readPart 76 = .ok (.invokevirtual 79, 3) := by decide +kernel
theorem dX6_readPart_79 : decode cX6_readPart 79 = .ok (.iastore, 1) := by decide +kernel
theorem dX6_readPart_80 : decode cX6_readPart 80 = .ok (.aload_n 0, 1) := by decide +kernel
theorem dX6_readPart_81 : decode cX6_readPart 81 = .ok (.dup, 1) := by decide +kernel
theorem dX6_readPart_82 : decode cX6_readPart 82 = .ok (.getfield 72, 3) := by decide +kernel
theorem dX6_readPart_85 : decode cX6_readPart 85 = .ok (.iconst 1, 1) := by decide +kernel
theorem dX6_readPart_86 : decode cX6_readPart 86 = .ok (.iadd, 1) := by decide +kernel
theorem dX6_readPart_87 : decode cX6_readPart 87 = .ok (.putfield 72, 3) := by decide +kernel
theorem dX6_readPart_90 : decode cX6_readPart 90 = .ok (.goto 81, 3) := by decide +kernel
theorem dX6_readPart_93 : decode cX6_readPart 93 = .ok (.iload_n 1, 1) := by decide +kernel
theorem dX6_readPart_94 : decode cX6_readPart 94 = .ok (.bipush 72, 2) := by decide +kernel
theorem dX6_readPart_96 : decode cX6_readPart 96 = .ok (.if_icmp .ne 67, 3) := by decide +kernel
theorem dX6_readPart_99 : decode cX6_readPart 99 = .ok (.aload_n 0, 1) := by decide +kernel
theorem dX6_readPart_100 : decode cX6_readPart 100 = .ok (.invokevirtual 89, 3) := by decide +kernel
theorem dX6_readPart_103 : decode cX6_readPart 103 = .ok (.ifCond .eq 60, 3) := by decide +kernel
theorem dX6_readPart_106 : decode cX6_readPart 106 = .ok (.aload_n 0, 1) := by decide +kernel
theorem dX6_readPart_107 : decode cX6_readPart 107 = .ok (.dup, 1) := by decide +kernel
theorem dX6_readPart_108 : decode cX6_readPart 108 = .ok (.getfield 63, 3) := by decide +kernel
theorem dX6_readPart_111 : decode cX6_readPart 111 = .ok (.iconst 1, 1) := by decide +kernel
theorem dX6_readPart_112 : decode cX6_readPart 112 = .ok (.iadd, 1) := by decide +kernel
theorem dX6_readPart_113 : decode cX6_readPart 113 = .ok (.putfield 63, 3) := by decide +kernel
theorem dX6_readPart_116 : decode cX6_readPart 116 = .ok (.aload_n 0, 1) := by decide +kernel
theorem dX6_readPart_117 : decode cX6_readPart 117 = .ok (.aload_n 0, 1) := by decide +kernel
theorem dX6_readPart_118 : decode cX6_readPart 118 = .ok (.invokevirtual 89, 3) := by decide +kernel
theorem dX6_readPart_121 : decode cX6_readPart 121 = .ok (.invokevirtual 79, 3) := by decide +kernel
theorem dX6_readPart_124 : decode cX6_readPart 124 = .ok (.istore_n 2, 1) := by decide +kernel
theorem dX6_readPart_125 : decode cX6_readPart 125 = .ok (.aload_n 0, 1) := by decide +kernel
theorem dX6_readPart_126 : decode cX6_readPart 126 = .ok (.aload_n 0, 1) := by decide +kernel
theorem dX6_readPart_127 : decode cX6_readPart 127 = .ok (.iload_n 2, 1) := by decide +kernel
theorem dX6_readPart_128 : decode cX6_readPart 128 = .ok (.invokevirtual 75, 3) := by decide +kernel
theorem dX6_readPart_131 : decode cX6_readPart 131 = .ok (.invokevirtual 79, 3) := by decide +kernel
theorem dX6_readPart_134 : decode cX6_readPart 134 = .ok (.istore_n 3, 1) := by decide +kernel
theorem dX6_readPart_135 : decode cX6_readPart 135 = .ok (.aload_n 0, 1) := by decide +kernel
theorem dX6_readPart_136 : decode cX6_readPart 136 = .ok (.getfield 22, 3) := by decide +kernel
theorem dX6_readPart_139 : decode cX6_readPart 139 = .ok (.iload_n 2, 1) := by decide +kernel
theorem dX6_readPart_140 : decode cX6_readPart 140 = .ok (.dup2, 1) := by decide +kernel
theorem dX6_readPart_141 : decode cX6_readPart 141 = .ok (.iaload, 1) := by decide +kernel
theorem dX6_readPart_142 : decode cX6_readPart 142 = .ok (.aload_n 0, 1) := by decide +kernel
theorem dX6_readPart_143 : decode cX6_readPart 143 = .ok (.getfield 60, 3) := by decide +kernel
theorem dX6_readPart_146 : decode cX6_readPart 146 = .ok (.bipush (-9), 2) := by decide +kernel
theorem dX6_readPart_148 : decode cX6_readPart 148 = .ok (.if_icmp .ne 9, 3) := by decide +kernel
theorem dX6_readPart_151 : decode cX6_readPart 151 = .ok (.iconst 1, 1) := by decide +kernel
theorem dX6_readPart_152 : decode cX6_readPart 152 = .ok (.iload_n 3, 1) := by decide +kernel
theorem dX6_readPart_153 : decode cX6_readPart 153 = .ok (.ishl, 1) := by decide +kernel
theorem dX6_readPart_154 : decode cX6_readPart 154 = .ok (.goto 4, 3) := by decide +kernel
theorem dX6_readPart_157 : decode cX6_readPart 157 = .ok (.iconst 0, 1) := by decide +kernel
theorem dX6_readPart_158 : decode cX6_readPart 158 = .ok (.ior, 1) := by decide +kernel
theorem dX6_readPart_159 : decode cX6_readPart 159 = .ok (.iastore, 1) := by decide +kernel
theorem dX6_readPart_160 : decode cX6_readPart 160 = .ok (.goto 11, 3) := by decide +kernel
theorem dX6_readPart_163 : decode cX6_readPart 163 = .ok (.aload_n 0, 1) := by decide +kernel
theorem dX6_readPart_164 : decode cX6_readPart 164 = .ok (.aload_n 0, 1) := by decide +kernel
theorem dX6_readPart_165 : decode cX6_readPart 165 = .ok (.getfield 63, 3) := by decide +kernel
theorem dX6_readPart_168 : decode cX6_readPart 168 = .ok (.putfield 60, 3) := by decide +kernel
theorem dX6_readPart_171 : decode cX6_readPart 171 = .ok (.return_, 1) := by decide +kernel
set_option maxRecDepth 20000 in
theorem ggX6_fault_X6_readText : GoodIn wsX6_fault wsX6_readText := goodIn_r _ [5, 6, 7, 8, 9, 10, 11, 12, 13, 14, 15, 4, 16, 17, 18, 19, 20, 21, 22, 23, 24, 25, 26, 27, 28, 29, 30, 31, 32, 33, 34, 35, 36, 37, 38, 39, 40, 41, 42, 43, 44, 45, 46, 47, 48, 49, 50, 51, 52, 53, 54, 55, 56, 57, 58, 59, 60] (by decide +kernel) (by decide +kernel)
set_option maxRecDepth 20000 in
theorem gX6_fault_X6_readText : GoodIn wsX6_fault (wsV RX6 93 RX6 yX6_readText wsX6_readText) := goodIn_app (goodIn_of _ (by decide +kernel)) ggX6_fault_X6_readText
theorem dX6_fault_0 : decode cX6_fault 0 = .ok (.aload_n 0, 1) := by decide +kernel
theorem dX6_fault_1 : decode cX6_fault 1 = .ok (.invokevirtual 93, 3) := by decide +kernel
theorem dX6_fault_4 : decode cX6_fault 4 = .ok (.ireturn, 1) := by decide +kernel
set_option maxRecDepth 20000 in
theorem ggX6_jury_X6_readText : GoodIn wsX6_jury wsX6_readText := goodIn_r _ [16, 17, 18, 1, 9, 19, 20, 3, 21, 22, 23, 15, 24, 25, 26, 27, 28, 29, 30, 31, 32, 33, 34, 35, 6, 36, 37, 38, 39, 40, 41, 42, 43, 44, 45, 46, 47, 48, 49, 50, 51, 52, 53, 54, 55, 56, 57, 58, 59, 60, 61, 62, 63, 64, 65, 66, 67] (by decide +kernel) (by decide +kernel)
set_option maxRecDepth 20000 in
theorem gX6_jury_X6_readText : GoodIn wsX6_jury (wsV RX6 93 RX6 yX6_readText wsX6_readText) := goodIn_app (goodIn_of _ (by decide +kernel)) ggX6_jury_X6_readText
theorem dX6_jury_0 : decode cX6_jury 0 = .ok (.aload_n 0, 1) := by decide +kernel
theorem dX6_jury_1 : decode cX6_jury 1 = .ok (.invokevirtual 93, 3) := by decide +kernel
theorem dX6_jury_4 : decode cX6_jury 4 = .ok (.bipush (-9), 2) := by decide +kernel
theorem dX6_jury_6 : decode cX6_jury 6 = .ok (.if_icmp .eq 6, 3) := by decide +kernel
theorem dX6_jury_9 : decode cX6_jury 9 = .ok (.bipush (-3), 2) := by decide +kernel
theorem dX6_jury_11 : decode cX6_jury 11 = .ok (.ireturn, 1) := by decide +kernel
theorem dX6_jury_12 : decode cX6_jury 12 = .ok (.aload_n 0, 1) := by decide +kernel
theorem dX6_jury_13 : decode cX6_jury 13 = .ok (.aload_n 0, 1) := by decide +kernel
theorem dX6_jury_14 : decode cX6_jury 14 = .ok (.getfield 72, 3) := by decide +kernel
theorem dX6_jury_17 : decode cX6_jury 17 = .ok (.putfield 96, 3) := by decide +kernel
theorem dX6_jury_20 : decode cX6_jury 20 = .ok (.aload_n 0, 1) := by decide +kernel
theorem dX6_jury_21 : decode cX6_jury 21 = .ok (.aload_n 0, 1) := by decide +kernel
theorem dX6_jury_22 : decode cX6_jury 22 = .ok (.getfield 82, 3) := by decide +kernel
theorem dX6_jury_25 : decode cX6_jury 25 = .ok (.putfield 47, 3) := by decide +kernel
theorem dX6_jury_28 : decode cX6_jury 28 = .ok (.iconst 0, 1) := by decide +kernel
theorem dX6_jury_29 : decode cX6_jury 29 = .ok (.istore_n 1, 1) := by decide +kernel
theorem dX6_jury_30 : decode cX6_jury 30 = .ok (.iload_n 1, 1) := by decide +kernel
theorem dX6_jury_31 : decode cX6_jury 31 = .ok (.bipush 15, 2) := by decide +kernel
theorem dX6_jury_33 : decode cX6_jury 33 = .ok (.if_icmp .ge 16, 3) := by decide +kernel
theorem dX6_jury_36 : decode cX6_jury 36 = .ok (.aload_n 0, 1) := by decide +kernel
theorem dX6_jury_37 : decode cX6_jury 37 = .ok (.getfield 16, 3) := by decide +kernel
theorem dX6_jury_40 : decode cX6_jury 40 = .ok (.iload_n 1, 1) := by decide +kernel
theorem dX6_jury_41 : decode cX6_jury 41 = .ok (.iconst 0, 1) := by decide +kernel
theorem dX6_jury_42 : decode cX6_jury 42 = .ok (.iastore, 1) := by decide +kernel
theorem dX6_jury_43 : decode cX6_jury 43 = .ok (.iinc 1 1, 3) := by decide +kernel
theorem dX6_jury_46 : decode cX6_jury 46 = .ok (.goto (-16), 3) := by decide +kernel
theorem dX6_jury_49 : decode cX6_jury 49 = .ok (.aload_n 0, 1) := by decide +kernel
theorem dX6_jury_50 : decode cX6_jury 50 = .ok (.getfield 16, 3) := by decide +kernel
theorem dX6_jury_53 : decode cX6_jury 53 = .ok (.iconst 1, 1) := by decide +kernel
theorem dX6_jury_54 : decode cX6_jury 54 = .ok (.iconst 1, 1) := by decide +kernel
theorem dX6_jury_55 : decode cX6_jury 55 = .ok (.aload_n 0, 1) := by decide +kernel
theorem dX6_jury_56 : decode cX6_jury 56 = .ok (.getfield 96, 3) := by decide +kernel
theorem dX6_jury_59 : decode cX6_jury 59 = .ok (.ishl, 1) := by decide +kernel
theorem dX6_jury_60 : decode cX6_jury 60 = .ok (.iconst 1, 1) := by decide +kernel
theorem dX6_jury_61 : decode cX6_jury 61 = .ok (.isub, 1) := by decide +kernel
theorem dX6_jury_62 : decode cX6_jury 62 = .ok (.iastore, 1) := by decide +kernel
theorem dX6_jury_63 : decode cX6_jury 63 = .ok (.iconst 0, 1) := by decide +kernel
theorem dX6_jury_64 : decode cX6_jury 64 = .ok (.istore_n 1, 1) := by decide +kernel
theorem dX6_jury_65 : decode cX6_jury 65 = .ok (.iload_n 1, 1) := by decide +kernel
theorem dX6_jury_66 : decode cX6_jury 66 = .ok (.aload_n 0, 1) := by decide +kernel
theorem dX6_jury_67 : decode cX6_jury 67 = .ok (.getfield 96, 3) := by decide +kernel
theorem dX6_jury_70 : decode cX6_jury 70 = .ok (.if_icmp .ge 74, 3) := by decide +kernel
theorem dX6_jury_73 : decode cX6_jury 73 = .ok (.aload_n 0, 1) := by decide +kernel
theorem dX6_jury_74 : decode cX6_jury 74 = .ok (.getfield 16, 3) := by decide +kernel
theorem dX6_jury_77 : decode cX6_jury 77 = .ok (.iconst 0, 1) := by decide +kernel
theorem dX6_jury_78 : decode cX6_jury 78 = .ok (.dup2, 1) := by decide +kernel
theorem dX6_jury_79 : decode cX6_jury 79 = .ok (.iaload, 1) := by decide +kernel
theorem dX6_jury_80 : decode cX6_jury 80 = .ok (.aload_n 0, 1) := by decide +kernel
theorem dX6_jury_81 : decode cX6_jury 81 = .ok (.getfield 19, 3) := by decide +kernel
theorem dX6_jury_84 : decode cX6_jury 84 = .ok (.iconst 3, 1) := by decide +kernel
theorem dX6_jury_85 : decode cX6_jury 85 = .ok (.iload_n 1, 1) := by decide +kernel
theorem dX6_jury_86 : decode cX6_jury 86 = .ok (.imul, 1) := by decide +kernel
theorem dX6_jury_87 : decode cX6_jury 87 = .ok (.iaload, 1) := by decide +kernel
theorem dX6_jury_88 : decode cX6_jury 88 = .ok (.iload_n 1, 1) := by decide +kernel
theorem dX6_jury_89 : decode cX6_jury 89 = .ok (.ishl, 1) := by decide +kernel
theorem dX6_jury_90 : decode cX6_jury 90 = .ok (.ior, 1) := by decide +kernel
theorem dX6_jury_91 : decode cX6_jury 91 = .ok (.iastore, 1) := by decide +kernel
theorem dX6_jury_92 : decode cX6_jury 92 = .ok (.aload_n 0, 1) := by decide +kernel
theorem dX6_jury_93 : decode cX6_jury 93 = .ok (.getfield 16, 3) := by decide +kernel
theorem dX6_jury_96 : decode cX6_jury 96 = .ok (.iconst 3, 1) := by decide +kernel
theorem dX6_jury_97 : decode cX6_jury 97 = .ok (.iload_n 1, 1) := by decide +kernel
theorem dX6_jury_98 : decode cX6_jury 98 = .ok (.iadd, 1) := by decide +kernel
theorem dX6_jury_99 : decode cX6_jury 99 = .ok (.aload_n 0, 1) := by decide +kernel
theorem dX6_jury_100 : decode cX6_jury 100 = .ok (.getfield 19, 3) := by decide +kernel
theorem dX6_jury_103 : decode cX6_jury 103 = .ok (.iconst 3, 1) := by decide +kernel
theorem dX6_jury_104 : decode cX6_jury 104 = .ok (.iload_n 1, 1) := by decide +kernel
theorem dX6_jury_105 : decode cX6_jury 105 = .ok (.imul, 1) := by decide +kernel
theorem dX6_jury_106 : decode cX6_jury 106 = .ok (.iconst 1, 1) := by decide +kernel
theorem dX6_jury_107 : decode cX6_jury 107 = .ok (.iadd, 1) := by decide +kernel
theorem dX6_jury_108 : decode cX6_jury 108 = .ok (.iaload, 1) := by decide +kernel
theorem dX6_jury_109 : decode cX6_jury 109 = .ok (.iastore, 1) := by decide +kernel
theorem dX6_jury_110 : decode cX6_jury 110 = .ok (.aload_n 0, 1) := by decide +kernel
theorem dX6_jury_111 : decode cX6_jury 111 = .ok (.getfield 7, 3) := by decide +kernel
theorem dX6_jury_114 : decode cX6_jury 114 = .ok (.iload_n 1, 1) := by decide +kernel
theorem dX6_jury_115 : decode cX6_jury 115 = .ok (.aload_n 0, 1) := by decide +kernel
theorem dX6_jury_116 : decode cX6_jury 116 = .ok (.getfield 19, 3) := by decide +kernel
theorem dX6_jury_119 : decode cX6_jury 119 = .ok (.iconst 3, 1) := by decide +kernel
theorem dX6_jury_120 : decode cX6_jury 120 = .ok (.iload_n 1, 1) := by decide +kernel
theorem dX6_jury_121 : decode cX6_jury 121 = .ok (.imul, 1) := by decide +kernel
theorem dX6_jury_122 : decode cX6_jury 122 = .ok (.iconst 2, 1) := by decide +kernel
theorem dX6_jury_123 : decode cX6_jury 123 = .ok (.iadd, 1) := by decide +kernel
theorem dX6_jury_124 : decode cX6_jury 124 = .ok (.iaload, 1) := by decide +kernel
theorem dX6_jury_125 : decode cX6_jury 125 = .ok (.iastore, 1) := by decide +kernel
theorem dX6_jury_126 : decode cX6_jury 126 = .ok (.aload_n 0, 1) := by decide +kernel
theorem dX6_jury_127 : decode cX6_jury 127 = .ok (.getfield 13, 3) := by decide +kernel
theorem dX6_jury_130 : decode cX6_jury 130 = .ok (.iload_n 1, 1) := by decide +kernel
theorem dX6_jury_131 : decode cX6_jury 131 = .ok (.aload_n 0, 1) := by decide +kernel
theorem dX6_jury_132 : decode cX6_jury 132 = .ok (.getfield 22, 3) := by decide +kernel
theorem dX6_jury_135 : decode cX6_jury 135 = .ok (.iload_n 1, 1) := by decide +kernel
theorem dX6_jury_136 : decode cX6_jury 136 = .ok (.iaload, 1) := by decide +kernel
theorem dX6_jury_137 : decode cX6_jury 137 = .ok (.iastore, 1) := by decide +kernel
theorem dX6_jury_138 : decode cX6_jury 138 = .ok (.iinc 1 1, 3) := by decide +kernel
theorem dX6_jury_141 : decode cX6_jury 141 = .ok (.goto (-76), 3) := by decide +kernel
theorem dX6_jury_144 : decode cX6_jury 144 = .ok (.aload_n 0, 1) := by decide +kernel
theorem dX6_jury_145 : decode cX6_jury 145 = .ok (.iconst 0, 1) := by decide +kernel
theorem dX6_jury_146 : decode cX6_jury 146 = .ok (.putfield 99, 3) := by decide +kernel
theorem dX6_jury_149 : decode cX6_jury 149 = .ok (.aload_n 0, 1) := by decide +kernel
theorem dX6_jury_150 : decode cX6_jury 150 = .ok (.getfield 40, 3) := by decide +kernel
theorem dX6_jury_153 : decode cX6_jury 153 = .ok (.iconst 0, 1) := by decide +kernel
theorem dX6_jury_154 : decode cX6_jury 154 = .ok (.iconst 0, 1) := by decide +kernel
theorem dX6_jury_155 : decode cX6_jury 155 = .ok (.bastore, 1) := by decide +kernel
theorem dX6_jury_156 : decode cX6_jury 156 = .ok (.aload_n 0, 1) := by decide +kernel
theorem dX6_jury_157 : decode cX6_jury 157 = .ok (.getfield 40, 3) := by decide +kernel
theorem dX6_jury_160 : decode cX6_jury 160 = .ok (.iconst 1, 1) := by decide +kernel
theorem dX6_jury_161 : decode cX6_jury 161 = .ok (.iconst 0, 1) := by decide +kernel
theorem dX6_jury_162 : decode cX6_jury 162 = .ok (.bastore, 1) := by decide +kernel
theorem dX6_jury_163 : decode cX6_jury 163 = .ok (.aload_n 0, 1) := by decide +kernel
theorem dX6_jury_164 : decode cX6_jury 164 = .ok (.getfield 96, 3) := by decide +kernel
theorem dX6_jury_167 : decode cX6_jury 167 = .ok (.ireturn, 1) := by decide +kernel
set_option maxRecDepth 20000 in
theorem ggX6_isJuror_X6_in : GoodIn wsX6_isJuror wsX6_in := goodIn_r _ [5] (by decide +kernel) (by decide +kernel)
set_option maxRecDepth 20000 in
theorem gX6_isJuror_X6_in : GoodIn wsX6_isJuror (va_wsS RX6 53 yX6_in wsX6_in) := goodIn_app (goodIn_of _ (by decide +kernel)) ggX6_isJuror_X6_in
theorem dX6_isJuror_0 : decode cX6_isJuror 0 = .ok (.iload_n 1, 1) := by decide +kernel
theorem dX6_isJuror_1 : decode cX6_isJuror 1 = .ok (.i2l, 1) := by decide +kernel
theorem dX6_isJuror_2 : decode cX6_isJuror 2 = .ok (.lconst 0, 1) := by decide +kernel
theorem dX6_isJuror_3 : decode cX6_isJuror 3 = .ok (.aload_n 0, 1) := by decide +kernel
theorem dX6_isJuror_4 : decode cX6_isJuror 4 = .ok (.getfield 96, 3) := by decide +kernel
theorem dX6_isJuror_7 : decode cX6_isJuror 7 = .ok (.iconst 1, 1) := by decide +kernel
theorem dX6_isJuror_8 : decode cX6_isJuror 8 = .ok (.isub, 1) := by decide +kernel
theorem dX6_isJuror_9 : decode cX6_isJuror 9 = .ok (.i2l, 1) := by decide +kernel
theorem dX6_isJuror_10 : decode cX6_isJuror 10 = .ok (.invokestatic 53, 3) := by decide +kernel
theorem dX6_isJuror_13 : decode cX6_isJuror 13 = .ok (.ireturn, 1) := by decide +kernel
set_option maxRecDepth 20000 in
theorem ggX6_isThere_X6_has : GoodIn wsX6_isThere wsX6_has := goodIn_r _ [5] (by decide +kernel) (by decide +kernel)
set_option maxRecDepth 20000 in
theorem gX6_isThere_X6_has : GoodIn wsX6_isThere (va_wsS RX6 68 yX6_has wsX6_has) := goodIn_app (goodIn_of _ (by decide +kernel)) ggX6_isThere_X6_has
theorem dX6_isThere_0 : decode cX6_isThere 0 = .ok (.aload_n 0, 1) := by decide +kernel
theorem dX6_isThere_1 : decode cX6_isThere 1 = .ok (.getfield 16, 3) := by decide +kernel
theorem dX6_isThere_4 : decode cX6_isThere 4 = .ok (.bipush 15, 2) := by decide +kernel
theorem dX6_isThere_6 : decode cX6_isThere 6 = .ok (.iload_n 1, 1) := by decide +kernel
theorem dX6_isThere_7 : decode cX6_isThere 7 = .ok (.imul, 1) := by decide +kernel
theorem dX6_isThere_8 : decode cX6_isThere 8 = .ok (.iconst 1, 1) := by decide +kernel
theorem dX6_isThere_9 : decode cX6_isThere 9 = .ok (.iadd, 1) := by decide +kernel
theorem dX6_isThere_10 : decode cX6_isThere 10 = .ok (.iaload, 1) := by decide +kernel
theorem dX6_isThere_11 : decode cX6_isThere 11 = .ok (.iload_n 2, 1) := by decide +kernel
theorem dX6_isThere_12 : decode cX6_isThere 12 = .ok (.invokestatic 68, 3) := by decide +kernel
theorem dX6_isThere_15 : decode cX6_isThere 15 = .ok (.ireturn, 1) := by decide +kernel
set_option maxRecDepth 20000 in
theorem ggX6_verdict_X6_ones : GoodIn wsX6_verdict wsX6_ones := goodIn_r _ [6] (by decide +kernel) (by decide +kernel)
set_option maxRecDepth 20000 in
theorem gX6_verdict_X6_ones : GoodIn wsX6_verdict (va_wsS RX6 102 yX6_ones wsX6_ones) := goodIn_app (goodIn_of _ (by decide +kernel)) ggX6_verdict_X6_ones
theorem dX6_verdict_0 : decode cX6_verdict 0 = .ok (.aload_n 0, 1) := by decide +kernel
theorem dX6_verdict_1 : decode cX6_verdict 1 = .ok (.getfield 16, 3) := by decide +kernel
theorem dX6_verdict_4 : decode cX6_verdict 4 = .ok (.bipush 15, 2) := by decide +kernel
theorem dX6_verdict_6 : decode cX6_verdict 6 = .ok (.iload_n 1, 1) := by decide +kernel
theorem dX6_verdict_7 : decode cX6_verdict 7 = .ok (.imul, 1) := by decide +kernel
theorem dX6_verdict_8 : decode cX6_verdict 8 = .ok (.iconst 1, 1) := by decide +kernel
theorem dX6_verdict_9 : decode cX6_verdict 9 = .ok (.iadd, 1) := by decide +kernel
theorem dX6_verdict_10 : decode cX6_verdict 10 = .ok (.iaload, 1) := by decide +kernel
theorem dX6_verdict_11 : decode cX6_verdict 11 = .ok (.istore_n 2, 1) := by decide +kernel
theorem dX6_verdict_12 : decode cX6_verdict 12 = .ok (.aload_n 0, 1) := by decide +kernel
theorem dX6_verdict_13 : decode cX6_verdict 13 = .ok (.getfield 16, 3) := by decide +kernel
theorem dX6_verdict_16 : decode cX6_verdict 16 = .ok (.bipush 15, 2) := by decide +kernel
theorem dX6_verdict_18 : decode cX6_verdict 18 = .ok (.iload_n 1, 1) := by decide +kernel
theorem dX6_verdict_19 : decode cX6_verdict 19 = .ok (.imul, 1) := by decide +kernel
theorem dX6_verdict_20 : decode cX6_verdict 20 = .ok (.iaload, 1) := by decide +kernel
theorem dX6_verdict_21 : decode cX6_verdict 21 = .ok (.iload_n 2, 1) := by decide +kernel
theorem dX6_verdict_22 : decode cX6_verdict 22 = .ok (.iand, 1) := by decide +kernel
theorem dX6_verdict_23 : decode cX6_verdict 23 = .ok (.invokestatic 102, 3) := by decide +kernel
theorem dX6_verdict_26 : decode cX6_verdict 26 = .ok (.istore_n 3, 1) := by decide +kernel
theorem dX6_verdict_27 : decode cX6_verdict 27 = .ok (.iload_n 2, 1) := by decide +kernel
theorem dX6_verdict_28 : decode cX6_verdict 28 = .ok (.invokestatic 102, 3) := by decide +kernel
theorem dX6_verdict_31 : decode cX6_verdict 31 = .ok (.iload_n 3, 1) := by decide +kernel
theorem dX6_verdict_32 : decode cX6_verdict 32 = .ok (.isub, 1) := by decide +kernel
theorem dX6_verdict_33 : decode cX6_verdict 33 = .ok (.istore 4, 2) := by decide +kernel
theorem dX6_verdict_35 : decode cX6_verdict 35 = .ok (.iload_n 3, 1) := by decide +kernel
theorem dX6_verdict_36 : decode cX6_verdict 36 = .ok (.ifCond .le 8, 3) := by decide +kernel
theorem dX6_verdict_39 : decode cX6_verdict 39 = .ok (.iload 4, 2) := by decide +kernel
theorem dX6_verdict_41 : decode cX6_verdict 41 = .ok (.ifCond .eq 17, 3) := by decide +kernel
theorem dX6_verdict_44 : decode cX6_verdict 44 = .ok (.iload_n 3, 1) := by decide +kernel
theorem dX6_verdict_45 : decode cX6_verdict 45 = .ok (.aload_n 0, 1) := by decide +kernel
theorem dX6_verdict_46 : decode cX6_verdict 46 = .ok (.getfield 47, 3) := by decide +kernel
theorem dX6_verdict_49 : decode cX6_verdict 49 = .ok (.if_icmp .lt 11, 3) := by decide +kernel
theorem dX6_verdict_52 : decode cX6_verdict 52 = .ok (.iload_n 3, 1) := by decide +kernel
theorem dX6_verdict_53 : decode cX6_verdict 53 = .ok (.iload 4, 2) := by decide +kernel
theorem dX6_verdict_55 : decode cX6_verdict 55 = .ok (.if_icmp .le 5, 3) := by decide +kernel
theorem dX6_verdict_58 : decode cX6_verdict 58 = .ok (.iconst 1, 1) := by decide +kernel
theorem dX6_verdict_59 : decode cX6_verdict 59 = .ok (.ireturn, 1) := by decide +kernel
theorem dX6_verdict_60 : decode cX6_verdict 60 = .ok (.iload 4, 2) := by decide +kernel
theorem dX6_verdict_62 : decode cX6_verdict 62 = .ok (.ifCond .le 7, 3) := by decide +kernel
theorem dX6_verdict_65 : decode cX6_verdict 65 = .ok (.iload_n 3, 1) := by decide +kernel
theorem dX6_verdict_66 : decode cX6_verdict 66 = .ok (.ifCond .eq 18, 3) := by decide +kernel
theorem dX6_verdict_69 : decode cX6_verdict 69 = .ok (.iload 4, 2) := by decide +kernel
theorem dX6_verdict_71 : decode cX6_verdict 71 = .ok (.aload_n 0, 1) := by decide +kernel
theorem dX6_verdict_72 : decode cX6_verdict 72 = .ok (.getfield 47, 3) := by decide +kernel
theorem dX6_verdict_75 : decode cX6_verdict 75 = .ok (.if_icmp .lt 13, 3) := by decide +kernel
theorem dX6_verdict_78 : decode cX6_verdict 78 = .ok (.iload 4, 2) := by decide +kernel
theorem dX6_verdict_80 : decode cX6_verdict 80 = .ok (.iload_n 3, 1) := by decide +kernel
theorem dX6_verdict_81 : decode cX6_verdict 81 = .ok (.if_icmp .le 7, 3) := by decide +kernel
theorem dX6_verdict_84 : decode cX6_verdict 84 = .ok (.iconst 0, 1) := by decide +kernel
theorem dX6_verdict_85 : decode cX6_verdict 85 = .ok (.goto 5, 3) := by decide +kernel
theorem dX6_verdict_88 : decode cX6_verdict 88 = .ok (.bipush 9, 2) := by decide +kernel
theorem dX6_verdict_90 : decode cX6_verdict 90 = .ok (.ireturn, 1) := by decide +kernel
theorem dX6_hungerOn_0 : decode cX6_hungerOn 0 = .ok (.bipush 15, 2) := by decide +kernel
theorem dX6_hungerOn_2 : decode cX6_hungerOn 2 = .ok (.iload_n 1, 1) := by decide +kernel
theorem dX6_hungerOn_3 : decode cX6_hungerOn 3 = .ok (.imul, 1) := by decide +kernel
theorem dX6_hungerOn_4 : decode cX6_hungerOn 4 = .ok (.istore_n 3, 1) := by decide +kernel
theorem dX6_hungerOn_5 : decode cX6_hungerOn 5 = .ok (.aload_n 0, 1) := by decide +kernel
theorem dX6_hungerOn_6 : decode cX6_hungerOn 6 = .ok (.getfield 7, 3) := by decide +kernel
theorem dX6_hungerOn_9 : decode cX6_hungerOn 9 = .ok (.iload_n 2, 1) := by decide +kernel
theorem dX6_hungerOn_10 : decode cX6_hungerOn 10 = .ok (.iaload, 1) := by decide +kernel
theorem dX6_hungerOn_11 : decode cX6_hungerOn 11 = .ok (.iconst 1, 1) := by decide +kernel
theorem dX6_hungerOn_12 : decode cX6_hungerOn 12 = .ok (.if_icmp .ne 7, 3) := by decide +kernel
theorem dX6_hungerOn_15 : decode cX6_hungerOn 15 = .ok (.iconst 2, 1) := by decide +kernel
theorem dX6_hungerOn_16 : decode cX6_hungerOn 16 = .ok (.goto 32, 3) := by decide +kernel
theorem dX6_hungerOn_19 : decode cX6_hungerOn 19 = .ok (.aload_n 0, 1) := by decide +kernel
theorem dX6_hungerOn_20 : decode cX6_hungerOn 20 = .ok (.getfield 7, 3) := by decide +kernel
theorem dX6_hungerOn_23 : decode cX6_hungerOn 23 = .ok (.iload_n 2, 1) := by decide +kernel
theorem dX6_hungerOn_24 : decode cX6_hungerOn 24 = .ok (.iaload, 1) := by decide +kernel
theorem dX6_hungerOn_25 : decode cX6_hungerOn 25 = .ok (.iconst 2, 1) := by decide +kernel
theorem dX6_hungerOn_26 : decode cX6_hungerOn 26 = .ok (.if_icmp .ne 21, 3) := by decide +kernel
theorem dX6_hungerOn_29 : decode cX6_hungerOn 29 = .ok (.aload_n 0, 1) := by decide +kernel
theorem dX6_hungerOn_30 : decode cX6_hungerOn 30 = .ok (.getfield 16, 3) := by decide +kernel
theorem dX6_hungerOn_33 : decode cX6_hungerOn 33 = .ok (.iload_n 3, 1) := by decide +kernel
theorem dX6_hungerOn_34 : decode cX6_hungerOn 34 = .ok (.iconst 2, 1) := by decide +kernel
theorem dX6_hungerOn_35 : decode cX6_hungerOn 35 = .ok (.iadd, 1) := by decide +kernel
theorem dX6_hungerOn_36 : decode cX6_hungerOn 36 = .ok (.iaload, 1) := by decide +kernel
theorem dX6_hungerOn_37 : decode cX6_hungerOn 37 = .ok (.iconst 2, 1) := by decide +kernel
theorem dX6_hungerOn_38 : decode cX6_hungerOn 38 = .ok (.irem, 1) := by decide +kernel
theorem dX6_hungerOn_39 : decode cX6_hungerOn 39 = .ok (.iconst 1, 1) := by decide +kernel
theorem dX6_hungerOn_40 : decode cX6_hungerOn 40 = .ok (.if_icmp .ne 7, 3) := by decide +kernel
theorem dX6_hungerOn_43 : decode cX6_hungerOn 43 = .ok (.iconst 0, 1) := by decide +kernel
theorem dX6_hungerOn_44 : decode cX6_hungerOn 44 = .ok (.goto 4, 3) := by decide +kernel
theorem dX6_hungerOn_47 : decode cX6_hungerOn 47 = .ok (.iconst 1, 1) := by decide +kernel
theorem dX6_hungerOn_48 : decode cX6_hungerOn 48 = .ok (.istore 4, 2) := by decide +kernel
theorem dX6_hungerOn_50 : decode cX6_hungerOn 50 = .ok (.aload_n 0, 1) := by decide +kernel
theorem dX6_hungerOn_51 : decode cX6_hungerOn 51 = .ok (.getfield 16, 3) := by decide +kernel
theorem dX6_hungerOn_54 : decode cX6_hungerOn 54 = .ok (.iload_n 3, 1) := by decide +kernel
theorem dX6_hungerOn_55 : decode cX6_hungerOn 55 = .ok (.bipush 9, 2) := by decide +kernel
theorem dX6_hungerOn_57 : decode cX6_hungerOn 57 = .ok (.iadd, 1) := by decide +kernel
theorem dX6_hungerOn_58 : decode cX6_hungerOn 58 = .ok (.iload_n 2, 1) := by decide +kernel
theorem dX6_hungerOn_59 : decode cX6_hungerOn 59 = .ok (.iadd, 1) := by decide +kernel
theorem dX6_hungerOn_60 : decode cX6_hungerOn 60 = .ok (.iaload, 1) := by decide +kernel
theorem dX6_hungerOn_61 : decode cX6_hungerOn 61 = .ok (.iload 4, 2) := by decide +kernel
theorem dX6_hungerOn_63 : decode cX6_hungerOn 63 = .ok (.iadd, 1) := by decide +kernel
theorem dX6_hungerOn_64 : decode cX6_hungerOn 64 = .ok (.istore 5, 2) := by decide +kernel
theorem dX6_hungerOn_66 : decode cX6_hungerOn 66 = .ok (.aload_n 0, 1) := by decide +kernel
theorem dX6_hungerOn_67 : decode cX6_hungerOn 67 = .ok (.getfield 16, 3) := by decide +kernel
theorem dX6_hungerOn_70 : decode cX6_hungerOn 70 = .ok (.iload_n 3, 1) := by decide +kernel
theorem dX6_hungerOn_71 : decode cX6_hungerOn 71 = .ok (.bipush 9, 2) := by decide +kernel
theorem dX6_hungerOn_73 : decode cX6_hungerOn 73 = .ok (.iadd, 1) := by decide +kernel
theorem dX6_hungerOn_74 : decode cX6_hungerOn 74 = .ok (.iload_n 2, 1) := by decide +kernel
theorem dX6_hungerOn_75 : decode cX6_hungerOn 75 = .ok (.iadd, 1) := by decide +kernel
theorem dX6_hungerOn_76 : decode cX6_hungerOn 76 = .ok (.iload 5, 2) := by decide +kernel
theorem dX6_hungerOn_78 : decode cX6_hungerOn 78 = .ok (.bipush 20, 2) := by decide +kernel
theorem dX6_hungerOn_80 : decode cX6_hungerOn 80 = .ok (.if_icmp .le 8, 3) := by decide +kernel
theorem dX6_hungerOn_83 : decode cX6_hungerOn 83 = .ok (.bipush 20, 2) := by decide +kernel
theorem dX6_hungerOn_85 : decode cX6_hungerOn 85 = .ok (.goto 5, 3) := by decide +kernel
theorem dX6_hungerOn_88 : decode cX6_hungerOn 88 = .ok (.iload 5, 2) := by decide +kernel
theorem dX6_hungerOn_90 : decode cX6_hungerOn 90 = .ok (.iastore, 1) := by decide +kernel
theorem dX6_hungerOn_91 : decode cX6_hungerOn 91 = .ok (.return_, 1) := by decide +kernel
set_option maxRecDepth 20000 in
theorem ggX6_givesIn_X6_has : GoodIn wsX6_givesIn wsX6_has := goodIn_r _ [7] (by decide +kernel) (by decide +kernel)
set_option maxRecDepth 20000 in
theorem gX6_givesIn_X6_has : GoodIn wsX6_givesIn (va_wsS RX6 68 yX6_has wsX6_has) := goodIn_app (goodIn_of _ (by decide +kernel)) ggX6_givesIn_X6_has
set_option maxRecDepth 20000 in
theorem ggX6_givesIn_X6_ones : GoodIn wsX6_givesIn wsX6_ones := goodIn_r _ [10] (by decide +kernel) (by decide +kernel)
set_option maxRecDepth 20000 in
theorem gX6_givesIn_X6_ones : GoodIn wsX6_givesIn (va_wsS RX6 102 yX6_ones wsX6_ones) := goodIn_app (goodIn_of _ (by decide +kernel)) ggX6_givesIn_X6_ones
theorem dX6_givesIn_0 : decode cX6_givesIn 0 = .ok (.bipush 15, 2) := by decide +kernel
theorem dX6_givesIn_2 : decode cX6_givesIn 2 = .ok (.iload_n 1, 1) := by decide +kernel
theorem dX6_givesIn_3 : decode cX6_givesIn 3 = .ok (.imul, 1) := by decide +kernel
theorem dX6_givesIn_4 : decode cX6_givesIn 4 = .ok (.istore_n 3, 1) := by decide +kernel
theorem dX6_givesIn_5 : decode cX6_givesIn 5 = .ok (.aload_n 0, 1) := by decide +kernel
theorem dX6_givesIn_6 : decode cX6_givesIn 6 = .ok (.getfield 16, 3) := by decide +kernel
theorem dX6_givesIn_9 : decode cX6_givesIn 9 = .ok (.iload_n 3, 1) := by decide +kernel
theorem dX6_givesIn_10 : decode cX6_givesIn 10 = .ok (.iconst 1, 1) := by decide +kernel
theorem dX6_givesIn_11 : decode cX6_givesIn 11 = .ok (.iadd, 1) := by decide +kernel
theorem dX6_givesIn_12 : decode cX6_givesIn 12 = .ok (.iaload, 1) := by decide +kernel
theorem dX6_givesIn_13 : decode cX6_givesIn 13 = .ok (.istore 4, 2) := by decide +kernel
theorem dX6_givesIn_15 : decode cX6_givesIn 15 = .ok (.aload_n 0, 1) := by decide +kernel
theorem dX6_givesIn_16 : decode cX6_givesIn 16 = .ok (.getfield 16, 3) := by decide +kernel
theorem dX6_givesIn_19 : decode cX6_givesIn 19 = .ok (.iload_n 3, 1) := by decide +kernel
theorem dX6_givesIn_20 : decode cX6_givesIn 20 = .ok (.iaload, 1) := by decide +kernel
theorem dX6_givesIn_21 : decode cX6_givesIn 21 = .ok (.iload_n 2, 1) := by decide +kernel
theorem dX6_givesIn_22 : decode cX6_givesIn 22 = .ok (.invokestatic 68, 3) := by decide +kernel
theorem dX6_givesIn_25 : decode cX6_givesIn 25 = .ok (.ifCond .eq 15, 3) := by decide +kernel
theorem dX6_givesIn_28 : decode cX6_givesIn 28 = .ok (.aload_n 0, 1) := by decide +kernel
theorem dX6_givesIn_29 : decode cX6_givesIn 29 = .ok (.getfield 16, 3) := by decide +kernel
theorem dX6_givesIn_32 : decode cX6_givesIn 32 = .ok (.iload_n 3, 1) := by decide +kernel
theorem dX6_givesIn_33 : decode cX6_givesIn 33 = .ok (.iaload, 1) := by decide +kernel
theorem dX6_givesIn_34 : decode cX6_givesIn 34 = .ok (.iload 4, 2) := by decide +kernel
theorem dX6_givesIn_36 : decode cX6_givesIn 36 = .ok (.iand, 1) := by decide +kernel
theorem dX6_givesIn_37 : decode cX6_givesIn 37 = .ok (.goto 14, 3) := by decide +kernel
theorem dX6_givesIn_40 : decode cX6_givesIn 40 = .ok (.iload 4, 2) := by decide +kernel
theorem dX6_givesIn_42 : decode cX6_givesIn 42 = .ok (.aload_n 0, 1) := by decide +kernel
theorem dX6_givesIn_43 : decode cX6_givesIn 43 = .ok (.getfield 16, 3) := by decide +kernel
theorem dX6_givesIn_46 : decode cX6_givesIn 46 = .ok (.iload_n 3, 1) := by decide +kernel
theorem dX6_givesIn_47 : decode cX6_givesIn 47 = .ok (.iaload, 1) := by decide +kernel
theorem dX6_givesIn_48 : decode cX6_givesIn 48 = .ok (.iconst (-1), 1) := by decide +kernel
theorem dX6_givesIn_49 : decode cX6_givesIn 49 = .ok (.ixor, 1) := by decide +kernel
theorem dX6_givesIn_50 : decode cX6_givesIn 50 = .ok (.iand, 1) := by decide +kernel
theorem dX6_givesIn_51 : decode cX6_givesIn 51 = .ok (.istore 5, 2) := by decide +kernel
theorem dX6_givesIn_53 : decode cX6_givesIn 53 = .ok (.iload 4, 2) := by decide +kernel
theorem dX6_givesIn_55 : decode cX6_givesIn 55 = .ok (.iload 5, 2) := by decide +kernel
theorem dX6_givesIn_57 : decode cX6_givesIn 57 = .ok (.iconst (-1), 1) := by decide +kernel
theorem dX6_givesIn_58 : decode cX6_givesIn 58 = .ok (.ixor, 1) := by decide +kernel
theorem dX6_givesIn_59 : decode cX6_givesIn 59 = .ok (.iand, 1) := by decide +kernel
theorem dX6_givesIn_60 : decode cX6_givesIn 60 = .ok (.istore 6, 2) := by decide +kernel
theorem dX6_givesIn_62 : decode cX6_givesIn 62 = .ok (.iload 6, 2) := by decide +kernel
theorem dX6_givesIn_64 : decode cX6_givesIn 64 = .ok (.invokestatic 102, 3) := by decide +kernel
theorem dX6_givesIn_67 : decode cX6_givesIn 67 = .ok (.iload 5, 2) := by decide +kernel
theorem dX6_givesIn_69 : decode cX6_givesIn 69 = .ok (.invokestatic 102, 3) := by decide +kernel
theorem dX6_givesIn_72 : decode cX6_givesIn 72 = .ok (.isub, 1) := by decide +kernel
theorem dX6_givesIn_73 : decode cX6_givesIn 73 = .ok (.istore 7, 2) := by decide +kernel
theorem dX6_givesIn_75 : decode cX6_givesIn 75 = .ok (.aload_n 0, 1) := by decide +kernel
theorem dX6_givesIn_76 : decode cX6_givesIn 76 = .ok (.getfield 16, 3) := by decide +kernel
theorem dX6_givesIn_79 : decode cX6_givesIn 79 = .ok (.iload_n 3, 1) := by decide +kernel
theorem dX6_givesIn_80 : decode cX6_givesIn 80 = .ok (.bipush 9, 2) := by decide +kernel
theorem dX6_givesIn_82 : decode cX6_givesIn 82 = .ok (.iadd, 1) := by decide +kernel
theorem dX6_givesIn_83 : decode cX6_givesIn 83 = .ok (.iload_n 2, 1) := by decide +kernel
theorem dX6_givesIn_84 : decode cX6_givesIn 84 = .ok (.iadd, 1) := by decide +kernel
theorem dX6_givesIn_85 : decode cX6_givesIn 85 = .ok (.iaload, 1) := by decide +kernel
theorem dX6_givesIn_86 : decode cX6_givesIn 86 = .ok (.istore 8, 2) := by decide +kernel
theorem dX6_givesIn_88 : decode cX6_givesIn 88 = .ok (.aload_n 0, 1) := by decide +kernel
theorem dX6_givesIn_89 : decode cX6_givesIn 89 = .ok (.getfield 7, 3) := by decide +kernel
theorem dX6_givesIn_92 : decode cX6_givesIn 92 = .ok (.iload_n 2, 1) := by decide +kernel
theorem dX6_givesIn_93 : decode cX6_givesIn 93 = .ok (.iaload, 1) := by decide +kernel
theorem dX6_givesIn_94 : decode cX6_givesIn 94 = .ok (.iconst 3, 1) := by decide +kernel
theorem dX6_givesIn_95 : decode cX6_givesIn 95 = .ok (.if_icmp .ne 8, 3) := by decide +kernel
theorem dX6_givesIn_98 : decode cX6_givesIn 98 = .ok (.iload 8, 2) := by decide +kernel
theorem dX6_givesIn_100 : decode cX6_givesIn 100 = .ok (.goto 23, 3) := by decide +kernel
theorem dX6_givesIn_103 : decode cX6_givesIn 103 = .ok (.iload 8, 2) := by decide +kernel
theorem dX6_givesIn_105 : decode cX6_givesIn 105 = .ok (.iload 7, 2) := by decide +kernel
theorem dX6_givesIn_107 : decode cX6_givesIn 107 = .ok (.iadd, 1) := by decide +kernel
theorem dX6_givesIn_108 : decode cX6_givesIn 108 = .ok (.iconst 2, 1) := by decide +kernel
theorem dX6_givesIn_109 : decode cX6_givesIn 109 = .ok (.aload_n 0, 1) := by decide +kernel
theorem dX6_givesIn_110 : decode cX6_givesIn 110 = .ok (.getfield 13, 3) := by decide +kernel
theorem dX6_givesIn_113 : decode cX6_givesIn 113 = .ok (.iload_n 2, 1) := by decide +kernel
theorem dX6_givesIn_114 : decode cX6_givesIn 114 = .ok (.iaload, 1) := by decide +kernel
theorem dX6_givesIn_115 : decode cX6_givesIn 115 = .ok (.iload 6, 2) := by decide +kernel
theorem dX6_givesIn_117 : decode cX6_givesIn 117 = .ok (.iand, 1) := by decide +kernel
theorem dX6_givesIn_118 : decode cX6_givesIn 118 = .ok (.invokestatic 102, 3) := by decide +kernel
theorem dX6_givesIn_121 : decode cX6_givesIn 121 = .ok (.imul, 1) := by decide +kernel
theorem dX6_givesIn_122 : decode cX6_givesIn 122 = .ok (.iadd, 1) := by decide +kernel
theorem dX6_givesIn_123 : decode cX6_givesIn 123 = .ok (.istore 9, 2) := by decide +kernel
theorem dX6_givesIn_125 : decode cX6_givesIn 125 = .ok (.iload 7, 2) := by decide +kernel
theorem dX6_givesIn_127 : decode cX6_givesIn 127 = .ok (.ifCond .le 22, 3) := by decide +kernel
theorem dX6_givesIn_130 : decode cX6_givesIn 130 = .ok (.iload 9, 2) := by decide +kernel
theorem dX6_givesIn_132 : decode cX6_givesIn 132 = .ok (.aload_n 0, 1) := by decide +kernel
theorem dX6_givesIn_133 : decode cX6_givesIn 133 = .ok (.getfield 16, 3) := by decide +kernel
theorem dX6_givesIn_136 : decode cX6_givesIn 136 = .ok (.iload_n 3, 1) := by decide +kernel
theorem dX6_givesIn_137 : decode cX6_givesIn 137 = .ok (.iconst 3, 1) := by decide +kernel
theorem dX6_givesIn_138 : decode cX6_givesIn 138 = .ok (.iadd, 1) := by decide +kernel
theorem dX6_givesIn_139 : decode cX6_givesIn 139 = .ok (.iload_n 2, 1) := by decide +kernel
theorem dX6_givesIn_140 : decode cX6_givesIn 140 = .ok (.iadd, 1) := by decide +kernel
theorem dX6_givesIn_141 : decode cX6_givesIn 141 = .ok (.iaload, 1) := by decide +kernel
theorem dX6_givesIn_142 : decode cX6_givesIn 142 = .ok (.if_icmp .lt 7, 3) := by decide +kernel
theorem dX6_givesIn_145 : decode cX6_givesIn 145 = .ok (.iconst 1, 1) := by decide +kernel
theorem dX6_givesIn_146 : decode cX6_givesIn 146 = .ok (.goto 4, 3) := by decide +kernel
theorem dX6_givesIn_149 : decode cX6_givesIn 149 = .ok (.iconst 0, 1) := by decide +kernel
theorem dX6_givesIn_150 : decode cX6_givesIn 150 = .ok (.ireturn, 1) := by decide +kernel
set_option maxRecDepth 20000 in
theorem ggX6_passOn_X6_verdict : GoodIn wsX6_passOn wsX6_verdict := goodIn_r _ [7, 1, 8, 9, 10, 6, 11, 29, 30, 31, 32, 33, 34, 35, 36, 37, 38, 39, 40, 41, 42, 43, 44, 45, 46, 47, 48, 49, 50, 51, 52] (by decide +kernel) (by decide +kernel)
set_option maxRecDepth 20000 in
theorem gX6_passOn_X6_verdict : GoodIn wsX6_passOn (wsV RX6 105 RX6 yX6_verdict wsX6_verdict) := goodIn_app (goodIn_of _ (by decide +kernel)) ggX6_passOn_X6_verdict
set_option maxRecDepth 20000 in
theorem ggX6_passOn_X6_isThere : GoodIn wsX6_passOn wsX6_isThere := goodIn_r _ [15, 1, 16, 17, 6, 18, 29, 30, 31, 32, 33, 34, 35, 36, 37, 38, 39, 40, 41, 42, 43, 44, 45, 46, 47, 48, 49, 50, 51, 52] (by decide +kernel) (by decide +kernel)
set_option maxRecDepth 20000 in
theorem gX6_passOn_X6_isThere : GoodIn wsX6_passOn (wsV RX6 108 RX6 yX6_isThere wsX6_isThere) := goodIn_app (goodIn_of _ (by decide +kernel)) ggX6_passOn_X6_isThere
set_option maxRecDepth 20000 in
theorem ggX6_passOn_X6_hungerOn : GoodIn wsX6_passOn wsX6_hungerOn := goodIn_r _ [22, 23, 1, 29, 30, 31, 32, 33, 34, 35, 36, 37, 38, 39, 40, 41, 42, 43, 44, 45, 46, 47, 48, 49, 50, 51, 52] (by decide +kernel) (by decide +kernel)
set_option maxRecDepth 20000 in
theorem gX6_passOn_X6_hungerOn : GoodIn wsX6_passOn (wsV RX6 111 RX6 yX6_hungerOn wsX6_hungerOn) := goodIn_app (goodIn_of _ (by decide +kernel)) ggX6_passOn_X6_hungerOn
set_option maxRecDepth 20000 in
theorem ggX6_passOn_X6_givesIn : GoodIn wsX6_passOn wsX6_givesIn := goodIn_r _ [27, 1, 23, 28, 16, 17, 6, 18, 9, 10, 11, 29, 30, 31, 32, 33, 34, 35, 36, 37, 38, 39, 40, 41, 42, 43, 44, 45, 46, 47, 48, 49, 50, 51, 52] (by decide +kernel) (by decide +kernel)
set_option maxRecDepth 20000 in
theorem gX6_passOn_X6_givesIn : GoodIn wsX6_passOn (wsV RX6 115 RX6 yX6_givesIn wsX6_givesIn) := goodIn_app (goodIn_of _ (by decide +kernel)) ggX6_passOn_X6_givesIn
theorem dX6_passOn_0 : decode cX6_passOn 0 = .ok (.bipush 15, 2) := by decide +kernel
theorem dX6_passOn_2 : decode cX6_passOn 2 = .ok (.iload_n 1, 1) := by decide +kernel
theorem dX6_passOn_3 : decode cX6_passOn 3 = .ok (.imul, 1) := by decide +kernel
theorem dX6_passOn_4 : decode cX6_passOn 4 = .ok (.istore_n 2, 1) := by decide +kernel
theorem dX6_passOn_5 : decode cX6_passOn 5 = .ok (.aload_n 0, 1) := by decide +kernel
theorem dX6_passOn_6 : decode cX6_passOn 6 = .ok (.getfield 16, 3) := by decide +kernel
theorem dX6_passOn_9 : decode cX6_passOn 9 = .ok (.iload_n 2, 1) := by decide +kernel
theorem dX6_passOn_10 : decode cX6_passOn 10 = .ok (.iconst 2, 1) := by decide +kernel
theorem dX6_passOn_11 : decode cX6_passOn 11 = .ok (.iadd, 1) := by decide +kernel
theorem dX6_passOn_12 : decode cX6_passOn 12 = .ok (.dup2, 1) := by decide +kernel
theorem dX6_passOn_13 : decode cX6_passOn 13 = .ok (.iaload, 1) := by decide +kernel
theorem dX6_passOn_14 : decode cX6_passOn 14 = .ok (.iconst 1, 1) := by decide +kernel
theorem dX6_passOn_15 : decode cX6_passOn 15 = .ok (.iadd, 1) := by decide +kernel
theorem dX6_passOn_16 : decode cX6_passOn 16 = .ok (.iastore, 1) := by decide +kernel
theorem dX6_passOn_17 : decode cX6_passOn 17 = .ok (.aload_n 0, 1) := by decide +kernel
theorem dX6_passOn_18 : decode cX6_passOn 18 = .ok (.iload_n 1, 1) := by decide +kernel
theorem dX6_passOn_19 : decode cX6_passOn 19 = .ok (.invokevirtual 105, 3) := by decide +kernel
theorem dX6_passOn_22 : decode cX6_passOn 22 = .ok (.bipush 9, 2) := by decide +kernel
theorem dX6_passOn_24 : decode cX6_passOn 24 = .ok (.if_icmp .eq 5, 3) := by decide +kernel
theorem dX6_passOn_27 : decode cX6_passOn 27 = .ok (.iconst 0, 1) := by decide +kernel
theorem dX6_passOn_28 : decode cX6_passOn 28 = .ok (.ireturn, 1) := by decide +kernel
theorem dX6_passOn_29 : decode cX6_passOn 29 = .ok (.iconst 0, 1) := by decide +kernel
theorem dX6_passOn_30 : decode cX6_passOn 30 = .ok (.istore_n 3, 1) := by decide +kernel
theorem dX6_passOn_31 : decode cX6_passOn 31 = .ok (.iload_n 3, 1) := by decide +kernel
theorem dX6_passOn_32 : decode cX6_passOn 32 = .ok (.aload_n 0, 1) := by decide +kernel
theorem dX6_passOn_33 : decode cX6_passOn 33 = .ok (.getfield 96, 3) := by decide +kernel
theorem dX6_passOn_36 : decode cX6_passOn 36 = .ok (.if_icmp .ge 24, 3) := by decide +kernel
theorem dX6_passOn_39 : decode cX6_passOn 39 = .ok (.aload_n 0, 1) := by decide +kernel
theorem dX6_passOn_40 : decode cX6_passOn 40 = .ok (.iload_n 1, 1) := by decide +kernel
theorem dX6_passOn_41 : decode cX6_passOn 41 = .ok (.iload_n 3, 1) := by decide +kernel
theorem dX6_passOn_42 : decode cX6_passOn 42 = .ok (.invokevirtual 108, 3) := by decide +kernel
theorem dX6_passOn_45 : decode cX6_passOn 45 = .ok (.ifCond .eq 9, 3) := by decide +kernel
theorem dX6_passOn_48 : decode cX6_passOn 48 = .ok (.aload_n 0, 1) := by decide +kernel
theorem dX6_passOn_49 : decode cX6_passOn 49 = .ok (.iload_n 1, 1) := by decide +kernel
theorem dX6_passOn_50 : decode cX6_passOn 50 = .ok (.iload_n 3, 1) := by decide +kernel
theorem dX6_passOn_51 : decode cX6_passOn 51 = .ok (.invokevirtual 111, 3) := by decide +kernel
theorem dX6_passOn_54 : decode cX6_passOn 54 = .ok (.iinc 3 1, 3) := by decide +kernel
theorem dX6_passOn_57 : decode cX6_passOn 57 = .ok (.goto (-26), 3) := by decide +kernel
theorem dX6_passOn_60 : decode cX6_passOn 60 = .ok (.iconst 0, 1) := by decide +kernel
theorem dX6_passOn_61 : decode cX6_passOn 61 = .ok (.istore_n 3, 1) := by decide +kernel
theorem dX6_passOn_62 : decode cX6_passOn 62 = .ok (.iconst 0, 1) := by decide +kernel
theorem dX6_passOn_63 : decode cX6_passOn 63 = .ok (.istore 4, 2) := by decide +kernel
theorem dX6_passOn_65 : decode cX6_passOn 65 = .ok (.iload 4, 2) := by decide +kernel
theorem dX6_passOn_67 : decode cX6_passOn 67 = .ok (.aload_n 0, 1) := by decide +kernel
theorem dX6_passOn_68 : decode cX6_passOn 68 = .ok (.getfield 96, 3) := by decide +kernel
theorem dX6_passOn_71 : decode cX6_passOn 71 = .ok (.if_icmp .ge 45, 3) := by decide +kernel
theorem dX6_passOn_74 : decode cX6_passOn 74 = .ok (.aload_n 0, 1) := by decide +kernel
theorem dX6_passOn_75 : decode cX6_passOn 75 = .ok (.iload_n 1, 1) := by decide +kernel
theorem dX6_passOn_76 : decode cX6_passOn 76 = .ok (.iload 4, 2) := by decide +kernel
theorem dX6_passOn_78 : decode cX6_passOn 78 = .ok (.invokevirtual 108, 3) := by decide +kernel
theorem dX6_passOn_81 : decode cX6_passOn 81 = .ok (.ifCond .eq 29, 3) := by decide +kernel
theorem dX6_passOn_84 : decode cX6_passOn 84 = .ok (.aload_n 0, 1) := by decide +kernel
theorem dX6_passOn_85 : decode cX6_passOn 85 = .ok (.iload_n 1, 1) := by decide +kernel
theorem dX6_passOn_86 : decode cX6_passOn 86 = .ok (.iload 4, 2) := by decide +kernel
theorem dX6_passOn_88 : decode cX6_passOn 88 = .ok (.invokevirtual 115, 3) := by decide +kernel
theorem dX6_passOn_91 : decode cX6_passOn 91 = .ok (.ifCond .eq 19, 3) := by decide +kernel
theorem dX6_passOn_94 : decode cX6_passOn 94 = .ok (.aload_n 0, 1) := by decide +kernel
theorem dX6_passOn_95 : decode cX6_passOn 95 = .ok (.getfield 16, 3) := by decide +kernel
theorem dX6_passOn_98 : decode cX6_passOn 98 = .ok (.iload_n 2, 1) := by decide +kernel
theorem dX6_passOn_99 : decode cX6_passOn 99 = .ok (.dup2, 1) := by decide +kernel
theorem dX6_passOn_100 : decode cX6_passOn 100 = .ok (.iaload, 1) := by decide +kernel
theorem dX6_passOn_101 : decode cX6_passOn 101 = .ok (.iconst 1, 1) := by decide +kernel
theorem dX6_passOn_102 : decode cX6_passOn 102 = .ok (.iload 4, 2) := by decide +kernel
theorem dX6_passOn_104 : decode cX6_passOn 104 = .ok (.ishl, 1) := by decide +kernel
theorem dX6_passOn_105 : decode cX6_passOn 105 = .ok (.ixor, 1) := by decide +kernel
theorem dX6_passOn_106 : decode cX6_passOn 106 = .ok (.iastore, 1) := by decide +kernel
theorem dX6_passOn_107 : decode cX6_passOn 107 = .ok (.iinc 3 1, 3) := by decide +kernel
theorem dX6_passOn_110 : decode cX6_passOn 110 = .ok (.iinc 4 1, 3) := by decide +kernel
theorem dX6_passOn_113 : decode cX6_passOn 113 = .ok (.goto (-48), 3) := by decide +kernel
theorem dX6_passOn_116 : decode cX6_passOn 116 = .ok (.iload_n 3, 1) := by decide +kernel
theorem dX6_passOn_117 : decode cX6_passOn 117 = .ok (.ireturn, 1) := by decide +kernel
set_option maxRecDepth 20000 in
theorem ggX6_juror_X6_isJuror : GoodIn wsX6_juror wsX6_isJuror := goodIn_r _ [8, 9, 10, 11, 7, 12, 13, 14, 15, 16, 17, 18, 19, 20, 21, 22, 23, 24, 25, 26, 27, 28, 29, 30, 31, 32, 33, 34, 35, 36] (by decide +kernel) (by decide +kernel)
set_option maxRecDepth 20000 in
theorem gX6_juror_X6_isJuror : GoodIn wsX6_juror (wsV RX6 118 RX6 yX6_isJuror wsX6_isJuror) := goodIn_app (goodIn_of _ (by decide +kernel)) ggX6_juror_X6_isJuror
theorem dX6_juror_0 : decode cX6_juror 0 = .ok (.aload_n 0, 1) := by decide +kernel
theorem dX6_juror_1 : decode cX6_juror 1 = .ok (.iload_n 1, 1) := by decide +kernel
theorem dX6_juror_2 : decode cX6_juror 2 = .ok (.invokevirtual 118, 3) := by decide +kernel
theorem dX6_juror_5 : decode cX6_juror 5 = .ok (.ifCond .ne 5, 3) := by decide +kernel
theorem dX6_juror_8 : decode cX6_juror 8 = .ok (.iconst (-1), 1) := by decide +kernel
theorem dX6_juror_9 : decode cX6_juror 9 = .ok (.ireturn, 1) := by decide +kernel
theorem dX6_juror_10 : decode cX6_juror 10 = .ok (.iload_n 2, 1) := by decide +kernel
theorem dX6_juror_11 : decode cX6_juror 11 = .ok (.tableswitch 92 0 5 #[37, 48, 57, 64, 74, 81], 37) := by decide +kernel
theorem dX6_juror_48 : decode cX6_juror 48 = .ok (.aload_n 0, 1) := by decide +kernel
theorem dX6_juror_49 : decode cX6_juror 49 = .ok (.getfield 16, 3) := by decide +kernel
theorem dX6_juror_52 : decode cX6_juror 52 = .ok (.iconst 0, 1) := by decide +kernel
theorem dX6_juror_53 : decode cX6_juror 53 = .ok (.iaload, 1) := by decide +kernel
theorem dX6_juror_54 : decode cX6_juror 54 = .ok (.iload_n 1, 1) := by decide +kernel
theorem dX6_juror_55 : decode cX6_juror 55 = .ok (.ishr, 1) := by decide +kernel
theorem dX6_juror_56 : decode cX6_juror 56 = .ok (.iconst 1, 1) := by decide +kernel
theorem dX6_juror_57 : decode cX6_juror 57 = .ok (.iand, 1) := by decide +kernel
theorem dX6_juror_58 : decode cX6_juror 58 = .ok (.ireturn, 1) := by decide +kernel
theorem dX6_juror_59 : decode cX6_juror 59 = .ok (.aload_n 0, 1) := by decide +kernel
theorem dX6_juror_60 : decode cX6_juror 60 = .ok (.getfield 16, 3) := by decide +kernel
theorem dX6_juror_63 : decode cX6_juror 63 = .ok (.iconst 3, 1) := by decide +kernel
theorem dX6_juror_64 : decode cX6_juror 64 = .ok (.iload_n 1, 1) := by decide +kernel
theorem dX6_juror_65 : decode cX6_juror 65 = .ok (.iadd, 1) := by decide +kernel
theorem dX6_juror_66 : decode cX6_juror 66 = .ok (.iaload, 1) := by decide +kernel
theorem dX6_juror_67 : decode cX6_juror 67 = .ok (.ireturn, 1) := by decide +kernel
theorem dX6_juror_68 : decode cX6_juror 68 = .ok (.aload_n 0, 1) := by decide +kernel
theorem dX6_juror_69 : decode cX6_juror 69 = .ok (.getfield 7, 3) := by decide +kernel
theorem dX6_juror_72 : decode cX6_juror 72 = .ok (.iload_n 1, 1) := by decide +kernel
theorem dX6_juror_73 : decode cX6_juror 73 = .ok (.iaload, 1) := by decide +kernel
theorem dX6_juror_74 : decode cX6_juror 74 = .ok (.ireturn, 1) := by decide +kernel
theorem dX6_juror_75 : decode cX6_juror 75 = .ok (.aload_n 0, 1) := by decide +kernel
theorem dX6_juror_76 : decode cX6_juror 76 = .ok (.getfield 16, 3) := by decide +kernel
theorem dX6_juror_79 : decode cX6_juror 79 = .ok (.bipush 9, 2) := by decide +kernel
theorem dX6_juror_81 : decode cX6_juror 81 = .ok (.iload_n 1, 1) := by decide +kernel
theorem dX6_juror_82 : decode cX6_juror 82 = .ok (.iadd, 1) := by decide +kernel
theorem dX6_juror_83 : decode cX6_juror 83 = .ok (.iaload, 1) := by decide +kernel
theorem dX6_juror_84 : decode cX6_juror 84 = .ok (.ireturn, 1) := by decide +kernel
theorem dX6_juror_85 : decode cX6_juror 85 = .ok (.aload_n 0, 1) := by decide +kernel
theorem dX6_juror_86 : decode cX6_juror 86 = .ok (.getfield 13, 3) := by decide +kernel
theorem dX6_juror_89 : decode cX6_juror 89 = .ok (.iload_n 1, 1) := by decide +kernel
theorem dX6_juror_90 : decode cX6_juror 90 = .ok (.iaload, 1) := by decide +kernel
theorem dX6_juror_91 : decode cX6_juror 91 = .ok (.ireturn, 1) := by decide +kernel
theorem dX6_juror_92 : decode cX6_juror 92 = .ok (.aload_n 0, 1) := by decide +kernel
theorem dX6_juror_93 : decode cX6_juror 93 = .ok (.getfield 16, 3) := by decide +kernel
theorem dX6_juror_96 : decode cX6_juror 96 = .ok (.iconst 1, 1) := by decide +kernel
theorem dX6_juror_97 : decode cX6_juror 97 = .ok (.iaload, 1) := by decide +kernel
theorem dX6_juror_98 : decode cX6_juror 98 = .ok (.iload_n 1, 1) := by decide +kernel
theorem dX6_juror_99 : decode cX6_juror 99 = .ok (.ishr, 1) := by decide +kernel
theorem dX6_juror_100 : decode cX6_juror 100 = .ok (.iconst 1, 1) := by decide +kernel
theorem dX6_juror_101 : decode cX6_juror 101 = .ok (.iand, 1) := by decide +kernel
theorem dX6_juror_102 : decode cX6_juror 102 = .ok (.ireturn, 1) := by decide +kernel
theorem dX6_juror_103 : decode cX6_juror 103 = .ok (.bipush (-2), 2) := by decide +kernel
theorem dX6_juror_105 : decode cX6_juror 105 = .ok (.ireturn, 1) := by decide +kernel
theorem dX6_keepAct_0 : decode cX6_keepAct 0 = .ok (.iconst 0, 1) := by decide +kernel
theorem dX6_keepAct_1 : decode cX6_keepAct 1 = .ok (.istore_n 1, 1) := by decide +kernel
theorem dX6_keepAct_2 : decode cX6_keepAct 2 = .ok (.iload_n 1, 1) := by decide +kernel
theorem dX6_keepAct_3 : decode cX6_keepAct 3 = .ok (.bipush 15, 2) := by decide +kernel
theorem dX6_keepAct_5 : decode cX6_keepAct 5 = .ok (.if_icmp .ge 29, 3) := by decide +kernel
theorem dX6_keepAct_8 : decode cX6_keepAct 8 = .ok (.aload_n 0, 1) := by decide +kernel
theorem dX6_keepAct_9 : decode cX6_keepAct 9 = .ok (.getfield 28, 3) := by decide +kernel
theorem dX6_keepAct_12 : decode cX6_keepAct 12 = .ok (.bipush 15, 2) := by decide +kernel
theorem dX6_keepAct_14 : decode cX6_keepAct 14 = .ok (.aload_n 0, 1) := by decide +kernel
theorem dX6_keepAct_15 : decode cX6_keepAct 15 = .ok (.getfield 122, 3) := by decide +kernel
theorem dX6_keepAct_18 : decode cX6_keepAct 18 = .ok (.imul, 1) := by decide +kernel
theorem dX6_keepAct_19 : decode cX6_keepAct 19 = .ok (.iload_n 1, 1) := by decide +kernel
theorem dX6_keepAct_20 : decode cX6_keepAct 20 = .ok (.iadd, 1) := by decide +kernel
