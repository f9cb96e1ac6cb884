set_option maxRecDepth 20000 in
theorem ggX5_init_X4_init : GoodIn wsX5_init wsX4_init := goodIn_r _ [30, 31, 2, 3, 32, 33, 61, 62] (by decide +kernel) (by decide +kernel)
set_option maxRecDepth 20000 in
theorem gX5_init_X4_init_n11 : GoodIn wsX5_init (wsX4_init) := ggX5_init_X4_init
set_option maxRecDepth 20000 in
theorem ggX5_init_X1_init : GoodIn wsX5_init wsX1_init := goodIn_r _ [35, 36, 2, 3, 32, 37, 38, 39, 40, 73, 74, 75, 76, 77, 78] (by decide +kernel) (by decide +kernel)
set_option maxRecDepth 20000 in
theorem gX5_init_X1_init_n18 : GoodIn wsX5_init (wsX1_init) := ggX5_init_X1_init
set_option maxRecDepth 20000 in
theorem ggX5_init_X2_init : GoodIn wsX5_init wsX2_init := goodIn_r _ [43, 44, 2, 3, 32, 45, 46, 47, 79, 80, 81, 82, 83, 84] (by decide +kernel) (by decide +kernel)
set_option maxRecDepth 20000 in
theorem gX5_init_X2_init : GoodIn wsX5_init (wsX2_init) := ggX5_init_X2_init
set_option maxRecDepth 20000 in
theorem ggX5_init_X0_init : GoodIn wsX5_init wsX0_init := goodIn_r _ [50, 51, 2, 3, 52, 53, 14, 15, 54, 42, 43, 44, 32, 45, 46, 47, 85, 86, 79, 80, 81, 82, 83, 84] (by decide +kernel) (by decide +kernel)
set_option maxRecDepth 20000 in
theorem gX5_init_X0_init : GoodIn wsX5_init (wsX0_init) := ggX5_init_X0_init
set_option maxRecDepth 20000 in
theorem ggX5_init_X3_init : GoodIn wsX5_init wsX3_init := goodIn_r _ [56, 57, 2, 3, 32, 58, 59, 60, 87, 88, 89, 90] (by decide +kernel) (by decide +kernel)
set_option maxRecDepth 20000 in
theorem gX5_init_X3_init_n55 : GoodIn wsX5_init (wsX3_init) := ggX5_init_X3_init
theorem dX5_init_0 : decode cX5_init 0 = .ok (.aload_n 0, 1) := by decide +kernel
theorem dX5_init_1 : decode cX5_init 1 = .ok (.invokespecial 3, 3) := by decide +kernel
theorem dX5_init_4 : decode cX5_init 4 = .ok (.aload_n 0, 1) := by decide +kernel
theorem dX5_init_5 : decode cX5_init 5 = .ok (.new 9, 3) := by decide +kernel
theorem dX5_init_8 : decode cX5_init 8 = .ok (.dup, 1) := by decide +kernel
theorem dX5_init_9 : decode cX5_init 9 = .ok (.invokespecial 11, 3) := by decide +kernel
theorem dX5_init_12 : decode cX5_init 12 = .ok (.putfield 12, 3) := by decide +kernel
theorem dX5_init_15 : decode cX5_init 15 = .ok (.aload_n 0, 1) := by decide +kernel
theorem dX5_init_16 : decode cX5_init 16 = .ok (.new 16, 3) := by decide +kernel
theorem dX5_init_19 : decode cX5_init 19 = .ok (.dup, 1) := by decide +kernel
theorem dX5_init_20 : decode cX5_init 20 = .ok (.invokespecial 18, 3) := by decide +kernel
theorem dX5_init_23 : decode cX5_init 23 = .ok (.putfield 19, 3) := by decide +kernel
theorem dX5_init_26 : decode cX5_init 26 = .ok (.aload_n 0, 1) := by decide +kernel
theorem dX5_init_27 : decode cX5_init 27 = .ok (.new 16, 3) := by decide +kernel
theorem dX5_init_30 : decode cX5_init 30 = .ok (.dup, 1) := by decide +kernel
theorem dX5_init_31 : decode cX5_init 31 = .ok (.invokespecial 18, 3) := by decide +kernel
theorem dX5_init_34 : decode cX5_init 34 = .ok (.putfield 23, 3) := by decide +kernel
theorem dX5_init_37 : decode cX5_init 37 = .ok (.aload_n 0, 1) := by decide +kernel
theorem dX5_init_38 : decode cX5_init 38 = .ok (.new 26, 3) := by decide +kernel
theorem dX5_init_41 : decode cX5_init 41 = .ok (.dup, 1) := by decide +kernel
theorem dX5_init_42 : decode cX5_init 42 = .ok (.aload_n 0, 1) := by decide +kernel
theorem dX5_init_43 : decode cX5_init 43 = .ok (.getfield 19, 3) := by decide +kernel
theorem dX5_init_46 : decode cX5_init 46 = .ok (.invokespecial 28, 3) := by decide +kernel
theorem dX5_init_49 : decode cX5_init 49 = .ok (.putfield 31, 3) := by decide +kernel
theorem dX5_init_52 : decode cX5_init 52 = .ok (.aload_n 0, 1) := by decide +kernel
theorem dX5_init_53 : decode cX5_init 53 = .ok (.new 26, 3) := by decide +kernel
theorem dX5_init_56 : decode cX5_init 56 = .ok (.dup, 1) := by decide +kernel
theorem dX5_init_57 : decode cX5_init 57 = .ok (.aload_n 0, 1) := by decide +kernel
theorem dX5_init_58 : decode cX5_init 58 = .ok (.getfield 19, 3) := by decide +kernel
theorem dX5_init_61 : decode cX5_init 61 = .ok (.invokespecial 28, 3) := by decide +kernel
theorem dX5_init_64 : decode cX5_init 64 = .ok (.putfield 35, 3) := by decide +kernel
theorem dX5_init_67 : decode cX5_init 67 = .ok (.aload_n 0, 1) := by decide +kernel
theorem dX5_init_68 : decode cX5_init 68 = .ok (.new 38, 3) := by decide +kernel
theorem dX5_init_71 : decode cX5_init 71 = .ok (.dup, 1) := by decide +kernel
theorem dX5_init_72 : decode cX5_init 72 = .ok (.aload_n 0, 1) := by decide +kernel
theorem dX5_init_73 : decode cX5_init 73 = .ok (.getfield 19, 3) := by decide +kernel
theorem dX5_init_76 : decode cX5_init 76 = .ok (.invokespecial 40, 3) := by decide +kernel
theorem dX5_init_79 : decode cX5_init 79 = .ok (.putfield 41, 3) := by decide +kernel
theorem dX5_init_82 : decode cX5_init 82 = .ok (.aload_n 0, 1) := by decide +kernel
theorem dX5_init_83 : decode cX5_init 83 = .ok (.iconst 2, 1) := by decide +kernel
theorem dX5_init_84 : decode cX5_init 84 = .ok (.anewarray 26, 3) := by decide +kernel
theorem dX5_init_87 : decode cX5_init 87 = .ok (.putfield 45, 3) := by decide +kernel
theorem dX5_init_90 : decode cX5_init 90 = .ok (.aload_n 0, 1) := by decide +kernel
theorem dX5_init_91 : decode cX5_init 91 = .ok (.iconst 2, 1) := by decide +kernel
theorem dX5_init_92 : decode cX5_init 92 = .ok (.newarray .boolean, 2) := by decide +kernel
theorem dX5_init_94 : decode cX5_init 94 = .ok (.putfield 49, 3) := by decide +kernel
theorem dX5_init_97 : decode cX5_init 97 = .ok (.aload_n 0, 1) := by decide +kernel
theorem dX5_init_98 : decode cX5_init 98 = .ok (.new 53, 3) := by decide +kernel
theorem dX5_init_101 : decode cX5_init 101 = .ok (.dup, 1) := by decide +kernel
theorem dX5_init_102 : decode cX5_init 102 = .ok (.invokespecial 55, 3) := by decide +kernel
theorem dX5_init_105 : decode cX5_init 105 = .ok (.putfield 56, 3) := by decide +kernel
theorem dX5_init_108 : decode cX5_init 108 = .ok (.iconst 0, 1) := by decide +kernel
theorem dX5_init_109 : decode cX5_init 109 = .ok (.istore_n 1, 1) := by decide +kernel
theorem dX5_init_110 : decode cX5_init 110 = .ok (.iload_n 1, 1) := by decide +kernel
theorem dX5_init_111 : decode cX5_init 111 = .ok (.iconst 2, 1) := by decide +kernel
theorem dX5_init_112 : decode cX5_init 112 = .ok (.if_icmp .ge 26, 3) := by decide +kernel
theorem dX5_init_115 : decode cX5_init 115 = .ok (.aload_n 0, 1) := by decide +kernel
theorem dX5_init_116 : decode cX5_init 116 = .ok (.getfield 45, 3) := by decide +kernel
theorem dX5_init_119 : decode cX5_init 119 = .ok (.iload_n 1, 1) := by decide +kernel
theorem dX5_init_120 : decode cX5_init 120 = .ok (.new 26, 3) := by decide +kernel
theorem dX5_init_123 : decode cX5_init 123 = .ok (.dup, 1) := by decide +kernel
theorem dX5_init_124 : decode cX5_init 124 = .ok (.aload_n 0, 1) := by decide +kernel
theorem dX5_init_125 : decode cX5_init 125 = .ok (.getfield 19, 3) := by decide +kernel
theorem dX5_init_128 : decode cX5_init 128 = .ok (.invokespecial 28, 3) := by decide +kernel
theorem dX5_init_131 : decode cX5_init 131 = .ok (.aastore, 1) := by decide +kernel
theorem dX5_init_132 : decode cX5_init 132 = .ok (.iinc 1 1, 3) := by decide +kernel
theorem dX5_init_135 : decode cX5_init 135 = .ok (.goto (-25), 3) := by decide +kernel
theorem dX5_init_138 : decode cX5_init 138 = .ok (.return_, 1) := by decide +kernel
set_option maxRecDepth 20000 in
theorem ggX5_write_X4_add : GoodIn wsX5_write wsX4_add := goodIn_r _ [7, 8, 9, 20, 21] (by decide +kernel) (by decide +kernel)
set_option maxRecDepth 20000 in
theorem gX5_write_X4_add : GoodIn wsX5_write (wsV RX5 60 RX4 yX4_add wsX4_add) := goodIn_app (goodIn_of _ (by decide +kernel)) ggX5_write_X4_add
theorem dX5_write_0 : decode cX5_write 0 = .ok (.iload_n 1, 1) := by decide +kernel
theorem dX5_write_1 : decode cX5_write 1 = .ok (.ifCond .lt 10, 3) := by decide +kernel
theorem dX5_write_4 : decode cX5_write 4 = .ok (.iload_n 1, 1) := by decide +kernel
theorem dX5_write_5 : decode cX5_write 5 = .ok (.sipush 255, 3) := by decide +kernel
theorem dX5_write_8 : decode cX5_write 8 = .ok (.if_icmp .le 6, 3) := by decide +kernel
theorem dX5_write_11 : decode cX5_write 11 = .ok (.bipush (-2), 2) := by decide +kernel
theorem dX5_write_13 : decode cX5_write 13 = .ok (.ireturn, 1) := by decide +kernel
theorem dX5_write_14 : decode cX5_write 14 = .ok (.aload_n 0, 1) := by decide +kernel
theorem dX5_write_15 : decode cX5_write 15 = .ok (.getfield 12, 3) := by decide +kernel
theorem dX5_write_18 : decode cX5_write 18 = .ok (.iload_n 1, 1) := by decide +kernel
theorem dX5_write_19 : decode cX5_write 19 = .ok (.invokevirtual 60, 3) := by decide +kernel
theorem dX5_write_22 : decode cX5_write 22 = .ok (.ifCond .eq 13, 3) := by decide +kernel
theorem dX5_write_25 : decode cX5_write 25 = .ok (.aload_n 0, 1) := by decide +kernel
theorem dX5_write_26 : decode cX5_write 26 = .ok (.getfield 12, 3) := by decide +kernel
theorem dX5_write_29 : decode cX5_write 29 = .ok (.getfield 64, 3) := by decide +kernel
theorem dX5_write_32 : decode cX5_write 32 = .ok (.goto 5, 3) := by decide +kernel
theorem dX5_write_35 : decode cX5_write 35 = .ok (.bipush (-4), 2) := by decide +kernel
theorem dX5_write_37 : decode cX5_write 37 = .ok (.ireturn, 1) := by decide +kernel
theorem dX5_wipe_0 : decode cX5_wipe 0 = .ok (.aload_n 0, 1) := by decide +kernel
theorem dX5_wipe_1 : decode cX5_wipe 1 = .ok (.getfield 12, 3) := by decide +kernel
theorem dX5_wipe_4 : decode cX5_wipe 4 = .ok (.getfield 64, 3) := by decide +kernel
theorem dX5_wipe_7 : decode cX5_wipe 7 = .ok (.istore_n 1, 1) := by decide +kernel
theorem dX5_wipe_8 : decode cX5_wipe 8 = .ok (.aload_n 0, 1) := by decide +kernel
theorem dX5_wipe_9 : decode cX5_wipe 9 = .ok (.getfield 12, 3) := by decide +kernel
theorem dX5_wipe_12 : decode cX5_wipe 12 = .ok (.iconst 0, 1) := by decide +kernel
theorem dX5_wipe_13 : decode cX5_wipe 13 = .ok (.putfield 64, 3) := by decide +kernel
theorem dX5_wipe_16 : decode cX5_wipe 16 = .ok (.iload_n 1, 1) := by decide +kernel
theorem dX5_wipe_17 : decode cX5_wipe 17 = .ok (.ireturn, 1) := by decide +kernel
set_option maxRecDepth 20000 in
theorem ggX5_fault_X1_readFrom : GoodIn wsX5_fault wsX1_readFrom := goodIn_r _ [7, 8, 9, 10, 11, 12, 13, 14, 15, 16, 17, 18, 19, 20, 21, 22, 23, 24, 25, 26, 27, 28, 29, 30, 6, 31, 32, 33, 34, 35, 36, 37, 38, 39, 40, 41, 42, 43, 44, 45, 46, 57, 58, 59, 60, 61, 62, 63, 64] (by decide +kernel) (by decide +kernel)
set_option maxRecDepth 20000 in
theorem gX5_fault_X1_readFrom : GoodIn wsX5_fault (wsV RX5 68 RX1 yX1_readFrom wsX1_readFrom) := goodIn_app (goodIn_of _ (by decide +kernel)) ggX5_fault_X1_readFrom
theorem dX5_fault_0 : decode cX5_fault 0 = .ok (.aload_n 0, 1) := by decide +kernel
theorem dX5_fault_1 : decode cX5_fault 1 = .ok (.getfield 23, 3) := by decide +kernel
theorem dX5_fault_4 : decode cX5_fault 4 = .ok (.aload_n 0, 1) := by decide +kernel
theorem dX5_fault_5 : decode cX5_fault 5 = .ok (.getfield 12, 3) := by decide +kernel
theorem dX5_fault_8 : decode cX5_fault 8 = .ok (.invokevirtual 68, 3) := by decide +kernel
theorem dX5_fault_11 : decode cX5_fault 11 = .ok (.ireturn, 1) := by decide +kernel
set_option maxRecDepth 20000 in
theorem ggX5_jury_X1_readFrom : GoodIn wsX5_jury wsX1_readFrom := goodIn_r _ [12, 13, 14, 15, 16, 17, 18, 19, 20, 21, 22, 23, 24, 25, 26, 27, 28, 29, 30, 31, 32, 33, 34, 35, 11, 36, 37, 38, 39, 40, 41, 42, 43, 44, 45, 46, 47, 48, 49, 50, 51, 82, 83, 84, 85, 86, 87, 88, 89] (by decide +kernel) (by decide +kernel)
set_option maxRecDepth 20000 in
theorem gX5_jury_X1_readFrom : GoodIn wsX5_jury (wsV RX5 68 RX1 yX1_readFrom wsX1_readFrom) := goodIn_app (goodIn_of _ (by decide +kernel)) ggX5_jury_X1_readFrom
set_option maxRecDepth 20000 in
theorem ggX5_jury_X2_beginAnew : GoodIn wsX5_jury wsX2_beginAnew := goodIn_r _ [56, 57, 58, 59, 60, 61, 62, 63, 64, 65, 90, 91, 92, 93, 94, 95, 82, 83, 84, 85, 86, 87] (by decide +kernel) (by decide +kernel)
set_option maxRecDepth 20000 in
theorem gX5_jury_X2_beginAnew : GoodIn wsX5_jury (wsV RX5 72 RX2 yX2_beginAnew wsX2_beginAnew) := goodIn_app (goodIn_of _ (by decide +kernel)) ggX5_jury_X2_beginAnew
set_option maxRecDepth 20000 in
theorem ggX5_jury_X0_forgetAll : GoodIn wsX5_jury wsX0_forgetAll := goodIn_r _ [70, 71, 96, 97] (by decide +kernel) (by decide +kernel)
set_option maxRecDepth 20000 in
theorem gX5_jury_X0_forgetAll : GoodIn wsX5_jury (wsV RX5 75 RX0 yX0_forgetAll wsX0_forgetAll) := goodIn_app (goodIn_of _ (by decide +kernel)) ggX5_jury_X0_forgetAll
theorem dX5_jury_0 : decode cX5_jury 0 = .ok (.aload_n 0, 1) := by decide +kernel
theorem dX5_jury_1 : decode cX5_jury 1 = .ok (.getfield 23, 3) := by decide +kernel
theorem dX5_jury_4 : decode cX5_jury 4 = .ok (.aload_n 0, 1) := by decide +kernel
theorem dX5_jury_5 : decode cX5_jury 5 = .ok (.getfield 12, 3) := by decide +kernel
theorem dX5_jury_8 : decode cX5_jury 8 = .ok (.invokevirtual 68, 3) := by decide +kernel
theorem dX5_jury_11 : decode cX5_jury 11 = .ok (.bipush (-9), 2) := by decide +kernel
theorem dX5_jury_13 : decode cX5_jury 13 = .ok (.if_icmp .eq 6, 3) := by decide +kernel
theorem dX5_jury_16 : decode cX5_jury 16 = .ok (.bipush (-3), 2) := by decide +kernel
theorem dX5_jury_18 : decode cX5_jury 18 = .ok (.ireturn, 1) := by decide +kernel
theorem dX5_jury_19 : decode cX5_jury 19 = .ok (.aload_n 0, 1) := by decide +kernel
theorem dX5_jury_20 : decode cX5_jury 20 = .ok (.getfield 19, 3) := by decide +kernel
theorem dX5_jury_23 : decode cX5_jury 23 = .ok (.aload_n 0, 1) := by decide +kernel
theorem dX5_jury_24 : decode cX5_jury 24 = .ok (.getfield 12, 3) := by decide +kernel
theorem dX5_jury_27 : decode cX5_jury 27 = .ok (.invokevirtual 68, 3) := by decide +kernel
theorem dX5_jury_30 : decode cX5_jury 30 = .ok (.pop, 1) := by decide +kernel
theorem dX5_jury_31 : decode cX5_jury 31 = .ok (.aload_n 0, 1) := by decide +kernel
theorem dX5_jury_32 : decode cX5_jury 32 = .ok (.getfield 31, 3) := by decide +kernel
theorem dX5_jury_35 : decode cX5_jury 35 = .ok (.invokevirtual 72, 3) := by decide +kernel
theorem dX5_jury_38 : decode cX5_jury 38 = .ok (.aload_n 0, 1) := by decide +kernel
theorem dX5_jury_39 : decode cX5_jury 39 = .ok (.getfield 41, 3) := by decide +kernel
theorem dX5_jury_42 : decode cX5_jury 42 = .ok (.invokevirtual 75, 3) := by decide +kernel
theorem dX5_jury_45 : decode cX5_jury 45 = .ok (.iconst 0, 1) := by decide +kernel
theorem dX5_jury_46 : decode cX5_jury 46 = .ok (.istore_n 1, 1) := by decide +kernel
theorem dX5_jury_47 : decode cX5_jury 47 = .ok (.iload_n 1, 1) := by decide +kernel
theorem dX5_jury_48 : decode cX5_jury 48 = .ok (.iconst 2, 1) := by decide +kernel
theorem dX5_jury_49 : decode cX5_jury 49 = .ok (.if_icmp .ge 16, 3) := by decide +kernel
theorem dX5_jury_52 : decode cX5_jury 52 = .ok (.aload_n 0, 1) := by decide +kernel
theorem dX5_jury_53 : decode cX5_jury 53 = .ok (.getfield 49, 3) := by decide +kernel
theorem dX5_jury_56 : decode cX5_jury 56 = .ok (.iload_n 1, 1) := by decide +kernel
theorem dX5_jury_57 : decode cX5_jury 57 = .ok (.iconst 0, 1) := by decide +kernel
theorem dX5_jury_58 : decode cX5_jury 58 = .ok (.bastore, 1) := by decide +kernel
theorem dX5_jury_59 : decode cX5_jury 59 = .ok (.iinc 1 1, 3) := by decide +kernel
theorem dX5_jury_62 : decode cX5_jury 62 = .ok (.goto (-15), 3) := by decide +kernel
theorem dX5_jury_65 : decode cX5_jury 65 = .ok (.aload_n 0, 1) := by decide +kernel
theorem dX5_jury_66 : decode cX5_jury 66 = .ok (.getfield 19, 3) := by decide +kernel
theorem dX5_jury_69 : decode cX5_jury 69 = .ok (.getfield 78, 3) := by decide +kernel
theorem dX5_jury_72 : decode cX5_jury 72 = .ok (.ireturn, 1) := by decide +kernel
set_option maxRecDepth 20000 in
theorem ggX5_juror_X5_isJuror : GoodIn wsX5_juror wsX5_isJuror := goodIn_r _ [11, 3, 12, 24, 25, 26, 27, 28, 29, 30, 31, 32, 33, 40, 41, 42, 43, 44, 45] (by decide +kernel) (by decide +kernel)
set_option maxRecDepth 20000 in
theorem gX5_juror_X5_isJuror : GoodIn wsX5_juror (wsV RX5 81 RX5 yX5_isJuror wsX5_isJuror) := goodIn_app (goodIn_of _ (by decide +kernel)) ggX5_juror_X5_isJuror
set_option maxRecDepth 20000 in
theorem ggX5_juror_X2_isYes : GoodIn wsX5_juror wsX2_isYes := goodIn_r _ [17, 18, 34, 35, 36, 37, 38, 39] (by decide +kernel) (by decide +kernel)
set_option maxRecDepth 20000 in
theorem gX5_juror_X2_isYes : GoodIn wsX5_juror (wsV RX5 84 RX2 yX2_isYes wsX2_isYes) := goodIn_app (goodIn_of _ (by decide +kernel)) ggX5_juror_X2_isYes
set_option maxRecDepth 20000 in
theorem ggX5_juror_X2_isThere : GoodIn wsX5_juror wsX2_isThere := goodIn_r _ [22, 23, 34, 35, 36, 37, 38, 39] (by decide +kernel) (by decide +kernel)
set_option maxRecDepth 20000 in
theorem gX5_juror_X2_isThere : GoodIn wsX5_juror (wsV RX5 100 RX2 yX2_isThere wsX2_isThere) := goodIn_app (goodIn_of _ (by decide +kernel)) ggX5_juror_X2_isThere
theorem dX5_juror_0 : decode cX5_juror 0 = .ok (.aload_n 0, 1) := by decide +kernel
theorem dX5_juror_1 : decode cX5_juror 1 = .ok (.iload_n 1, 1) := by decide +kernel
theorem dX5_juror_2 : decode cX5_juror 2 = .ok (.invokevirtual 81, 3) := by decide +kernel
theorem dX5_juror_5 : decode cX5_juror 5 = .ok (.ifCond .ne 5, 3) := by decide +kernel
theorem dX5_juror_8 : decode cX5_juror 8 = .ok (.iconst (-1), 1) := by decide +kernel
theorem dX5_juror_9 : decode cX5_juror 9 = .ok (.ireturn, 1) := by decide +kernel
theorem dX5_juror_10 : decode cX5_juror 10 = .ok (.iload_n 2, 1) := by decide +kernel
theorem dX5_juror_11 : decode cX5_juror 11 = .ok (.tableswitch 111 0 5 #[37, 54, 64, 74, 84, 94], 37) := by decide +kernel
theorem dX5_juror_48 : decode cX5_juror 48 = .ok (.aload_n 0, 1) := by decide +kernel
theorem dX5_juror_49 : decode cX5_juror 49 = .ok (.getfield 31, 3) := by decide +kernel
theorem dX5_juror_52 : decode cX5_juror 52 = .ok (.iload_n 1, 1) := by decide +kernel
theorem dX5_juror_53 : decode cX5_juror 53 = .ok (.invokevirtual 84, 3) := by decide +kernel
theorem dX5_juror_56 : decode cX5_juror 56 = .ok (.ifCond .eq 7, 3) := by decide +kernel
theorem dX5_juror_59 : decode cX5_juror 59 = .ok (.iconst 1, 1) := by decide +kernel
theorem dX5_juror_60 : decode cX5_juror 60 = .ok (.goto 4, 3) := by decide +kernel
theorem dX5_juror_63 : decode cX5_juror 63 = .ok (.iconst 0, 1) := by decide +kernel
theorem dX5_juror_64 : decode cX5_juror 64 = .ok (.ireturn, 1) := by decide +kernel
theorem dX5_juror_65 : decode cX5_juror 65 = .ok (.aload_n 0, 1) := by decide +kernel
theorem dX5_juror_66 : decode cX5_juror 66 = .ok (.getfield 31, 3) := by decide +kernel
theorem dX5_juror_69 : decode cX5_juror 69 = .ok (.getfield 87, 3) := by decide +kernel
theorem dX5_juror_72 : decode cX5_juror 72 = .ok (.iload_n 1, 1) := by decide +kernel
theorem dX5_juror_73 : decode cX5_juror 73 = .ok (.iaload, 1) := by decide +kernel
theorem dX5_juror_74 : decode cX5_juror 74 = .ok (.ireturn, 1) := by decide +kernel
theorem dX5_juror_75 : decode cX5_juror 75 = .ok (.aload_n 0, 1) := by decide +kernel
theorem dX5_juror_76 : decode cX5_juror 76 = .ok (.getfield 19, 3) := by decide +kernel
theorem dX5_juror_79 : decode cX5_juror 79 = .ok (.getfield 91, 3) := by decide +kernel
theorem dX5_juror_82 : decode cX5_juror 82 = .ok (.iload_n 1, 1) := by decide +kernel
theorem dX5_juror_83 : decode cX5_juror 83 = .ok (.iaload, 1) := by decide +kernel
theorem dX5_juror_84 : decode cX5_juror 84 = .ok (.ireturn, 1) := by decide +kernel
theorem dX5_juror_85 : decode cX5_juror 85 = .ok (.aload_n 0, 1) := by decide +kernel
theorem dX5_juror_86 : decode cX5_juror 86 = .ok (.getfield 31, 3) := by decide +kernel
theorem dX5_juror_89 : decode cX5_juror 89 = .ok (.getfield 94, 3) := by decide +kernel
theorem dX5_juror_92 : decode cX5_juror 92 = .ok (.iload_n 1, 1) := by decide +kernel
theorem dX5_juror_93 : decode cX5_juror 93 = .ok (.iaload, 1) := by decide +kernel
theorem dX5_juror_94 : decode cX5_juror 94 = .ok (.ireturn, 1) := by decide +kernel
theorem dX5_juror_95 : decode cX5_juror 95 = .ok (.aload_n 0, 1) := by decide +kernel
theorem dX5_juror_96 : decode cX5_juror 96 = .ok (.getfield 19, 3) := by decide +kernel
theorem dX5_juror_99 : decode cX5_juror 99 = .ok (.getfield 97, 3) := by decide +kernel
theorem dX5_juror_102 : decode cX5_juror 102 = .ok (.iload_n 1, 1) := by decide +kernel
theorem dX5_juror_103 : decode cX5_juror 103 = .ok (.iaload, 1) := by decide +kernel
theorem dX5_juror_104 : decode cX5_juror 104 = .ok (.ireturn, 1) := by decide +kernel
theorem dX5_juror_105 : decode cX5_juror 105 = .ok (.aload_n 0, 1) := by decide +kernel
theorem dX5_juror_106 : decode cX5_juror 106 = .ok (.getfield 31, 3) := by decide +kernel
theorem dX5_juror_109 : decode cX5_juror 109 = .ok (.iload_n 1, 1) := by decide +kernel
theorem dX5_juror_110 : decode cX5_juror 110 = .ok (.invokevirtual 100, 3) := by decide +kernel
theorem dX5_juror_113 : decode cX5_juror 113 = .ok (.ifCond .eq 7, 3) := by decide +kernel
theorem dX5_juror_116 : decode cX5_juror 116 = .ok (.iconst 1, 1) := by decide +kernel
theorem dX5_juror_117 : decode cX5_juror 117 = .ok (.goto 4, 3) := by decide +kernel
theorem dX5_juror_120 : decode cX5_juror 120 = .ok (.iconst 0, 1) := by decide +kernel
theorem dX5_juror_121 : decode cX5_juror 121 = .ok (.ireturn, 1) := by decide +kernel
theorem dX5_juror_122 : decode cX5_juror 122 = .ok (.bipush (-2), 2) := by decide +kernel
theorem dX5_juror_124 : decode cX5_juror 124 = .ok (.ireturn, 1) := by decide +kernel
set_option maxRecDepth 20000 in
theorem ggX5_hour_X0_remember : GoodIn wsX5_hour wsX0_remember := goodIn_r _ [7, 8, 9, 10, 11, 12, 6, 13, 14, 15, 16, 17, 18, 19, 20, 21, 22, 23, 82, 83, 84, 85, 86, 87, 88, 89] (by decide +kernel) (by decide +kernel)
set_option maxRecDepth 20000 in
theorem gX5_hour_X0_remember : GoodIn wsX5_hour (wsV RX5 103 RX0 yX0_remember wsX0_remember) := goodIn_app (goodIn_of _ (by decide +kernel)) ggX5_hour_X0_remember
set_option maxRecDepth 20000 in
theorem ggX5_hour_X2_passHour : GoodIn wsX5_hour wsX2_passHour := goodIn_r _ [27, 21, 19, 28, 29, 30, 17, 31, 20, 32, 33, 34, 35, 36, 37, 38, 39, 40, 41, 42, 43, 44, 45, 46, 47, 48, 23, 49, 50, 51, 52, 53, 54, 55, 56, 57, 58, 59, 60, 61, 62, 63, 64, 65, 66, 22, 67, 68, 69, 70, 84, 85, 86, 87, 88, 89, 90, 91, 92, 93, 94, 95] (by decide +kernel) (by decide +kernel)
set_option maxRecDepth 20000 in
theorem gX5_hour_X2_passHour : GoodIn wsX5_hour (wsV RX5 107 RX2 yX2_passHour wsX2_passHour) := goodIn_app (goodIn_of _ (by decide +kernel)) ggX5_hour_X2_passHour
set_option maxRecDepth 20000 in
theorem ggX5_hour_J6_bitCount_0f7a4 : GoodIn wsX5_hour wsJ6_bitCount_0f7a4 := goodIn_r _ [35, 36, 37, 38] (by decide +kernel) (by decide +kernel)
set_option maxRecDepth 20000 in
theorem gX5_hour_J6_bitCount_0f7a4 : GoodIn wsX5_hour (va_wsS RX5 111 yJ6_bitCount_0f7a4 wsJ6_bitCount_0f7a4) := goodIn_app (goodIn_of _ (by decide +kernel)) ggX5_hour_J6_bitCount_0f7a4
theorem dX5_hour_0 : decode cX5_hour 0 = .ok (.aload_n 0, 1) := by decide +kernel
theorem dX5_hour_1 : decode cX5_hour 1 = .ok (.getfield 41, 3) := by decide +kernel
theorem dX5_hour_4 : decode cX5_hour 4 = .ok (.aload_n 0, 1) := by decide +kernel
theorem dX5_hour_5 : decode cX5_hour 5 = .ok (.getfield 31, 3) := by decide +kernel
theorem dX5_hour_8 : decode cX5_hour 8 = .ok (.invokevirtual 103, 3) := by decide +kernel
theorem dX5_hour_11 : decode cX5_hour 11 = .ok (.aload_n 0, 1) := by decide +kernel
theorem dX5_hour_12 : decode cX5_hour 12 = .ok (.getfield 31, 3) := by decide +kernel
theorem dX5_hour_15 : decode cX5_hour 15 = .ok (.invokevirtual 107, 3) := by decide +kernel
theorem dX5_hour_18 : decode cX5_hour 18 = .ok (.invokestatic 111, 3) := by decide +kernel
theorem dX5_hour_21 : decode cX5_hour 21 = .ok (.ireturn, 1) := by decide +kernel
set_option maxRecDepth 20000 in
theorem ggX5_argue_X5_doAct : GoodIn wsX5_argue wsX5_doAct := goodIn_r _ [7, 1, 8, 9, 10, 11, 6, 12, 13, 14, 15, 16, 17, 18, 19, 20, 21, 22, 23, 24, 25, 26, 27, 28, 29, 30, 31, 32, 33, 34, 35, 36, 37, 38, 39, 40, 41, 42, 43, 44, 45, 46, 47, 48, 49, 50, 51, 52, 53, 54, 55, 56, 57, 58, 59, 60, 61, 62, 63, 64, 65, 66, 67, 68, 69, 70, 71, 72, 73, 74, 75, 76, 77, 78, 79, 80, 81, 82, 83, 84, 85, 86, 87, 88, 89, 90, 91, 92, 93, 94, 95, 96, 97, 98, 99, 100, 101, 102, 103, 110, 111, 112, 113, 114, 115, 104, 105, 106, 107, 108, 109, 116, 117] (by decide +kernel) (by decide +kernel)
set_option maxRecDepth 20000 in
theorem gX5_argue_X5_doAct : GoodIn wsX5_argue (wsV RX5 117 RX5 yX5_doAct wsX5_doAct) := goodIn_app (goodIn_of _ (by decide +kernel)) ggX5_argue_X5_doAct
set_option maxRecDepth 20000 in
theorem ggX5_argue_X5_isJuror : GoodIn wsX5_argue wsX5_isJuror := goodIn_r _ [12, 13, 14, 94, 95, 96, 97, 98, 99, 100, 101, 102, 103, 110, 111, 112, 113, 114, 115] (by decide +kernel) (by decide +kernel)
set_option maxRecDepth 20000 in
theorem gX5_argue_X5_isJuror : GoodIn wsX5_argue (wsV RX5 81 RX5 yX5_isJuror wsX5_isJuror) := goodIn_app (goodIn_of _ (by decide +kernel)) ggX5_argue_X5_isJuror
theorem dX5_argue_0 : decode cX5_argue 0 = .ok (.aload_n 0, 1) := by decide +kernel
theorem dX5_argue_1 : decode cX5_argue 1 = .ok (.iconst 1, 1) := by decide +kernel
theorem dX5_argue_2 : decode cX5_argue 2 = .ok (.iload_n 1, 1) := by decide +kernel
theorem dX5_argue_3 : decode cX5_argue 3 = .ok (.invokevirtual 117, 3) := by decide +kernel
theorem dX5_argue_6 : decode cX5_argue 6 = .ok (.istore_n 2, 1) := by decide +kernel
theorem dX5_argue_7 : decode cX5_argue 7 = .ok (.iload_n 2, 1) := by decide +kernel
theorem dX5_argue_8 : decode cX5_argue 8 = .ok (.bipush (-9), 2) := by decide +kernel
theorem dX5_argue_10 : decode cX5_argue 10 = .ok (.if_icmp .ne 11, 3) := by decide +kernel
theorem dX5_argue_13 : decode cX5_argue 13 = .ok (.aload_n 0, 1) := by decide +kernel
theorem dX5_argue_14 : decode cX5_argue 14 = .ok (.iload_n 1, 1) := by decide +kernel
theorem dX5_argue_15 : decode cX5_argue 15 = .ok (.invokevirtual 81, 3) := by decide +kernel
theorem dX5_argue_18 : decode cX5_argue 18 = .ok (.ifCond .ne 5, 3) := by decide +kernel
theorem dX5_argue_21 : decode cX5_argue 21 = .ok (.iload_n 2, 1) := by decide +kernel
theorem dX5_argue_22 : decode cX5_argue 22 = .ok (.ireturn, 1) := by decide +kernel
theorem dX5_argue_23 : decode cX5_argue 23 = .ok (.aload_n 0, 1) := by decide +kernel
theorem dX5_argue_24 : decode cX5_argue 24 = .ok (.getfield 31, 3) := by decide +kernel
theorem dX5_argue_27 : decode cX5_argue 27 = .ok (.getfield 87, 3) := by decide +kernel
theorem dX5_argue_30 : decode cX5_argue 30 = .ok (.iload_n 1, 1) := by decide +kernel
theorem dX5_argue_31 : decode cX5_argue 31 = .ok (.iaload, 1) := by decide +kernel
theorem dX5_argue_32 : decode cX5_argue 32 = .ok (.ireturn, 1) := by decide +kernel
set_option maxRecDepth 20000 in
theorem ggX5_feed_X5_isJuror : GoodIn wsX5_feed wsX5_isJuror := goodIn_r _ [7, 8, 9, 94, 95, 96, 97, 98, 99, 100, 101, 102, 103, 110, 111, 112, 113, 114, 115] (by decide +kernel) (by decide +kernel)
set_option maxRecDepth 20000 in
theorem gX5_feed_X5_isJuror : GoodIn wsX5_feed (wsV RX5 81 RX5 yX5_isJuror wsX5_isJuror) := goodIn_app (goodIn_of _ (by decide +kernel)) ggX5_feed_X5_isJuror
set_option maxRecDepth 20000 in
theorem ggX5_feed_X5_doAct : GoodIn wsX5_feed wsX5_doAct := goodIn_r _ [13, 1, 14, 3, 4, 5, 6, 7, 8, 9, 15, 16, 17, 18, 19, 20, 21, 22, 23, 24, 25, 26, 27, 28, 29, 30, 31, 32, 33, 34, 35, 36, 37, 38, 39, 40, 41, 42, 43, 44, 45, 46, 47, 48, 49, 50, 51, 52, 53, 54, 55, 56, 57, 58, 59, 60, 61, 62, 63, 64, 65, 66, 67, 68, 69, 70, 71, 72, 73, 74, 75, 76, 77, 78, 79, 80, 81, 82, 83, 84, 85, 86, 87, 88, 89, 90, 91, 92, 93, 94, 95, 96, 97, 98, 99, 100, 101, 102, 103, 110, 111, 112, 113, 114, 115, 104, 105, 106, 107, 108, 109, 116, 117] (by decide +kernel) (by decide +kernel)
set_option maxRecDepth 20000 in
theorem gX5_feed_X5_doAct : GoodIn wsX5_feed (wsV RX5 117 RX5 yX5_doAct wsX5_doAct) := goodIn_app (goodIn_of _ (by decide +kernel)) ggX5_feed_X5_doAct
theorem dX5_feed_0 : decode cX5_feed 0 = .ok (.aload_n 0, 1) := by decide +kernel
theorem dX5_feed_1 : decode cX5_feed 1 = .ok (.iload_n 1, 1) := by decide +kernel
theorem dX5_feed_2 : decode cX5_feed 2 = .ok (.invokevirtual 81, 3) := by decide +kernel
theorem dX5_feed_5 : decode cX5_feed 5 = .ok (.ifCond .eq 15, 3) := by decide +kernel
theorem dX5_feed_8 : decode cX5_feed 8 = .ok (.aload_n 0, 1) := by decide +kernel
theorem dX5_feed_9 : decode cX5_feed 9 = .ok (.getfield 31, 3) := by decide +kernel
theorem dX5_feed_12 : decode cX5_feed 12 = .ok (.getfield 94, 3) := by decide +kernel
theorem dX5_feed_15 : decode cX5_feed 15 = .ok (.iload_n 1, 1) := by decide +kernel
theorem dX5_feed_16 : decode cX5_feed 16 = .ok (.iaload, 1) := by decide +kernel
theorem dX5_feed_17 : decode cX5_feed 17 = .ok (.goto 4, 3) := by decide +kernel
theorem dX5_feed_20 : decode cX5_feed 20 = .ok (.iconst 0, 1) := by decide +kernel
theorem dX5_feed_21 : decode cX5_feed 21 = .ok (.istore_n 2, 1) := by decide +kernel
theorem dX5_feed_22 : decode cX5_feed 22 = .ok (.aload_n 0, 1) := by decide +kernel
theorem dX5_feed_23 : decode cX5_feed 23 = .ok (.iconst 2, 1) := by decide +kernel
theorem dX5_feed_24 : decode cX5_feed 24 = .ok (.iload_n 1, 1) := by decide +kernel
theorem dX5_feed_25 : decode cX5_feed 25 = .ok (.invokevirtual 117, 3) := by decide +kernel
theorem dX5_feed_28 : decode cX5_feed 28 = .ok (.istore_n 3, 1) := by decide +kernel
theorem dX5_feed_29 : decode cX5_feed 29 = .ok (.iload_n 3, 1) := by decide +kernel
theorem dX5_feed_30 : decode cX5_feed 30 = .ok (.bipush (-9), 2) := by decide +kernel
theorem dX5_feed_32 : decode cX5_feed 32 = .ok (.if_icmp .eq 7, 3) := by decide +kernel
theorem dX5_feed_35 : decode cX5_feed 35 = .ok (.iload_n 3, 1) := by decide +kernel
theorem dX5_feed_36 : decode cX5_feed 36 = .ok (.goto 4, 3) := by decide +kernel
theorem dX5_feed_39 : decode cX5_feed 39 = .ok (.iload_n 2, 1) := by decide +kernel
theorem dX5_feed_40 : decode cX5_feed 40 = .ok (.ireturn, 1) := by decide +kernel
set_option maxRecDepth 20000 in
theorem ggX5_die_X5_doAct : GoodIn wsX5_die wsX5_doAct := goodIn_r _ [7, 1, 8, 9, 10, 11, 6, 12, 13, 14, 15, 16, 17, 18, 19, 20, 21, 22, 23, 24, 25, 26, 27, 28, 29, 30, 31, 32, 33, 34, 35, 36, 37, 38, 39, 40, 41, 42, 43, 44, 45, 46, 47, 48, 49, 50, 51, 52, 53, 54, 55, 56, 57, 58, 59, 60, 61, 62, 63, 64, 65, 66, 67, 68, 69, 70, 71, 72, 73, 74, 75, 76, 77, 78, 79, 80, 81, 82, 83, 84, 85, 86, 87, 88, 89, 90, 91, 92, 93, 95, 96, 97, 98, 99, 100, 101, 102, 103, 104, 111, 112, 113, 114, 115, 116, 105, 106, 107, 108, 109, 110, 117, 118] (by decide +kernel) (by decide +kernel)
set_option maxRecDepth 20000 in
theorem gX5_die_X5_doAct : GoodIn wsX5_die (wsV RX5 117 RX5 yX5_doAct wsX5_doAct) := goodIn_app (goodIn_of _ (by decide +kernel)) ggX5_die_X5_doAct
set_option maxRecDepth 20000 in
theorem ggX5_die_J6_bitCount_0f7a4 : GoodIn wsX5_die wsJ6_bitCount_0f7a4 := goodIn_r _ [63, 64, 65, 66] (by decide +kernel) (by decide +kernel)
set_option maxRecDepth 20000 in
theorem gX5_die_J6_bitCount_0f7a4 : GoodIn wsX5_die (va_wsS RX5 111 yJ6_bitCount_0f7a4 wsJ6_bitCount_0f7a4) := goodIn_app (goodIn_of _ (by decide +kernel)) ggX5_die_J6_bitCount_0f7a4
theorem dX5_die_0 : decode cX5_die 0 = .ok (.aload_n 0, 1) := by decide +kernel
theorem dX5_die_1 : decode cX5_die 1 = .ok (.iconst 3, 1) := by decide +kernel
theorem dX5_die_2 : decode cX5_die 2 = .ok (.iload_n 1, 1) := by decide +kernel
theorem dX5_die_3 : decode cX5_die 3 = .ok (.invokevirtual 117, 3) := by decide +kernel
theorem dX5_die_6 : decode cX5_die 6 = .ok (.istore_n 2, 1) := by decide +kernel
theorem dX5_die_7 : decode cX5_die 7 = .ok (.iload_n 2, 1) := by decide +kernel
theorem dX5_die_8 : decode cX5_die 8 = .ok (.bipush (-9), 2) := by decide +kernel
theorem dX5_die_10 : decode cX5_die 10 = .ok (.if_icmp .eq 7, 3) := by decide +kernel
theorem dX5_die_13 : decode cX5_die 13 = .ok (.iload_n 2, 1) := by decide +kernel
theorem dX5_die_14 : decode cX5_die 14 = .ok (.goto 13, 3) := by decide +kernel
theorem dX5_die_17 : decode cX5_die 17 = .ok (.aload_n 0, 1) := by decide +kernel
theorem dX5_die_18 : decode cX5_die 18 = .ok (.getfield 31, 3) := by decide +kernel
theorem dX5_die_21 : decode cX5_die 21 = .ok (.getfield 121, 3) := by decide +kernel
theorem dX5_die_24 : decode cX5_die 24 = .ok (.invokestatic 111, 3) := by decide +kernel
theorem dX5_die_27 : decode cX5_die 27 = .ok (.ireturn, 1) := by decide +kernel
set_option maxRecDepth 20000 in
theorem ggX5_toss_X5_doAct : GoodIn wsX5_toss wsX5_doAct := goodIn_r _ [6, 1, 7, 8, 9, 10, 5, 11, 12, 13, 14, 15, 16, 17, 18, 19, 20, 21, 22, 23, 24, 25, 26, 27, 28, 29, 30, 31, 32, 33, 34, 35, 36, 37, 38, 39, 40, 41, 42, 43, 44, 45, 46, 47, 48, 49, 50, 51, 52, 53, 54, 55, 56, 57, 58, 59, 60, 61, 62, 63, 64, 65, 66, 67, 68, 69, 70, 71, 72, 73, 74, 75, 76, 77, 78, 79, 80, 81, 82, 83, 84, 85, 86, 87, 88, 89, 90, 91, 92, 94, 95, 96, 97, 98, 99, 100, 101, 102, 103, 104, 105, 106, 107, 108, 109, 110, 111, 112, 113, 114, 115, 116, 117] (by decide +kernel) (by decide +kernel)
set_option maxRecDepth 20000 in
theorem gX5_toss_X5_doAct : GoodIn wsX5_toss (wsV RX5 117 RX5 yX5_doAct wsX5_doAct) := goodIn_app (goodIn_of _ (by decide +kernel)) ggX5_toss_X5_doAct
set_option maxRecDepth 20000 in
theorem ggX5_toss_X2_isYes : GoodIn wsX5_toss wsX2_isYes := goodIn_r _ [92, 41, 110, 111, 112, 113, 114, 115] (by decide +kernel) (by decide +kernel)
set_option maxRecDepth 20000 in
theorem gX5_toss_X2_isYes : GoodIn wsX5_toss (wsV RX5 84 RX2 yX2_isYes wsX2_isYes) := goodIn_app (goodIn_of _ (by decide +kernel)) ggX5_toss_X2_isYes
theorem dX5_toss_0 : decode cX5_toss 0 = .ok (.aload_n 0, 1) := by decide +kernel
theorem dX5_toss_1 : decode cX5_toss 1 = .ok (.iconst 4, 1) := by decide +kernel
theorem dX5_toss_2 : decode cX5_toss 2 = .ok (.iload_n 1, 1) := by decide +kernel
theorem dX5_toss_3 : decode cX5_toss 3 = .ok (.invokevirtual 117, 3) := by decide +kernel
theorem dX5_toss_6 : decode cX5_toss 6 = .ok (.istore_n 2, 1) := by decide +kernel
theorem dX5_toss_7 : decode cX5_toss 7 = .ok (.iload_n 2, 1) := by decide +kernel
theorem dX5_toss_8 : decode cX5_toss 8 = .ok (.bipush (-9), 2) := by decide +kernel
theorem dX5_toss_10 : decode cX5_toss 10 = .ok (.if_icmp .eq 5, 3) := by decide +kernel
theorem dX5_toss_13 : decode cX5_toss 13 = .ok (.iload_n 2, 1) := by decide +kernel
theorem dX5_toss_14 : decode cX5_toss 14 = .ok (.ireturn, 1) := by decide +kernel
theorem dX5_toss_15 : decode cX5_toss 15 = .ok (.aload_n 0, 1) := by decide +kernel
theorem dX5_toss_16 : decode cX5_toss 16 = .ok (.getfield 31, 3) := by decide +kernel
theorem dX5_toss_19 : decode cX5_toss 19 = .ok (.iload_n 1, 1) := by decide +kernel
theorem dX5_toss_20 : decode cX5_toss 20 = .ok (.invokevirtual 84, 3) := by decide +kernel
theorem dX5_toss_23 : decode cX5_toss 23 = .ok (.ifCond .eq 7, 3) := by decide +kernel
theorem dX5_toss_26 : decode cX5_toss 26 = .ok (.iconst 1, 1) := by decide +kernel
theorem dX5_toss_27 : decode cX5_toss 27 = .ok (.goto 4, 3) := by decide +kernel
theorem dX5_toss_30 : decode cX5_toss 30 = .ok (.iconst 0, 1) := by decide +kernel
theorem dX5_toss_31 : decode cX5_toss 31 = .ok (.ireturn, 1) := by decide +kernel
set_option maxRecDepth 20000 in
theorem ggX5_undo_X0_takeBack : GoodIn wsX5_undo wsX0_takeBack := goodIn_r _ [8, 9, 10, 11, 12, 13, 14, 15, 16, 17, 18, 19, 20, 31, 32, 33, 34, 35, 36, 37, 38] (by decide +kernel) (by decide +kernel)
set_option maxRecDepth 20000 in
theorem gX5_undo_X0_takeBack : GoodIn wsX5_undo (wsV RX5 124 RX0 yX0_takeBack wsX0_takeBack) := goodIn_app (goodIn_of _ (by decide +kernel)) ggX5_undo_X0_takeBack
theorem dX5_undo_0 : decode cX5_undo 0 = .ok (.aload_n 0, 1) := by decide +kernel
theorem dX5_undo_1 : decode cX5_undo 1 = .ok (.getfield 41, 3) := by decide +kernel
theorem dX5_undo_4 : decode cX5_undo 4 = .ok (.aload_n 0, 1) := by decide +kernel
theorem dX5_undo_5 : decode cX5_undo 5 = .ok (.getfield 31, 3) := by decide +kernel
theorem dX5_undo_8 : decode cX5_undo 8 = .ok (.invokevirtual 124, 3) := by decide +kernel
theorem dX5_undo_11 : decode cX5_undo 11 = .ok (.ifCond .eq 13, 3) := by decide +kernel
theorem dX5_undo_14 : decode cX5_undo 14 = .ok (.aload_n 0, 1) := by decide +kernel
theorem dX5_undo_15 : decode cX5_undo 15 = .ok (.getfield 41, 3) := by decide +kernel
theorem dX5_undo_18 : decode cX5_undo 18 = .ok (.getfield 128, 3) := by decide +kernel
theorem dX5_undo_21 : decode cX5_undo 21 = .ok (.goto 5, 3) := by decide +kernel
theorem dX5_undo_24 : decode cX5_undo 24 = .ok (.bipush (-3), 2) := by decide +kernel
theorem dX5_undo_26 : decode cX5_undo 26 = .ok (.ireturn, 1) := by decide +kernel
set_option maxRecDepth 20000 in
theorem ggX5_ahead_X2_copyFrom : GoodIn wsX5_ahead wsX2_copyFrom := goodIn_r _ [7, 8, 9, 10, 11, 12, 74, 75, 76, 77, 78, 79] (by decide +kernel) (by decide +kernel)
set_option maxRecDepth 20000 in
theorem gX5_ahead_X2_copyFrom : GoodIn wsX5_ahead (wsV RX5 131 RX2 yX2_copyFrom wsX2_copyFrom) := goodIn_app (goodIn_of _ (by decide +kernel)) ggX5_ahead_X2_copyFrom
set_option maxRecDepth 20000 in
theorem ggX5_ahead_X2_passHour : GoodIn wsX5_ahead wsX2_passHour := goodIn_r _ [16, 10, 8, 17, 18, 19, 6, 20, 9, 21, 22, 23, 24, 25, 26, 27, 28, 29, 30, 31, 32, 33, 34, 35, 36, 37, 12, 38, 39, 40, 41, 42, 43, 44, 45, 46, 47, 48, 49, 50, 51, 52, 53, 54, 55, 11, 56, 57, 58, 59, 74, 75, 76, 77, 78, 79, 80, 81, 82, 83, 84, 85] (by decide +kernel) (by decide +kernel)
set_option maxRecDepth 20000 in
theorem gX5_ahead_X2_passHour : GoodIn wsX5_ahead (wsV RX5 107 RX2 yX2_passHour wsX2_passHour) := goodIn_app (goodIn_of _ (by decide +kernel)) ggX5_ahead_X2_passHour
set_option maxRecDepth 20000 in
theorem ggX5_ahead_X2_yesThere : GoodIn wsX5_ahead wsX2_yesThere := goodIn_r _ [63, 8, 9, 74, 75, 76, 77, 78, 79] (by decide +kernel) (by decide +kernel)
set_option maxRecDepth 20000 in
theorem gX5_ahead_X2_yesThere : GoodIn wsX5_ahead (wsV RX5 134 RX2 yX2_yesThere wsX2_yesThere) := goodIn_app (goodIn_of _ (by decide +kernel)) ggX5_ahead_X2_yesThere
theorem dX5_ahead_0 : decode cX5_ahead 0 = .ok (.iload_n 1, 1) := by decide +kernel
theorem dX5_ahead_1 : decode cX5_ahead 1 = .ok (.ifCond .lt 9, 3) := by decide +kernel
theorem dX5_ahead_4 : decode cX5_ahead 4 = .ok (.iload_n 1, 1) := by decide +kernel
theorem dX5_ahead_5 : decode cX5_ahead 5 = .ok (.bipush 9, 2) := by decide +kernel
theorem dX5_ahead_7 : decode cX5_ahead 7 = .ok (.if_icmp .le 6, 3) := by decide +kernel
theorem dX5_ahead_10 : decode cX5_ahead 10 = .ok (.bipush (-2), 2) := by decide +kernel
theorem dX5_ahead_12 : decode cX5_ahead 12 = .ok (.ireturn, 1) := by decide +kernel
theorem dX5_ahead_13 : decode cX5_ahead 13 = .ok (.aload_n 0, 1) := by decide +kernel
theorem dX5_ahead_14 : decode cX5_ahead 14 = .ok (.getfield 35, 3) := by decide +kernel
theorem dX5_ahead_17 : decode cX5_ahead 17 = .ok (.aload_n 0, 1) := by decide +kernel
theorem dX5_ahead_18 : decode cX5_ahead 18 = .ok (.getfield 31, 3) := by decide +kernel
theorem dX5_ahead_21 : decode cX5_ahead 21 = .ok (.invokevirtual 131, 3) := by decide +kernel
theorem dX5_ahead_24 : decode cX5_ahead 24 = .ok (.iconst 0, 1) := by decide +kernel
theorem dX5_ahead_25 : decode cX5_ahead 25 = .ok (.istore_n 2, 1) := by decide +kernel
theorem dX5_ahead_26 : decode cX5_ahead 26 = .ok (.iload_n 2, 1) := by decide +kernel
theorem dX5_ahead_27 : decode cX5_ahead 27 = .ok (.iload_n 1, 1) := by decide +kernel
theorem dX5_ahead_28 : decode cX5_ahead 28 = .ok (.if_icmp .ge 17, 3) := by decide +kernel
theorem dX5_ahead_31 : decode cX5_ahead 31 = .ok (.aload_n 0, 1) := by decide +kernel
theorem dX5_ahead_32 : decode cX5_ahead 32 = .ok (.getfield 35, 3) := by decide +kernel
theorem dX5_ahead_35 : decode cX5_ahead 35 = .ok (.invokevirtual 107, 3) := by decide +kernel
theorem dX5_ahead_38 : decode cX5_ahead 38 = .ok (.pop, 1) := by decide +kernel
theorem dX5_ahead_39 : decode cX5_ahead 39 = .ok (.iinc 2 1, 3) := by decide +kernel
theorem dX5_ahead_42 : decode cX5_ahead 42 = .ok (.goto (-16), 3) := by decide +kernel
theorem dX5_ahead_45 : decode cX5_ahead 45 = .ok (.aload_n 0, 1) := by decide +kernel
theorem dX5_ahead_46 : decode cX5_ahead 46 = .ok (.getfield 35, 3) := by decide +kernel
theorem dX5_ahead_49 : decode cX5_ahead 49 = .ok (.invokevirtual 134, 3) := by decide +kernel
theorem dX5_ahead_52 : decode cX5_ahead 52 = .ok (.ireturn, 1) := by decide +kernel
set_option maxRecDepth 20000 in
theorem ggX5_end_X2_copyFrom : GoodIn wsX5_end wsX2_copyFrom := goodIn_r _ [7, 8, 9, 10, 11, 12, 75, 76, 77, 78, 79, 80] (by decide +kernel) (by decide +kernel)
set_option maxRecDepth 20000 in
theorem gX5_end_X2_copyFrom : GoodIn wsX5_end (wsV RX5 131 RX2 yX2_copyFrom wsX2_copyFrom) := goodIn_app (goodIn_of _ (by decide +kernel)) ggX5_end_X2_copyFrom
set_option maxRecDepth 20000 in
theorem ggX5_end_X2_passHoursToEnd : GoodIn wsX5_end wsX2_passHoursToEnd := goodIn_r _ [16, 17, 18, 19, 6, 20, 9, 8, 21, 22, 23, 24, 25, 26, 27, 28, 29, 30, 31, 32, 33, 34, 35, 36, 37, 10, 38, 39, 40, 41, 12, 42, 43, 44, 45, 46, 47, 48, 49, 50, 51, 52, 53, 54, 55, 56, 57, 58, 59, 11, 60, 61, 62, 63, 75, 76, 77, 78, 79, 80, 81, 82, 83, 84, 85, 86] (by decide +kernel) (by decide +kernel)
set_option maxRecDepth 20000 in
theorem gX5_end_X2_passHoursToEnd : GoodIn wsX5_end (wsV RX5 137 RX2 yX2_passHoursToEnd wsX2_passHoursToEnd) := goodIn_app (goodIn_of _ (by decide +kernel)) ggX5_end_X2_passHoursToEnd
set_option maxRecDepth 20000 in
theorem ggX5_end_X2_verdict : GoodIn wsX5_end wsX2_verdict := goodIn_r _ [20, 9, 8, 21, 22, 23, 24, 25, 26, 27, 28, 29, 30, 6, 31, 32, 33, 75, 76, 77, 78, 79, 80, 81, 82, 83, 84, 85, 86] (by decide +kernel) (by decide +kernel)
set_option maxRecDepth 20000 in
theorem gX5_end_X2_verdict : GoodIn wsX5_end (wsV RX5 140 RX2 yX2_verdict wsX2_verdict) := goodIn_app (goodIn_of _ (by decide +kernel)) ggX5_end_X2_verdict
theorem dX5_end_0 : decode cX5_end 0 = .ok (.iload_n 1, 1) := by decide +kernel
theorem dX5_end_1 : decode cX5_end 1 = .ok (.ifCond .lt 8, 3) := by decide +kernel
theorem dX5_end_4 : decode cX5_end 4 = .ok (.iload_n 1, 1) := by decide +kernel
theorem dX5_end_5 : decode cX5_end 5 = .ok (.iconst 1, 1) := by decide +kernel
theorem dX5_end_6 : decode cX5_end 6 = .ok (.if_icmp .le 6, 3) := by decide +kernel
theorem dX5_end_9 : decode cX5_end 9 = .ok (.bipush (-2), 2) := by decide +kernel
theorem dX5_end_11 : decode cX5_end 11 = .ok (.ireturn, 1) := by decide +kernel
theorem dX5_end_12 : decode cX5_end 12 = .ok (.aload_n 0, 1) := by decide +kernel
theorem dX5_end_13 : decode cX5_end 13 = .ok (.getfield 35, 3) := by decide +kernel
theorem dX5_end_16 : decode cX5_end 16 = .ok (.aload_n 0, 1) := by decide +kernel
theorem dX5_end_17 : decode cX5_end 17 = .ok (.getfield 31, 3) := by decide +kernel
theorem dX5_end_20 : decode cX5_end 20 = .ok (.invokevirtual 131, 3) := by decide +kernel
theorem dX5_end_23 : decode cX5_end 23 = .ok (.aload_n 0, 1) := by decide +kernel
theorem dX5_end_24 : decode cX5_end 24 = .ok (.getfield 35, 3) := by decide +kernel
theorem dX5_end_27 : decode cX5_end 27 = .ok (.invokevirtual 137, 3) := by decide +kernel
theorem dX5_end_30 : decode cX5_end 30 = .ok (.istore_n 2, 1) := by decide +kernel
theorem dX5_end_31 : decode cX5_end 31 = .ok (.iload_n 2, 1) := by decide +kernel
theorem dX5_end_32 : decode cX5_end 32 = .ok (.bipush (-9), 2) := by decide +kernel
theorem dX5_end_34 : decode cX5_end 34 = .ok (.if_icmp .eq 7, 3) := by decide +kernel
theorem dX5_end_37 : decode cX5_end 37 = .ok (.iload_n 1, 1) := by decide +kernel
theorem dX5_end_38 : decode cX5_end 38 = .ok (.ifCond .ne 7, 3) := by decide +kernel
theorem dX5_end_41 : decode cX5_end 41 = .ok (.iload_n 2, 1) := by decide +kernel
theorem dX5_end_42 : decode cX5_end 42 = .ok (.goto 10, 3) := by decide +kernel
theorem dX5_end_45 : decode cX5_end 45 = .ok (.aload_n 0, 1) := by decide +kernel
theorem dX5_end_46 : decode cX5_end 46 = .ok (.getfield 35, 3) := by decide +kernel
theorem dX5_end_49 : decode cX5_end 49 = .ok (.invokevirtual 140, 3) := by decide +kernel
theorem dX5_end_52 : decode cX5_end 52 = .ok (.ireturn, 1) := by decide +kernel
set_option maxRecDepth 20000 in
theorem ggX5_gives_X5_isJuror : GoodIn wsX5_gives wsX5_isJuror := goodIn_r _ [7, 8, 9, 68, 69, 70, 71, 72, 73, 74, 75, 76, 77, 78, 79, 80, 81, 82, 83] (by decide +kernel) (by decide +kernel)
set_option maxRecDepth 20000 in
theorem gX5_gives_X5_isJuror : GoodIn wsX5_gives (wsV RX5 81 RX5 yX5_isJuror wsX5_isJuror) := goodIn_app (goodIn_of _ (by decide +kernel)) ggX5_gives_X5_isJuror
set_option maxRecDepth 20000 in
theorem ggX5_gives_X2_isThere : GoodIn wsX5_gives wsX2_isThere := goodIn_r _ [14, 15, 84, 85, 86, 87, 88, 89] (by decide +kernel) (by decide +kernel)
set_option maxRecDepth 20000 in
theorem gX5_gives_X2_isThere : GoodIn wsX5_gives (wsV RX5 100 RX2 yX2_isThere wsX2_isThere) := goodIn_app (goodIn_of _ (by decide +kernel)) ggX5_gives_X2_isThere
set_option maxRecDepth 20000 in
theorem ggX5_gives_X2_copyFrom : GoodIn wsX5_gives wsX2_copyFrom := goodIn_r _ [19, 20, 15, 21, 22, 23, 84, 85, 86, 87, 88, 89] (by decide +kernel) (by decide +kernel)
set_option maxRecDepth 20000 in
theorem gX5_gives_X2_copyFrom : GoodIn wsX5_gives (wsV RX5 131 RX2 yX2_copyFrom wsX2_copyFrom) := goodIn_app (goodIn_of _ (by decide +kernel)) ggX5_gives_X2_copyFrom
set_option maxRecDepth 20000 in
theorem ggX5_gives_X2_passHour : GoodIn wsX5_gives wsX2_passHour := goodIn_r _ [27, 21, 20, 28, 29, 30, 13, 31, 15, 32, 33, 34, 35, 36, 37, 38, 39, 40, 41, 42, 43, 44, 45, 46, 47, 48, 23, 49, 50, 51, 52, 53, 54, 11, 12, 14, 55, 56, 57, 58, 59, 60, 61, 62, 63, 22, 64, 65, 66, 67, 84, 85, 86, 87, 88, 89, 78, 79, 80, 81, 82, 83] (by decide +kernel) (by decide +kernel)
set_option maxRecDepth 20000 in
theorem gX5_gives_X2_passHour : GoodIn wsX5_gives (wsV RX5 107 RX2 yX2_passHour wsX2_passHour) := goodIn_app (goodIn_of _ (by decide +kernel)) ggX5_gives_X2_passHour
theorem dX5_gives_0 : decode cX5_gives 0 = .ok (.aload_n 0, 1) := by decide +kernel
theorem dX5_gives_1 : decode cX5_gives 1 = .ok (.iload_n 1, 1) := by decide +kernel
theorem dX5_gives_2 : decode cX5_gives 2 = .ok (.invokevirtual 81, 3) := by decide +kernel
theorem dX5_gives_5 : decode cX5_gives 5 = .ok (.ifCond .ne 5, 3) := by decide +kernel
theorem dX5_gives_8 : decode cX5_gives 8 = .ok (.iconst (-1), 1) := by decide +kernel
theorem dX5_gives_9 : decode cX5_gives 9 = .ok (.ireturn, 1) := by decide +kernel
theorem dX5_gives_10 : decode cX5_gives 10 = .ok (.aload_n 0, 1) := by decide +kernel
theorem dX5_gives_11 : decode cX5_gives 11 = .ok (.getfield 31, 3) := by decide +kernel
theorem dX5_gives_14 : decode cX5_gives 14 = .ok (.iload_n 1, 1) := by decide +kernel
theorem dX5_gives_15 : decode cX5_gives 15 = .ok (.invokevirtual 100, 3) := by decide +kernel
theorem dX5_gives_18 : decode cX5_gives 18 = .ok (.ifCond .ne 6, 3) := by decide +kernel
theorem dX5_gives_21 : decode cX5_gives 21 = .ok (.bipush (-3), 2) := by decide +kernel
theorem dX5_gives_23 : decode cX5_gives 23 = .ok (.ireturn, 1) := by decide +kernel
theorem dX5_gives_24 : decode cX5_gives 24 = .ok (.aload_n 0, 1) := by decide +kernel
theorem dX5_gives_25 : decode cX5_gives 25 = .ok (.getfield 35, 3) := by decide +kernel
theorem dX5_gives_28 : decode cX5_gives 28 = .ok (.aload_n 0, 1) := by decide +kernel
theorem dX5_gives_29 : decode cX5_gives 29 = .ok (.getfield 31, 3) := by decide +kernel
theorem dX5_gives_32 : decode cX5_gives 32 = .ok (.invokevirtual 131, 3) := by decide +kernel
theorem dX5_gives_35 : decode cX5_gives 35 = .ok (.iconst 1, 1) := by decide +kernel
theorem dX5_gives_36 : decode cX5_gives 36 = .ok (.istore_n 2, 1) := by decide +kernel
theorem dX5_gives_37 : decode cX5_gives 37 = .ok (.iload_n 2, 1) := by decide +kernel
theorem dX5_gives_38 : decode cX5_gives 38 = .ok (.bipush 20, 2) := by decide +kernel
theorem dX5_gives_40 : decode cX5_gives 40 = .ok (.if_icmp .gt 26, 3) := by decide +kernel
theorem dX5_gives_43 : decode cX5_gives 43 = .ok (.aload_n 0, 1) := by decide +kernel
theorem dX5_gives_44 : decode cX5_gives 44 = .ok (.getfield 35, 3) := by decide +kernel
theorem dX5_gives_47 : decode cX5_gives 47 = .ok (.invokevirtual 107, 3) := by decide +kernel
theorem dX5_gives_50 : decode cX5_gives 50 = .ok (.iload_n 1, 1) := by decide +kernel
theorem dX5_gives_51 : decode cX5_gives 51 = .ok (.ishr, 1) := by decide +kernel
theorem dX5_gives_52 : decode cX5_gives 52 = .ok (.iconst 1, 1) := by decide +kernel
theorem dX5_gives_53 : decode cX5_gives 53 = .ok (.iand, 1) := by decide +kernel
theorem dX5_gives_54 : decode cX5_gives 54 = .ok (.iconst 1, 1) := by decide +kernel
theorem dX5_gives_55 : decode cX5_gives 55 = .ok (.if_icmp .ne 5, 3) := by decide +kernel
theorem dX5_gives_58 : decode cX5_gives 58 = .ok (.iload_n 2, 1) := by decide +kernel
theorem dX5_gives_59 : decode cX5_gives 59 = .ok (.ireturn, 1) := by decide +kernel
theorem dX5_gives_60 : decode cX5_gives 60 = .ok (.iinc 2 1, 3) := by decide +kernel
theorem dX5_gives_63 : decode cX5_gives 63 = .ok (.goto (-26), 3) := by decide +kernel
theorem dX5_gives_66 : decode cX5_gives 66 = .ok (.bipush (-9), 2) := by decide +kernel
theorem dX5_gives_68 : decode cX5_gives 68 = .ok (.ireturn, 1) := by decide +kernel
set_option maxRecDepth 20000 in
theorem ggX5_toFeed_X5_isSide : GoodIn wsX5_toFeed wsX5_isSide := goodIn_r _ [4] (by decide +kernel) (by decide +kernel)
set_option maxRecDepth 20000 in
theorem gX5_toFeed_X5_isSide : GoodIn wsX5_toFeed (va_wsS RX5 143 yX5_isSide wsX5_isSide) := goodIn_app (goodIn_of _ (by decide +kernel)) ggX5_toFeed_X5_isSide
set_option maxRecDepth 20000 in
theorem ggX5_toFeed_X5_fewestFor : GoodIn wsX5_toFeed wsX5_fewestFor := goodIn_r _ [8, 9, 10, 11, 12, 13, 14, 15, 16, 17, 18, 19, 20, 3, 21, 22, 23, 24, 25, 26, 27, 28, 29, 30, 31, 32, 33, 34, 35, 36, 37, 38, 39, 40, 41, 42, 43, 44, 45, 46, 47, 48, 49, 50, 51, 52, 53, 54, 55, 56, 57, 58, 59, 60, 61, 62, 63, 64, 65, 66, 67, 68, 69, 70, 71, 72, 73, 74, 75, 76, 77, 78, 79, 80, 81, 82, 83, 84, 85, 86, 87, 88, 89, 90, 91, 92, 93, 94, 95, 96, 97, 98, 99, 100, 101, 102, 103, 104, 105, 106, 107] (by decide +kernel) (by decide +kernel)
set_option maxRecDepth 20000 in
theorem gX5_toFeed_X5_fewestFor : GoodIn wsX5_toFeed (wsV RX5 146 RX5 yX5_fewestFor wsX5_fewestFor) := goodIn_app (goodIn_of _ (by decide +kernel)) ggX5_toFeed_X5_fewestFor
theorem dX5_toFeed_0 : decode cX5_toFeed 0 = .ok (.iload_n 1, 1) := by decide +kernel
theorem dX5_toFeed_1 : decode cX5_toFeed 1 = .ok (.invokestatic 143, 3) := by decide +kernel
theorem dX5_toFeed_4 : decode cX5_toFeed 4 = .ok (.ifCond .eq 12, 3) := by decide +kernel
theorem dX5_toFeed_7 : decode cX5_toFeed 7 = .ok (.aload_n 0, 1) := by decide +kernel
theorem dX5_toFeed_8 : decode cX5_toFeed 8 = .ok (.iconst 2, 1) := by decide +kernel
theorem dX5_toFeed_9 : decode cX5_toFeed 9 = .ok (.iload_n 1, 1) := by decide +kernel
theorem dX5_toFeed_10 : decode cX5_toFeed 10 = .ok (.invokevirtual 146, 3) := by decide +kernel
theorem dX5_toFeed_13 : decode cX5_toFeed 13 = .ok (.goto 5, 3) := by decide +kernel
theorem dX5_toFeed_16 : decode cX5_toFeed 16 = .ok (.bipush (-2), 2) := by decide +kernel
theorem dX5_toFeed_18 : decode cX5_toFeed 18 = .ok (.ireturn, 1) := by decide +kernel
set_option maxRecDepth 20000 in
theorem ggX5_strike_X5_isSide : GoodIn wsX5_strike wsX5_isSide := goodIn_r _ [4] (by decide +kernel) (by decide +kernel)
set_option maxRecDepth 20000 in
theorem gX5_strike_X5_isSide : GoodIn wsX5_strike (va_wsS RX5 143 yX5_isSide wsX5_isSide) := goodIn_app (goodIn_of _ (by decide +kernel)) ggX5_strike_X5_isSide
set_option maxRecDepth 20000 in
theorem ggX5_strike_X5_fewestFor : GoodIn wsX5_strike wsX5_fewestFor := goodIn_r _ [8, 9, 10, 11, 12, 13, 14, 15, 16, 17, 18, 19, 20, 3, 21, 22, 23, 24, 25, 26, 27, 28, 29, 30, 31, 32, 33, 34, 35, 36, 37, 38, 39, 40, 41, 42, 43, 44, 45, 46, 47, 48, 49, 50, 51, 52, 53, 54, 55, 56, 57, 58, 59, 60, 61, 62, 63, 64, 65, 66, 67, 68, 69, 70, 71, 72, 73, 74, 75, 76, 77, 78, 79, 80, 81, 82, 83, 84, 85, 86, 87, 88, 89, 90, 91, 92, 93, 94, 95, 96, 97, 98, 99, 100, 101, 102, 103, 104, 105, 106, 107] (by decide +kernel) (by decide +kernel)
set_option maxRecDepth 20000 in
theorem gX5_strike_X5_fewestFor : GoodIn wsX5_strike (wsV RX5 146 RX5 yX5_fewestFor wsX5_fewestFor) := goodIn_app (goodIn_of _ (by decide +kernel)) ggX5_strike_X5_fewestFor
theorem dX5_strike_0 : decode cX5_strike 0 = .ok (.iload_n 1, 1) := by decide +kernel
theorem dX5_strike_1 : decode cX5_strike 1 = .ok (.invokestatic 143, 3) := by decide +kernel
theorem dX5_strike_4 : decode cX5_strike 4 = .ok (.ifCond .eq 12, 3) := by decide +kernel
theorem dX5_strike_7 : decode cX5_strike 7 = .ok (.aload_n 0, 1) := by decide +kernel
theorem dX5_strike_8 : decode cX5_strike 8 = .ok (.iconst 3, 1) := by decide +kernel
theorem dX5_strike_9 : decode cX5_strike 9 = .ok (.iload_n 1, 1) := by decide +kernel
theorem dX5_strike_10 : decode cX5_strike 10 = .ok (.invokevirtual 146, 3) := by decide +kernel
theorem dX5_strike_13 : decode cX5_strike 13 = .ok (.goto 5, 3) := by decide +kernel
theorem dX5_strike_16 : decode cX5_strike 16 = .ok (.bipush (-2), 2) := by decide +kernel
theorem dX5_strike_18 : decode cX5_strike 18 = .ok (.ireturn, 1) := by decide +kernel
set_option maxRecDepth 20000 in
theorem ggX5_toMove_X5_isSide : GoodIn wsX5_toMove wsX5_isSide := goodIn_r _ [4] (by decide +kernel) (by decide +kernel)
set_option maxRecDepth 20000 in
theorem gX5_toMove_X5_isSide : GoodIn wsX5_toMove (va_wsS RX5 143 yX5_isSide wsX5_isSide) := goodIn_app (goodIn_of _ (by decide +kernel)) ggX5_toMove_X5_isSide
set_option maxRecDepth 20000 in
theorem ggX5_toMove_X5_leastMoveFor : GoodIn wsX5_toMove wsX5_leastMoveFor := goodIn_r _ [8, 9, 10, 11, 3, 12, 13, 14, 15, 16, 17, 18, 19, 20, 21, 22, 23, 24, 25, 26, 27, 28, 29, 30, 31, 32, 33, 34, 35, 36, 37, 38, 39, 40, 41, 42, 43, 44, 45, 46, 47, 48, 49, 50, 51, 52, 53, 54, 55, 56, 57, 58, 59, 60, 61, 62, 63, 64, 65, 66, 67, 68, 69, 70, 71, 72, 73, 74, 75, 76, 77, 78, 79, 80, 81, 82, 83, 84, 85, 86, 87, 88, 92, 93, 94, 95, 96, 97, 98, 99, 100, 101, 102, 103, 104, 105, 106, 107, 108, 109, 110, 111, 112, 113] (by decide +kernel) (by decide +kernel)
set_option maxRecDepth 20000 in
theorem gX5_toMove_X5_leastMoveFor : GoodIn wsX5_toMove (wsV RX5 149 RX5 yX5_leastMoveFor wsX5_leastMoveFor) := goodIn_app (goodIn_of _ (by decide +kernel)) ggX5_toMove_X5_leastMoveFor
set_option maxRecDepth 20000 in
theorem ggX5_toMove_X5_figuresOf : GoodIn wsX5_toMove wsX5_figuresOf := goodIn_r _ [91] (by decide +kernel) (by decide +kernel)
set_option maxRecDepth 20000 in
theorem gX5_toMove_X5_figuresOf : GoodIn wsX5_toMove (va_wsS RX5 152 yX5_figuresOf wsX5_figuresOf) := goodIn_app (goodIn_of _ (by decide +kernel)) ggX5_toMove_X5_figuresOf
theorem dX5_toMove_0 : decode cX5_toMove 0 = .ok (.iload_n 1, 1) := by decide +kernel
theorem dX5_toMove_1 : decode cX5_toMove 1 = .ok (.invokestatic 143, 3) := by decide +kernel
theorem dX5_toMove_4 : decode cX5_toMove 4 = .ok (.ifCond .ne 6, 3) := by decide +kernel
theorem dX5_toMove_7 : decode cX5_toMove 7 = .ok (.bipush (-2), 2) := by decide +kernel
theorem dX5_toMove_9 : decode cX5_toMove 9 = .ok (.ireturn, 1) := by decide +kernel
theorem dX5_toMove_10 : decode cX5_toMove 10 = .ok (.aload_n 0, 1) := by decide +kernel
theorem dX5_toMove_11 : decode cX5_toMove 11 = .ok (.iload_n 1, 1) := by decide +kernel
theorem dX5_toMove_12 : decode cX5_toMove 12 = .ok (.invokevirtual 149, 3) := by decide +kernel
theorem dX5_toMove_15 : decode cX5_toMove 15 = .ok (.istore_n 3, 1) := by decide +kernel
theorem dX5_toMove_16 : decode cX5_toMove 16 = .ok (.iload_n 3, 1) := by decide +kernel
theorem dX5_toMove_17 : decode cX5_toMove 17 = .ok (.bipush (-9), 2) := by decide +kernel
theorem dX5_toMove_19 : decode cX5_toMove 19 = .ok (.if_icmp .eq 7, 3) := by decide +kernel
theorem dX5_toMove_22 : decode cX5_toMove 22 = .ok (.iload_n 2, 1) := by decide +kernel
theorem dX5_toMove_23 : decode cX5_toMove 23 = .ok (.ifCond .eq 7, 3) := by decide +kernel
theorem dX5_toMove_26 : decode cX5_toMove 26 = .ok (.iload_n 3, 1) := by decide +kernel
theorem dX5_toMove_27 : decode cX5_toMove 27 = .ok (.goto 7, 3) := by decide +kernel
theorem dX5_toMove_30 : decode cX5_toMove 30 = .ok (.iload_n 3, 1) := by decide +kernel
theorem dX5_toMove_31 : decode cX5_toMove 31 = .ok (.invokestatic 152, 3) := by decide +kernel
theorem dX5_toMove_34 : decode cX5_toMove 34 = .ok (.ireturn, 1) := by decide +kernel
set_option maxRecDepth 20000 in
theorem ggX5_judge_X2_copyFrom : GoodIn wsX5_judge wsX2_copyFrom := goodIn_r _ [8, 9, 10, 11, 12, 13, 82, 83, 84, 85, 86, 87] (by decide +kernel) (by decide +kernel)
set_option maxRecDepth 20000 in
theorem gX5_judge_X2_copyFrom : GoodIn wsX5_judge (wsV RX5 131 RX2 yX2_copyFrom wsX2_copyFrom) := goodIn_app (goodIn_of _ (by decide +kernel)) ggX5_judge_X2_copyFrom
set_option maxRecDepth 20000 in
theorem ggX5_judge_X2_canDo : GoodIn wsX5_judge wsX2_canDo := goodIn_r _ [17, 12, 13, 18, 19, 20, 7, 21, 10, 82, 83, 84, 85, 86, 87] (by decide +kernel) (by decide +kernel)
set_option maxRecDepth 20000 in
theorem gX5_judge_X2_canDo : GoodIn wsX5_judge (wsV RX5 158 RX2 yX2_canDo wsX2_canDo) := goodIn_app (goodIn_of _ (by decide +kernel)) ggX5_judge_X2_canDo
set_option maxRecDepth 20000 in
theorem ggX5_judge_X2_carryOut : GoodIn wsX5_judge wsX2_carryOut := goodIn_r _ [25, 12, 26, 27, 28, 29, 13, 10, 11, 9, 30, 31, 32, 7, 33, 34, 35, 36, 37, 38, 39, 40, 41, 42, 43, 44, 45, 46, 47, 48, 49, 50, 51, 52, 53, 54, 55, 56, 57, 58, 18, 19, 20, 21, 59, 60, 61, 62, 63, 64, 65, 66, 67, 68, 69, 70, 71, 82, 83, 84, 85, 86, 87, 88, 89, 90, 91, 92, 93] (by decide +kernel) (by decide +kernel)
set_option maxRecDepth 20000 in
theorem gX5_judge_X2_carryOut : GoodIn wsX5_judge (wsV RX5 162 RX2 yX2_carryOut wsX2_carryOut) := goodIn_app (goodIn_of _ (by decide +kernel)) ggX5_judge_X2_carryOut
theorem dX5_judge_0 : decode cX5_judge 0 = .ok (.iload_n 1, 1) := by decide +kernel
theorem dX5_judge_1 : decode cX5_judge 1 = .ok (.iconst 1, 1) := by decide +kernel
theorem dX5_judge_2 : decode cX5_judge 2 = .ok (.if_icmp .lt 21, 3) := by decide +kernel
theorem dX5_judge_5 : decode cX5_judge 5 = .ok (.iload_n 1, 1) := by decide +kernel
theorem dX5_judge_6 : decode cX5_judge 6 = .ok (.iconst 4, 1) := by decide +kernel
theorem dX5_judge_7 : decode cX5_judge 7 = .ok (.if_icmp .gt 16, 3) := by decide +kernel
theorem dX5_judge_10 : decode cX5_judge 10 = .ok (.iload_n 2, 1) := by decide +kernel
theorem dX5_judge_11 : decode cX5_judge 11 = .ok (.ifCond .lt 12, 3) := by decide +kernel
theorem dX5_judge_14 : decode cX5_judge 14 = .ok (.iload_n 2, 1) := by decide +kernel
theorem dX5_judge_15 : decode cX5_judge 15 = .ok (.getstatic 155, 3) := by decide +kernel
theorem dX5_judge_18 : decode cX5_judge 18 = .ok (.iload_n 1, 1) := by decide +kernel
theorem dX5_judge_19 : decode cX5_judge 19 = .ok (.iaload, 1) := by decide +kernel
theorem dX5_judge_20 : decode cX5_judge 20 = .ok (.if_icmp .lt 6, 3) := by decide +kernel
theorem dX5_judge_23 : decode cX5_judge 23 = .ok (.bipush (-2), 2) := by decide +kernel
theorem dX5_judge_25 : decode cX5_judge 25 = .ok (.ireturn, 1) := by decide +kernel
theorem dX5_judge_26 : decode cX5_judge 26 = .ok (.aload_n 0, 1) := by decide +kernel
theorem dX5_judge_27 : decode cX5_judge 27 = .ok (.getfield 35, 3) := by decide +kernel
theorem dX5_judge_30 : decode cX5_judge 30 = .ok (.aload_n 0, 1) := by decide +kernel
theorem dX5_judge_31 : decode cX5_judge 31 = .ok (.getfield 31, 3) := by decide +kernel
theorem dX5_judge_34 : decode cX5_judge 34 = .ok (.invokevirtual 131, 3) := by decide +kernel
theorem dX5_judge_37 : decode cX5_judge 37 = .ok (.iconst 0, 1) := by decide +kernel
theorem dX5_judge_38 : decode cX5_judge 38 = .ok (.istore_n 3, 1) := by decide +kernel
theorem dX5_judge_39 : decode cX5_judge 39 = .ok (.iload_n 3, 1) := by decide +kernel
theorem dX5_judge_40 : decode cX5_judge 40 = .ok (.iload_n 1, 1) := by decide +kernel
theorem dX5_judge_41 : decode cX5_judge 41 = .ok (.if_icmp .ge 66, 3) := by decide +kernel
theorem dX5_judge_44 : decode cX5_judge 44 = .ok (.iload_n 2, 1) := by decide +kernel
theorem dX5_judge_45 : decode cX5_judge 45 = .ok (.getstatic 155, 3) := by decide +kernel
theorem dX5_judge_48 : decode cX5_judge 48 = .ok (.iload_n 1, 1) := by decide +kernel
theorem dX5_judge_49 : decode cX5_judge 49 = .ok (.iconst 1, 1) := by decide +kernel
theorem dX5_judge_50 : decode cX5_judge 50 = .ok (.isub, 1) := by decide +kernel
theorem dX5_judge_51 : decode cX5_judge 51 = .ok (.iload_n 3, 1) := by decide +kernel
theorem dX5_judge_52 : decode cX5_judge 52 = .ok (.isub, 1) := by decide +kernel
theorem dX5_judge_53 : decode cX5_judge 53 = .ok (.iaload, 1) := by decide +kernel
theorem dX5_judge_54 : decode cX5_judge 54 = .ok (.idiv, 1) := by decide +kernel
theorem dX5_judge_55 : decode cX5_judge 55 = .ok (.bipush 100, 2) := by decide +kernel
theorem dX5_judge_57 : decode cX5_judge 57 = .ok (.irem, 1) := by decide +kernel
theorem dX5_judge_58 : decode cX5_judge 58 = .ok (.istore 4, 2) := by decide +kernel
theorem dX5_judge_60 : decode cX5_judge 60 = .ok (.iload 4, 2) := by decide +kernel
theorem dX5_judge_62 : decode cX5_judge 62 = .ok (.bipush 10, 2) := by decide +kernel
theorem dX5_judge_64 : decode cX5_judge 64 = .ok (.idiv, 1) := by decide +kernel
theorem dX5_judge_65 : decode cX5_judge 65 = .ok (.istore 5, 2) := by decide +kernel
theorem dX5_judge_67 : decode cX5_judge 67 = .ok (.iload 4, 2) := by decide +kernel
theorem dX5_judge_69 : decode cX5_judge 69 = .ok (.bipush 10, 2) := by decide +kernel
theorem dX5_judge_71 : decode cX5_judge 71 = .ok (.irem, 1) := by decide +kernel
theorem dX5_judge_72 : decode cX5_judge 72 = .ok (.istore 6, 2) := by decide +kernel
theorem dX5_judge_74 : decode cX5_judge 74 = .ok (.aload_n 0, 1) := by decide +kernel
theorem dX5_judge_75 : decode cX5_judge 75 = .ok (.getfield 35, 3) := by decide +kernel
theorem dX5_judge_78 : decode cX5_judge 78 = .ok (.iload 5, 2) := by decide +kernel
theorem dX5_judge_80 : decode cX5_judge 80 = .ok (.iload 6, 2) := by decide +kernel
theorem dX5_judge_82 : decode cX5_judge 82 = .ok (.invokevirtual 158, 3) := by decide +kernel
theorem dX5_judge_85 : decode cX5_judge 85 = .ok (.ifCond .ne 5, 3) := by decide +kernel
theorem dX5_judge_88 : decode cX5_judge 88 = .ok (.iload_n 3, 1) := by decide +kernel
theorem dX5_judge_89 : decode cX5_judge 89 = .ok (.ireturn, 1) := by decide +kernel
theorem dX5_judge_90 : decode cX5_judge 90 = .ok (.aload_n 0, 1) := by decide +kernel
theorem dX5_judge_91 : decode cX5_judge 91 = .ok (.getfield 35, 3) := by decide +kernel
theorem dX5_judge_94 : decode cX5_judge 94 = .ok (.iload 5, 2) := by decide +kernel
theorem dX5_judge_96 : decode cX5_judge 96 = .ok (.iload 6, 2) := by decide +kernel
theorem dX5_judge_98 : decode cX5_judge 98 = .ok (.invokevirtual 162, 3) := by decide +kernel
theorem dX5_judge_101 : decode cX5_judge 101 = .ok (.iinc 3 1, 3) := by decide +kernel
theorem dX5_judge_104 : decode cX5_judge 104 = .ok (.goto (-65), 3) := by decide +kernel
theorem dX5_judge_107 : decode cX5_judge 107 = .ok (.bipush (-9), 2) := by decide +kernel
theorem dX5_judge_109 : decode cX5_judge 109 = .ok (.ireturn, 1) := by decide +kernel
set_option maxRecDepth 20000 in
theorem ggX5_see_X5_isJuror : GoodIn wsX5_see wsX5_isJuror := goodIn_r _ [7, 8, 9, 22, 23, 24, 25, 26, 27, 28, 29, 30, 31, 36, 37, 38, 39, 40, 41] (by decide +kernel) (by decide +kernel)
set_option maxRecDepth 20000 in
theorem gX5_see_X5_isJuror : GoodIn wsX5_see (wsV RX5 81 RX5 yX5_isJuror wsX5_isJuror) := goodIn_app (goodIn_of _ (by decide +kernel)) ggX5_see_X5_isJuror
set_option maxRecDepth 20000 in
theorem ggX5_see_X5_isSide : GoodIn wsX5_see wsX5_isSide := goodIn_r _ [12] (by decide +kernel) (by decide +kernel)
set_option maxRecDepth 20000 in
theorem gX5_see_X5_isSide : GoodIn wsX5_see (va_wsS RX5 143 yX5_isSide wsX5_isSide) := goodIn_app (goodIn_of _ (by decide +kernel)) ggX5_see_X5_isSide
set_option maxRecDepth 20000 in
theorem ggX5_see_X3_add : GoodIn wsX5_see wsX3_add := goodIn_r _ [17, 18, 19, 20, 21, 32, 33, 34, 35] (by decide +kernel) (by decide +kernel)
set_option maxRecDepth 20000 in
theorem gX5_see_X3_add : GoodIn wsX5_see (wsV RX5 166 RX3 yX3_add wsX3_add) := goodIn_app (goodIn_of _ (by decide +kernel)) ggX5_see_X3_add
theorem dX5_see_0 : decode cX5_see 0 = .ok (.aload_n 0, 1) := by decide +kernel
theorem dX5_see_1 : decode cX5_see 1 = .ok (.iload_n 1, 1) := by decide +kernel
theorem dX5_see_2 : decode cX5_see 2 = .ok (.invokevirtual 81, 3) := by decide +kernel
theorem dX5_see_5 : decode cX5_see 5 = .ok (.ifCond .ne 5, 3) := by decide +kernel
theorem dX5_see_8 : decode cX5_see 8 = .ok (.iconst (-1), 1) := by decide +kernel
theorem dX5_see_9 : decode cX5_see 9 = .ok (.ireturn, 1) := by decide +kernel
theorem dX5_see_10 : decode cX5_see 10 = .ok (.iload_n 2, 1) := by decide +kernel
theorem dX5_see_11 : decode cX5_see 11 = .ok (.ifCond .lt 16, 3) := by decide +kernel
theorem dX5_see_14 : decode cX5_see 14 = .ok (.iload_n 2, 1) := by decide +kernel
theorem dX5_see_15 : decode cX5_see 15 = .ok (.bipush 9, 2) := by decide +kernel
theorem dX5_see_17 : decode cX5_see 17 = .ok (.if_icmp .gt 10, 3) := by decide +kernel
theorem dX5_see_20 : decode cX5_see 20 = .ok (.iload_n 3, 1) := by decide +kernel
theorem dX5_see_21 : decode cX5_see 21 = .ok (.invokestatic 143, 3) := by decide +kernel
theorem dX5_see_24 : decode cX5_see 24 = .ok (.ifCond .ne 6, 3) := by decide +kernel
theorem dX5_see_27 : decode cX5_see 27 = .ok (.bipush (-2), 2) := by decide +kernel
theorem dX5_see_29 : decode cX5_see 29 = .ok (.ireturn, 1) := by decide +kernel
theorem dX5_see_30 : decode cX5_see 30 = .ok (.aload_n 0, 1) := by decide +kernel
theorem dX5_see_31 : decode cX5_see 31 = .ok (.getfield 56, 3) := by decide +kernel
theorem dX5_see_34 : decode cX5_see 34 = .ok (.iload_n 1, 1) := by decide +kernel
theorem dX5_see_35 : decode cX5_see 35 = .ok (.iload_n 2, 1) := by decide +kernel
theorem dX5_see_36 : decode cX5_see 36 = .ok (.iload_n 3, 1) := by decide +kernel
theorem dX5_see_37 : decode cX5_see 37 = .ok (.invokevirtual 166, 3) := by decide +kernel
theorem dX5_see_40 : decode cX5_see 40 = .ok (.ifCond .eq 13, 3) := by decide +kernel
theorem dX5_see_43 : decode cX5_see 43 = .ok (.aload_n 0, 1) := by decide +kernel
theorem dX5_see_44 : decode cX5_see 44 = .ok (.getfield 56, 3) := by decide +kernel
theorem dX5_see_47 : decode cX5_see 47 = .ok (.getfield 169, 3) := by decide +kernel
theorem dX5_see_50 : decode cX5_see 50 = .ok (.goto 5, 3) := by decide +kernel
theorem dX5_see_53 : decode cX5_see 53 = .ok (.bipush (-4), 2) := by decide +kernel
theorem dX5_see_55 : decode cX5_see 55 = .ok (.ireturn, 1) := by decide +kernel
theorem dX5_unsee_0 : decode cX5_unsee 0 = .ok (.aload_n 0, 1) := by decide +kernel
theorem dX5_unsee_1 : decode cX5_unsee 1 = .ok (.getfield 56, 3) := by decide +kernel
theorem dX5_unsee_4 : decode cX5_unsee 4 = .ok (.getfield 169, 3) := by decide +kernel
theorem dX5_unsee_7 : decode cX5_unsee 7 = .ok (.istore_n 1, 1) := by decide +kernel
theorem dX5_unsee_8 : decode cX5_unsee 8 = .ok (.aload_n 0, 1) := by decide +kernel
theorem dX5_unsee_9 : decode cX5_unsee 9 = .ok (.getfield 56, 3) := by decide +kernel
theorem dX5_unsee_12 : decode cX5_unsee 12 = .ok (.iconst 0, 1) := by decide +kernel
theorem dX5_unsee_13 : decode cX5_unsee 13 = .ok (.putfield 169, 3) := by decide +kernel
theorem dX5_unsee_16 : decode cX5_unsee 16 = .ok (.iload_n 1, 1) := by decide +kernel
theorem dX5_unsee_17 : decode cX5_unsee 17 = .ok (.ireturn, 1) := by decide +kernel
set_option maxRecDepth 20000 in
theorem ggX5_first_X5_fitsWhatIsSeen : GoodIn wsX5_first wsX5_fitsWhatIsSeen := goodIn_r _ [7, 8, 1, 9, 10, 11, 12, 13, 14, 15, 16, 17, 18, 19, 20, 21, 22, 23, 24, 25, 26, 27, 28, 29, 30, 31, 32, 33, 34, 35, 36, 37, 38, 39, 40, 41, 42, 43, 44, 45, 46, 47, 48, 49, 50, 51, 52, 53, 54, 55, 56, 57, 58, 59, 60, 61, 62, 63, 64, 65, 66, 67, 68, 69, 70, 71, 72, 73, 74, 75, 76, 77, 78, 79, 80, 81, 82, 83, 84, 85, 86, 87, 88, 89, 90, 91, 92, 93, 94, 95, 96, 97, 98, 99, 100, 101, 102, 103, 104] (by decide +kernel) (by decide +kernel)
set_option maxRecDepth 20000 in
theorem gX5_first_X5_fitsWhatIsSeen : GoodIn wsX5_first (wsV RX5 170 RX5 yX5_fitsWhatIsSeen wsX5_fitsWhatIsSeen) := goodIn_app (goodIn_of _ (by decide +kernel)) ggX5_first_X5_fitsWhatIsSeen
theorem dX5_first_0 : decode cX5_first 0 = .ok (.iload_n 1, 1) := by decide +kernel
theorem dX5_first_1 : decode cX5_first 1 = .ok (.ifCond .lt 8, 3) := by decide +kernel
theorem dX5_first_4 : decode cX5_first 4 = .ok (.iload_n 1, 1) := by decide +kernel
theorem dX5_first_5 : decode cX5_first 5 = .ok (.iconst 2, 1) := by decide +kernel
theorem dX5_first_6 : decode cX5_first 6 = .ok (.if_icmp .le 6, 3) := by decide +kernel
theorem dX5_first_9 : decode cX5_first 9 = .ok (.bipush (-2), 2) := by decide +kernel
theorem dX5_first_11 : decode cX5_first 11 = .ok (.ireturn, 1) := by decide +kernel
theorem dX5_first_12 : decode cX5_first 12 = .ok (.iconst 0, 1) := by decide +kernel
theorem dX5_first_13 : decode cX5_first 13 = .ok (.istore_n 2, 1) := by decide +kernel
theorem dX5_first_14 : decode cX5_first 14 = .ok (.aload_n 0, 1) := by decide +kernel
theorem dX5_first_15 : decode cX5_first 15 = .ok (.getfield 31, 3) := by decide +kernel
theorem dX5_first_18 : decode cX5_first 18 = .ok (.getfield 121, 3) := by decide +kernel
theorem dX5_first_21 : decode cX5_first 21 = .ok (.istore_n 3, 1) := by decide +kernel
theorem dX5_first_22 : decode cX5_first 22 = .ok (.iconst 0, 1) := by decide +kernel
theorem dX5_first_23 : decode cX5_first 23 = .ok (.istore 4, 2) := by decide +kernel
theorem dX5_first_25 : decode cX5_first 25 = .ok (.iconst 0, 1) := by decide +kernel
theorem dX5_first_26 : decode cX5_first 26 = .ok (.istore 5, 2) := by decide +kernel
theorem dX5_first_28 : decode cX5_first 28 = .ok (.iload 5, 2) := by decide +kernel
theorem dX5_first_30 : decode cX5_first 30 = .ok (.bipush 64, 2) := by decide +kernel
theorem dX5_first_32 : decode cX5_first 32 = .ok (.if_icmp .ge 48, 3) := by decide +kernel
theorem dX5_first_35 : decode cX5_first 35 = .ok (.iload 5, 2) := by decide +kernel
theorem dX5_first_37 : decode cX5_first 37 = .ok (.aload_n 0, 1) := by decide +kernel
theorem dX5_first_38 : decode cX5_first 38 = .ok (.getfield 31, 3) := by decide +kernel
theorem dX5_first_41 : decode cX5_first 41 = .ok (.getfield 121, 3) := by decide +kernel
theorem dX5_first_44 : decode cX5_first 44 = .ok (.iconst (-1), 1) := by decide +kernel
theorem dX5_first_45 : decode cX5_first 45 = .ok (.ixor, 1) := by decide +kernel
theorem dX5_first_46 : decode cX5_first 46 = .ok (.iand, 1) := by decide +kernel
theorem dX5_first_47 : decode cX5_first 47 = .ok (.ifCond .ne 27, 3) := by decide +kernel
theorem dX5_first_50 : decode cX5_first 50 = .ok (.aload_n 0, 1) := by decide +kernel
theorem dX5_first_51 : decode cX5_first 51 = .ok (.iload 5, 2) := by decide +kernel
theorem dX5_first_53 : decode cX5_first 53 = .ok (.invokevirtual 170, 3) := by decide +kernel
theorem dX5_first_56 : decode cX5_first 56 = .ok (.ifCond .eq 18, 3) := by decide +kernel
theorem dX5_first_59 : decode cX5_first 59 = .ok (.iinc 2 1, 3) := by decide +kernel
theorem dX5_first_62 : decode cX5_first 62 = .ok (.iload_n 3, 1) := by decide +kernel
theorem dX5_first_63 : decode cX5_first 63 = .ok (.iload 5, 2) := by decide +kernel
theorem dX5_first_65 : decode cX5_first 65 = .ok (.iand, 1) := by decide +kernel
theorem dX5_first_66 : decode cX5_first 66 = .ok (.istore_n 3, 1) := by decide +kernel
theorem dX5_first_67 : decode cX5_first 67 = .ok (.iload 4, 2) := by decide +kernel
theorem dX5_first_69 : decode cX5_first 69 = .ok (.iload 5, 2) := by decide +kernel
theorem dX5_first_71 : decode cX5_first 71 = .ok (.ior, 1) := by decide +kernel
theorem dX5_first_72 : decode cX5_first 72 = .ok (.istore 4, 2) := by decide +kernel
theorem dX5_first_74 : decode cX5_first 74 = .ok (.iinc 5 1, 3) := by decide +kernel
theorem dX5_first_77 : decode cX5_first 77 = .ok (.goto (-49), 3) := by decide +kernel
theorem dX5_first_80 : decode cX5_first 80 = .ok (.iload_n 1, 1) := by decide +kernel
theorem dX5_first_81 : decode cX5_first 81 = .ok (.ifCond .ne 5, 3) := by decide +kernel
theorem dX5_first_84 : decode cX5_first 84 = .ok (.iload_n 2, 1) := by decide +kernel
theorem dX5_first_85 : decode cX5_first 85 = .ok (.ireturn, 1) := by decide +kernel
theorem dX5_first_86 : decode cX5_first 86 = .ok (.iload_n 2, 1) := by decide +kernel
theorem dX5_first_87 : decode cX5_first 87 = .ok (.ifCond .ne 6, 3) := by decide +kernel
theorem dX5_first_90 : decode cX5_first 90 = .ok (.bipush (-9), 2) := by decide +kernel
theorem dX5_first_92 : decode cX5_first 92 = .ok (.ireturn, 1) := by decide +kernel
theorem dX5_first_93 : decode cX5_first 93 = .ok (.iload_n 1, 1) := by decide +kernel
theorem dX5_first_94 : decode cX5_first 94 = .ok (.iconst 1, 1) := by decide +kernel
theorem dX5_first_95 : decode cX5_first 95 = .ok (.if_icmp .ne 7, 3) := by decide +kernel
theorem dX5_first_98 : decode cX5_first 98 = .ok (.iload_n 3, 1) := by decide +kernel
theorem dX5_first_99 : decode cX5_first 99 = .ok (.goto 15, 3) := by decide +kernel
theorem dX5_first_102 : decode cX5_first 102 = .ok (.aload_n 0, 1) := by decide +kernel
theorem dX5_first_103 : decode cX5_first 103 = .ok (.getfield 31, 3) := by decide +kernel
theorem dX5_first_106 : decode cX5_first 106 = .ok (.getfield 121, 3) := by decide +kernel
theorem dX5_first_109 : decode cX5_first 109 = .ok (.iload 4, 2) := by decide +kernel
theorem dX5_first_111 : decode cX5_first 111 = .ok (.iconst (-1), 1) := by decide +kernel
theorem dX5_first_112 : decode cX5_first 112 = .ok (.ixor, 1) := by decide +kernel
theorem dX5_first_113 : decode cX5_first 113 = .ok (.iand, 1) := by decide +kernel
theorem dX5_first_114 : decode cX5_first 114 = .ok (.ireturn, 1) := by decide +kernel
set_option maxRecDepth 20000 in
theorem ggX5_share_X5_isJuror : GoodIn wsX5_share wsX5_isJuror := goodIn_r _ [7, 8, 9, 96, 97, 98, 99, 100, 101, 102, 103, 104, 105, 112, 113, 114, 115, 116, 117] (by decide +kernel) (by decide +kernel)
set_option maxRecDepth 20000 in
theorem gX5_share_X5_isJuror : GoodIn wsX5_share (wsV RX5 81 RX5 yX5_isJuror wsX5_isJuror) := goodIn_app (goodIn_of _ (by decide +kernel)) ggX5_share_X5_isJuror
set_option maxRecDepth 20000 in
theorem ggX5_share_X2_isThere : GoodIn wsX5_share wsX2_isThere := goodIn_r _ [14, 15, 106, 107, 108, 109, 110, 111] (by decide +kernel) (by decide +kernel)
set_option maxRecDepth 20000 in
theorem gX5_share_X2_isThere : GoodIn wsX5_share (wsV RX5 100 RX2 yX2_isThere wsX2_isThere) := goodIn_app (goodIn_of _ (by decide +kernel)) ggX5_share_X2_isThere
set_option maxRecDepth 20000 in
theorem ggX5_share_X5_partOfFraction : GoodIn wsX5_share wsX5_partOfFraction := goodIn_r _ [18, 19, 20, 21, 22, 23, 24, 6, 25] (by decide +kernel) (by decide +kernel)
set_option maxRecDepth 20000 in
theorem gX5_share_X5_partOfFraction : GoodIn wsX5_share (va_wsS RX5 173 yX5_partOfFraction wsX5_partOfFraction) := goodIn_app (goodIn_of _ (by decide +kernel)) ggX5_share_X5_partOfFraction
set_option maxRecDepth 20000 in
theorem ggX5_share_X5_endIsYesFrom : GoodIn wsX5_share wsX5_endIsYesFrom := goodIn_r _ [29, 30, 1, 31, 32, 33, 34, 13, 35, 36, 15, 37, 38, 39, 40, 41, 42, 43, 44, 45, 46, 47, 48, 49, 50, 51, 52, 53, 54, 55, 56, 57, 58, 59, 60, 61, 62, 63, 64, 65, 66, 67, 68, 69, 70, 71, 21, 72, 73, 11, 12, 14, 74, 75, 76, 77, 78, 79, 80, 81, 82, 83, 84, 85, 86, 87, 96, 97, 98, 99, 100, 101, 102, 103, 104, 105, 106, 107, 108, 109, 110, 111, 112, 113, 114, 115, 116, 117] (by decide +kernel) (by decide +kernel)
set_option maxRecDepth 20000 in
theorem gX5_share_X5_endIsYesFrom : GoodIn wsX5_share (wsV RX5 177 RX5 yX5_endIsYesFrom wsX5_endIsYesFrom) := goodIn_app (goodIn_of _ (by decide +kernel)) ggX5_share_X5_endIsYesFrom
set_option maxRecDepth 20000 in
theorem ggX5_share_J6_bitCount_0f7a4 : GoodIn wsX5_share wsJ6_bitCount_0f7a4 := goodIn_r _ [51, 52, 53, 54] (by decide +kernel) (by decide +kernel)
set_option maxRecDepth 20000 in
theorem gX5_share_J6_bitCount_0f7a4 : GoodIn wsX5_share (va_wsS RX5 111 yJ6_bitCount_0f7a4 wsJ6_bitCount_0f7a4) := goodIn_app (goodIn_of _ (by decide +kernel)) ggX5_share_J6_bitCount_0f7a4
set_option maxRecDepth 20000 in
theorem ggX5_share_X5_ordersWith : GoodIn wsX5_share wsX5_ordersWith := goodIn_r _ [91, 92, 93, 6, 94, 95] (by decide +kernel) (by decide +kernel)
set_option maxRecDepth 20000 in
theorem gX5_share_X5_ordersWith : GoodIn wsX5_share (va_wsS RX5 180 yX5_ordersWith wsX5_ordersWith) := goodIn_app (goodIn_of _ (by decide +kernel)) ggX5_share_X5_ordersWith
set_option maxRecDepth 20000 in
theorem ggX5_share_X5_factorial : GoodIn wsX5_share wsX5_factorial := goodIn_r _ [94, 95] (by decide +kernel) (by decide +kernel)
set_option maxRecDepth 20000 in
theorem gX5_share_X5_factorial : GoodIn wsX5_share (va_wsS RX5 183 yX5_factorial wsX5_factorial) := goodIn_app (goodIn_of _ (by decide +kernel)) ggX5_share_X5_factorial
theorem dX5_share_0 : decode cX5_share 0 = .ok (.aload_n 0, 1) := by decide +kernel
theorem dX5_share_1 : decode cX5_share 1 = .ok (.iload_n 1, 1) := by decide +kernel
theorem dX5_share_2 : decode cX5_share 2 = .ok (.invokevirtual 81, 3) := by decide +kernel
theorem dX5_share_5 : decode cX5_share 5 = .ok (.ifCond .ne 5, 3) := by decide +kernel
theorem dX5_share_8 : decode cX5_share 8 = .ok (.iconst (-1), 1) := by decide +kernel
theorem dX5_share_9 : decode cX5_share 9 = .ok (.ireturn, 1) := by decide +kernel
theorem dX5_share_10 : decode cX5_share 10 = .ok (.aload_n 0, 1) := by decide +kernel
theorem dX5_share_11 : decode cX5_share 11 = .ok (.getfield 31, 3) := by decide +kernel
theorem dX5_share_14 : decode cX5_share 14 = .ok (.iload_n 1, 1) := by decide +kernel
theorem dX5_share_15 : decode cX5_share 15 = .ok (.invokevirtual 100, 3) := by decide +kernel
theorem dX5_share_18 : decode cX5_share 18 = .ok (.ifCond .ne 10, 3) := by decide +kernel
theorem dX5_share_21 : decode cX5_share 21 = .ok (.iconst 0, 1) := by decide +kernel
theorem dX5_share_22 : decode cX5_share 22 = .ok (.iconst 1, 1) := by decide +kernel
theorem dX5_share_23 : decode cX5_share 23 = .ok (.iload_n 2, 1) := by decide +kernel
theorem dX5_share_24 : decode cX5_share 24 = .ok (.invokestatic 173, 3) := by decide +kernel
theorem dX5_share_27 : decode cX5_share 27 = .ok (.ireturn, 1) := by decide +kernel
theorem dX5_share_28 : decode cX5_share 28 = .ok (.aload_n 0, 1) := by decide +kernel
theorem dX5_share_29 : decode cX5_share 29 = .ok (.getfield 31, 3) := by decide +kernel
theorem dX5_share_32 : decode cX5_share 32 = .ok (.getfield 121, 3) := by decide +kernel
theorem dX5_share_35 : decode cX5_share 35 = .ok (.iconst 1, 1) := by decide +kernel
theorem dX5_share_36 : decode cX5_share 36 = .ok (.iload_n 1, 1) := by decide +kernel
theorem dX5_share_37 : decode cX5_share 37 = .ok (.ishl, 1) := by decide +kernel
theorem dX5_share_38 : decode cX5_share 38 = .ok (.iconst (-1), 1) := by decide +kernel
theorem dX5_share_39 : decode cX5_share 39 = .ok (.ixor, 1) := by decide +kernel
theorem dX5_share_40 : decode cX5_share 40 = .ok (.iand, 1) := by decide +kernel
theorem dX5_share_41 : decode cX5_share 41 = .ok (.istore_n 3, 1) := by decide +kernel
theorem dX5_share_42 : decode cX5_share 42 = .ok (.iconst 0, 1) := by decide +kernel
theorem dX5_share_43 : decode cX5_share 43 = .ok (.istore 4, 2) := by decide +kernel
theorem dX5_share_45 : decode cX5_share 45 = .ok (.iconst 0, 1) := by decide +kernel
theorem dX5_share_46 : decode cX5_share 46 = .ok (.istore 5, 2) := by decide +kernel
theorem dX5_share_48 : decode cX5_share 48 = .ok (.iload 5, 2) := by decide +kernel
theorem dX5_share_50 : decode cX5_share 50 = .ok (.bipush 64, 2) := by decide +kernel
theorem dX5_share_52 : decode cX5_share 52 = .ok (.if_icmp .ge 62, 3) := by decide +kernel
theorem dX5_share_55 : decode cX5_share 55 = .ok (.iload 5, 2) := by decide +kernel
theorem dX5_share_57 : decode cX5_share 57 = .ok (.iload_n 3, 1) := by decide +kernel
theorem dX5_share_58 : decode cX5_share 58 = .ok (.iconst (-1), 1) := by decide +kernel
theorem dX5_share_59 : decode cX5_share 59 = .ok (.ixor, 1) := by decide +kernel
theorem dX5_share_60 : decode cX5_share 60 = .ok (.iand, 1) := by decide +kernel
theorem dX5_share_61 : decode cX5_share 61 = .ok (.ifCond .ne 47, 3) := by decide +kernel
theorem dX5_share_64 : decode cX5_share 64 = .ok (.aload_n 0, 1) := by decide +kernel
theorem dX5_share_65 : decode cX5_share 65 = .ok (.iload 5, 2) := by decide +kernel
theorem dX5_share_67 : decode cX5_share 67 = .ok (.iconst 1, 1) := by decide +kernel
theorem dX5_share_68 : decode cX5_share 68 = .ok (.iload_n 1, 1) := by decide +kernel
theorem dX5_share_69 : decode cX5_share 69 = .ok (.ishl, 1) := by decide +kernel
theorem dX5_share_70 : decode cX5_share 70 = .ok (.ior, 1) := by decide +kernel
theorem dX5_share_71 : decode cX5_share 71 = .ok (.invokevirtual 177, 3) := by decide +kernel
theorem dX5_share_74 : decode cX5_share 74 = .ok (.aload_n 0, 1) := by decide +kernel
theorem dX5_share_75 : decode cX5_share 75 = .ok (.iload 5, 2) := by decide +kernel
theorem dX5_share_77 : decode cX5_share 77 = .ok (.invokevirtual 177, 3) := by decide +kernel
theorem dX5_share_80 : decode cX5_share 80 = .ok (.isub, 1) := by decide +kernel
theorem dX5_share_81 : decode cX5_share 81 = .ok (.istore 6, 2) := by decide +kernel
theorem dX5_share_83 : decode cX5_share 83 = .ok (.iload 4, 2) := by decide +kernel
theorem dX5_share_85 : decode cX5_share 85 = .ok (.iload 6, 2) := by decide +kernel
theorem dX5_share_87 : decode cX5_share 87 = .ok (.iload 5, 2) := by decide +kernel
theorem dX5_share_89 : decode cX5_share 89 = .ok (.invokestatic 111, 3) := by decide +kernel
theorem dX5_share_92 : decode cX5_share 92 = .ok (.iload_n 3, 1) := by decide +kernel
theorem dX5_share_93 : decode cX5_share 93 = .ok (.iload 5, 2) := by decide +kernel
theorem dX5_share_95 : decode cX5_share 95 = .ok (.iconst (-1), 1) := by decide +kernel
theorem dX5_share_96 : decode cX5_share 96 = .ok (.ixor, 1) := by decide +kernel
theorem dX5_share_97 : decode cX5_share 97 = .ok (.iand, 1) := by decide +kernel
theorem dX5_share_98 : decode cX5_share 98 = .ok (.invokestatic 111, 3) := by decide +kernel
theorem dX5_share_101 : decode cX5_share 101 = .ok (.invokestatic 180, 3) := by decide +kernel
theorem dX5_share_104 : decode cX5_share 104 = .ok (.imul, 1) := by decide +kernel
theorem dX5_share_105 : decode cX5_share 105 = .ok (.iadd, 1) := by decide +kernel
theorem dX5_share_106 : decode cX5_share 106 = .ok (.istore 4, 2) := by decide +kernel
theorem dX5_share_108 : decode cX5_share 108 = .ok (.iinc 5 1, 3) := by decide +kernel
theorem dX5_share_111 : decode cX5_share 111 = .ok (.goto (-63), 3) := by decide +kernel
theorem dX5_share_114 : decode cX5_share 114 = .ok (.iload 4, 2) := by decide +kernel
theorem dX5_share_116 : decode cX5_share 116 = .ok (.aload_n 0, 1) := by decide +kernel
theorem dX5_share_117 : decode cX5_share 117 = .ok (.getfield 31, 3) := by decide +kernel
theorem dX5_share_120 : decode cX5_share 120 = .ok (.getfield 121, 3) := by decide +kernel
theorem dX5_share_123 : decode cX5_share 123 = .ok (.invokestatic 111, 3) := by decide +kernel
theorem dX5_share_126 : decode cX5_share 126 = .ok (.invokestatic 183, 3) := by decide +kernel
theorem dX5_share_129 : decode cX5_share 129 = .ok (.iload_n 2, 1) := by decide +kernel
theorem dX5_share_130 : decode cX5_share 130 = .ok (.invokestatic 173, 3) := by decide +kernel
theorem dX5_share_133 : decode cX5_share 133 = .ok (.ireturn, 1) := by decide +kernel
set_option maxRecDepth 20000 in
theorem ggX5_rests_X5_isJuror : GoodIn wsX5_rests wsX5_isJuror := goodIn_r _ [5, 6, 7, 21, 22, 23, 24, 25, 26, 27, 28, 29, 30, 31, 32, 33, 34, 35, 36] (by decide +kernel) (by decide +kernel)
set_option maxRecDepth 20000 in
theorem gX5_rests_X5_isJuror : GoodIn wsX5_rests (wsV RX5 81 RX5 yX5_isJuror wsX5_isJuror) := goodIn_app (goodIn_of _ (by decide +kernel)) ggX5_rests_X5_isJuror
set_option maxRecDepth 20000 in
theorem ggX5_rests_X5_isBestWait : GoodIn wsX5_rests wsX5_isBestWait := goodIn_r _ [11, 12, 13, 14, 4, 15, 6, 16, 17, 18, 19, 20, 1, 2, 3, 5, 7, 21, 22, 23, 24, 25, 26, 27, 28, 29, 30, 31, 32, 33, 34, 35, 36] (by decide +kernel) (by decide +kernel)
set_option maxRecDepth 20000 in
theorem gX5_rests_X5_isBestWait : GoodIn wsX5_rests (wsV RX5 186 RX5 yX5_isBestWait wsX5_isBestWait) := goodIn_app (goodIn_of _ (by decide +kernel)) ggX5_rests_X5_isBestWait
theorem dX5_rests_0 : decode cX5_rests 0 = .ok (.aload_n 0, 1) := by decide +kernel
theorem dX5_rests_1 : decode cX5_rests 1 = .ok (.iload_n 1, 1) := by decide +kernel
theorem dX5_rests_2 : decode cX5_rests 2 = .ok (.invokevirtual 81, 3) := by decide +kernel
theorem dX5_rests_5 : decode cX5_rests 5 = .ok (.ifCond .eq 11, 3) := by decide +kernel
theorem dX5_rests_8 : decode cX5_rests 8 = .ok (.aload_n 0, 1) := by decide +kernel
theorem dX5_rests_9 : decode cX5_rests 9 = .ok (.iload_n 2, 1) := by decide +kernel
theorem dX5_rests_10 : decode cX5_rests 10 = .ok (.invokevirtual 81, 3) := by decide +kernel
theorem dX5_rests_13 : decode cX5_rests 13 = .ok (.ifCond .ne 5, 3) := by decide +kernel
theorem dX5_rests_16 : decode cX5_rests 16 = .ok (.iconst (-1), 1) := by decide +kernel
theorem dX5_rests_17 : decode cX5_rests 17 = .ok (.ireturn, 1) := by decide +kernel
theorem dX5_rests_18 : decode cX5_rests 18 = .ok (.iload_n 1, 1) := by decide +kernel
theorem dX5_rests_19 : decode cX5_rests 19 = .ok (.iload_n 2, 1) := by decide +kernel
theorem dX5_rests_20 : decode cX5_rests 20 = .ok (.if_icmp .eq 12, 3) := by decide +kernel
theorem dX5_rests_23 : decode cX5_rests 23 = .ok (.iload_n 3, 1) := by decide +kernel
theorem dX5_rests_24 : decode cX5_rests 24 = .ok (.ifCond .lt 8, 3) := by decide +kernel
theorem dX5_rests_27 : decode cX5_rests 27 = .ok (.iload_n 3, 1) := by decide +kernel
theorem dX5_rests_28 : decode cX5_rests 28 = .ok (.iconst 1, 1) := by decide +kernel
theorem dX5_rests_29 : decode cX5_rests 29 = .ok (.if_icmp .le 6, 3) := by decide +kernel
theorem dX5_rests_32 : decode cX5_rests 32 = .ok (.bipush (-2), 2) := by decide +kernel
theorem dX5_rests_34 : decode cX5_rests 34 = .ok (.ireturn, 1) := by decide +kernel
theorem dX5_rests_35 : decode cX5_rests 35 = .ok (.iconst 0, 1) := by decide +kernel
theorem dX5_rests_36 : decode cX5_rests 36 = .ok (.istore 4, 2) := by decide +kernel
theorem dX5_rests_38 : decode cX5_rests 38 = .ok (.bipush (-9), 2) := by decide +kernel
theorem dX5_rests_40 : decode cX5_rests 40 = .ok (.istore 5, 2) := by decide +kernel
theorem dX5_rests_42 : decode cX5_rests 42 = .ok (.iconst 0, 1) := by decide +kernel
theorem dX5_rests_43 : decode cX5_rests 43 = .ok (.istore 6, 2) := by decide +kernel
theorem dX5_rests_45 : decode cX5_rests 45 = .ok (.iload 6, 2) := by decide +kernel
theorem dX5_rests_47 : decode cX5_rests 47 = .ok (.iconst 4, 1) := by decide +kernel
theorem dX5_rests_48 : decode cX5_rests 48 = .ok (.if_icmp .gt 75, 3) := by decide +kernel
theorem dX5_rests_51 : decode cX5_rests 51 = .ok (.iconst 0, 1) := by decide +kernel
theorem dX5_rests_52 : decode cX5_rests 52 = .ok (.istore 7, 2) := by decide +kernel
theorem dX5_rests_54 : decode cX5_rests 54 = .ok (.iload 7, 2) := by decide +kernel
theorem dX5_rests_56 : decode cX5_rests 56 = .ok (.iconst 4, 1) := by decide +kernel
theorem dX5_rests_57 : decode cX5_rests 57 = .ok (.if_icmp .gt 60, 3) := by decide +kernel
theorem dX5_rests_60 : decode cX5_rests 60 = .ok (.aload_n 0, 1) := by decide +kernel
theorem dX5_rests_61 : decode cX5_rests 61 = .ok (.iload_n 1, 1) := by decide +kernel
theorem dX5_rests_62 : decode cX5_rests 62 = .ok (.iload_n 2, 1) := by decide +kernel
theorem dX5_rests_63 : decode cX5_rests 63 = .ok (.iload 6, 2) := by decide +kernel
theorem dX5_rests_65 : decode cX5_rests 65 = .ok (.iload 7, 2) := by decide +kernel
theorem dX5_rests_67 : decode cX5_rests 67 = .ok (.invokevirtual 186, 3) := by decide +kernel
theorem dX5_rests_70 : decode cX5_rests 70 = .ok (.ifCond .eq 41, 3) := by decide +kernel
theorem dX5_rests_73 : decode cX5_rests 73 = .ok (.aload_n 0, 1) := by decide +kernel
theorem dX5_rests_74 : decode cX5_rests 74 = .ok (.iload_n 2, 1) := by decide +kernel
theorem dX5_rests_75 : decode cX5_rests 75 = .ok (.iload_n 1, 1) := by decide +kernel
theorem dX5_rests_76 : decode cX5_rests 76 = .ok (.iload 7, 2) := by decide +kernel
theorem dX5_rests_78 : decode cX5_rests 78 = .ok (.iload 6, 2) := by decide +kernel
theorem dX5_rests_80 : decode cX5_rests 80 = .ok (.invokevirtual 186, 3) := by decide +kernel
theorem dX5_rests_83 : decode cX5_rests 83 = .ok (.ifCond .eq 28, 3) := by decide +kernel
theorem dX5_rests_86 : decode cX5_rests 86 = .ok (.iinc 4 1, 3) := by decide +kernel
theorem dX5_rests_89 : decode cX5_rests 89 = .ok (.iload 5, 2) := by decide +kernel
theorem dX5_rests_91 : decode cX5_rests 91 = .ok (.bipush (-9), 2) := by decide +kernel
theorem dX5_rests_93 : decode cX5_rests 93 = .ok (.if_icmp .ne 14, 3) := by decide +kernel
theorem dX5_rests_96 : decode cX5_rests 96 = .ok (.bipush 10, 2) := by decide +kernel
theorem dX5_rests_98 : decode cX5_rests 98 = .ok (.iload 6, 2) := by decide +kernel
theorem dX5_rests_100 : decode cX5_rests 100 = .ok (.imul, 1) := by decide +kernel
theorem dX5_rests_101 : decode cX5_rests 101 = .ok (.iload 7, 2) := by decide +kernel
theorem dX5_rests_103 : decode cX5_rests 103 = .ok (.iadd, 1) := by decide +kernel
theorem dX5_rests_104 : decode cX5_rests 104 = .ok (.goto 5, 3) := by decide +kernel
theorem dX5_rests_107 : decode cX5_rests 107 = .ok (.iload 5, 2) := by decide +kernel
theorem dX5_rests_109 : decode cX5_rests 109 = .ok (.istore 5, 2) := by decide +kernel
theorem dX5_rests_111 : decode cX5_rests 111 = .ok (.iinc 7 1, 3) := by decide +kernel
theorem dX5_rests_114 : decode cX5_rests 114 = .ok (.goto (-60), 3) := by decide +kernel
theorem dX5_rests_117 : decode cX5_rests 117 = .ok (.iinc 6 1, 3) := by decide +kernel
theorem dX5_rests_120 : decode cX5_rests 120 = .ok (.goto (-75), 3) := by decide +kernel
theorem dX5_rests_123 : decode cX5_rests 123 = .ok (.iload_n 3, 1) := by decide +kernel
theorem dX5_rests_124 : decode cX5_rests 124 = .ok (.ifCond .ne 8, 3) := by decide +kernel
theorem dX5_rests_127 : decode cX5_rests 127 = .ok (.iload 4, 2) := by decide +kernel
theorem dX5_rests_129 : decode cX5_rests 129 = .ok (.goto 5, 3) := by decide +kernel
theorem dX5_rests_132 : decode cX5_rests 132 = .ok (.iload 5, 2) := by decide +kernel
theorem dX5_rests_134 : decode cX5_rests 134 = .ok (.ireturn, 1) := by decide +kernel
set_option maxRecDepth 20000 in
theorem ggX5_coins_X5_isSide : GoodIn wsX5_coins wsX5_isSide := goodIn_r _ [6] (by decide +kernel) (by decide +kernel)
set_option maxRecDepth 20000 in
theorem gX5_coins_X5_isSide : GoodIn wsX5_coins (va_wsS RX5 143 yX5_isSide wsX5_isSide) := goodIn_app (goodIn_of _ (by decide +kernel)) ggX5_coins_X5_isSide
set_option maxRecDepth 20000 in
theorem ggX5_coins_J6_bitCount_0f7a4 : GoodIn wsX5_coins wsJ6_bitCount_0f7a4 := goodIn_r _ [10, 11, 12, 13] (by decide +kernel) (by decide +kernel)
set_option maxRecDepth 20000 in
theorem gX5_coins_J6_bitCount_0f7a4 : GoodIn wsX5_coins (va_wsS RX5 111 yJ6_bitCount_0f7a4 wsJ6_bitCount_0f7a4) := goodIn_app (goodIn_of _ (by decide +kernel)) ggX5_coins_J6_bitCount_0f7a4
set_option maxRecDepth 20000 in
theorem ggX5_coins_X5_power : GoodIn wsX5_coins wsX5_power := goodIn_r _ [16] (by decide +kernel) (by decide +kernel)
set_option maxRecDepth 20000 in
theorem gX5_coins_X5_power : GoodIn wsX5_coins (va_wsS RX5 190 yX5_power wsX5_power) := goodIn_app (goodIn_of _ (by decide +kernel)) ggX5_coins_X5_power
set_option maxRecDepth 20000 in
theorem ggX5_coins_X5_endAfter : GoodIn wsX5_coins wsX5_endAfter := goodIn_r _ [20, 21, 1, 22, 23, 24, 25, 26, 27, 28, 29, 30, 31, 32, 33, 34, 35, 36, 37, 38, 39, 40, 41, 42, 43, 44, 45, 46, 47, 48, 8, 9, 10, 11, 12, 13, 49, 50, 51, 52, 53, 54, 55, 56, 57, 58, 59, 60, 61, 62, 63, 64, 65, 66, 67, 68, 69, 70, 71, 72, 73, 74, 75, 76, 77, 78, 79, 80, 81, 82, 83, 84, 94, 95, 96, 97, 98, 99, 100, 101, 102, 103, 104, 105, 106, 107, 108, 109, 110, 111, 112, 113, 114, 115] (by decide +kernel) (by decide +kernel)
set_option maxRecDepth 20000 in
theorem gX5_coins_X5_endAfter : GoodIn wsX5_coins (wsV RX5 193 RX5 yX5_endAfter wsX5_endAfter) := goodIn_app (goodIn_of _ (by decide +kernel)) ggX5_coins_X5_endAfter
set_option maxRecDepth 20000 in
theorem ggX5_coins_X5_partOfFraction : GoodIn wsX5_coins wsX5_partOfFraction := goodIn_r _ [87, 88, 89, 38, 90, 91, 92, 5, 93] (by decide +kernel) (by decide +kernel)
set_option maxRecDepth 20000 in
theorem gX5_coins_X5_partOfFraction : GoodIn wsX5_coins (va_wsS RX5 173 yX5_partOfFraction wsX5_partOfFraction) := goodIn_app (goodIn_of _ (by decide +kernel)) ggX5_coins_X5_partOfFraction
theorem dX5_coins_0 : decode cX5_coins 0 = .ok (.iload_n 1, 1) := by decide +kernel
theorem dX5_coins_1 : decode cX5_coins 1 = .ok (.invokestatic 143, 3) := by decide +kernel
theorem dX5_coins_4 : decode cX5_coins 4 = .ok (.ifCond .ne 9, 3) := by decide +kernel
theorem dX5_coins_7 : decode cX5_coins 7 = .ok (.iload_n 1, 1) := by decide +kernel
theorem dX5_coins_8 : decode cX5_coins 8 = .ok (.bipush 9, 2) := by decide +kernel
theorem dX5_coins_10 : decode cX5_coins 10 = .ok (.if_icmp .ne 13, 3) := by decide +kernel
theorem dX5_coins_13 : decode cX5_coins 13 = .ok (.iload_n 2, 1) := by decide +kernel
theorem dX5_coins_14 : decode cX5_coins 14 = .ok (.ifCond .lt 9, 3) := by decide +kernel
theorem dX5_coins_17 : decode cX5_coins 17 = .ok (.iload_n 2, 1) := by decide +kernel
theorem dX5_coins_18 : decode cX5_coins 18 = .ok (.bipush 10, 2) := by decide +kernel
theorem dX5_coins_20 : decode cX5_coins 20 = .ok (.if_icmp .le 6, 3) := by decide +kernel
theorem dX5_coins_23 : decode cX5_coins 23 = .ok (.bipush (-2), 2) := by decide +kernel
theorem dX5_coins_25 : decode cX5_coins 25 = .ok (.ireturn, 1) := by decide +kernel
theorem dX5_coins_26 : decode cX5_coins 26 = .ok (.iconst 0, 1) := by decide +kernel
theorem dX5_coins_27 : decode cX5_coins 27 = .ok (.istore 4, 2) := by decide +kernel
theorem dX5_coins_29 : decode cX5_coins 29 = .ok (.iconst 0, 1) := by decide +kernel
theorem dX5_coins_30 : decode cX5_coins 30 = .ok (.istore 5, 2) := by decide +kernel
theorem dX5_coins_32 : decode cX5_coins 32 = .ok (.iload 5, 2) := by decide +kernel
theorem dX5_coins_34 : decode cX5_coins 34 = .ok (.bipush 64, 2) := by decide +kernel
theorem dX5_coins_36 : decode cX5_coins 36 = .ok (.if_icmp .ge 81, 3) := by decide +kernel
theorem dX5_coins_39 : decode cX5_coins 39 = .ok (.iload 5, 2) := by decide +kernel
theorem dX5_coins_41 : decode cX5_coins 41 = .ok (.aload_n 0, 1) := by decide +kernel
theorem dX5_coins_42 : decode cX5_coins 42 = .ok (.getfield 31, 3) := by decide +kernel
theorem dX5_coins_45 : decode cX5_coins 45 = .ok (.getfield 121, 3) := by decide +kernel
theorem dX5_coins_48 : decode cX5_coins 48 = .ok (.iconst (-1), 1) := by decide +kernel
theorem dX5_coins_49 : decode cX5_coins 49 = .ok (.ixor, 1) := by decide +kernel
theorem dX5_coins_50 : decode cX5_coins 50 = .ok (.iand, 1) := by decide +kernel
theorem dX5_coins_51 : decode cX5_coins 51 = .ok (.ifCond .ne 60, 3) := by decide +kernel
theorem dX5_coins_54 : decode cX5_coins 54 = .ok (.iload_n 2, 1) := by decide +kernel
theorem dX5_coins_55 : decode cX5_coins 55 = .ok (.iload 5, 2) := by decide +kernel
theorem dX5_coins_57 : decode cX5_coins 57 = .ok (.invokestatic 111, 3) := by decide +kernel
theorem dX5_coins_60 : decode cX5_coins 60 = .ok (.invokestatic 190, 3) := by decide +kernel
theorem dX5_coins_63 : decode cX5_coins 63 = .ok (.bipush 10, 2) := by decide +kernel
theorem dX5_coins_65 : decode cX5_coins 65 = .ok (.iload_n 2, 1) := by decide +kernel
theorem dX5_coins_66 : decode cX5_coins 66 = .ok (.isub, 1) := by decide +kernel
theorem dX5_coins_67 : decode cX5_coins 67 = .ok (.aload_n 0, 1) := by decide +kernel
theorem dX5_coins_68 : decode cX5_coins 68 = .ok (.getfield 31, 3) := by decide +kernel
theorem dX5_coins_71 : decode cX5_coins 71 = .ok (.getfield 121, 3) := by decide +kernel
theorem dX5_coins_74 : decode cX5_coins 74 = .ok (.iload 5, 2) := by decide +kernel
theorem dX5_coins_76 : decode cX5_coins 76 = .ok (.iconst (-1), 1) := by decide +kernel
theorem dX5_coins_77 : decode cX5_coins 77 = .ok (.ixor, 1) := by decide +kernel
