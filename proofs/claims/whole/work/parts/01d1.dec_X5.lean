theorem dX5_coins_78 : decode cX5_coins 78 = .ok (.iand, 1) := by decide +kernel
theorem dX5_coins_79 : decode cX5_coins 79 = .ok (.invokestatic 111, 3) := by decide +kernel
theorem dX5_coins_82 : decode cX5_coins 82 = .ok (.invokestatic 190, 3) := by decide +kernel
theorem dX5_coins_85 : decode cX5_coins 85 = .ok (.imul, 1) := by decide +kernel
theorem dX5_coins_86 : decode cX5_coins 86 = .ok (.istore 6, 2) := by decide +kernel
theorem dX5_coins_88 : decode cX5_coins 88 = .ok (.iload 6, 2) := by decide +kernel
theorem dX5_coins_90 : decode cX5_coins 90 = .ok (.ifCond .le 21, 3) := by decide +kernel
theorem dX5_coins_93 : decode cX5_coins 93 = .ok (.aload_n 0, 1) := by decide +kernel
theorem dX5_coins_94 : decode cX5_coins 94 = .ok (.iconst 4, 1) := by decide +kernel
theorem dX5_coins_95 : decode cX5_coins 95 = .ok (.iload 5, 2) := by decide +kernel
theorem dX5_coins_97 : decode cX5_coins 97 = .ok (.invokevirtual 193, 3) := by decide +kernel
theorem dX5_coins_100 : decode cX5_coins 100 = .ok (.iload_n 1, 1) := by decide +kernel
theorem dX5_coins_101 : decode cX5_coins 101 = .ok (.if_icmp .ne 10, 3) := by decide +kernel
theorem dX5_coins_104 : decode cX5_coins 104 = .ok (.iload 4, 2) := by decide +kernel
theorem dX5_coins_106 : decode cX5_coins 106 = .ok (.iload 6, 2) := by decide +kernel
theorem dX5_coins_108 : decode cX5_coins 108 = .ok (.iadd, 1) := by decide +kernel
theorem dX5_coins_109 : decode cX5_coins 109 = .ok (.istore 4, 2) := by decide +kernel
theorem dX5_coins_111 : decode cX5_coins 111 = .ok (.iinc 5 1, 3) := by decide +kernel
theorem dX5_coins_114 : decode cX5_coins 114 = .ok (.goto (-82), 3) := by decide +kernel
theorem dX5_coins_117 : decode cX5_coins 117 = .ok (.iload 4, 2) := by decide +kernel
theorem dX5_coins_119 : decode cX5_coins 119 = .ok (.bipush 10, 2) := by decide +kernel
theorem dX5_coins_121 : decode cX5_coins 121 = .ok (.aload_n 0, 1) := by decide +kernel
theorem dX5_coins_122 : decode cX5_coins 122 = .ok (.getfield 31, 3) := by decide +kernel
theorem dX5_coins_125 : decode cX5_coins 125 = .ok (.getfield 121, 3) := by decide +kernel
theorem dX5_coins_128 : decode cX5_coins 128 = .ok (.invokestatic 111, 3) := by decide +kernel
theorem dX5_coins_131 : decode cX5_coins 131 = .ok (.invokestatic 190, 3) := by decide +kernel
theorem dX5_coins_134 : decode cX5_coins 134 = .ok (.iload_n 3, 1) := by decide +kernel
theorem dX5_coins_135 : decode cX5_coins 135 = .ok (.invokestatic 173, 3) := by decide +kernel
theorem dX5_coins_138 : decode cX5_coins 138 = .ok (.ireturn, 1) := by decide +kernel
theorem dX5_seed_0 : decode cX5_seed 0 = .ok (.aload_n 0, 1) := by decide +kernel
theorem dX5_seed_1 : decode cX5_seed 1 = .ok (.getfield 196, 3) := by decide +kernel
theorem dX5_seed_4 : decode cX5_seed 4 = .ok (.lstore_n 3, 1) := by decide +kernel
theorem dX5_seed_5 : decode cX5_seed 5 = .ok (.aload_n 0, 1) := by decide +kernel
theorem dX5_seed_6 : decode cX5_seed 6 = .ok (.lload_n 1, 1) := by decide +kernel
theorem dX5_seed_7 : decode cX5_seed 7 = .ok (.putfield 196, 3) := by decide +kernel
theorem dX5_seed_10 : decode cX5_seed 10 = .ok (.lload_n 3, 1) := by decide +kernel
theorem dX5_seed_11 : decode cX5_seed 11 = .ok (.lreturn, 1) := by decide +kernel
set_option maxRecDepth 20000 in
theorem ggX5_assizes_X2_copyFrom : GoodIn wsX5_assizes wsX2_copyFrom := goodIn_r _ [11, 12, 13, 14, 15, 16, 84, 85, 86, 87, 88, 89] (by decide +kernel) (by decide +kernel)
set_option maxRecDepth 20000 in
theorem gX5_assizes_X2_copyFrom : GoodIn wsX5_assizes (wsV RX5 131 RX2 yX2_copyFrom wsX2_copyFrom) := goodIn_app (goodIn_of _ (by decide +kernel)) ggX5_assizes_X2_copyFrom
set_option maxRecDepth 20000 in
theorem ggX5_assizes_X2_passHour : GoodIn wsX5_assizes wsX2_passHour := goodIn_r _ [20, 14, 12, 21, 22, 23, 10, 24, 13, 25, 26, 27, 28, 29, 30, 31, 32, 33, 34, 35, 36, 37, 38, 39, 40, 41, 16, 42, 43, 44, 45, 46, 47, 48, 49, 50, 51, 52, 53, 54, 55, 56, 57, 58, 59, 15, 60, 61, 62, 63, 84, 85, 86, 87, 88, 89, 90, 91, 92, 93, 94, 95] (by decide +kernel) (by decide +kernel)
set_option maxRecDepth 20000 in
theorem gX5_assizes_X2_passHour : GoodIn wsX5_assizes (wsV RX5 107 RX2 yX2_passHour wsX2_passHour) := goodIn_app (goodIn_of _ (by decide +kernel)) ggX5_assizes_X2_passHour
set_option maxRecDepth 20000 in
theorem ggX5_assizes_X2_isThere : GoodIn wsX5_assizes wsX2_isThere := goodIn_r _ [50, 13, 84, 85, 86, 87, 88, 89] (by decide +kernel) (by decide +kernel)
set_option maxRecDepth 20000 in
theorem gX5_assizes_X2_isThere : GoodIn wsX5_assizes (wsV RX5 100 RX2 yX2_isThere wsX2_isThere) := goodIn_app (goodIn_of _ (by decide +kernel)) ggX5_assizes_X2_isThere
set_option maxRecDepth 20000 in
theorem ggX5_assizes_X2_carryOut : GoodIn wsX5_assizes wsX2_carryOut := goodIn_r _ [68, 15, 69, 70, 45, 71, 16, 13, 14, 12, 72, 18, 19, 10, 20, 21, 22, 23, 24, 25, 26, 27, 28, 29, 30, 31, 32, 33, 34, 35, 36, 37, 38, 39, 40, 41, 42, 43, 44, 46, 47, 48, 49, 50, 51, 52, 53, 54, 55, 56, 57, 58, 59, 60, 61, 62, 63, 84, 85, 86, 87, 88, 89, 90, 91, 92, 93, 94, 95] (by decide +kernel) (by decide +kernel)
set_option maxRecDepth 20000 in
theorem gX5_assizes_X2_carryOut : GoodIn wsX5_assizes (wsV RX5 162 RX2 yX2_carryOut wsX2_carryOut) := goodIn_app (goodIn_of _ (by decide +kernel)) ggX5_assizes_X2_carryOut
set_option maxRecDepth 20000 in
theorem ggX5_assizes_X2_verdict : GoodIn wsX5_assizes wsX2_verdict := goodIn_r _ [24, 13, 12, 25, 26, 27, 28, 29, 30, 31, 32, 33, 34, 10, 35, 36, 37, 84, 85, 86, 87, 88, 89, 90, 91, 92, 93, 94, 95] (by decide +kernel) (by decide +kernel)
set_option maxRecDepth 20000 in
theorem gX5_assizes_X2_verdict : GoodIn wsX5_assizes (wsV RX5 140 RX2 yX2_verdict wsX2_verdict) := goodIn_app (goodIn_of _ (by decide +kernel)) ggX5_assizes_X2_verdict
theorem dX5_assizes_0 : decode cX5_assizes 0 = .ok (.iload_n 1, 1) := by decide +kernel
theorem dX5_assizes_1 : decode cX5_assizes 1 = .ok (.iconst 1, 1) := by decide +kernel
theorem dX5_assizes_2 : decode cX5_assizes 2 = .ok (.if_icmp .lt 9, 3) := by decide +kernel
theorem dX5_assizes_5 : decode cX5_assizes 5 = .ok (.iload_n 1, 1) := by decide +kernel
theorem dX5_assizes_6 : decode cX5_assizes 6 = .ok (.bipush 20, 2) := by decide +kernel
theorem dX5_assizes_8 : decode cX5_assizes 8 = .ok (.if_icmp .le 6, 3) := by decide +kernel
theorem dX5_assizes_11 : decode cX5_assizes 11 = .ok (.bipush (-2), 2) := by decide +kernel
theorem dX5_assizes_13 : decode cX5_assizes 13 = .ok (.ireturn, 1) := by decide +kernel
theorem dX5_assizes_14 : decode cX5_assizes 14 = .ok (.aload_n 0, 1) := by decide +kernel
theorem dX5_assizes_15 : decode cX5_assizes 15 = .ok (.getfield 35, 3) := by decide +kernel
theorem dX5_assizes_18 : decode cX5_assizes 18 = .ok (.aload_n 0, 1) := by decide +kernel
theorem dX5_assizes_19 : decode cX5_assizes 19 = .ok (.getfield 31, 3) := by decide +kernel
theorem dX5_assizes_22 : decode cX5_assizes 22 = .ok (.invokevirtual 131, 3) := by decide +kernel
theorem dX5_assizes_25 : decode cX5_assizes 25 = .ok (.iconst 0, 1) := by decide +kernel
theorem dX5_assizes_26 : decode cX5_assizes 26 = .ok (.istore_n 2, 1) := by decide +kernel
theorem dX5_assizes_27 : decode cX5_assizes 27 = .ok (.iconst 0, 1) := by decide +kernel
theorem dX5_assizes_28 : decode cX5_assizes 28 = .ok (.istore_n 3, 1) := by decide +kernel
theorem dX5_assizes_29 : decode cX5_assizes 29 = .ok (.iload_n 3, 1) := by decide +kernel
theorem dX5_assizes_30 : decode cX5_assizes 30 = .ok (.iload_n 1, 1) := by decide +kernel
theorem dX5_assizes_31 : decode cX5_assizes 31 = .ok (.if_icmp .ge 99, 3) := by decide +kernel
theorem dX5_assizes_34 : decode cX5_assizes 34 = .ok (.aload_n 0, 1) := by decide +kernel
theorem dX5_assizes_35 : decode cX5_assizes 35 = .ok (.aload_n 0, 1) := by decide +kernel
theorem dX5_assizes_36 : decode cX5_assizes 36 = .ok (.getfield 196, 3) := by decide +kernel
theorem dX5_assizes_39 : decode cX5_assizes 39 = .ok (.ldc2_w 200, 3) := by decide +kernel
theorem dX5_assizes_42 : decode cX5_assizes 42 = .ok (.lmul, 1) := by decide +kernel
theorem dX5_assizes_43 : decode cX5_assizes 43 = .ok (.ldc2_w 202, 3) := by decide +kernel
theorem dX5_assizes_46 : decode cX5_assizes 46 = .ok (.ladd, 1) := by decide +kernel
theorem dX5_assizes_47 : decode cX5_assizes 47 = .ok (.putfield 196, 3) := by decide +kernel
theorem dX5_assizes_50 : decode cX5_assizes 50 = .ok (.aload_n 0, 1) := by decide +kernel
theorem dX5_assizes_51 : decode cX5_assizes 51 = .ok (.getfield 196, 3) := by decide +kernel
theorem dX5_assizes_54 : decode cX5_assizes 54 = .ok (.bipush 33, 2) := by decide +kernel
theorem dX5_assizes_56 : decode cX5_assizes 56 = .ok (.lushr, 1) := by decide +kernel
theorem dX5_assizes_57 : decode cX5_assizes 57 = .ok (.ldc2_w 204, 3) := by decide +kernel
theorem dX5_assizes_60 : decode cX5_assizes 60 = .ok (.lrem, 1) := by decide +kernel
theorem dX5_assizes_61 : decode cX5_assizes 61 = .ok (.l2i, 1) := by decide +kernel
theorem dX5_assizes_62 : decode cX5_assizes 62 = .ok (.istore 4, 2) := by decide +kernel
theorem dX5_assizes_64 : decode cX5_assizes 64 = .ok (.iload 4, 2) := by decide +kernel
theorem dX5_assizes_66 : decode cX5_assizes 66 = .ok (.bipush 6, 2) := by decide +kernel
theorem dX5_assizes_68 : decode cX5_assizes 68 = .ok (.if_icmp .lt 14, 3) := by decide +kernel
theorem dX5_assizes_71 : decode cX5_assizes 71 = .ok (.aload_n 0, 1) := by decide +kernel
theorem dX5_assizes_72 : decode cX5_assizes 72 = .ok (.getfield 35, 3) := by decide +kernel
theorem dX5_assizes_75 : decode cX5_assizes 75 = .ok (.invokevirtual 107, 3) := by decide +kernel
theorem dX5_assizes_78 : decode cX5_assizes 78 = .ok (.pop, 1) := by decide +kernel
theorem dX5_assizes_79 : decode cX5_assizes 79 = .ok (.goto 25, 3) := by decide +kernel
theorem dX5_assizes_82 : decode cX5_assizes 82 = .ok (.aload_n 0, 1) := by decide +kernel
theorem dX5_assizes_83 : decode cX5_assizes 83 = .ok (.getfield 35, 3) := by decide +kernel
theorem dX5_assizes_86 : decode cX5_assizes 86 = .ok (.iload 4, 2) := by decide +kernel
theorem dX5_assizes_88 : decode cX5_assizes 88 = .ok (.invokevirtual 100, 3) := by decide +kernel
theorem dX5_assizes_91 : decode cX5_assizes 91 = .ok (.ifCond .eq 13, 3) := by decide +kernel
theorem dX5_assizes_94 : decode cX5_assizes 94 = .ok (.aload_n 0, 1) := by decide +kernel
theorem dX5_assizes_95 : decode cX5_assizes 95 = .ok (.getfield 35, 3) := by decide +kernel
theorem dX5_assizes_98 : decode cX5_assizes 98 = .ok (.iconst 4, 1) := by decide +kernel
theorem dX5_assizes_99 : decode cX5_assizes 99 = .ok (.iload 4, 2) := by decide +kernel
theorem dX5_assizes_101 : decode cX5_assizes 101 = .ok (.invokevirtual 162, 3) := by decide +kernel
theorem dX5_assizes_104 : decode cX5_assizes 104 = .ok (.iload_n 2, 1) := by decide +kernel
theorem dX5_assizes_105 : decode cX5_assizes 105 = .ok (.aload_n 0, 1) := by decide +kernel
theorem dX5_assizes_106 : decode cX5_assizes 106 = .ok (.getfield 35, 3) := by decide +kernel
theorem dX5_assizes_109 : decode cX5_assizes 109 = .ok (.invokevirtual 140, 3) := by decide +kernel
theorem dX5_assizes_112 : decode cX5_assizes 112 = .ok (.bipush 9, 2) := by decide +kernel
theorem dX5_assizes_114 : decode cX5_assizes 114 = .ok (.if_icmp .ne 7, 3) := by decide +kernel
theorem dX5_assizes_117 : decode cX5_assizes 117 = .ok (.iconst 0, 1) := by decide +kernel
theorem dX5_assizes_118 : decode cX5_assizes 118 = .ok (.goto 4, 3) := by decide +kernel
theorem dX5_assizes_121 : decode cX5_assizes 121 = .ok (.iconst 1, 1) := by decide +kernel
theorem dX5_assizes_122 : decode cX5_assizes 122 = .ok (.iadd, 1) := by decide +kernel
theorem dX5_assizes_123 : decode cX5_assizes 123 = .ok (.istore_n 2, 1) := by decide +kernel
theorem dX5_assizes_124 : decode cX5_assizes 124 = .ok (.iinc 3 1, 3) := by decide +kernel
theorem dX5_assizes_127 : decode cX5_assizes 127 = .ok (.goto (-98), 3) := by decide +kernel
theorem dX5_assizes_130 : decode cX5_assizes 130 = .ok (.iload_n 2, 1) := by decide +kernel
theorem dX5_assizes_131 : decode cX5_assizes 131 = .ok (.ireturn, 1) := by decide +kernel
set_option maxRecDepth 20000 in
theorem ggX5_keep_X2_copyFrom : GoodIn wsX5_keep wsX2_copyFrom := goodIn_r _ [9, 10, 11, 12, 13, 14, 25, 26, 27, 28, 29, 30] (by decide +kernel) (by decide +kernel)
set_option maxRecDepth 20000 in
theorem gX5_keep_X2_copyFrom : GoodIn wsX5_keep (wsV RX5 131 RX2 yX2_copyFrom wsX2_copyFrom) := goodIn_app (goodIn_of _ (by decide +kernel)) ggX5_keep_X2_copyFrom
theorem dX5_keep_0 : decode cX5_keep 0 = .ok (.iload_n 1, 1) := by decide +kernel
theorem dX5_keep_1 : decode cX5_keep 1 = .ok (.ifCond .lt 8, 3) := by decide +kernel
theorem dX5_keep_4 : decode cX5_keep 4 = .ok (.iload_n 1, 1) := by decide +kernel
theorem dX5_keep_5 : decode cX5_keep 5 = .ok (.iconst 2, 1) := by decide +kernel
theorem dX5_keep_6 : decode cX5_keep 6 = .ok (.if_icmp .lt 5, 3) := by decide +kernel
theorem dX5_keep_9 : decode cX5_keep 9 = .ok (.iconst (-1), 1) := by decide +kernel
theorem dX5_keep_10 : decode cX5_keep 10 = .ok (.ireturn, 1) := by decide +kernel
theorem dX5_keep_11 : decode cX5_keep 11 = .ok (.aload_n 0, 1) := by decide +kernel
theorem dX5_keep_12 : decode cX5_keep 12 = .ok (.getfield 45, 3) := by decide +kernel
theorem dX5_keep_15 : decode cX5_keep 15 = .ok (.iload_n 1, 1) := by decide +kernel
theorem dX5_keep_16 : decode cX5_keep 16 = .ok (.aaload, 1) := by decide +kernel
theorem dX5_keep_17 : decode cX5_keep 17 = .ok (.aload_n 0, 1) := by decide +kernel
theorem dX5_keep_18 : decode cX5_keep 18 = .ok (.getfield 31, 3) := by decide +kernel
theorem dX5_keep_21 : decode cX5_keep 21 = .ok (.invokevirtual 131, 3) := by decide +kernel
theorem dX5_keep_24 : decode cX5_keep 24 = .ok (.aload_n 0, 1) := by decide +kernel
theorem dX5_keep_25 : decode cX5_keep 25 = .ok (.getfield 49, 3) := by decide +kernel
theorem dX5_keep_28 : decode cX5_keep 28 = .ok (.iload_n 1, 1) := by decide +kernel
theorem dX5_keep_29 : decode cX5_keep 29 = .ok (.iconst 1, 1) := by decide +kernel
theorem dX5_keep_30 : decode cX5_keep 30 = .ok (.bastore, 1) := by decide +kernel
theorem dX5_keep_31 : decode cX5_keep 31 = .ok (.aload_n 0, 1) := by decide +kernel
theorem dX5_keep_32 : decode cX5_keep 32 = .ok (.getfield 31, 3) := by decide +kernel
theorem dX5_keep_35 : decode cX5_keep 35 = .ok (.getfield 206, 3) := by decide +kernel
theorem dX5_keep_38 : decode cX5_keep 38 = .ok (.ireturn, 1) := by decide +kernel
set_option maxRecDepth 20000 in
theorem ggX5_again_X2_copyFrom : GoodIn wsX5_again wsX2_copyFrom := goodIn_r _ [10, 11, 12, 13, 14, 15, 32, 33, 34, 35, 36, 37] (by decide +kernel) (by decide +kernel)
set_option maxRecDepth 20000 in
theorem gX5_again_X2_copyFrom : GoodIn wsX5_again (wsV RX5 131 RX2 yX2_copyFrom wsX2_copyFrom) := goodIn_app (goodIn_of _ (by decide +kernel)) ggX5_again_X2_copyFrom
set_option maxRecDepth 20000 in
theorem ggX5_again_X0_forgetAll : GoodIn wsX5_again wsX0_forgetAll := goodIn_r _ [20, 21, 38, 39] (by decide +kernel) (by decide +kernel)
set_option maxRecDepth 20000 in
theorem gX5_again_X0_forgetAll : GoodIn wsX5_again (wsV RX5 75 RX0 yX0_forgetAll wsX0_forgetAll) := goodIn_app (goodIn_of _ (by decide +kernel)) ggX5_again_X0_forgetAll
theorem dX5_again_0 : decode cX5_again 0 = .ok (.iload_n 1, 1) := by decide +kernel
theorem dX5_again_1 : decode cX5_again 1 = .ok (.ifCond .lt 8, 3) := by decide +kernel
theorem dX5_again_4 : decode cX5_again 4 = .ok (.iload_n 1, 1) := by decide +kernel
theorem dX5_again_5 : decode cX5_again 5 = .ok (.iconst 2, 1) := by decide +kernel
theorem dX5_again_6 : decode cX5_again 6 = .ok (.if_icmp .lt 5, 3) := by decide +kernel
theorem dX5_again_9 : decode cX5_again 9 = .ok (.iconst (-1), 1) := by decide +kernel
theorem dX5_again_10 : decode cX5_again 10 = .ok (.ireturn, 1) := by decide +kernel
theorem dX5_again_11 : decode cX5_again 11 = .ok (.aload_n 0, 1) := by decide +kernel
theorem dX5_again_12 : decode cX5_again 12 = .ok (.getfield 49, 3) := by decide +kernel
theorem dX5_again_15 : decode cX5_again 15 = .ok (.iload_n 1, 1) := by decide +kernel
theorem dX5_again_16 : decode cX5_again 16 = .ok (.baload, 1) := by decide +kernel
theorem dX5_again_17 : decode cX5_again 17 = .ok (.ifCond .ne 6, 3) := by decide +kernel
theorem dX5_again_20 : decode cX5_again 20 = .ok (.bipush (-3), 2) := by decide +kernel
theorem dX5_again_22 : decode cX5_again 22 = .ok (.ireturn, 1) := by decide +kernel
theorem dX5_again_23 : decode cX5_again 23 = .ok (.aload_n 0, 1) := by decide +kernel
theorem dX5_again_24 : decode cX5_again 24 = .ok (.getfield 31, 3) := by decide +kernel
theorem dX5_again_27 : decode cX5_again 27 = .ok (.aload_n 0, 1) := by decide +kernel
theorem dX5_again_28 : decode cX5_again 28 = .ok (.getfield 45, 3) := by decide +kernel
theorem dX5_again_31 : decode cX5_again 31 = .ok (.iload_n 1, 1) := by decide +kernel
theorem dX5_again_32 : decode cX5_again 32 = .ok (.aaload, 1) := by decide +kernel
theorem dX5_again_33 : decode cX5_again 33 = .ok (.invokevirtual 131, 3) := by decide +kernel
theorem dX5_again_36 : decode cX5_again 36 = .ok (.aload_n 0, 1) := by decide +kernel
theorem dX5_again_37 : decode cX5_again 37 = .ok (.getfield 41, 3) := by decide +kernel
theorem dX5_again_40 : decode cX5_again 40 = .ok (.invokevirtual 75, 3) := by decide +kernel
theorem dX5_again_43 : decode cX5_again 43 = .ok (.aload_n 0, 1) := by decide +kernel
theorem dX5_again_44 : decode cX5_again 44 = .ok (.getfield 31, 3) := by decide +kernel
theorem dX5_again_47 : decode cX5_again 47 = .ok (.getfield 206, 3) := by decide +kernel
theorem dX5_again_50 : decode cX5_again 50 = .ok (.ireturn, 1) := by decide +kernel
set_option maxRecDepth 20000 in
theorem ggX5_count_X2_yesThere : GoodIn wsX5_count wsX2_yesThere := goodIn_r _ [17, 18, 19, 55, 56, 57, 58, 59, 60] (by decide +kernel) (by decide +kernel)
set_option maxRecDepth 20000 in
theorem gX5_count_X2_yesThere : GoodIn wsX5_count (wsV RX5 134 RX2 yX2_yesThere wsX2_yesThere) := goodIn_app (goodIn_of _ (by decide +kernel)) ggX5_count_X2_yesThere
set_option maxRecDepth 20000 in
theorem ggX5_count_X2_verdict : GoodIn wsX5_count wsX2_verdict := goodIn_r _ [23, 19, 18, 24, 25, 26, 27, 28, 29, 30, 31, 32, 33, 16, 34, 35, 36, 55, 56, 57, 58, 59, 60, 49, 50, 51, 52, 53, 54] (by decide +kernel) (by decide +kernel)
set_option maxRecDepth 20000 in
theorem gX5_count_X2_verdict : GoodIn wsX5_count (wsV RX5 140 RX2 yX2_verdict wsX2_verdict) := goodIn_app (goodIn_of _ (by decide +kernel)) ggX5_count_X2_verdict
theorem dX5_count_0 : decode cX5_count 0 = .ok (.iload_n 1, 1) := by decide +kernel
theorem dX5_count_1 : decode cX5_count 1 = .ok (.tableswitch 123 0 8 #[51, 59, 67, 75, 83, 91, 99, 107, 115], 51) := by decide +kernel
theorem dX5_count_52 : decode cX5_count 52 = .ok (.aload_n 0, 1) := by decide +kernel
theorem dX5_count_53 : decode cX5_count 53 = .ok (.getfield 12, 3) := by decide +kernel
theorem dX5_count_56 : decode cX5_count 56 = .ok (.getfield 64, 3) := by decide +kernel
theorem dX5_count_59 : decode cX5_count 59 = .ok (.ireturn, 1) := by decide +kernel
theorem dX5_count_60 : decode cX5_count 60 = .ok (.aload_n 0, 1) := by decide +kernel
theorem dX5_count_61 : decode cX5_count 61 = .ok (.getfield 19, 3) := by decide +kernel
theorem dX5_count_64 : decode cX5_count 64 = .ok (.getfield 78, 3) := by decide +kernel
theorem dX5_count_67 : decode cX5_count 67 = .ok (.ireturn, 1) := by decide +kernel
theorem dX5_count_68 : decode cX5_count 68 = .ok (.aload_n 0, 1) := by decide +kernel
theorem dX5_count_69 : decode cX5_count 69 = .ok (.getfield 19, 3) := by decide +kernel
theorem dX5_count_72 : decode cX5_count 72 = .ok (.getfield 209, 3) := by decide +kernel
theorem dX5_count_75 : decode cX5_count 75 = .ok (.ireturn, 1) := by decide +kernel
theorem dX5_count_76 : decode cX5_count 76 = .ok (.aload_n 0, 1) := by decide +kernel
theorem dX5_count_77 : decode cX5_count 77 = .ok (.getfield 31, 3) := by decide +kernel
theorem dX5_count_80 : decode cX5_count 80 = .ok (.getfield 206, 3) := by decide +kernel
theorem dX5_count_83 : decode cX5_count 83 = .ok (.ireturn, 1) := by decide +kernel
theorem dX5_count_84 : decode cX5_count 84 = .ok (.aload_n 0, 1) := by decide +kernel
theorem dX5_count_85 : decode cX5_count 85 = .ok (.getfield 31, 3) := by decide +kernel
theorem dX5_count_88 : decode cX5_count 88 = .ok (.getfield 121, 3) := by decide +kernel
theorem dX5_count_91 : decode cX5_count 91 = .ok (.ireturn, 1) := by decide +kernel
theorem dX5_count_92 : decode cX5_count 92 = .ok (.aload_n 0, 1) := by decide +kernel
theorem dX5_count_93 : decode cX5_count 93 = .ok (.getfield 31, 3) := by decide +kernel
theorem dX5_count_96 : decode cX5_count 96 = .ok (.invokevirtual 134, 3) := by decide +kernel
theorem dX5_count_99 : decode cX5_count 99 = .ok (.ireturn, 1) := by decide +kernel
theorem dX5_count_100 : decode cX5_count 100 = .ok (.aload_n 0, 1) := by decide +kernel
theorem dX5_count_101 : decode cX5_count 101 = .ok (.getfield 31, 3) := by decide +kernel
theorem dX5_count_104 : decode cX5_count 104 = .ok (.invokevirtual 140, 3) := by decide +kernel
theorem dX5_count_107 : decode cX5_count 107 = .ok (.ireturn, 1) := by decide +kernel
theorem dX5_count_108 : decode cX5_count 108 = .ok (.aload_n 0, 1) := by decide +kernel
theorem dX5_count_109 : decode cX5_count 109 = .ok (.getfield 41, 3) := by decide +kernel
theorem dX5_count_112 : decode cX5_count 112 = .ok (.getfield 128, 3) := by decide +kernel
theorem dX5_count_115 : decode cX5_count 115 = .ok (.ireturn, 1) := by decide +kernel
theorem dX5_count_116 : decode cX5_count 116 = .ok (.aload_n 0, 1) := by decide +kernel
theorem dX5_count_117 : decode cX5_count 117 = .ok (.getfield 56, 3) := by decide +kernel
theorem dX5_count_120 : decode cX5_count 120 = .ok (.getfield 169, 3) := by decide +kernel
theorem dX5_count_123 : decode cX5_count 123 = .ok (.ireturn, 1) := by decide +kernel
theorem dX5_count_124 : decode cX5_count 124 = .ok (.bipush (-2), 2) := by decide +kernel
theorem dX5_count_126 : decode cX5_count 126 = .ok (.ireturn, 1) := by decide +kernel
theorem dX5_isJuror_0 : decode cX5_isJuror 0 = .ok (.iload_n 1, 1) := by decide +kernel
theorem dX5_isJuror_1 : decode cX5_isJuror 1 = .ok (.ifCond .lt 24, 3) := by decide +kernel
theorem dX5_isJuror_4 : decode cX5_isJuror 4 = .ok (.iload_n 1, 1) := by decide +kernel
theorem dX5_isJuror_5 : decode cX5_isJuror 5 = .ok (.aload_n 0, 1) := by decide +kernel
theorem dX5_isJuror_6 : decode cX5_isJuror 6 = .ok (.getfield 19, 3) := by decide +kernel
theorem dX5_isJuror_9 : decode cX5_isJuror 9 = .ok (.getfield 78, 3) := by decide +kernel
theorem dX5_isJuror_12 : decode cX5_isJuror 12 = .ok (.if_icmp .ge 13, 3) := by decide +kernel
theorem dX5_isJuror_15 : decode cX5_isJuror 15 = .ok (.iload_n 1, 1) := by decide +kernel
theorem dX5_isJuror_16 : decode cX5_isJuror 16 = .ok (.bipush 6, 2) := by decide +kernel
theorem dX5_isJuror_18 : decode cX5_isJuror 18 = .ok (.if_icmp .ge 7, 3) := by decide +kernel
theorem dX5_isJuror_21 : decode cX5_isJuror 21 = .ok (.iconst 1, 1) := by decide +kernel
theorem dX5_isJuror_22 : decode cX5_isJuror 22 = .ok (.goto 4, 3) := by decide +kernel
theorem dX5_isJuror_25 : decode cX5_isJuror 25 = .ok (.iconst 0, 1) := by decide +kernel
theorem dX5_isJuror_26 : decode cX5_isJuror 26 = .ok (.ireturn, 1) := by decide +kernel
theorem dX5_isSide_0 : decode cX5_isSide 0 = .ok (.iload_n 0, 1) := by decide +kernel
theorem dX5_isSide_1 : decode cX5_isSide 1 = .ok (.ifCond .eq 8, 3) := by decide +kernel
theorem dX5_isSide_4 : decode cX5_isSide 4 = .ok (.iload_n 0, 1) := by decide +kernel
theorem dX5_isSide_5 : decode cX5_isSide 5 = .ok (.iconst 1, 1) := by decide +kernel
theorem dX5_isSide_6 : decode cX5_isSide 6 = .ok (.if_icmp .ne 7, 3) := by decide +kernel
theorem dX5_isSide_9 : decode cX5_isSide 9 = .ok (.iconst 1, 1) := by decide +kernel
theorem dX5_isSide_10 : decode cX5_isSide 10 = .ok (.goto 4, 3) := by decide +kernel
theorem dX5_isSide_13 : decode cX5_isSide 13 = .ok (.iconst 0, 1) := by decide +kernel
theorem dX5_isSide_14 : decode cX5_isSide 14 = .ok (.ireturn, 1) := by decide +kernel
set_option maxRecDepth 20000 in
theorem ggX5_doAct_X5_isJuror : GoodIn wsX5_doAct wsX5_isJuror := goodIn_r _ [7, 8, 9, 89, 90, 91, 92, 93, 94, 95, 96, 97, 98, 99, 100, 101, 102, 103, 104] (by decide +kernel) (by decide +kernel)
set_option maxRecDepth 20000 in
theorem gX5_doAct_X5_isJuror : GoodIn wsX5_doAct (wsV RX5 81 RX5 yX5_isJuror wsX5_isJuror) := goodIn_app (goodIn_of _ (by decide +kernel)) ggX5_doAct_X5_isJuror
set_option maxRecDepth 20000 in
theorem ggX5_doAct_X2_canDo : GoodIn wsX5_doAct wsX2_canDo := goodIn_r _ [14, 15, 16, 17, 18, 19, 13, 20, 21, 105, 106, 107, 108, 109, 110] (by decide +kernel) (by decide +kernel)
set_option maxRecDepth 20000 in
theorem gX5_doAct_X2_canDo : GoodIn wsX5_doAct (wsV RX5 158 RX2 yX2_canDo wsX2_canDo) := goodIn_app (goodIn_of _ (by decide +kernel)) ggX5_doAct_X2_canDo
set_option maxRecDepth 20000 in
theorem ggX5_doAct_X0_remember : GoodIn wsX5_doAct wsX0_remember := goodIn_r _ [26, 27, 28, 29, 30, 31, 25, 32, 33, 34, 35, 13, 36, 37, 21, 38, 15, 16, 111, 112, 105, 106, 107, 108, 109, 110] (by decide +kernel) (by decide +kernel)
set_option maxRecDepth 20000 in
theorem gX5_doAct_X0_remember : GoodIn wsX5_doAct (wsV RX5 103 RX0 yX0_remember wsX0_remember) := goodIn_app (goodIn_of _ (by decide +kernel)) ggX5_doAct_X0_remember
set_option maxRecDepth 20000 in
theorem ggX5_doAct_X2_carryOut : GoodIn wsX5_doAct wsX2_carryOut := goodIn_r _ [42, 15, 43, 44, 45, 46, 16, 21, 38, 37, 47, 48, 49, 13, 50, 51, 52, 53, 54, 55, 56, 57, 58, 59, 60, 61, 62, 63, 64, 65, 66, 67, 68, 69, 70, 71, 72, 73, 74, 75, 17, 18, 19, 20, 76, 77, 78, 79, 80, 81, 82, 83, 84, 85, 86, 87, 88, 105, 106, 107, 108, 109, 110, 99, 100, 101, 102, 103, 104] (by decide +kernel) (by decide +kernel)
set_option maxRecDepth 20000 in
theorem gX5_doAct_X2_carryOut : GoodIn wsX5_doAct (wsV RX5 162 RX2 yX2_carryOut wsX2_carryOut) := goodIn_app (goodIn_of _ (by decide +kernel)) ggX5_doAct_X2_carryOut
theorem dX5_doAct_0 : decode cX5_doAct 0 = .ok (.aload_n 0, 1) := by decide +kernel
theorem dX5_doAct_1 : decode cX5_doAct 1 = .ok (.iload_n 2, 1) := by decide +kernel
theorem dX5_doAct_2 : decode cX5_doAct 2 = .ok (.invokevirtual 81, 3) := by decide +kernel
theorem dX5_doAct_5 : decode cX5_doAct 5 = .ok (.ifCond .ne 5, 3) := by decide +kernel
theorem dX5_doAct_8 : decode cX5_doAct 8 = .ok (.iconst (-1), 1) := by decide +kernel
theorem dX5_doAct_9 : decode cX5_doAct 9 = .ok (.ireturn, 1) := by decide +kernel
theorem dX5_doAct_10 : decode cX5_doAct 10 = .ok (.aload_n 0, 1) := by decide +kernel
theorem dX5_doAct_11 : decode cX5_doAct 11 = .ok (.getfield 31, 3) := by decide +kernel
theorem dX5_doAct_14 : decode cX5_doAct 14 = .ok (.iload_n 1, 1) := by decide +kernel
theorem dX5_doAct_15 : decode cX5_doAct 15 = .ok (.iload_n 2, 1) := by decide +kernel
theorem dX5_doAct_16 : decode cX5_doAct 16 = .ok (.invokevirtual 158, 3) := by decide +kernel
theorem dX5_doAct_19 : decode cX5_doAct 19 = .ok (.ifCond .ne 6, 3) := by decide +kernel
theorem dX5_doAct_22 : decode cX5_doAct 22 = .ok (.bipush (-3), 2) := by decide +kernel
theorem dX5_doAct_24 : decode cX5_doAct 24 = .ok (.ireturn, 1) := by decide +kernel
theorem dX5_doAct_25 : decode cX5_doAct 25 = .ok (.aload_n 0, 1) := by decide +kernel
theorem dX5_doAct_26 : decode cX5_doAct 26 = .ok (.getfield 41, 3) := by decide +kernel
theorem dX5_doAct_29 : decode cX5_doAct 29 = .ok (.aload_n 0, 1) := by decide +kernel
theorem dX5_doAct_30 : decode cX5_doAct 30 = .ok (.getfield 31, 3) := by decide +kernel
theorem dX5_doAct_33 : decode cX5_doAct 33 = .ok (.invokevirtual 103, 3) := by decide +kernel
theorem dX5_doAct_36 : decode cX5_doAct 36 = .ok (.aload_n 0, 1) := by decide +kernel
theorem dX5_doAct_37 : decode cX5_doAct 37 = .ok (.getfield 31, 3) := by decide +kernel
theorem dX5_doAct_40 : decode cX5_doAct 40 = .ok (.iload_n 1, 1) := by decide +kernel
theorem dX5_doAct_41 : decode cX5_doAct 41 = .ok (.iload_n 2, 1) := by decide +kernel
theorem dX5_doAct_42 : decode cX5_doAct 42 = .ok (.invokevirtual 162, 3) := by decide +kernel
theorem dX5_doAct_45 : decode cX5_doAct 45 = .ok (.bipush (-9), 2) := by decide +kernel
theorem dX5_doAct_47 : decode cX5_doAct 47 = .ok (.ireturn, 1) := by decide +kernel
set_option maxRecDepth 20000 in
theorem ggX5_endAfter_X2_copyFrom : GoodIn wsX5_endAfter wsX2_copyFrom := goodIn_r _ [7, 8, 9, 10, 11, 12, 82, 83, 84, 85, 86, 87] (by decide +kernel) (by decide +kernel)
set_option maxRecDepth 20000 in
theorem gX5_endAfter_X2_copyFrom : GoodIn wsX5_endAfter (wsV RX5 131 RX2 yX2_copyFrom wsX2_copyFrom) := goodIn_app (goodIn_of _ (by decide +kernel)) ggX5_endAfter_X2_copyFrom
set_option maxRecDepth 20000 in
theorem ggX5_endAfter_X2_carryOut : GoodIn wsX5_endAfter wsX2_carryOut := goodIn_r _ [16, 11, 17, 18, 19, 20, 12, 9, 10, 8, 21, 22, 23, 6, 24, 25, 26, 27, 28, 29, 30, 31, 32, 33, 34, 35, 36, 37, 38, 39, 40, 41, 42, 43, 44, 45, 46, 47, 48, 49, 50, 51, 52, 53, 54, 55, 56, 57, 58, 59, 60, 61, 62, 63, 64, 65, 66, 82, 83, 84, 85, 86, 87, 88, 89, 90, 91, 92, 93] (by decide +kernel) (by decide +kernel)
set_option maxRecDepth 20000 in
theorem gX5_endAfter_X2_carryOut : GoodIn wsX5_endAfter (wsV RX5 162 RX2 yX2_carryOut wsX2_carryOut) := goodIn_app (goodIn_of _ (by decide +kernel)) ggX5_endAfter_X2_carryOut
set_option maxRecDepth 20000 in
theorem ggX5_endAfter_X2_passHoursToEnd : GoodIn wsX5_endAfter wsX2_passHoursToEnd := goodIn_r _ [70, 25, 26, 27, 6, 28, 9, 8, 29, 30, 31, 32, 33, 34, 35, 36, 37, 38, 39, 40, 41, 21, 22, 23, 24, 10, 42, 43, 44, 45, 12, 46, 47, 48, 19, 49, 50, 51, 52, 53, 54, 55, 56, 57, 58, 59, 60, 61, 62, 11, 63, 64, 65, 66, 82, 83, 84, 85, 86, 87, 88, 89, 90, 91, 92, 93] (by decide +kernel) (by decide +kernel)
set_option maxRecDepth 20000 in
theorem gX5_endAfter_X2_passHoursToEnd : GoodIn wsX5_endAfter (wsV RX5 137 RX2 yX2_passHoursToEnd wsX2_passHoursToEnd) := goodIn_app (goodIn_of _ (by decide +kernel)) ggX5_endAfter_X2_passHoursToEnd
set_option maxRecDepth 20000 in
theorem ggX5_endAfter_X2_verdict : GoodIn wsX5_endAfter wsX2_verdict := goodIn_r _ [28, 9, 8, 29, 30, 31, 32, 33, 34, 35, 36, 37, 38, 6, 39, 40, 41, 82, 83, 84, 85, 86, 87, 88, 89, 90, 91, 92, 93] (by decide +kernel) (by decide +kernel)
set_option maxRecDepth 20000 in
theorem gX5_endAfter_X2_verdict : GoodIn wsX5_endAfter (wsV RX5 140 RX2 yX2_verdict wsX2_verdict) := goodIn_app (goodIn_of _ (by decide +kernel)) ggX5_endAfter_X2_verdict
theorem dX5_endAfter_0 : decode cX5_endAfter 0 = .ok (.aload_n 0, 1) := by decide +kernel
theorem dX5_endAfter_1 : decode cX5_endAfter 1 = .ok (.getfield 35, 3) := by decide +kernel
theorem dX5_endAfter_4 : decode cX5_endAfter 4 = .ok (.aload_n 0, 1) := by decide +kernel
theorem dX5_endAfter_5 : decode cX5_endAfter 5 = .ok (.getfield 31, 3) := by decide +kernel
theorem dX5_endAfter_8 : decode cX5_endAfter 8 = .ok (.invokevirtual 131, 3) := by decide +kernel
theorem dX5_endAfter_11 : decode cX5_endAfter 11 = .ok (.iconst 0, 1) := by decide +kernel
theorem dX5_endAfter_12 : decode cX5_endAfter 12 = .ok (.istore_n 3, 1) := by decide +kernel
theorem dX5_endAfter_13 : decode cX5_endAfter 13 = .ok (.iload_n 3, 1) := by decide +kernel
theorem dX5_endAfter_14 : decode cX5_endAfter 14 = .ok (.bipush 6, 2) := by decide +kernel
theorem dX5_endAfter_16 : decode cX5_endAfter 16 = .ok (.if_icmp .ge 27, 3) := by decide +kernel
theorem dX5_endAfter_19 : decode cX5_endAfter 19 = .ok (.iload_n 2, 1) := by decide +kernel
theorem dX5_endAfter_20 : decode cX5_endAfter 20 = .ok (.iload_n 3, 1) := by decide +kernel
theorem dX5_endAfter_21 : decode cX5_endAfter 21 = .ok (.ishr, 1) := by decide +kernel
theorem dX5_endAfter_22 : decode cX5_endAfter 22 = .ok (.iconst 1, 1) := by decide +kernel
theorem dX5_endAfter_23 : decode cX5_endAfter 23 = .ok (.iand, 1) := by decide +kernel
theorem dX5_endAfter_24 : decode cX5_endAfter 24 = .ok (.iconst 1, 1) := by decide +kernel
theorem dX5_endAfter_25 : decode cX5_endAfter 25 = .ok (.if_icmp .ne 12, 3) := by decide +kernel
theorem dX5_endAfter_28 : decode cX5_endAfter 28 = .ok (.aload_n 0, 1) := by decide +kernel
theorem dX5_endAfter_29 : decode cX5_endAfter 29 = .ok (.getfield 35, 3) := by decide +kernel
theorem dX5_endAfter_32 : decode cX5_endAfter 32 = .ok (.iload_n 1, 1) := by decide +kernel
theorem dX5_endAfter_33 : decode cX5_endAfter 33 = .ok (.iload_n 3, 1) := by decide +kernel
theorem dX5_endAfter_34 : decode cX5_endAfter 34 = .ok (.invokevirtual 162, 3) := by decide +kernel
theorem dX5_endAfter_37 : decode cX5_endAfter 37 = .ok (.iinc 3 1, 3) := by decide +kernel
theorem dX5_endAfter_40 : decode cX5_endAfter 40 = .ok (.goto (-27), 3) := by decide +kernel
theorem dX5_endAfter_43 : decode cX5_endAfter 43 = .ok (.aload_n 0, 1) := by decide +kernel
theorem dX5_endAfter_44 : decode cX5_endAfter 44 = .ok (.getfield 35, 3) := by decide +kernel
theorem dX5_endAfter_47 : decode cX5_endAfter 47 = .ok (.invokevirtual 137, 3) := by decide +kernel
theorem dX5_endAfter_50 : decode cX5_endAfter 50 = .ok (.pop, 1) := by decide +kernel
theorem dX5_endAfter_51 : decode cX5_endAfter 51 = .ok (.aload_n 0, 1) := by decide +kernel
theorem dX5_endAfter_52 : decode cX5_endAfter 52 = .ok (.getfield 35, 3) := by decide +kernel
theorem dX5_endAfter_55 : decode cX5_endAfter 55 = .ok (.invokevirtual 140, 3) := by decide +kernel
theorem dX5_endAfter_58 : decode cX5_endAfter 58 = .ok (.ireturn, 1) := by decide +kernel
set_option maxRecDepth 20000 in
theorem ggX5_fewestFor_J6_bitCount_0f7a4 : GoodIn wsX5_fewestFor wsJ6_bitCount_0f7a4 := goodIn_r _ [6, 7, 8, 9] (by decide +kernel) (by decide +kernel)
set_option maxRecDepth 20000 in
theorem gX5_fewestFor_J6_bitCount_0f7a4 : GoodIn wsX5_fewestFor (va_wsS RX5 111 yJ6_bitCount_0f7a4 wsJ6_bitCount_0f7a4) := goodIn_app (goodIn_of _ (by decide +kernel)) ggX5_fewestFor_J6_bitCount_0f7a4
set_option maxRecDepth 20000 in
theorem ggX5_fewestFor_X5_endAfter : GoodIn wsX5_fewestFor wsX5_endAfter := goodIn_r _ [14, 15, 1, 16, 17, 18, 19, 20, 21, 22, 23, 24, 25, 26, 27, 28, 29, 30, 31, 32, 33, 34, 35, 36, 37, 38, 39, 40, 41, 42, 4, 5, 6, 7, 8, 9, 43, 44, 45, 46, 47, 48, 49, 50, 51, 52, 53, 54, 55, 56, 57, 58, 59, 60, 61, 62, 63, 64, 65, 66, 67, 68, 69, 70, 71, 72, 73, 74, 75, 76, 77, 78, 79, 80, 81, 82, 83, 84, 85, 86, 87, 88, 89, 90, 91, 92, 93, 94, 95, 96, 97, 98, 99, 100] (by decide +kernel) (by decide +kernel)
set_option maxRecDepth 20000 in
theorem gX5_fewestFor_X5_endAfter : GoodIn wsX5_fewestFor (wsV RX5 193 RX5 yX5_endAfter wsX5_endAfter) := goodIn_app (goodIn_of _ (by decide +kernel)) ggX5_fewestFor_X5_endAfter
theorem dX5_fewestFor_0 : decode cX5_fewestFor 0 = .ok (.bipush (-9), 2) := by decide +kernel
theorem dX5_fewestFor_2 : decode cX5_fewestFor 2 = .ok (.istore_n 3, 1) := by decide +kernel
theorem dX5_fewestFor_3 : decode cX5_fewestFor 3 = .ok (.bipush 7, 2) := by decide +kernel
theorem dX5_fewestFor_5 : decode cX5_fewestFor 5 = .ok (.istore 4, 2) := by decide +kernel
theorem dX5_fewestFor_7 : decode cX5_fewestFor 7 = .ok (.iconst 0, 1) := by decide +kernel
theorem dX5_fewestFor_8 : decode cX5_fewestFor 8 = .ok (.istore 5, 2) := by decide +kernel
theorem dX5_fewestFor_10 : decode cX5_fewestFor 10 = .ok (.iload 5, 2) := by decide +kernel
theorem dX5_fewestFor_12 : decode cX5_fewestFor 12 = .ok (.bipush 64, 2) := by decide +kernel
theorem dX5_fewestFor_14 : decode cX5_fewestFor 14 = .ok (.if_icmp .ge 85, 3) := by decide +kernel
theorem dX5_fewestFor_17 : decode cX5_fewestFor 17 = .ok (.iload 5, 2) := by decide +kernel
theorem dX5_fewestFor_19 : decode cX5_fewestFor 19 = .ok (.invokestatic 111, 3) := by decide +kernel
theorem dX5_fewestFor_22 : decode cX5_fewestFor 22 = .ok (.istore 6, 2) := by decide +kernel
theorem dX5_fewestFor_24 : decode cX5_fewestFor 24 = .ok (.iload 5, 2) := by decide +kernel
theorem dX5_fewestFor_26 : decode cX5_fewestFor 26 = .ok (.aload_n 0, 1) := by decide +kernel
theorem dX5_fewestFor_27 : decode cX5_fewestFor 27 = .ok (.getfield 31, 3) := by decide +kernel
theorem dX5_fewestFor_30 : decode cX5_fewestFor 30 = .ok (.getfield 121, 3) := by decide +kernel
theorem dX5_fewestFor_33 : decode cX5_fewestFor 33 = .ok (.iconst (-1), 1) := by decide +kernel
theorem dX5_fewestFor_34 : decode cX5_fewestFor 34 = .ok (.ixor, 1) := by decide +kernel
theorem dX5_fewestFor_35 : decode cX5_fewestFor 35 = .ok (.iand, 1) := by decide +kernel
theorem dX5_fewestFor_36 : decode cX5_fewestFor 36 = .ok (.ifCond .ne 24, 3) := by decide +kernel
theorem dX5_fewestFor_39 : decode cX5_fewestFor 39 = .ok (.iload_n 1, 1) := by decide +kernel
theorem dX5_fewestFor_40 : decode cX5_fewestFor 40 = .ok (.iconst 3, 1) := by decide +kernel
theorem dX5_fewestFor_41 : decode cX5_fewestFor 41 = .ok (.if_icmp .ne 15, 3) := by decide +kernel
theorem dX5_fewestFor_44 : decode cX5_fewestFor 44 = .ok (.iload 5, 2) := by decide +kernel
theorem dX5_fewestFor_46 : decode cX5_fewestFor 46 = .ok (.aload_n 0, 1) := by decide +kernel
theorem dX5_fewestFor_47 : decode cX5_fewestFor 47 = .ok (.getfield 31, 3) := by decide +kernel
theorem dX5_fewestFor_50 : decode cX5_fewestFor 50 = .ok (.getfield 121, 3) := by decide +kernel
theorem dX5_fewestFor_53 : decode cX5_fewestFor 53 = .ok (.if_icmp .eq 7, 3) := by decide +kernel
theorem dX5_fewestFor_56 : decode cX5_fewestFor 56 = .ok (.iconst 1, 1) := by decide +kernel
theorem dX5_fewestFor_57 : decode cX5_fewestFor 57 = .ok (.goto 4, 3) := by decide +kernel
theorem dX5_fewestFor_60 : decode cX5_fewestFor 60 = .ok (.iconst 0, 1) := by decide +kernel
theorem dX5_fewestFor_61 : decode cX5_fewestFor 61 = .ok (.istore 7, 2) := by decide +kernel
theorem dX5_fewestFor_63 : decode cX5_fewestFor 63 = .ok (.iload 7, 2) := by decide +kernel
theorem dX5_fewestFor_65 : decode cX5_fewestFor 65 = .ok (.ifCond .eq 28, 3) := by decide +kernel
theorem dX5_fewestFor_68 : decode cX5_fewestFor 68 = .ok (.iload 6, 2) := by decide +kernel
theorem dX5_fewestFor_70 : decode cX5_fewestFor 70 = .ok (.iload 4, 2) := by decide +kernel
theorem dX5_fewestFor_72 : decode cX5_fewestFor 72 = .ok (.if_icmp .ge 21, 3) := by decide +kernel
theorem dX5_fewestFor_75 : decode cX5_fewestFor 75 = .ok (.aload_n 0, 1) := by decide +kernel
theorem dX5_fewestFor_76 : decode cX5_fewestFor 76 = .ok (.iload_n 1, 1) := by decide +kernel
theorem dX5_fewestFor_77 : decode cX5_fewestFor 77 = .ok (.iload 5, 2) := by decide +kernel
theorem dX5_fewestFor_79 : decode cX5_fewestFor 79 = .ok (.invokevirtual 193, 3) := by decide +kernel
theorem dX5_fewestFor_82 : decode cX5_fewestFor 82 = .ok (.iload_n 2, 1) := by decide +kernel
theorem dX5_fewestFor_83 : decode cX5_fewestFor 83 = .ok (.if_icmp .ne 10, 3) := by decide +kernel
theorem dX5_fewestFor_86 : decode cX5_fewestFor 86 = .ok (.iload 5, 2) := by decide +kernel
theorem dX5_fewestFor_88 : decode cX5_fewestFor 88 = .ok (.istore_n 3, 1) := by decide +kernel
theorem dX5_fewestFor_89 : decode cX5_fewestFor 89 = .ok (.iload 6, 2) := by decide +kernel
theorem dX5_fewestFor_91 : decode cX5_fewestFor 91 = .ok (.istore 4, 2) := by decide +kernel
theorem dX5_fewestFor_93 : decode cX5_fewestFor 93 = .ok (.iinc 5 1, 3) := by decide +kernel
theorem dX5_fewestFor_96 : decode cX5_fewestFor 96 = .ok (.goto (-86), 3) := by decide +kernel
theorem dX5_fewestFor_99 : decode cX5_fewestFor 99 = .ok (.iload_n 3, 1) := by decide +kernel
theorem dX5_fewestFor_100 : decode cX5_fewestFor 100 = .ok (.ireturn, 1) := by decide +kernel
set_option maxRecDepth 20000 in
theorem ggX5_leastMoveFor_X5_isMove : GoodIn wsX5_leastMoveFor wsX5_isMove := goodIn_r _ [5, 6, 7, 8, 9, 10, 11, 12, 82, 83, 84, 85, 86, 87, 88, 89, 90, 91, 92, 93, 94, 95, 96, 97] (by decide +kernel) (by decide +kernel)
set_option maxRecDepth 20000 in
theorem gX5_leastMoveFor_X5_isMove : GoodIn wsX5_leastMoveFor (wsV RX5 212 RX5 yX5_isMove wsX5_isMove) := goodIn_app (goodIn_of _ (by decide +kernel)) ggX5_leastMoveFor_X5_isMove
set_option maxRecDepth 20000 in
theorem ggX5_leastMoveFor_X5_endAfterMove : GoodIn wsX5_leastMoveFor wsX5_endAfterMove := goodIn_r _ [16, 17, 6, 18, 19, 20, 10, 21, 22, 12, 23, 24, 25, 26, 27, 28, 29, 30, 31, 32, 33, 34, 35, 36, 37, 38, 39, 40, 41, 42, 43, 44, 45, 46, 47, 48, 49, 50, 51, 52, 53, 54, 55, 56, 57, 58, 59, 60, 61, 62, 63, 8, 9, 11, 64, 65, 66, 67, 68, 69, 70, 71, 72, 73, 74, 75, 76, 77, 78, 79, 80, 81, 82, 83, 84, 85, 86, 87, 88, 89, 90, 91, 92, 93, 94, 95, 96, 97, 98, 99, 100, 101, 102, 103] (by decide +kernel) (by decide +kernel)
set_option maxRecDepth 20000 in
theorem gX5_leastMoveFor_X5_endAfterMove : GoodIn wsX5_leastMoveFor (wsV RX5 215 RX5 yX5_endAfterMove wsX5_endAfterMove) := goodIn_app (goodIn_of _ (by decide +kernel)) ggX5_leastMoveFor_X5_endAfterMove
theorem dX5_leastMoveFor_0 : decode cX5_leastMoveFor 0 = .ok (.iconst 0, 1) := by decide +kernel
theorem dX5_leastMoveFor_1 : decode cX5_leastMoveFor 1 = .ok (.istore_n 2, 1) := by decide +kernel
theorem dX5_leastMoveFor_2 : decode cX5_leastMoveFor 2 = .ok (.iload_n 2, 1) := by decide +kernel
theorem dX5_leastMoveFor_3 : decode cX5_leastMoveFor 3 = .ok (.sipush 666, 3) := by decide +kernel
theorem dX5_leastMoveFor_6 : decode cX5_leastMoveFor 6 = .ok (.if_icmp .gt 28, 3) := by decide +kernel
theorem dX5_leastMoveFor_9 : decode cX5_leastMoveFor 9 = .ok (.aload_n 0, 1) := by decide +kernel
theorem dX5_leastMoveFor_10 : decode cX5_leastMoveFor 10 = .ok (.iload_n 2, 1) := by decide +kernel
theorem dX5_leastMoveFor_11 : decode cX5_leastMoveFor 11 = .ok (.invokevirtual 212, 3) := by decide +kernel
theorem dX5_leastMoveFor_14 : decode cX5_leastMoveFor 14 = .ok (.ifCond .eq 14, 3) := by decide +kernel
theorem dX5_leastMoveFor_17 : decode cX5_leastMoveFor 17 = .ok (.aload_n 0, 1) := by decide +kernel
theorem dX5_leastMoveFor_18 : decode cX5_leastMoveFor 18 = .ok (.iload_n 2, 1) := by decide +kernel
theorem dX5_leastMoveFor_19 : decode cX5_leastMoveFor 19 = .ok (.invokevirtual 215, 3) := by decide +kernel
theorem dX5_leastMoveFor_22 : decode cX5_leastMoveFor 22 = .ok (.iload_n 1, 1) := by decide +kernel
theorem dX5_leastMoveFor_23 : decode cX5_leastMoveFor 23 = .ok (.if_icmp .ne 5, 3) := by decide +kernel
theorem dX5_leastMoveFor_26 : decode cX5_leastMoveFor 26 = .ok (.iload_n 2, 1) := by decide +kernel
theorem dX5_leastMoveFor_27 : decode cX5_leastMoveFor 27 = .ok (.ireturn, 1) := by decide +kernel
theorem dX5_leastMoveFor_28 : decode cX5_leastMoveFor 28 = .ok (.iinc 2 1, 3) := by decide +kernel
theorem dX5_leastMoveFor_31 : decode cX5_leastMoveFor 31 = .ok (.goto (-29), 3) := by decide +kernel
theorem dX5_leastMoveFor_34 : decode cX5_leastMoveFor 34 = .ok (.bipush (-9), 2) := by decide +kernel
theorem dX5_leastMoveFor_36 : decode cX5_leastMoveFor 36 = .ok (.ireturn, 1) := by decide +kernel
set_option maxRecDepth 20000 in
theorem ggX5_isMove_X2_isThere : GoodIn wsX5_isMove wsX2_isThere := goodIn_r _ [6, 7, 18, 19, 20, 21, 22, 23] (by decide +kernel) (by decide +kernel)
set_option maxRecDepth 20000 in
theorem gX5_isMove_X2_isThere : GoodIn wsX5_isMove (wsV RX5 100 RX2 yX2_isThere wsX2_isThere) := goodIn_app (goodIn_of _ (by decide +kernel)) ggX5_isMove_X2_isThere
theorem dX5_isMove_0 : decode cX5_isMove 0 = .ok (.bipush 6, 2) := by decide +kernel
theorem dX5_isMove_2 : decode cX5_isMove 2 = .ok (.istore_n 2, 1) := by decide +kernel
theorem dX5_isMove_3 : decode cX5_isMove 3 = .ok (.iload_n 1, 1) := by decide +kernel
theorem dX5_isMove_4 : decode cX5_isMove 4 = .ok (.istore_n 3, 1) := by decide +kernel
theorem dX5_isMove_5 : decode cX5_isMove 5 = .ok (.iload_n 3, 1) := by decide +kernel
theorem dX5_isMove_6 : decode cX5_isMove 6 = .ok (.ifCond .le 42, 3) := by decide +kernel
theorem dX5_isMove_9 : decode cX5_isMove 9 = .ok (.iload_n 3, 1) := by decide +kernel
theorem dX5_isMove_10 : decode cX5_isMove 10 = .ok (.bipush 10, 2) := by decide +kernel
theorem dX5_isMove_12 : decode cX5_isMove 12 = .ok (.irem, 1) := by decide +kernel
theorem dX5_isMove_13 : decode cX5_isMove 13 = .ok (.istore 4, 2) := by decide +kernel
theorem dX5_isMove_15 : decode cX5_isMove 15 = .ok (.iload 4, 2) := by decide +kernel
theorem dX5_isMove_17 : decode cX5_isMove 17 = .ok (.iload_n 2, 1) := by decide +kernel
theorem dX5_isMove_18 : decode cX5_isMove 18 = .ok (.if_icmp .gt 17, 3) := by decide +kernel
theorem dX5_isMove_21 : decode cX5_isMove 21 = .ok (.aload_n 0, 1) := by decide +kernel
theorem dX5_isMove_22 : decode cX5_isMove 22 = .ok (.getfield 31, 3) := by decide +kernel
theorem dX5_isMove_25 : decode cX5_isMove 25 = .ok (.iload 4, 2) := by decide +kernel
theorem dX5_isMove_27 : decode cX5_isMove 27 = .ok (.iconst 1, 1) := by decide +kernel
theorem dX5_isMove_28 : decode cX5_isMove 28 = .ok (.isub, 1) := by decide +kernel
theorem dX5_isMove_29 : decode cX5_isMove 29 = .ok (.invokevirtual 100, 3) := by decide +kernel
theorem dX5_isMove_32 : decode cX5_isMove 32 = .ok (.ifCond .ne 5, 3) := by decide +kernel
theorem dX5_isMove_35 : decode cX5_isMove 35 = .ok (.iconst 0, 1) := by decide +kernel
theorem dX5_isMove_36 : decode cX5_isMove 36 = .ok (.ireturn, 1) := by decide +kernel
theorem dX5_isMove_37 : decode cX5_isMove 37 = .ok (.iload 4, 2) := by decide +kernel
theorem dX5_isMove_39 : decode cX5_isMove 39 = .ok (.istore_n 2, 1) := by decide +kernel
theorem dX5_isMove_40 : decode cX5_isMove 40 = .ok (.iload_n 3, 1) := by decide +kernel
theorem dX5_isMove_41 : decode cX5_isMove 41 = .ok (.bipush 10, 2) := by decide +kernel
theorem dX5_isMove_43 : decode cX5_isMove 43 = .ok (.idiv, 1) := by decide +kernel
theorem dX5_isMove_44 : decode cX5_isMove 44 = .ok (.istore_n 3, 1) := by decide +kernel
theorem dX5_isMove_45 : decode cX5_isMove 45 = .ok (.goto (-40), 3) := by decide +kernel
theorem dX5_isMove_48 : decode cX5_isMove 48 = .ok (.iconst 1, 1) := by decide +kernel
theorem dX5_isMove_49 : decode cX5_isMove 49 = .ok (.ireturn, 1) := by decide +kernel
set_option maxRecDepth 20000 in
theorem ggX5_endAfterMove_X2_copyFrom : GoodIn wsX5_endAfterMove wsX2_copyFrom := goodIn_r _ [7, 8, 9, 10, 11, 12, 82, 83, 84, 85, 86, 87] (by decide +kernel) (by decide +kernel)
set_option maxRecDepth 20000 in
theorem gX5_endAfterMove_X2_copyFrom : GoodIn wsX5_endAfterMove (wsV RX5 131 RX2 yX2_copyFrom wsX2_copyFrom) := goodIn_app (goodIn_of _ (by decide +kernel)) ggX5_endAfterMove_X2_copyFrom
set_option maxRecDepth 20000 in
theorem ggX5_endAfterMove_X2_carryOut : GoodIn wsX5_endAfterMove wsX2_carryOut := goodIn_r _ [16, 11, 17, 18, 19, 20, 12, 9, 10, 8, 21, 22, 23, 6, 24, 25, 26, 27, 28, 29, 30, 31, 32, 33, 34, 35, 36, 37, 38, 39, 40, 41, 42, 43, 44, 45, 46, 47, 48, 49, 50, 51, 52, 53, 54, 55, 56, 57, 58, 59, 60, 61, 62, 63, 64, 65, 66, 82, 83, 84, 85, 86, 87, 88, 89, 90, 91, 92, 93] (by decide +kernel) (by decide +kernel)
set_option maxRecDepth 20000 in
theorem gX5_endAfterMove_X2_carryOut : GoodIn wsX5_endAfterMove (wsV RX5 162 RX2 yX2_carryOut wsX2_carryOut) := goodIn_app (goodIn_of _ (by decide +kernel)) ggX5_endAfterMove_X2_carryOut
set_option maxRecDepth 20000 in
theorem ggX5_endAfterMove_X2_passHoursToEnd : GoodIn wsX5_endAfterMove wsX2_passHoursToEnd := goodIn_r _ [70, 25, 26, 27, 6, 28, 9, 8, 29, 30, 31, 32, 33, 34, 35, 36, 37, 38, 39, 40, 41, 21, 22, 23, 24, 10, 42, 43, 44, 45, 12, 46, 47, 48, 19, 49, 50, 51, 52, 53, 54, 55, 56, 57, 58, 59, 60, 61, 62, 11, 63, 64, 65, 66, 82, 83, 84, 85, 86, 87, 88, 89, 90, 91, 92, 93] (by decide +kernel) (by decide +kernel)
set_option maxRecDepth 20000 in
theorem gX5_endAfterMove_X2_passHoursToEnd : GoodIn wsX5_endAfterMove (wsV RX5 137 RX2 yX2_passHoursToEnd wsX2_passHoursToEnd) := goodIn_app (goodIn_of _ (by decide +kernel)) ggX5_endAfterMove_X2_passHoursToEnd
set_option maxRecDepth 20000 in
theorem ggX5_endAfterMove_X2_verdict : GoodIn wsX5_endAfterMove wsX2_verdict := goodIn_r _ [28, 9, 8, 29, 30, 31, 32, 33, 34, 35, 36, 37, 38, 6, 39, 40, 41, 82, 83, 84, 85, 86, 87, 88, 89, 90, 91, 92, 93] (by decide +kernel) (by decide +kernel)
set_option maxRecDepth 20000 in
theorem gX5_endAfterMove_X2_verdict : GoodIn wsX5_endAfterMove (wsV RX5 140 RX2 yX2_verdict wsX2_verdict) := goodIn_app (goodIn_of _ (by decide +kernel)) ggX5_endAfterMove_X2_verdict
theorem dX5_endAfterMove_0 : decode cX5_endAfterMove 0 = .ok (.aload_n 0, 1) := by decide +kernel
theorem dX5_endAfterMove_1 : decode cX5_endAfterMove 1 = .ok (.getfield 35, 3) := by decide +kernel
theorem dX5_endAfterMove_4 : decode cX5_endAfterMove 4 = .ok (.aload_n 0, 1) := by decide +kernel
theorem dX5_endAfterMove_5 : decode cX5_endAfterMove 5 = .ok (.getfield 31, 3) := by decide +kernel
theorem dX5_endAfterMove_8 : decode cX5_endAfterMove 8 = .ok (.invokevirtual 131, 3) := by decide +kernel
theorem dX5_endAfterMove_11 : decode cX5_endAfterMove 11 = .ok (.iload_n 1, 1) := by decide +kernel
theorem dX5_endAfterMove_12 : decode cX5_endAfterMove 12 = .ok (.istore_n 2, 1) := by decide +kernel
theorem dX5_endAfterMove_13 : decode cX5_endAfterMove 13 = .ok (.iload_n 2, 1) := by decide +kernel
theorem dX5_endAfterMove_14 : decode cX5_endAfterMove 14 = .ok (.ifCond .le 25, 3) := by decide +kernel
theorem dX5_endAfterMove_17 : decode cX5_endAfterMove 17 = .ok (.aload_n 0, 1) := by decide +kernel
theorem dX5_endAfterMove_18 : decode cX5_endAfterMove 18 = .ok (.getfield 35, 3) := by decide +kernel
theorem dX5_endAfterMove_21 : decode cX5_endAfterMove 21 = .ok (.iconst 1, 1) := by decide +kernel
theorem dX5_endAfterMove_22 : decode cX5_endAfterMove 22 = .ok (.iload_n 2, 1) := by decide +kernel
theorem dX5_endAfterMove_23 : decode cX5_endAfterMove 23 = .ok (.bipush 10, 2) := by decide +kernel
theorem dX5_endAfterMove_25 : decode cX5_endAfterMove 25 = .ok (.irem, 1) := by decide +kernel
theorem dX5_endAfterMove_26 : decode cX5_endAfterMove 26 = .ok (.iconst 1, 1) := by decide +kernel
theorem dX5_endAfterMove_27 : decode cX5_endAfterMove 27 = .ok (.isub, 1) := by decide +kernel
theorem dX5_endAfterMove_28 : decode cX5_endAfterMove 28 = .ok (.invokevirtual 162, 3) := by decide +kernel
theorem dX5_endAfterMove_31 : decode cX5_endAfterMove 31 = .ok (.iload_n 2, 1) := by decide +kernel
theorem dX5_endAfterMove_32 : decode cX5_endAfterMove 32 = .ok (.bipush 10, 2) := by decide +kernel
theorem dX5_endAfterMove_34 : decode cX5_endAfterMove 34 = .ok (.idiv, 1) := by decide +kernel
theorem dX5_endAfterMove_35 : decode cX5_endAfterMove 35 = .ok (.istore_n 2, 1) := by decide +kernel
theorem dX5_endAfterMove_36 : decode cX5_endAfterMove 36 = .ok (.goto (-23), 3) := by decide +kernel
theorem dX5_endAfterMove_39 : decode cX5_endAfterMove 39 = .ok (.aload_n 0, 1) := by decide +kernel
theorem dX5_endAfterMove_40 : decode cX5_endAfterMove 40 = .ok (.getfield 35, 3) := by decide +kernel
theorem dX5_endAfterMove_43 : decode cX5_endAfterMove 43 = .ok (.invokevirtual 137, 3) := by decide +kernel
theorem dX5_endAfterMove_46 : decode cX5_endAfterMove 46 = .ok (.pop, 1) := by decide +kernel
theorem dX5_endAfterMove_47 : decode cX5_endAfterMove 47 = .ok (.aload_n 0, 1) := by decide +kernel
theorem dX5_endAfterMove_48 : decode cX5_endAfterMove 48 = .ok (.getfield 35, 3) := by decide +kernel
theorem dX5_endAfterMove_51 : decode cX5_endAfterMove 51 = .ok (.invokevirtual 140, 3) := by decide +kernel
theorem dX5_endAfterMove_54 : decode cX5_endAfterMove 54 = .ok (.ireturn, 1) := by decide +kernel
theorem dX5_figuresOf_0 : decode cX5_figuresOf 0 = .ok (.iconst 0, 1) := by decide +kernel
theorem dX5_figuresOf_1 : decode cX5_figuresOf 1 = .ok (.istore_n 1, 1) := by decide +kernel
theorem dX5_figuresOf_2 : decode cX5_figuresOf 2 = .ok (.iload_n 0, 1) := by decide +kernel
theorem dX5_figuresOf_3 : decode cX5_figuresOf 3 = .ok (.istore_n 2, 1) := by decide +kernel
theorem dX5_figuresOf_4 : decode cX5_figuresOf 4 = .ok (.iload_n 2, 1) := by decide +kernel
theorem dX5_figuresOf_5 : decode cX5_figuresOf 5 = .ok (.ifCond .le 14, 3) := by decide +kernel
theorem dX5_figuresOf_8 : decode cX5_figuresOf 8 = .ok (.iinc 1 1, 3) := by decide +kernel
theorem dX5_figuresOf_11 : decode cX5_figuresOf 11 = .ok (.iload_n 2, 1) := by decide +kernel
theorem dX5_figuresOf_12 : decode cX5_figuresOf 12 = .ok (.bipush 10, 2) := by decide +kernel
theorem dX5_figuresOf_14 : decode cX5_figuresOf 14 = .ok (.idiv, 1) := by decide +kernel
theorem dX5_figuresOf_15 : decode cX5_figuresOf 15 = .ok (.istore_n 2, 1) := by decide +kernel
theorem dX5_figuresOf_16 : decode cX5_figuresOf 16 = .ok (.goto (-12), 3) := by decide +kernel
theorem dX5_figuresOf_19 : decode cX5_figuresOf 19 = .ok (.iload_n 1, 1) := by decide +kernel
theorem dX5_figuresOf_20 : decode cX5_figuresOf 20 = .ok (.ireturn, 1) := by decide +kernel
set_option maxRecDepth 20000 in
theorem ggX5_fitsWhatIsSeen_X2_copyFrom : GoodIn wsX5_fitsWhatIsSeen wsX2_copyFrom := goodIn_r _ [9, 10, 11, 12, 13, 14, 83, 84, 85, 86, 87, 88] (by decide +kernel) (by decide +kernel)
set_option maxRecDepth 20000 in
theorem gX5_fitsWhatIsSeen_X2_copyFrom : GoodIn wsX5_fitsWhatIsSeen (wsV RX5 131 RX2 yX2_copyFrom wsX2_copyFrom) := goodIn_app (goodIn_of _ (by decide +kernel)) ggX5_fitsWhatIsSeen_X2_copyFrom
set_option maxRecDepth 20000 in
theorem ggX5_fitsWhatIsSeen_X3_fit : GoodIn wsX5_fitsWhatIsSeen wsX3_fit := goodIn_r _ [19, 20, 21, 22, 23, 24, 25, 26, 8, 27, 11, 28, 29, 30, 31, 10, 89, 90, 91, 92, 83, 84, 85, 86, 87, 88] (by decide +kernel) (by decide +kernel)
set_option maxRecDepth 20000 in
theorem gX5_fitsWhatIsSeen_X3_fit : GoodIn wsX5_fitsWhatIsSeen (wsV RX5 221 RX3 yX3_fit wsX3_fit) := goodIn_app (goodIn_of _ (by decide +kernel)) ggX5_fitsWhatIsSeen_X3_fit
set_option maxRecDepth 20000 in
theorem ggX5_fitsWhatIsSeen_X2_passHour : GoodIn wsX5_fitsWhatIsSeen wsX2_passHour := goodIn_r _ [35, 12, 10, 36, 37, 38, 8, 39, 11, 40, 41, 42, 43, 44, 45, 46, 47, 48, 49, 50, 51, 52, 53, 54, 55, 56, 14, 57, 58, 59, 60, 61, 62, 25, 26, 27, 63, 64, 65, 66, 67, 68, 69, 70, 71, 13, 72, 29, 30, 31, 83, 84, 85, 86, 87, 88, 93, 94, 95, 96, 97, 98] (by decide +kernel) (by decide +kernel)
set_option maxRecDepth 20000 in
theorem gX5_fitsWhatIsSeen_X2_passHour : GoodIn wsX5_fitsWhatIsSeen (wsV RX5 107 RX2 yX2_passHour wsX2_passHour) := goodIn_app (goodIn_of _ (by decide +kernel)) ggX5_fitsWhatIsSeen_X2_passHour
theorem dX5_fitsWhatIsSeen_0 : decode cX5_fitsWhatIsSeen 0 = .ok (.aload_n 0, 1) := by decide +kernel
theorem dX5_fitsWhatIsSeen_1 : decode cX5_fitsWhatIsSeen 1 = .ok (.getfield 35, 3) := by decide +kernel
theorem dX5_fitsWhatIsSeen_4 : decode cX5_fitsWhatIsSeen 4 = .ok (.aload_n 0, 1) := by decide +kernel
theorem dX5_fitsWhatIsSeen_5 : decode cX5_fitsWhatIsSeen 5 = .ok (.getfield 31, 3) := by decide +kernel
theorem dX5_fitsWhatIsSeen_8 : decode cX5_fitsWhatIsSeen 8 = .ok (.invokevirtual 131, 3) := by decide +kernel
theorem dX5_fitsWhatIsSeen_11 : decode cX5_fitsWhatIsSeen 11 = .ok (.aload_n 0, 1) := by decide +kernel
theorem dX5_fitsWhatIsSeen_12 : decode cX5_fitsWhatIsSeen 12 = .ok (.getfield 35, 3) := by decide +kernel
theorem dX5_fitsWhatIsSeen_15 : decode cX5_fitsWhatIsSeen 15 = .ok (.iload_n 1, 1) := by decide +kernel
theorem dX5_fitsWhatIsSeen_16 : decode cX5_fitsWhatIsSeen 16 = .ok (.putfield 218, 3) := by decide +kernel
theorem dX5_fitsWhatIsSeen_19 : decode cX5_fitsWhatIsSeen 19 = .ok (.iconst 0, 1) := by decide +kernel
theorem dX5_fitsWhatIsSeen_20 : decode cX5_fitsWhatIsSeen 20 = .ok (.istore_n 2, 1) := by decide +kernel
theorem dX5_fitsWhatIsSeen_21 : decode cX5_fitsWhatIsSeen 21 = .ok (.iload_n 2, 1) := by decide +kernel
theorem dX5_fitsWhatIsSeen_22 : decode cX5_fitsWhatIsSeen 22 = .ok (.bipush 9, 2) := by decide +kernel
theorem dX5_fitsWhatIsSeen_24 : decode cX5_fitsWhatIsSeen 24 = .ok (.if_icmp .gt 34, 3) := by decide +kernel
theorem dX5_fitsWhatIsSeen_27 : decode cX5_fitsWhatIsSeen 27 = .ok (.aload_n 0, 1) := by decide +kernel
theorem dX5_fitsWhatIsSeen_28 : decode cX5_fitsWhatIsSeen 28 = .ok (.getfield 56, 3) := by decide +kernel
theorem dX5_fitsWhatIsSeen_31 : decode cX5_fitsWhatIsSeen 31 = .ok (.aload_n 0, 1) := by decide +kernel
theorem dX5_fitsWhatIsSeen_32 : decode cX5_fitsWhatIsSeen 32 = .ok (.getfield 35, 3) := by decide +kernel
theorem dX5_fitsWhatIsSeen_35 : decode cX5_fitsWhatIsSeen 35 = .ok (.iload_n 2, 1) := by decide +kernel
theorem dX5_fitsWhatIsSeen_36 : decode cX5_fitsWhatIsSeen 36 = .ok (.invokevirtual 221, 3) := by decide +kernel
theorem dX5_fitsWhatIsSeen_39 : decode cX5_fitsWhatIsSeen 39 = .ok (.ifCond .ne 5, 3) := by decide +kernel
theorem dX5_fitsWhatIsSeen_42 : decode cX5_fitsWhatIsSeen 42 = .ok (.iconst 0, 1) := by decide +kernel
theorem dX5_fitsWhatIsSeen_43 : decode cX5_fitsWhatIsSeen 43 = .ok (.ireturn, 1) := by decide +kernel
theorem dX5_fitsWhatIsSeen_44 : decode cX5_fitsWhatIsSeen 44 = .ok (.aload_n 0, 1) := by decide +kernel
theorem dX5_fitsWhatIsSeen_45 : decode cX5_fitsWhatIsSeen 45 = .ok (.getfield 35, 3) := by decide +kernel
theorem dX5_fitsWhatIsSeen_48 : decode cX5_fitsWhatIsSeen 48 = .ok (.invokevirtual 107, 3) := by decide +kernel
theorem dX5_fitsWhatIsSeen_51 : decode cX5_fitsWhatIsSeen 51 = .ok (.pop, 1) := by decide +kernel
theorem dX5_fitsWhatIsSeen_52 : decode cX5_fitsWhatIsSeen 52 = .ok (.iinc 2 1, 3) := by decide +kernel
theorem dX5_fitsWhatIsSeen_55 : decode cX5_fitsWhatIsSeen 55 = .ok (.goto (-34), 3) := by decide +kernel
theorem dX5_fitsWhatIsSeen_58 : decode cX5_fitsWhatIsSeen 58 = .ok (.iconst 1, 1) := by decide +kernel
theorem dX5_fitsWhatIsSeen_59 : decode cX5_fitsWhatIsSeen 59 = .ok (.ireturn, 1) := by decide +kernel
set_option maxRecDepth 20000 in
theorem ggX5_endIsYesFrom_X2_copyFrom : GoodIn wsX5_endIsYesFrom wsX2_copyFrom := goodIn_r _ [8, 9, 10, 11, 12, 13, 76, 77, 78, 79, 80, 81] (by decide +kernel) (by decide +kernel)
set_option maxRecDepth 20000 in
theorem gX5_endIsYesFrom_X2_copyFrom : GoodIn wsX5_endIsYesFrom (wsV RX5 131 RX2 yX2_copyFrom wsX2_copyFrom) := goodIn_app (goodIn_of _ (by decide +kernel)) ggX5_endIsYesFrom_X2_copyFrom
set_option maxRecDepth 20000 in
theorem ggX5_endIsYesFrom_X2_passHoursToEnd : GoodIn wsX5_endIsYesFrom wsX2_passHoursToEnd := goodIn_r _ [17, 18, 19, 20, 7, 21, 10, 9, 22, 23, 24, 25, 26, 27, 28, 29, 30, 31, 32, 33, 34, 35, 36, 37, 38, 11, 39, 40, 41, 42, 13, 43, 44, 45, 46, 47, 48, 49, 50, 51, 52, 53, 54, 55, 56, 57, 58, 59, 60, 12, 61, 62, 63, 64, 76, 77, 78, 79, 80, 81, 82, 83, 84, 85, 86, 87] (by decide +kernel) (by decide +kernel)
set_option maxRecDepth 20000 in
theorem gX5_endIsYesFrom_X2_passHoursToEnd : GoodIn wsX5_endIsYesFrom (wsV RX5 137 RX2 yX2_passHoursToEnd wsX2_passHoursToEnd) := goodIn_app (goodIn_of _ (by decide +kernel)) ggX5_endIsYesFrom_X2_passHoursToEnd
set_option maxRecDepth 20000 in
theorem ggX5_endIsYesFrom_X2_verdict : GoodIn wsX5_endIsYesFrom wsX2_verdict := goodIn_r _ [21, 10, 9, 22, 23, 24, 25, 26, 27, 28, 29, 30, 31, 7, 32, 33, 34, 76, 77, 78, 79, 80, 81, 82, 83, 84, 85, 86, 87] (by decide +kernel) (by decide +kernel)
set_option maxRecDepth 20000 in
theorem gX5_endIsYesFrom_X2_verdict : GoodIn wsX5_endIsYesFrom (wsV RX5 140 RX2 yX2_verdict wsX2_verdict) := goodIn_app (goodIn_of _ (by decide +kernel)) ggX5_endIsYesFrom_X2_verdict
theorem dX5_endIsYesFrom_0 : decode cX5_endIsYesFrom 0 = .ok (.aload_n 0, 1) := by decide +kernel
theorem dX5_endIsYesFrom_1 : decode cX5_endIsYesFrom 1 = .ok (.getfield 35, 3) := by decide +kernel
theorem dX5_endIsYesFrom_4 : decode cX5_endIsYesFrom 4 = .ok (.aload_n 0, 1) := by decide +kernel
theorem dX5_endIsYesFrom_5 : decode cX5_endIsYesFrom 5 = .ok (.getfield 31, 3) := by decide +kernel
theorem dX5_endIsYesFrom_8 : decode cX5_endIsYesFrom 8 = .ok (.invokevirtual 131, 3) := by decide +kernel
theorem dX5_endIsYesFrom_11 : decode cX5_endIsYesFrom 11 = .ok (.aload_n 0, 1) := by decide +kernel
theorem dX5_endIsYesFrom_12 : decode cX5_endIsYesFrom 12 = .ok (.getfield 35, 3) := by decide +kernel
theorem dX5_endIsYesFrom_15 : decode cX5_endIsYesFrom 15 = .ok (.iload_n 1, 1) := by decide +kernel
theorem dX5_endIsYesFrom_16 : decode cX5_endIsYesFrom 16 = .ok (.putfield 218, 3) := by decide +kernel
theorem dX5_endIsYesFrom_19 : decode cX5_endIsYesFrom 19 = .ok (.aload_n 0, 1) := by decide +kernel
theorem dX5_endIsYesFrom_20 : decode cX5_endIsYesFrom 20 = .ok (.getfield 35, 3) := by decide +kernel
theorem dX5_endIsYesFrom_23 : decode cX5_endIsYesFrom 23 = .ok (.invokevirtual 137, 3) := by decide +kernel
theorem dX5_endIsYesFrom_26 : decode cX5_endIsYesFrom 26 = .ok (.pop, 1) := by decide +kernel
theorem dX5_endIsYesFrom_27 : decode cX5_endIsYesFrom 27 = .ok (.aload_n 0, 1) := by decide +kernel
theorem dX5_endIsYesFrom_28 : decode cX5_endIsYesFrom 28 = .ok (.getfield 35, 3) := by decide +kernel
theorem dX5_endIsYesFrom_31 : decode cX5_endIsYesFrom 31 = .ok (.invokevirtual 140, 3) := by decide +kernel
theorem dX5_endIsYesFrom_34 : decode cX5_endIsYesFrom 34 = .ok (.iconst 1, 1) := by decide +kernel
theorem dX5_endIsYesFrom_35 : decode cX5_endIsYesFrom 35 = .ok (.if_icmp .ne 7, 3) := by decide +kernel
theorem dX5_endIsYesFrom_38 : decode cX5_endIsYesFrom 38 = .ok (.iconst 1, 1) := by decide +kernel
theorem dX5_endIsYesFrom_39 : decode cX5_endIsYesFrom 39 = .ok (.goto 4, 3) := by decide +kernel
theorem dX5_endIsYesFrom_42 : decode cX5_endIsYesFrom 42 = .ok (.iconst 0, 1) := by decide +kernel
theorem dX5_endIsYesFrom_43 : decode cX5_endIsYesFrom 43 = .ok (.ireturn, 1) := by decide +kernel
set_option maxRecDepth 20000 in
theorem ggX5_ordersWith_X5_factorial : GoodIn wsX5_ordersWith wsX5_factorial := goodIn_r _ [4, 5] (by decide +kernel) (by decide +kernel)
set_option maxRecDepth 20000 in
theorem gX5_ordersWith_X5_factorial : GoodIn wsX5_ordersWith (va_wsS RX5 183 yX5_factorial wsX5_factorial) := goodIn_app (goodIn_of _ (by decide +kernel)) ggX5_ordersWith_X5_factorial
theorem dX5_ordersWith_0 : decode cX5_ordersWith 0 = .ok (.iload_n 0, 1) := by decide +kernel
theorem dX5_ordersWith_1 : decode cX5_ordersWith 1 = .ok (.invokestatic 183, 3) := by decide +kernel
theorem dX5_ordersWith_4 : decode cX5_ordersWith 4 = .ok (.iload_n 1, 1) := by decide +kernel
theorem dX5_ordersWith_5 : decode cX5_ordersWith 5 = .ok (.invokestatic 183, 3) := by decide +kernel
theorem dX5_ordersWith_8 : decode cX5_ordersWith 8 = .ok (.imul, 1) := by decide +kernel
theorem dX5_ordersWith_9 : decode cX5_ordersWith 9 = .ok (.ireturn, 1) := by decide +kernel
theorem dX5_factorial_0 : decode cX5_factorial 0 = .ok (.iload_n 0, 1) := by decide +kernel
theorem dX5_factorial_1 : decode cX5_factorial 1 = .ok (.ifCond .lt 11, 3) := by decide +kernel
theorem dX5_factorial_4 : decode cX5_factorial 4 = .ok (.iload_n 0, 1) := by decide +kernel
theorem dX5_factorial_5 : decode cX5_factorial 5 = .ok (.getstatic 225, 3) := by decide +kernel
theorem dX5_factorial_8 : decode cX5_factorial 8 = .ok (.arraylength, 1) := by decide +kernel
theorem dX5_factorial_9 : decode cX5_factorial 9 = .ok (.if_icmp .lt 7, 3) := by decide +kernel
theorem dX5_factorial_12 : decode cX5_factorial 12 = .ok (.iconst 1, 1) := by decide +kernel
theorem dX5_factorial_13 : decode cX5_factorial 13 = .ok (.goto 8, 3) := by decide +kernel
theorem dX5_factorial_16 : decode cX5_factorial 16 = .ok (.getstatic 225, 3) := by decide +kernel
theorem dX5_factorial_19 : decode cX5_factorial 19 = .ok (.iload_n 0, 1) := by decide +kernel
theorem dX5_factorial_20 : decode cX5_factorial 20 = .ok (.iaload, 1) := by decide +kernel
theorem dX5_factorial_21 : decode cX5_factorial 21 = .ok (.ireturn, 1) := by decide +kernel
theorem dX5_power_0 : decode cX5_power 0 = .ok (.iconst 1, 1) := by decide +kernel
theorem dX5_power_1 : decode cX5_power 1 = .ok (.istore_n 2, 1) := by decide +kernel
theorem dX5_power_2 : decode cX5_power 2 = .ok (.iconst 0, 1) := by decide +kernel
theorem dX5_power_3 : decode cX5_power 3 = .ok (.istore_n 3, 1) := by decide +kernel
theorem dX5_power_4 : decode cX5_power 4 = .ok (.iload_n 3, 1) := by decide +kernel
theorem dX5_power_5 : decode cX5_power 5 = .ok (.iload_n 1, 1) := by decide +kernel
theorem dX5_power_6 : decode cX5_power 6 = .ok (.if_icmp .ge 13, 3) := by decide +kernel
theorem dX5_power_9 : decode cX5_power 9 = .ok (.iload_n 2, 1) := by decide +kernel
theorem dX5_power_10 : decode cX5_power 10 = .ok (.iload_n 0, 1) := by decide +kernel
theorem dX5_power_11 : decode cX5_power 11 = .ok (.imul, 1) := by decide +kernel
theorem dX5_power_12 : decode cX5_power 12 = .ok (.istore_n 2, 1) := by decide +kernel
theorem dX5_power_13 : decode cX5_power 13 = .ok (.iinc 3 1, 3) := by decide +kernel
theorem dX5_power_16 : decode cX5_power 16 = .ok (.goto (-12), 3) := by decide +kernel
theorem dX5_power_19 : decode cX5_power 19 = .ok (.iload_n 2, 1) := by decide +kernel
theorem dX5_power_20 : decode cX5_power 20 = .ok (.ireturn, 1) := by decide +kernel
set_option maxRecDepth 20000 in
theorem ggX5_partOfFraction_X5_commonDivisor : GoodIn wsX5_partOfFraction wsX5_commonDivisor := goodIn_r _ [8] (by decide +kernel) (by decide +kernel)
set_option maxRecDepth 20000 in
theorem gX5_partOfFraction_X5_commonDivisor : GoodIn wsX5_partOfFraction (va_wsS RX5 233 yX5_commonDivisor wsX5_commonDivisor) := goodIn_app (goodIn_of _ (by decide +kernel)) ggX5_partOfFraction_X5_commonDivisor
theorem dX5_partOfFraction_0 : decode cX5_partOfFraction 0 = .ok (.iload_n 0, 1) := by decide +kernel
theorem dX5_partOfFraction_1 : decode cX5_partOfFraction 1 = .ok (.invokestatic 228, 3) := by decide +kernel
theorem dX5_partOfFraction_4 : decode cX5_partOfFraction 4 = .ok (.iload_n 1, 1) := by decide +kernel
theorem dX5_partOfFraction_5 : decode cX5_partOfFraction 5 = .ok (.invokestatic 233, 3) := by decide +kernel
theorem dX5_partOfFraction_8 : decode cX5_partOfFraction 8 = .ok (.istore_n 3, 1) := by decide +kernel
theorem dX5_partOfFraction_9 : decode cX5_partOfFraction 9 = .ok (.iload_n 3, 1) := by decide +kernel
theorem dX5_partOfFraction_10 : decode cX5_partOfFraction 10 = .ok (.iconst 1, 1) := by decide +kernel
theorem dX5_partOfFraction_11 : decode cX5_partOfFraction 11 = .ok (.if_icmp .ge 6, 3) := by decide +kernel
theorem dX5_partOfFraction_14 : decode cX5_partOfFraction 14 = .ok (.bipush (-2), 2) := by decide +kernel
theorem dX5_partOfFraction_16 : decode cX5_partOfFraction 16 = .ok (.ireturn, 1) := by decide +kernel
theorem dX5_partOfFraction_17 : decode cX5_partOfFraction 17 = .ok (.iload_n 2, 1) := by decide +kernel
theorem dX5_partOfFraction_18 : decode cX5_partOfFraction 18 = .ok (.ifCond .eq 7, 3) := by decide +kernel
theorem dX5_partOfFraction_21 : decode cX5_partOfFraction 21 = .ok (.iload_n 0, 1) := by decide +kernel
theorem dX5_partOfFraction_22 : decode cX5_partOfFraction 22 = .ok (.goto 4, 3) := by decide +kernel
theorem dX5_partOfFraction_25 : decode cX5_partOfFraction 25 = .ok (.iload_n 1, 1) := by decide +kernel
theorem dX5_partOfFraction_26 : decode cX5_partOfFraction 26 = .ok (.iload_n 3, 1) := by decide +kernel
theorem dX5_partOfFraction_27 : decode cX5_partOfFraction 27 = .ok (.idiv, 1) := by decide +kernel
theorem dX5_partOfFraction_28 : decode cX5_partOfFraction 28 = .ok (.ireturn, 1) := by decide +kernel
theorem dX5_commonDivisor_0 : decode cX5_commonDivisor 0 = .ok (.iload_n 0, 1) := by decide +kernel
theorem dX5_commonDivisor_1 : decode cX5_commonDivisor 1 = .ok (.istore_n 2, 1) := by decide +kernel
theorem dX5_commonDivisor_2 : decode cX5_commonDivisor 2 = .ok (.iload_n 1, 1) := by decide +kernel
theorem dX5_commonDivisor_3 : decode cX5_commonDivisor 3 = .ok (.istore_n 3, 1) := by decide +kernel
theorem dX5_commonDivisor_4 : decode cX5_commonDivisor 4 = .ok (.iconst 0, 1) := by decide +kernel
theorem dX5_commonDivisor_5 : decode cX5_commonDivisor 5 = .ok (.istore 4, 2) := by decide +kernel
theorem dX5_commonDivisor_7 : decode cX5_commonDivisor 7 = .ok (.iload 4, 2) := by decide +kernel
theorem dX5_commonDivisor_9 : decode cX5_commonDivisor 9 = .ok (.bipush 64, 2) := by decide +kernel
theorem dX5_commonDivisor_11 : decode cX5_commonDivisor 11 = .ok (.if_icmp .ge 23, 3) := by decide +kernel
theorem dX5_commonDivisor_14 : decode cX5_commonDivisor 14 = .ok (.iload_n 3, 1) := by decide +kernel
theorem dX5_commonDivisor_15 : decode cX5_commonDivisor 15 = .ok (.ifCond .le 19, 3) := by decide +kernel
theorem dX5_commonDivisor_18 : decode cX5_commonDivisor 18 = .ok (.iload_n 2, 1) := by decide +kernel
theorem dX5_commonDivisor_19 : decode cX5_commonDivisor 19 = .ok (.iload_n 3, 1) := by decide +kernel
theorem dX5_commonDivisor_20 : decode cX5_commonDivisor 20 = .ok (.irem, 1) := by decide +kernel
theorem dX5_commonDivisor_21 : decode cX5_commonDivisor 21 = .ok (.istore 5, 2) := by decide +kernel
theorem dX5_commonDivisor_23 : decode cX5_commonDivisor 23 = .ok (.iload_n 3, 1) := by decide +kernel
theorem dX5_commonDivisor_24 : decode cX5_commonDivisor 24 = .ok (.istore_n 2, 1) := by decide +kernel
theorem dX5_commonDivisor_25 : decode cX5_commonDivisor 25 = .ok (.iload 5, 2) := by decide +kernel
theorem dX5_commonDivisor_27 : decode cX5_commonDivisor 27 = .ok (.istore_n 3, 1) := by decide +kernel
theorem dX5_commonDivisor_28 : decode cX5_commonDivisor 28 = .ok (.iinc 4 1, 3) := by decide +kernel
theorem dX5_commonDivisor_31 : decode cX5_commonDivisor 31 = .ok (.goto (-24), 3) := by decide +kernel
theorem dX5_commonDivisor_34 : decode cX5_commonDivisor 34 = .ok (.iload_n 2, 1) := by decide +kernel
theorem dX5_commonDivisor_35 : decode cX5_commonDivisor 35 = .ok (.ireturn, 1) := by decide +kernel
set_option maxRecDepth 20000 in
theorem ggX5_isBestWait_X5_lossOf : GoodIn wsX5_isBestWait wsX5_lossOf := goodIn_r _ [5, 6, 7, 8, 9, 10, 11, 12, 13, 14, 4, 15, 16, 17, 18, 19, 20, 21, 22, 23, 24, 25, 26, 27, 28, 29, 30, 31, 32] (by decide +kernel) (by decide +kernel)
set_option maxRecDepth 20000 in
theorem gX5_isBestWait_X5_lossOf : GoodIn wsX5_isBestWait (wsV RX5 236 RX5 yX5_lossOf wsX5_lossOf) := goodIn_app (goodIn_of _ (by decide +kernel)) ggX5_isBestWait_X5_lossOf
theorem dX5_isBestWait_0 : decode cX5_isBestWait 0 = .ok (.aload_n 0, 1) := by decide +kernel
theorem dX5_isBestWait_1 : decode cX5_isBestWait 1 = .ok (.iload_n 1, 1) := by decide +kernel
theorem dX5_isBestWait_2 : decode cX5_isBestWait 2 = .ok (.iload_n 2, 1) := by decide +kernel
theorem dX5_isBestWait_3 : decode cX5_isBestWait 3 = .ok (.iload_n 3, 1) := by decide +kernel
theorem dX5_isBestWait_4 : decode cX5_isBestWait 4 = .ok (.iload 4, 2) := by decide +kernel
theorem dX5_isBestWait_6 : decode cX5_isBestWait 6 = .ok (.invokevirtual 236, 3) := by decide +kernel
theorem dX5_isBestWait_9 : decode cX5_isBestWait 9 = .ok (.istore 5, 2) := by decide +kernel
theorem dX5_isBestWait_11 : decode cX5_isBestWait 11 = .ok (.iconst 0, 1) := by decide +kernel
theorem dX5_isBestWait_12 : decode cX5_isBestWait 12 = .ok (.istore 6, 2) := by decide +kernel
theorem dX5_isBestWait_14 : decode cX5_isBestWait 14 = .ok (.iload 6, 2) := by decide +kernel
theorem dX5_isBestWait_16 : decode cX5_isBestWait 16 = .ok (.iconst 4, 1) := by decide +kernel
theorem dX5_isBestWait_17 : decode cX5_isBestWait 17 = .ok (.if_icmp .gt 26, 3) := by decide +kernel
theorem dX5_isBestWait_20 : decode cX5_isBestWait 20 = .ok (.aload_n 0, 1) := by decide +kernel
theorem dX5_isBestWait_21 : decode cX5_isBestWait 21 = .ok (.iload_n 1, 1) := by decide +kernel
theorem dX5_isBestWait_22 : decode cX5_isBestWait 22 = .ok (.iload_n 2, 1) := by decide +kernel
theorem dX5_isBestWait_23 : decode cX5_isBestWait 23 = .ok (.iload 6, 2) := by decide +kernel
theorem dX5_isBestWait_25 : decode cX5_isBestWait 25 = .ok (.iload 4, 2) := by decide +kernel
theorem dX5_isBestWait_27 : decode cX5_isBestWait 27 = .ok (.invokevirtual 236, 3) := by decide +kernel
theorem dX5_isBestWait_30 : decode cX5_isBestWait 30 = .ok (.iload 5, 2) := by decide +kernel
theorem dX5_isBestWait_32 : decode cX5_isBestWait 32 = .ok (.if_icmp .ge 5, 3) := by decide +kernel
theorem dX5_isBestWait_35 : decode cX5_isBestWait 35 = .ok (.iconst 0, 1) := by decide +kernel
theorem dX5_isBestWait_36 : decode cX5_isBestWait 36 = .ok (.ireturn, 1) := by decide +kernel
theorem dX5_isBestWait_37 : decode cX5_isBestWait 37 = .ok (.iinc 6 1, 3) := by decide +kernel
theorem dX5_isBestWait_40 : decode cX5_isBestWait 40 = .ok (.goto (-26), 3) := by decide +kernel
theorem dX5_isBestWait_43 : decode cX5_isBestWait 43 = .ok (.iconst 1, 1) := by decide +kernel
theorem dX5_isBestWait_44 : decode cX5_isBestWait 44 = .ok (.ireturn, 1) := by decide +kernel
set_option maxRecDepth 20000 in
theorem ggX5_lossOf_X5_isJuror : GoodIn wsX5_lossOf wsX5_isJuror := goodIn_r _ [11, 1, 12, 13, 14, 15, 16, 17, 18, 19, 20, 21, 22, 23, 24, 25, 26, 27, 28] (by decide +kernel) (by decide +kernel)
set_option maxRecDepth 20000 in
theorem gX5_lossOf_X5_isJuror : GoodIn wsX5_lossOf (wsV RX5 81 RX5 yX5_isJuror wsX5_isJuror) := goodIn_app (goodIn_of _ (by decide +kernel)) ggX5_lossOf_X5_isJuror
theorem dX5_lossOf_0 : decode cX5_lossOf 0 = .ok (.iload_n 3, 1) := by decide +kernel
theorem dX5_lossOf_1 : decode cX5_lossOf 1 = .ok (.iload 4, 2) := by decide +kernel
theorem dX5_lossOf_3 : decode cX5_lossOf 3 = .ok (.if_icmp .lt 14, 3) := by decide +kernel
theorem dX5_lossOf_6 : decode cX5_lossOf 6 = .ok (.iload_n 3, 1) := by decide +kernel
theorem dX5_lossOf_7 : decode cX5_lossOf 7 = .ok (.iload 4, 2) := by decide +kernel
theorem dX5_lossOf_9 : decode cX5_lossOf 9 = .ok (.if_icmp .ne 12, 3) := by decide +kernel
theorem dX5_lossOf_12 : decode cX5_lossOf 12 = .ok (.iload_n 1, 1) := by decide +kernel
theorem dX5_lossOf_13 : decode cX5_lossOf 13 = .ok (.iload_n 2, 1) := by decide +kernel
theorem dX5_lossOf_14 : decode cX5_lossOf 14 = .ok (.if_icmp .ge 7, 3) := by decide +kernel
theorem dX5_lossOf_17 : decode cX5_lossOf 17 = .ok (.iconst 1, 1) := by decide +kernel
theorem dX5_lossOf_18 : decode cX5_lossOf 18 = .ok (.goto 4, 3) := by decide +kernel
theorem dX5_lossOf_21 : decode cX5_lossOf 21 = .ok (.iconst 0, 1) := by decide +kernel
theorem dX5_lossOf_22 : decode cX5_lossOf 22 = .ok (.istore 5, 2) := by decide +kernel
theorem dX5_lossOf_24 : decode cX5_lossOf 24 = .ok (.aload_n 0, 1) := by decide +kernel
theorem dX5_lossOf_25 : decode cX5_lossOf 25 = .ok (.iload_n 1, 1) := by decide +kernel
theorem dX5_lossOf_26 : decode cX5_lossOf 26 = .ok (.invokevirtual 81, 3) := by decide +kernel
theorem dX5_lossOf_29 : decode cX5_lossOf 29 = .ok (.ifCond .eq 20, 3) := by decide +kernel
theorem dX5_lossOf_32 : decode cX5_lossOf 32 = .ok (.aload_n 0, 1) := by decide +kernel
theorem dX5_lossOf_33 : decode cX5_lossOf 33 = .ok (.getfield 19, 3) := by decide +kernel
theorem dX5_lossOf_36 : decode cX5_lossOf 36 = .ok (.getfield 91, 3) := by decide +kernel
theorem dX5_lossOf_39 : decode cX5_lossOf 39 = .ok (.iload_n 1, 1) := by decide +kernel
theorem dX5_lossOf_40 : decode cX5_lossOf 40 = .ok (.iaload, 1) := by decide +kernel
theorem dX5_lossOf_41 : decode cX5_lossOf 41 = .ok (.iconst 1, 1) := by decide +kernel
theorem dX5_lossOf_42 : decode cX5_lossOf 42 = .ok (.if_icmp .ne 7, 3) := by decide +kernel
theorem dX5_lossOf_45 : decode cX5_lossOf 45 = .ok (.iconst 2, 1) := by decide +kernel
theorem dX5_lossOf_46 : decode cX5_lossOf 46 = .ok (.goto 4, 3) := by decide +kernel
theorem dX5_lossOf_49 : decode cX5_lossOf 49 = .ok (.iconst 1, 1) := by decide +kernel
theorem dX5_lossOf_50 : decode cX5_lossOf 50 = .ok (.istore 6, 2) := by decide +kernel
theorem dX5_lossOf_52 : decode cX5_lossOf 52 = .ok (.iload_n 3, 1) := by decide +kernel
theorem dX5_lossOf_53 : decode cX5_lossOf 53 = .ok (.iload 4, 2) := by decide +kernel
theorem dX5_lossOf_55 : decode cX5_lossOf 55 = .ok (.invokestatic 240, 3) := by decide +kernel
theorem dX5_lossOf_58 : decode cX5_lossOf 58 = .ok (.iload 6, 2) := by decide +kernel
theorem dX5_lossOf_60 : decode cX5_lossOf 60 = .ok (.imul, 1) := by decide +kernel
theorem dX5_lossOf_61 : decode cX5_lossOf 61 = .ok (.iload 5, 2) := by decide +kernel
theorem dX5_lossOf_63 : decode cX5_lossOf 63 = .ok (.ifCond .eq 7, 3) := by decide +kernel
theorem dX5_lossOf_66 : decode cX5_lossOf 66 = .ok (.iconst 3, 1) := by decide +kernel
theorem dX5_lossOf_67 : decode cX5_lossOf 67 = .ok (.goto 4, 3) := by decide +kernel
theorem dX5_lossOf_70 : decode cX5_lossOf 70 = .ok (.iconst 0, 1) := by decide +kernel
theorem dX5_lossOf_71 : decode cX5_lossOf 71 = .ok (.iadd, 1) := by decide +kernel
theorem dX5_lossOf_72 : decode cX5_lossOf 72 = .ok (.ireturn, 1) := by decide +kernel
