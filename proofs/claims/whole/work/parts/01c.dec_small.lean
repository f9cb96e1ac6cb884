theorem dJ6_bitCount_0f7a4_0 : decode cJ6_bitCount_0f7a4 0 = .ok (.iload_n 0, 1) := by decide +kernel
theorem dJ6_bitCount_0f7a4_1 : decode cJ6_bitCount_0f7a4 1 = .ok (.iload_n 0, 1) := by decide +kernel
theorem dJ6_bitCount_0f7a4_2 : decode cJ6_bitCount_0f7a4 2 = .ok (.iconst 1, 1) := by decide +kernel
theorem dJ6_bitCount_0f7a4_3 : decode cJ6_bitCount_0f7a4 3 = .ok (.iushr, 1) := by decide +kernel
theorem dJ6_bitCount_0f7a4_4 : decode cJ6_bitCount_0f7a4 4 = .ok (.ldc_w 265, 3) := by decide +kernel
theorem dJ6_bitCount_0f7a4_7 : decode cJ6_bitCount_0f7a4 7 = .ok (.iand, 1) := by decide +kernel
theorem dJ6_bitCount_0f7a4_8 : decode cJ6_bitCount_0f7a4 8 = .ok (.isub, 1) := by decide +kernel
theorem dJ6_bitCount_0f7a4_9 : decode cJ6_bitCount_0f7a4 9 = .ok (.istore_n 0, 1) := by decide +kernel
theorem dJ6_bitCount_0f7a4_10 : decode cJ6_bitCount_0f7a4 10 = .ok (.iload_n 0, 1) := by decide +kernel
theorem dJ6_bitCount_0f7a4_11 : decode cJ6_bitCount_0f7a4 11 = .ok (.ldc_w 266, 3) := by decide +kernel
theorem dJ6_bitCount_0f7a4_14 : decode cJ6_bitCount_0f7a4 14 = .ok (.iand, 1) := by decide +kernel
theorem dJ6_bitCount_0f7a4_15 : decode cJ6_bitCount_0f7a4 15 = .ok (.iload_n 0, 1) := by decide +kernel
theorem dJ6_bitCount_0f7a4_16 : decode cJ6_bitCount_0f7a4 16 = .ok (.iconst 2, 1) := by decide +kernel
theorem dJ6_bitCount_0f7a4_17 : decode cJ6_bitCount_0f7a4 17 = .ok (.iushr, 1) := by decide +kernel
theorem dJ6_bitCount_0f7a4_18 : decode cJ6_bitCount_0f7a4 18 = .ok (.ldc_w 266, 3) := by decide +kernel
theorem dJ6_bitCount_0f7a4_21 : decode cJ6_bitCount_0f7a4 21 = .ok (.iand, 1) := by decide +kernel
theorem dJ6_bitCount_0f7a4_22 : decode cJ6_bitCount_0f7a4 22 = .ok (.iadd, 1) := by decide +kernel
theorem dJ6_bitCount_0f7a4_23 : decode cJ6_bitCount_0f7a4 23 = .ok (.istore_n 0, 1) := by decide +kernel
theorem dJ6_bitCount_0f7a4_24 : decode cJ6_bitCount_0f7a4 24 = .ok (.iload_n 0, 1) := by decide +kernel
theorem dJ6_bitCount_0f7a4_25 : decode cJ6_bitCount_0f7a4 25 = .ok (.iload_n 0, 1) := by decide +kernel
theorem dJ6_bitCount_0f7a4_26 : decode cJ6_bitCount_0f7a4 26 = .ok (.iconst 4, 1) := by decide +kernel
theorem dJ6_bitCount_0f7a4_27 : decode cJ6_bitCount_0f7a4 27 = .ok (.iushr, 1) := by decide +kernel
theorem dJ6_bitCount_0f7a4_28 : decode cJ6_bitCount_0f7a4 28 = .ok (.iadd, 1) := by decide +kernel
theorem dJ6_bitCount_0f7a4_29 : decode cJ6_bitCount_0f7a4 29 = .ok (.ldc_w 267, 3) := by decide +kernel
theorem dJ6_bitCount_0f7a4_32 : decode cJ6_bitCount_0f7a4 32 = .ok (.iand, 1) := by decide +kernel
theorem dJ6_bitCount_0f7a4_33 : decode cJ6_bitCount_0f7a4 33 = .ok (.istore_n 0, 1) := by decide +kernel
theorem dJ6_bitCount_0f7a4_34 : decode cJ6_bitCount_0f7a4 34 = .ok (.iload_n 0, 1) := by decide +kernel
theorem dJ6_bitCount_0f7a4_35 : decode cJ6_bitCount_0f7a4 35 = .ok (.iload_n 0, 1) := by decide +kernel
theorem dJ6_bitCount_0f7a4_36 : decode cJ6_bitCount_0f7a4 36 = .ok (.bipush 8, 2) := by decide +kernel
theorem dJ6_bitCount_0f7a4_38 : decode cJ6_bitCount_0f7a4 38 = .ok (.iushr, 1) := by decide +kernel
theorem dJ6_bitCount_0f7a4_39 : decode cJ6_bitCount_0f7a4 39 = .ok (.iadd, 1) := by decide +kernel
theorem dJ6_bitCount_0f7a4_40 : decode cJ6_bitCount_0f7a4 40 = .ok (.istore_n 0, 1) := by decide +kernel
theorem dJ6_bitCount_0f7a4_41 : decode cJ6_bitCount_0f7a4 41 = .ok (.iload_n 0, 1) := by decide +kernel
theorem dJ6_bitCount_0f7a4_42 : decode cJ6_bitCount_0f7a4 42 = .ok (.iload_n 0, 1) := by decide +kernel
theorem dJ6_bitCount_0f7a4_43 : decode cJ6_bitCount_0f7a4 43 = .ok (.bipush 16, 2) := by decide +kernel
theorem dJ6_bitCount_0f7a4_45 : decode cJ6_bitCount_0f7a4 45 = .ok (.iushr, 1) := by decide +kernel
theorem dJ6_bitCount_0f7a4_46 : decode cJ6_bitCount_0f7a4 46 = .ok (.iadd, 1) := by decide +kernel
theorem dJ6_bitCount_0f7a4_47 : decode cJ6_bitCount_0f7a4 47 = .ok (.istore_n 0, 1) := by decide +kernel
theorem dJ6_bitCount_0f7a4_48 : decode cJ6_bitCount_0f7a4 48 = .ok (.iload_n 0, 1) := by decide +kernel
theorem dJ6_bitCount_0f7a4_49 : decode cJ6_bitCount_0f7a4 49 = .ok (.bipush 63, 2) := by decide +kernel
theorem dJ6_bitCount_0f7a4_51 : decode cJ6_bitCount_0f7a4 51 = .ok (.iand, 1) := by decide +kernel
theorem dJ6_bitCount_0f7a4_52 : decode cJ6_bitCount_0f7a4 52 = .ok (.ireturn, 1) := by decide +kernel
theorem dJ9_abs_0f7a4_0 : decode cJ9_abs_0f7a4 0 = .ok (.iload_n 0, 1) := by decide +kernel
theorem dJ9_abs_0f7a4_1 : decode cJ9_abs_0f7a4 1 = .ok (.ifCond .ge 8, 3) := by decide +kernel
theorem dJ9_abs_0f7a4_4 : decode cJ9_abs_0f7a4 4 = .ok (.iload_n 0, 1) := by decide +kernel
theorem dJ9_abs_0f7a4_5 : decode cJ9_abs_0f7a4 5 = .ok (.ineg, 1) := by decide +kernel
theorem dJ9_abs_0f7a4_6 : decode cJ9_abs_0f7a4 6 = .ok (.goto 4, 3) := by decide +kernel
theorem dJ9_abs_0f7a4_9 : decode cJ9_abs_0f7a4 9 = .ok (.iload_n 0, 1) := by decide +kernel
theorem dJ9_abs_0f7a4_10 : decode cJ9_abs_0f7a4 10 = .ok (.ireturn, 1) := by decide +kernel
theorem dJ9_max_7cf53_0 : decode cJ9_max_7cf53 0 = .ok (.iload_n 0, 1) := by decide +kernel
theorem dJ9_max_7cf53_1 : decode cJ9_max_7cf53 1 = .ok (.iload_n 1, 1) := by decide +kernel
theorem dJ9_max_7cf53_2 : decode cJ9_max_7cf53 2 = .ok (.if_icmp .lt 7, 3) := by decide +kernel
theorem dJ9_max_7cf53_5 : decode cJ9_max_7cf53 5 = .ok (.iload_n 0, 1) := by decide +kernel
theorem dJ9_max_7cf53_6 : decode cJ9_max_7cf53 6 = .ok (.goto 4, 3) := by decide +kernel
theorem dJ9_max_7cf53_9 : decode cJ9_max_7cf53 9 = .ok (.iload_n 1, 1) := by decide +kernel
theorem dJ9_max_7cf53_10 : decode cJ9_max_7cf53 10 = .ok (.ireturn, 1) := by decide +kernel
theorem dJ9_min_7cf53_0 : decode cJ9_min_7cf53 0 = .ok (.iload_n 0, 1) := by decide +kernel
theorem dJ9_min_7cf53_1 : decode cJ9_min_7cf53 1 = .ok (.iload_n 1, 1) := by decide +kernel
theorem dJ9_min_7cf53_2 : decode cJ9_min_7cf53 2 = .ok (.if_icmp .gt 7, 3) := by decide +kernel
theorem dJ9_min_7cf53_5 : decode cJ9_min_7cf53 5 = .ok (.iload_n 0, 1) := by decide +kernel
theorem dJ9_min_7cf53_6 : decode cJ9_min_7cf53 6 = .ok (.goto 4, 3) := by decide +kernel
theorem dJ9_min_7cf53_9 : decode cJ9_min_7cf53 9 = .ok (.iload_n 1, 1) := by decide +kernel
theorem dJ9_min_7cf53_10 : decode cJ9_min_7cf53 10 = .ok (.ireturn, 1) := by decide +kernel
set_option maxRecDepth 20000 in
theorem ggX0_init_X2_init : GoodIn wsX0_init wsX2_init := goodIn_r _ [10, 11, 2, 3, 12, 13, 14, 15, 18, 19, 20, 21, 22, 23] (by decide +kernel) (by decide +kernel)
set_option maxRecDepth 20000 in
theorem gX0_init_X2_init : GoodIn wsX0_init (wsX2_init) := ggX0_init_X2_init
theorem dX0_init_0 : decode cX0_init 0 = .ok (.aload_n 0, 1) := by decide +kernel
theorem dX0_init_1 : decode cX0_init 1 = .ok (.invokespecial 3, 3) := by decide +kernel
theorem dX0_init_4 : decode cX0_init 4 = .ok (.aload_n 0, 1) := by decide +kernel
theorem dX0_init_5 : decode cX0_init 5 = .ok (.bipush 14, 2) := by decide +kernel
theorem dX0_init_7 : decode cX0_init 7 = .ok (.anewarray 9, 3) := by decide +kernel
theorem dX0_init_10 : decode cX0_init 10 = .ok (.putfield 11, 3) := by decide +kernel
theorem dX0_init_13 : decode cX0_init 13 = .ok (.iconst 0, 1) := by decide +kernel
theorem dX0_init_14 : decode cX0_init 14 = .ok (.istore_n 2, 1) := by decide +kernel
theorem dX0_init_15 : decode cX0_init 15 = .ok (.iload_n 2, 1) := by decide +kernel
theorem dX0_init_16 : decode cX0_init 16 = .ok (.bipush 14, 2) := by decide +kernel
theorem dX0_init_18 : decode cX0_init 18 = .ok (.if_icmp .ge 23, 3) := by decide +kernel
theorem dX0_init_21 : decode cX0_init 21 = .ok (.aload_n 0, 1) := by decide +kernel
theorem dX0_init_22 : decode cX0_init 22 = .ok (.getfield 11, 3) := by decide +kernel
theorem dX0_init_25 : decode cX0_init 25 = .ok (.iload_n 2, 1) := by decide +kernel
theorem dX0_init_26 : decode cX0_init 26 = .ok (.new 9, 3) := by decide +kernel
theorem dX0_init_29 : decode cX0_init 29 = .ok (.dup, 1) := by decide +kernel
theorem dX0_init_30 : decode cX0_init 30 = .ok (.aload_n 1, 1) := by decide +kernel
theorem dX0_init_31 : decode cX0_init 31 = .ok (.invokespecial 17, 3) := by decide +kernel
theorem dX0_init_34 : decode cX0_init 34 = .ok (.aastore, 1) := by decide +kernel
theorem dX0_init_35 : decode cX0_init 35 = .ok (.iinc 2 1, 3) := by decide +kernel
theorem dX0_init_38 : decode cX0_init 38 = .ok (.goto (-23), 3) := by decide +kernel
theorem dX0_init_41 : decode cX0_init 41 = .ok (.return_, 1) := by decide +kernel
set_option maxRecDepth 20000 in
theorem ggX0_remember_X0_forgetOldest : GoodIn wsX0_remember wsX0_forgetOldest := goodIn_r _ [7, 2, 1, 18, 19] (by decide +kernel) (by decide +kernel)
set_option maxRecDepth 20000 in
theorem gX0_remember_X0_forgetOldest : GoodIn wsX0_remember (wsV RX0 24 RX0 yX0_forgetOldest wsX0_forgetOldest) := goodIn_app (goodIn_of _ (by decide +kernel)) ggX0_remember_X0_forgetOldest
set_option maxRecDepth 20000 in
theorem ggX0_remember_X2_copyFrom : GoodIn wsX0_remember wsX2_copyFrom := goodIn_r _ [12, 13, 14, 15, 16, 17, 20, 21, 22, 23, 24, 25] (by decide +kernel) (by decide +kernel)
set_option maxRecDepth 20000 in
theorem gX0_remember_X2_copyFrom : GoodIn wsX0_remember (wsV RX0 27 RX2 yX2_copyFrom wsX2_copyFrom) := goodIn_app (goodIn_of _ (by decide +kernel)) ggX0_remember_X2_copyFrom
theorem dX0_remember_0 : decode cX0_remember 0 = .ok (.aload_n 0, 1) := by decide +kernel
theorem dX0_remember_1 : decode cX0_remember 1 = .ok (.getfield 20, 3) := by decide +kernel
theorem dX0_remember_4 : decode cX0_remember 4 = .ok (.bipush 14, 2) := by decide +kernel
theorem dX0_remember_6 : decode cX0_remember 6 = .ok (.if_icmp .lt 7, 3) := by decide +kernel
theorem dX0_remember_9 : decode cX0_remember 9 = .ok (.aload_n 0, 1) := by decide +kernel
theorem dX0_remember_10 : decode cX0_remember 10 = .ok (.invokevirtual 24, 3) := by decide +kernel
theorem dX0_remember_13 : decode cX0_remember 13 = .ok (.aload_n 0, 1) := by decide +kernel
theorem dX0_remember_14 : decode cX0_remember 14 = .ok (.getfield 20, 3) := by decide +kernel
theorem dX0_remember_17 : decode cX0_remember 17 = .ok (.ifCond .lt 35, 3) := by decide +kernel
theorem dX0_remember_20 : decode cX0_remember 20 = .ok (.aload_n 0, 1) := by decide +kernel
theorem dX0_remember_21 : decode cX0_remember 21 = .ok (.getfield 20, 3) := by decide +kernel
theorem dX0_remember_24 : decode cX0_remember 24 = .ok (.bipush 14, 2) := by decide +kernel
theorem dX0_remember_26 : decode cX0_remember 26 = .ok (.if_icmp .ge 26, 3) := by decide +kernel
theorem dX0_remember_29 : decode cX0_remember 29 = .ok (.aload_n 0, 1) := by decide +kernel
theorem dX0_remember_30 : decode cX0_remember 30 = .ok (.getfield 11, 3) := by decide +kernel
theorem dX0_remember_33 : decode cX0_remember 33 = .ok (.aload_n 0, 1) := by decide +kernel
theorem dX0_remember_34 : decode cX0_remember 34 = .ok (.getfield 20, 3) := by decide +kernel
theorem dX0_remember_37 : decode cX0_remember 37 = .ok (.aaload, 1) := by decide +kernel
theorem dX0_remember_38 : decode cX0_remember 38 = .ok (.aload_n 1, 1) := by decide +kernel
theorem dX0_remember_39 : decode cX0_remember 39 = .ok (.invokevirtual 27, 3) := by decide +kernel
theorem dX0_remember_42 : decode cX0_remember 42 = .ok (.aload_n 0, 1) := by decide +kernel
theorem dX0_remember_43 : decode cX0_remember 43 = .ok (.dup, 1) := by decide +kernel
theorem dX0_remember_44 : decode cX0_remember 44 = .ok (.getfield 20, 3) := by decide +kernel
theorem dX0_remember_47 : decode cX0_remember 47 = .ok (.iconst 1, 1) := by decide +kernel
theorem dX0_remember_48 : decode cX0_remember 48 = .ok (.iadd, 1) := by decide +kernel
theorem dX0_remember_49 : decode cX0_remember 49 = .ok (.putfield 20, 3) := by decide +kernel
theorem dX0_remember_52 : decode cX0_remember 52 = .ok (.return_, 1) := by decide +kernel
theorem dX0_forgetOldest_0 : decode cX0_forgetOldest 0 = .ok (.aload_n 0, 1) := by decide +kernel
theorem dX0_forgetOldest_1 : decode cX0_forgetOldest 1 = .ok (.getfield 11, 3) := by decide +kernel
theorem dX0_forgetOldest_4 : decode cX0_forgetOldest 4 = .ok (.iconst 0, 1) := by decide +kernel
theorem dX0_forgetOldest_5 : decode cX0_forgetOldest 5 = .ok (.aaload, 1) := by decide +kernel
theorem dX0_forgetOldest_6 : decode cX0_forgetOldest 6 = .ok (.astore_n 1, 1) := by decide +kernel
theorem dX0_forgetOldest_7 : decode cX0_forgetOldest 7 = .ok (.iconst 1, 1) := by decide +kernel
theorem dX0_forgetOldest_8 : decode cX0_forgetOldest 8 = .ok (.istore_n 2, 1) := by decide +kernel
theorem dX0_forgetOldest_9 : decode cX0_forgetOldest 9 = .ok (.iload_n 2, 1) := by decide +kernel
theorem dX0_forgetOldest_10 : decode cX0_forgetOldest 10 = .ok (.bipush 14, 2) := by decide +kernel
theorem dX0_forgetOldest_12 : decode cX0_forgetOldest 12 = .ok (.if_icmp .ge 23, 3) := by decide +kernel
theorem dX0_forgetOldest_15 : decode cX0_forgetOldest 15 = .ok (.aload_n 0, 1) := by decide +kernel
theorem dX0_forgetOldest_16 : decode cX0_forgetOldest 16 = .ok (.getfield 11, 3) := by decide +kernel
theorem dX0_forgetOldest_19 : decode cX0_forgetOldest 19 = .ok (.iload_n 2, 1) := by decide +kernel
theorem dX0_forgetOldest_20 : decode cX0_forgetOldest 20 = .ok (.iconst 1, 1) := by decide +kernel
theorem dX0_forgetOldest_21 : decode cX0_forgetOldest 21 = .ok (.isub, 1) := by decide +kernel
theorem dX0_forgetOldest_22 : decode cX0_forgetOldest 22 = .ok (.aload_n 0, 1) := by decide +kernel
theorem dX0_forgetOldest_23 : decode cX0_forgetOldest 23 = .ok (.getfield 11, 3) := by decide +kernel
theorem dX0_forgetOldest_26 : decode cX0_forgetOldest 26 = .ok (.iload_n 2, 1) := by decide +kernel
theorem dX0_forgetOldest_27 : decode cX0_forgetOldest 27 = .ok (.aaload, 1) := by decide +kernel
theorem dX0_forgetOldest_28 : decode cX0_forgetOldest 28 = .ok (.aastore, 1) := by decide +kernel
theorem dX0_forgetOldest_29 : decode cX0_forgetOldest 29 = .ok (.iinc 2 1, 3) := by decide +kernel
theorem dX0_forgetOldest_32 : decode cX0_forgetOldest 32 = .ok (.goto (-23), 3) := by decide +kernel
theorem dX0_forgetOldest_35 : decode cX0_forgetOldest 35 = .ok (.aload_n 0, 1) := by decide +kernel
theorem dX0_forgetOldest_36 : decode cX0_forgetOldest 36 = .ok (.getfield 11, 3) := by decide +kernel
theorem dX0_forgetOldest_39 : decode cX0_forgetOldest 39 = .ok (.bipush 13, 2) := by decide +kernel
theorem dX0_forgetOldest_41 : decode cX0_forgetOldest 41 = .ok (.aload_n 1, 1) := by decide +kernel
theorem dX0_forgetOldest_42 : decode cX0_forgetOldest 42 = .ok (.aastore, 1) := by decide +kernel
theorem dX0_forgetOldest_43 : decode cX0_forgetOldest 43 = .ok (.aload_n 0, 1) := by decide +kernel
theorem dX0_forgetOldest_44 : decode cX0_forgetOldest 44 = .ok (.bipush 13, 2) := by decide +kernel
theorem dX0_forgetOldest_46 : decode cX0_forgetOldest 46 = .ok (.putfield 20, 3) := by decide +kernel
theorem dX0_forgetOldest_49 : decode cX0_forgetOldest 49 = .ok (.return_, 1) := by decide +kernel
theorem dX0_forgetAll_0 : decode cX0_forgetAll 0 = .ok (.aload_n 0, 1) := by decide +kernel
theorem dX0_forgetAll_1 : decode cX0_forgetAll 1 = .ok (.iconst 0, 1) := by decide +kernel
theorem dX0_forgetAll_2 : decode cX0_forgetAll 2 = .ok (.putfield 20, 3) := by decide +kernel
theorem dX0_forgetAll_5 : decode cX0_forgetAll 5 = .ok (.return_, 1) := by decide +kernel
set_option maxRecDepth 20000 in
theorem ggX0_takeBack_X2_copyFrom : GoodIn wsX0_takeBack wsX2_copyFrom := goodIn_r _ [7, 8, 9, 10, 11, 12, 15, 16, 17, 18, 19, 20] (by decide +kernel) (by decide +kernel)
set_option maxRecDepth 20000 in
theorem gX0_takeBack_X2_copyFrom : GoodIn wsX0_takeBack (wsV RX0 27 RX2 yX2_copyFrom wsX2_copyFrom) := goodIn_app (goodIn_of _ (by decide +kernel)) ggX0_takeBack_X2_copyFrom
theorem dX0_takeBack_0 : decode cX0_takeBack 0 = .ok (.aload_n 0, 1) := by decide +kernel
theorem dX0_takeBack_1 : decode cX0_takeBack 1 = .ok (.getfield 20, 3) := by decide +kernel
theorem dX0_takeBack_4 : decode cX0_takeBack 4 = .ok (.iconst 1, 1) := by decide +kernel
theorem dX0_takeBack_5 : decode cX0_takeBack 5 = .ok (.if_icmp .lt 12, 3) := by decide +kernel
theorem dX0_takeBack_8 : decode cX0_takeBack 8 = .ok (.aload_n 0, 1) := by decide +kernel
theorem dX0_takeBack_9 : decode cX0_takeBack 9 = .ok (.getfield 20, 3) := by decide +kernel
theorem dX0_takeBack_12 : decode cX0_takeBack 12 = .ok (.bipush 14, 2) := by decide +kernel
theorem dX0_takeBack_14 : decode cX0_takeBack 14 = .ok (.if_icmp .le 5, 3) := by decide +kernel
theorem dX0_takeBack_17 : decode cX0_takeBack 17 = .ok (.iconst 0, 1) := by decide +kernel
theorem dX0_takeBack_18 : decode cX0_takeBack 18 = .ok (.ireturn, 1) := by decide +kernel
theorem dX0_takeBack_19 : decode cX0_takeBack 19 = .ok (.aload_n 0, 1) := by decide +kernel
theorem dX0_takeBack_20 : decode cX0_takeBack 20 = .ok (.dup, 1) := by decide +kernel
theorem dX0_takeBack_21 : decode cX0_takeBack 21 = .ok (.getfield 20, 3) := by decide +kernel
theorem dX0_takeBack_24 : decode cX0_takeBack 24 = .ok (.iconst 1, 1) := by decide +kernel
theorem dX0_takeBack_25 : decode cX0_takeBack 25 = .ok (.isub, 1) := by decide +kernel
theorem dX0_takeBack_26 : decode cX0_takeBack 26 = .ok (.putfield 20, 3) := by decide +kernel
theorem dX0_takeBack_29 : decode cX0_takeBack 29 = .ok (.aload_n 1, 1) := by decide +kernel
theorem dX0_takeBack_30 : decode cX0_takeBack 30 = .ok (.aload_n 0, 1) := by decide +kernel
theorem dX0_takeBack_31 : decode cX0_takeBack 31 = .ok (.getfield 11, 3) := by decide +kernel
theorem dX0_takeBack_34 : decode cX0_takeBack 34 = .ok (.aload_n 0, 1) := by decide +kernel
theorem dX0_takeBack_35 : decode cX0_takeBack 35 = .ok (.getfield 20, 3) := by decide +kernel
theorem dX0_takeBack_38 : decode cX0_takeBack 38 = .ok (.aaload, 1) := by decide +kernel
theorem dX0_takeBack_39 : decode cX0_takeBack 39 = .ok (.invokevirtual 27, 3) := by decide +kernel
theorem dX0_takeBack_42 : decode cX0_takeBack 42 = .ok (.iconst 1, 1) := by decide +kernel
theorem dX0_takeBack_43 : decode cX0_takeBack 43 = .ok (.ireturn, 1) := by decide +kernel
theorem dX1_init_0 : decode cX1_init 0 = .ok (.aload_n 0, 1) := by decide +kernel
theorem dX1_init_1 : decode cX1_init 1 = .ok (.invokespecial 3, 3) := by decide +kernel
theorem dX1_init_4 : decode cX1_init 4 = .ok (.aload_n 0, 1) := by decide +kernel
theorem dX1_init_5 : decode cX1_init 5 = .ok (.bipush 6, 2) := by decide +kernel
theorem dX1_init_7 : decode cX1_init 7 = .ok (.newarray .int, 2) := by decide +kernel
theorem dX1_init_9 : decode cX1_init 9 = .ok (.putfield 9, 3) := by decide +kernel
theorem dX1_init_12 : decode cX1_init 12 = .ok (.aload_n 0, 1) := by decide +kernel
theorem dX1_init_13 : decode cX1_init 13 = .ok (.bipush 6, 2) := by decide +kernel
theorem dX1_init_15 : decode cX1_init 15 = .ok (.newarray .int, 2) := by decide +kernel
theorem dX1_init_17 : decode cX1_init 17 = .ok (.putfield 15, 3) := by decide +kernel
theorem dX1_init_20 : decode cX1_init 20 = .ok (.aload_n 0, 1) := by decide +kernel
theorem dX1_init_21 : decode cX1_init 21 = .ok (.bipush 6, 2) := by decide +kernel
theorem dX1_init_23 : decode cX1_init 23 = .ok (.newarray .int, 2) := by decide +kernel
theorem dX1_init_25 : decode cX1_init 25 = .ok (.putfield 18, 3) := by decide +kernel
theorem dX1_init_28 : decode cX1_init 28 = .ok (.aload_n 0, 1) := by decide +kernel
theorem dX1_init_29 : decode cX1_init 29 = .ok (.iconst 1, 1) := by decide +kernel
theorem dX1_init_30 : decode cX1_init 30 = .ok (.putfield 21, 3) := by decide +kernel
theorem dX1_init_33 : decode cX1_init 33 = .ok (.return_, 1) := by decide +kernel
set_option maxRecDepth 20000 in
theorem ggX1_readFrom_X4_letterAt : GoodIn wsX1_readFrom wsX4_letterAt := goodIn_r _ [9, 10, 11, 47, 48] (by decide +kernel) (by decide +kernel)
set_option maxRecDepth 20000 in
theorem gX1_readFrom_X4_letterAt : GoodIn wsX1_readFrom (wsV RX1 31 RX4 yX4_letterAt wsX4_letterAt) := goodIn_app (goodIn_of _ (by decide +kernel)) ggX1_readFrom_X4_letterAt
set_option maxRecDepth 20000 in
theorem ggX1_readFrom_X4_isFigure : GoodIn wsX1_readFrom wsX4_isFigure := goodIn_r _ [15, 16, 6, 7, 8, 9, 10, 11, 47, 48] (by decide +kernel) (by decide +kernel)
set_option maxRecDepth 20000 in
theorem gX1_readFrom_X4_isFigure : GoodIn wsX1_readFrom (wsV RX1 37 RX4 yX4_isFigure wsX4_isFigure) := goodIn_app (goodIn_of _ (by decide +kernel)) ggX1_readFrom_X4_isFigure
set_option maxRecDepth 20000 in
theorem ggX1_readFrom_X4_figureAt : GoodIn wsX1_readFrom wsX4_figureAt := goodIn_r _ [20, 16, 6, 7, 8, 9, 10, 11, 47, 48] (by decide +kernel) (by decide +kernel)
set_option maxRecDepth 20000 in
theorem gX1_readFrom_X4_figureAt : GoodIn wsX1_readFrom (wsV RX1 41 RX4 yX4_figureAt wsX4_figureAt) := goodIn_app (goodIn_of _ (by decide +kernel)) ggX1_readFrom_X4_figureAt
set_option maxRecDepth 20000 in
theorem ggX1_readFrom_X1_readJuror : GoodIn wsX1_readFrom wsX1_readJuror := goodIn_r _ [25, 1, 2, 26, 27, 28, 12, 13, 14, 8, 15, 16, 6, 7, 9, 10, 11, 17, 18, 19, 20, 41, 42, 43, 44, 45, 46, 47, 48] (by decide +kernel) (by decide +kernel)
set_option maxRecDepth 20000 in
theorem gX1_readFrom_X1_readJuror : GoodIn wsX1_readFrom (wsV RX1 47 RX1 yX1_readJuror wsX1_readJuror) := goodIn_app (goodIn_of _ (by decide +kernel)) ggX1_readFrom_X1_readJuror
set_option maxRecDepth 20000 in
theorem ggX1_readFrom_X1_readPair : GoodIn wsX1_readFrom wsX1_readPair := goodIn_r _ [32, 28, 5, 6, 7, 8, 9, 10, 11, 33, 34, 35, 24, 36, 1, 37, 38, 39, 40, 17, 18, 19, 20, 16, 41, 42, 43, 44, 45, 46, 47, 48] (by decide +kernel) (by decide +kernel)
set_option maxRecDepth 20000 in
theorem gX1_readFrom_X1_readPair : GoodIn wsX1_readFrom (wsV RX1 51 RX1 yX1_readPair wsX1_readPair) := goodIn_app (goodIn_of _ (by decide +kernel)) ggX1_readFrom_X1_readPair
theorem dX1_readFrom_0 : decode cX1_readFrom 0 = .ok (.aload_n 0, 1) := by decide +kernel
theorem dX1_readFrom_1 : decode cX1_readFrom 1 = .ok (.iconst 0, 1) := by decide +kernel
theorem dX1_readFrom_2 : decode cX1_readFrom 2 = .ok (.putfield 25, 3) := by decide +kernel
theorem dX1_readFrom_5 : decode cX1_readFrom 5 = .ok (.aload_n 0, 1) := by decide +kernel
theorem dX1_readFrom_6 : decode cX1_readFrom 6 = .ok (.iconst 0, 1) := by decide +kernel
theorem dX1_readFrom_7 : decode cX1_readFrom 7 = .ok (.putfield 28, 3) := by decide +kernel
theorem dX1_readFrom_10 : decode cX1_readFrom 10 = .ok (.aload_n 0, 1) := by decide +kernel
theorem dX1_readFrom_11 : decode cX1_readFrom 11 = .ok (.iconst 1, 1) := by decide +kernel
theorem dX1_readFrom_12 : decode cX1_readFrom 12 = .ok (.putfield 21, 3) := by decide +kernel
theorem dX1_readFrom_15 : decode cX1_readFrom 15 = .ok (.aload_n 1, 1) := by decide +kernel
theorem dX1_readFrom_16 : decode cX1_readFrom 16 = .ok (.iconst 0, 1) := by decide +kernel
theorem dX1_readFrom_17 : decode cX1_readFrom 17 = .ok (.invokevirtual 31, 3) := by decide +kernel
theorem dX1_readFrom_20 : decode cX1_readFrom 20 = .ok (.bipush 74, 2) := by decide +kernel
theorem dX1_readFrom_22 : decode cX1_readFrom 22 = .ok (.if_icmp .eq 5, 3) := by decide +kernel
theorem dX1_readFrom_25 : decode cX1_readFrom 25 = .ok (.iconst 0, 1) := by decide +kernel
theorem dX1_readFrom_26 : decode cX1_readFrom 26 = .ok (.ireturn, 1) := by decide +kernel
theorem dX1_readFrom_27 : decode cX1_readFrom 27 = .ok (.aload_n 1, 1) := by decide +kernel
theorem dX1_readFrom_28 : decode cX1_readFrom 28 = .ok (.iconst 1, 1) := by decide +kernel
theorem dX1_readFrom_29 : decode cX1_readFrom 29 = .ok (.iconst 1, 1) := by decide +kernel
theorem dX1_readFrom_30 : decode cX1_readFrom 30 = .ok (.bipush 6, 2) := by decide +kernel
theorem dX1_readFrom_32 : decode cX1_readFrom 32 = .ok (.invokevirtual 37, 3) := by decide +kernel
theorem dX1_readFrom_35 : decode cX1_readFrom 35 = .ok (.ifCond .ne 5, 3) := by decide +kernel
theorem dX1_readFrom_38 : decode cX1_readFrom 38 = .ok (.iconst 1, 1) := by decide +kernel
theorem dX1_readFrom_39 : decode cX1_readFrom 39 = .ok (.ireturn, 1) := by decide +kernel
theorem dX1_readFrom_40 : decode cX1_readFrom 40 = .ok (.aload_n 0, 1) := by decide +kernel
theorem dX1_readFrom_41 : decode cX1_readFrom 41 = .ok (.aload_n 1, 1) := by decide +kernel
theorem dX1_readFrom_42 : decode cX1_readFrom 42 = .ok (.iconst 1, 1) := by decide +kernel
theorem dX1_readFrom_43 : decode cX1_readFrom 43 = .ok (.invokevirtual 41, 3) := by decide +kernel
theorem dX1_readFrom_46 : decode cX1_readFrom 46 = .ok (.putfield 21, 3) := by decide +kernel
theorem dX1_readFrom_49 : decode cX1_readFrom 49 = .ok (.iconst 2, 1) := by decide +kernel
theorem dX1_readFrom_50 : decode cX1_readFrom 50 = .ok (.istore_n 2, 1) := by decide +kernel
theorem dX1_readFrom_51 : decode cX1_readFrom 51 = .ok (.iload_n 2, 1) := by decide +kernel
theorem dX1_readFrom_52 : decode cX1_readFrom 52 = .ok (.aload_n 1, 1) := by decide +kernel
theorem dX1_readFrom_53 : decode cX1_readFrom 53 = .ok (.getfield 44, 3) := by decide +kernel
theorem dX1_readFrom_56 : decode cX1_readFrom 56 = .ok (.if_icmp .ge 65, 3) := by decide +kernel
theorem dX1_readFrom_59 : decode cX1_readFrom 59 = .ok (.aload_n 1, 1) := by decide +kernel
theorem dX1_readFrom_60 : decode cX1_readFrom 60 = .ok (.iload_n 2, 1) := by decide +kernel
theorem dX1_readFrom_61 : decode cX1_readFrom 61 = .ok (.invokevirtual 31, 3) := by decide +kernel
theorem dX1_readFrom_64 : decode cX1_readFrom 64 = .ok (.bipush 80, 2) := by decide +kernel
theorem dX1_readFrom_66 : decode cX1_readFrom 66 = .ok (.if_icmp .ne 7, 3) := by decide +kernel
theorem dX1_readFrom_69 : decode cX1_readFrom 69 = .ok (.iconst 1, 1) := by decide +kernel
theorem dX1_readFrom_70 : decode cX1_readFrom 70 = .ok (.goto 4, 3) := by decide +kernel
theorem dX1_readFrom_73 : decode cX1_readFrom 73 = .ok (.iconst 0, 1) := by decide +kernel
theorem dX1_readFrom_74 : decode cX1_readFrom 74 = .ok (.istore_n 3, 1) := by decide +kernel
theorem dX1_readFrom_75 : decode cX1_readFrom 75 = .ok (.iload_n 3, 1) := by decide +kernel
theorem dX1_readFrom_76 : decode cX1_readFrom 76 = .ok (.ifCond .eq 12, 3) := by decide +kernel
theorem dX1_readFrom_79 : decode cX1_readFrom 79 = .ok (.aload_n 0, 1) := by decide +kernel
theorem dX1_readFrom_80 : decode cX1_readFrom 80 = .ok (.aload_n 1, 1) := by decide +kernel
theorem dX1_readFrom_81 : decode cX1_readFrom 81 = .ok (.iload_n 2, 1) := by decide +kernel
theorem dX1_readFrom_82 : decode cX1_readFrom 82 = .ok (.invokevirtual 47, 3) := by decide +kernel
theorem dX1_readFrom_85 : decode cX1_readFrom 85 = .ok (.goto 9, 3) := by decide +kernel
theorem dX1_readFrom_88 : decode cX1_readFrom 88 = .ok (.aload_n 0, 1) := by decide +kernel
theorem dX1_readFrom_89 : decode cX1_readFrom 89 = .ok (.aload_n 1, 1) := by decide +kernel
theorem dX1_readFrom_90 : decode cX1_readFrom 90 = .ok (.iload_n 2, 1) := by decide +kernel
theorem dX1_readFrom_91 : decode cX1_readFrom 91 = .ok (.invokevirtual 51, 3) := by decide +kernel
theorem dX1_readFrom_94 : decode cX1_readFrom 94 = .ok (.istore 4, 2) := by decide +kernel
theorem dX1_readFrom_96 : decode cX1_readFrom 96 = .ok (.iload 4, 2) := by decide +kernel
theorem dX1_readFrom_98 : decode cX1_readFrom 98 = .ok (.bipush (-9), 2) := by decide +kernel
theorem dX1_readFrom_100 : decode cX1_readFrom 100 = .ok (.if_icmp .eq 6, 3) := by decide +kernel
theorem dX1_readFrom_103 : decode cX1_readFrom 103 = .ok (.iload 4, 2) := by decide +kernel
theorem dX1_readFrom_105 : decode cX1_readFrom 105 = .ok (.ireturn, 1) := by decide +kernel
theorem dX1_readFrom_106 : decode cX1_readFrom 106 = .ok (.iload_n 2, 1) := by decide +kernel
theorem dX1_readFrom_107 : decode cX1_readFrom 107 = .ok (.iload_n 3, 1) := by decide +kernel
theorem dX1_readFrom_108 : decode cX1_readFrom 108 = .ok (.ifCond .eq 7, 3) := by decide +kernel
theorem dX1_readFrom_111 : decode cX1_readFrom 111 = .ok (.iconst 4, 1) := by decide +kernel
theorem dX1_readFrom_112 : decode cX1_readFrom 112 = .ok (.goto 4, 3) := by decide +kernel
theorem dX1_readFrom_115 : decode cX1_readFrom 115 = .ok (.iconst 3, 1) := by decide +kernel
theorem dX1_readFrom_116 : decode cX1_readFrom 116 = .ok (.iadd, 1) := by decide +kernel
theorem dX1_readFrom_117 : decode cX1_readFrom 117 = .ok (.istore_n 2, 1) := by decide +kernel
theorem dX1_readFrom_118 : decode cX1_readFrom 118 = .ok (.goto (-67), 3) := by decide +kernel
theorem dX1_readFrom_121 : decode cX1_readFrom 121 = .ok (.bipush (-9), 2) := by decide +kernel
theorem dX1_readFrom_123 : decode cX1_readFrom 123 = .ok (.ireturn, 1) := by decide +kernel
set_option maxRecDepth 20000 in
theorem ggX1_readJuror_X4_isFigure : GoodIn wsX1_readJuror wsX4_isFigure := goodIn_r _ [10, 11, 12, 13, 9, 14, 15, 16, 27, 28] (by decide +kernel) (by decide +kernel)
set_option maxRecDepth 20000 in
theorem gX1_readJuror_X4_isFigure : GoodIn wsX1_readJuror (wsV RX1 37 RX4 yX4_isFigure wsX4_isFigure) := goodIn_app (goodIn_of _ (by decide +kernel)) ggX1_readJuror_X4_isFigure
set_option maxRecDepth 20000 in
theorem ggX1_readJuror_X4_figureAt : GoodIn wsX1_readJuror wsX4_figureAt := goodIn_r _ [20, 11, 12, 13, 9, 14, 15, 16, 27, 28] (by decide +kernel) (by decide +kernel)
set_option maxRecDepth 20000 in
theorem gX1_readJuror_X4_figureAt : GoodIn wsX1_readJuror (wsV RX1 41 RX4 yX4_figureAt wsX4_figureAt) := goodIn_app (goodIn_of _ (by decide +kernel)) ggX1_readJuror_X4_figureAt
theorem dX1_readJuror_0 : decode cX1_readJuror 0 = .ok (.aload_n 0, 1) := by decide +kernel
theorem dX1_readJuror_1 : decode cX1_readJuror 1 = .ok (.getfield 25, 3) := by decide +kernel
theorem dX1_readJuror_4 : decode cX1_readJuror 4 = .ok (.ifCond .lt 12, 3) := by decide +kernel
theorem dX1_readJuror_7 : decode cX1_readJuror 7 = .ok (.aload_n 0, 1) := by decide +kernel
theorem dX1_readJuror_8 : decode cX1_readJuror 8 = .ok (.getfield 25, 3) := by decide +kernel
theorem dX1_readJuror_11 : decode cX1_readJuror 11 = .ok (.bipush 6, 2) := by decide +kernel
theorem dX1_readJuror_13 : decode cX1_readJuror 13 = .ok (.if_icmp .lt 5, 3) := by decide +kernel
theorem dX1_readJuror_16 : decode cX1_readJuror 16 = .ok (.iload_n 2, 1) := by decide +kernel
theorem dX1_readJuror_17 : decode cX1_readJuror 17 = .ok (.ireturn, 1) := by decide +kernel
theorem dX1_readJuror_18 : decode cX1_readJuror 18 = .ok (.aload_n 1, 1) := by decide +kernel
theorem dX1_readJuror_19 : decode cX1_readJuror 19 = .ok (.iload_n 2, 1) := by decide +kernel
theorem dX1_readJuror_20 : decode cX1_readJuror 20 = .ok (.iconst 1, 1) := by decide +kernel
theorem dX1_readJuror_21 : decode cX1_readJuror 21 = .ok (.iadd, 1) := by decide +kernel
theorem dX1_readJuror_22 : decode cX1_readJuror 22 = .ok (.iconst 0, 1) := by decide +kernel
theorem dX1_readJuror_23 : decode cX1_readJuror 23 = .ok (.iconst 1, 1) := by decide +kernel
theorem dX1_readJuror_24 : decode cX1_readJuror 24 = .ok (.invokevirtual 37, 3) := by decide +kernel
theorem dX1_readJuror_27 : decode cX1_readJuror 27 = .ok (.ifCond .ne 7, 3) := by decide +kernel
theorem dX1_readJuror_30 : decode cX1_readJuror 30 = .ok (.iload_n 2, 1) := by decide +kernel
theorem dX1_readJuror_31 : decode cX1_readJuror 31 = .ok (.iconst 1, 1) := by decide +kernel
theorem dX1_readJuror_32 : decode cX1_readJuror 32 = .ok (.iadd, 1) := by decide +kernel
theorem dX1_readJuror_33 : decode cX1_readJuror 33 = .ok (.ireturn, 1) := by decide +kernel
theorem dX1_readJuror_34 : decode cX1_readJuror 34 = .ok (.aload_n 1, 1) := by decide +kernel
theorem dX1_readJuror_35 : decode cX1_readJuror 35 = .ok (.iload_n 2, 1) := by decide +kernel
theorem dX1_readJuror_36 : decode cX1_readJuror 36 = .ok (.iconst 2, 1) := by decide +kernel
theorem dX1_readJuror_37 : decode cX1_readJuror 37 = .ok (.iadd, 1) := by decide +kernel
theorem dX1_readJuror_38 : decode cX1_readJuror 38 = .ok (.iconst 1, 1) := by decide +kernel
theorem dX1_readJuror_39 : decode cX1_readJuror 39 = .ok (.bipush 9, 2) := by decide +kernel
theorem dX1_readJuror_41 : decode cX1_readJuror 41 = .ok (.invokevirtual 37, 3) := by decide +kernel
theorem dX1_readJuror_44 : decode cX1_readJuror 44 = .ok (.ifCond .ne 7, 3) := by decide +kernel
theorem dX1_readJuror_47 : decode cX1_readJuror 47 = .ok (.iload_n 2, 1) := by decide +kernel
theorem dX1_readJuror_48 : decode cX1_readJuror 48 = .ok (.iconst 2, 1) := by decide +kernel
theorem dX1_readJuror_49 : decode cX1_readJuror 49 = .ok (.iadd, 1) := by decide +kernel
theorem dX1_readJuror_50 : decode cX1_readJuror 50 = .ok (.ireturn, 1) := by decide +kernel
theorem dX1_readJuror_51 : decode cX1_readJuror 51 = .ok (.aload_n 1, 1) := by decide +kernel
theorem dX1_readJuror_52 : decode cX1_readJuror 52 = .ok (.iload_n 2, 1) := by decide +kernel
theorem dX1_readJuror_53 : decode cX1_readJuror 53 = .ok (.iconst 3, 1) := by decide +kernel
theorem dX1_readJuror_54 : decode cX1_readJuror 54 = .ok (.iadd, 1) := by decide +kernel
theorem dX1_readJuror_55 : decode cX1_readJuror 55 = .ok (.iconst 0, 1) := by decide +kernel
theorem dX1_readJuror_56 : decode cX1_readJuror 56 = .ok (.iconst 3, 1) := by decide +kernel
theorem dX1_readJuror_57 : decode cX1_readJuror 57 = .ok (.invokevirtual 37, 3) := by decide +kernel
theorem dX1_readJuror_60 : decode cX1_readJuror 60 = .ok (.ifCond .ne 7, 3) := by decide +kernel
theorem dX1_readJuror_63 : decode cX1_readJuror 63 = .ok (.iload_n 2, 1) := by decide +kernel
theorem dX1_readJuror_64 : decode cX1_readJuror 64 = .ok (.iconst 3, 1) := by decide +kernel
theorem dX1_readJuror_65 : decode cX1_readJuror 65 = .ok (.iadd, 1) := by decide +kernel
theorem dX1_readJuror_66 : decode cX1_readJuror 66 = .ok (.ireturn, 1) := by decide +kernel
theorem dX1_readJuror_67 : decode cX1_readJuror 67 = .ok (.aload_n 0, 1) := by decide +kernel
theorem dX1_readJuror_68 : decode cX1_readJuror 68 = .ok (.dup, 1) := by decide +kernel
theorem dX1_readJuror_69 : decode cX1_readJuror 69 = .ok (.getfield 28, 3) := by decide +kernel
theorem dX1_readJuror_72 : decode cX1_readJuror 72 = .ok (.aload_n 1, 1) := by decide +kernel
theorem dX1_readJuror_73 : decode cX1_readJuror 73 = .ok (.iload_n 2, 1) := by decide +kernel
theorem dX1_readJuror_74 : decode cX1_readJuror 74 = .ok (.iconst 1, 1) := by decide +kernel
theorem dX1_readJuror_75 : decode cX1_readJuror 75 = .ok (.iadd, 1) := by decide +kernel
theorem dX1_readJuror_76 : decode cX1_readJuror 76 = .ok (.invokevirtual 41, 3) := by decide +kernel
theorem dX1_readJuror_79 : decode cX1_readJuror 79 = .ok (.aload_n 0, 1) := by decide +kernel
theorem dX1_readJuror_80 : decode cX1_readJuror 80 = .ok (.getfield 25, 3) := by decide +kernel
theorem dX1_readJuror_83 : decode cX1_readJuror 83 = .ok (.ishl, 1) := by decide +kernel
theorem dX1_readJuror_84 : decode cX1_readJuror 84 = .ok (.ior, 1) := by decide +kernel
theorem dX1_readJuror_85 : decode cX1_readJuror 85 = .ok (.putfield 28, 3) := by decide +kernel
theorem dX1_readJuror_88 : decode cX1_readJuror 88 = .ok (.aload_n 0, 1) := by decide +kernel
theorem dX1_readJuror_89 : decode cX1_readJuror 89 = .ok (.getfield 9, 3) := by decide +kernel
theorem dX1_readJuror_92 : decode cX1_readJuror 92 = .ok (.aload_n 0, 1) := by decide +kernel
theorem dX1_readJuror_93 : decode cX1_readJuror 93 = .ok (.getfield 25, 3) := by decide +kernel
theorem dX1_readJuror_96 : decode cX1_readJuror 96 = .ok (.aload_n 1, 1) := by decide +kernel
theorem dX1_readJuror_97 : decode cX1_readJuror 97 = .ok (.iload_n 2, 1) := by decide +kernel
theorem dX1_readJuror_98 : decode cX1_readJuror 98 = .ok (.iconst 2, 1) := by decide +kernel
theorem dX1_readJuror_99 : decode cX1_readJuror 99 = .ok (.iadd, 1) := by decide +kernel
theorem dX1_readJuror_100 : decode cX1_readJuror 100 = .ok (.invokevirtual 41, 3) := by decide +kernel
theorem dX1_readJuror_103 : decode cX1_readJuror 103 = .ok (.iastore, 1) := by decide +kernel
theorem dX1_readJuror_104 : decode cX1_readJuror 104 = .ok (.aload_n 0, 1) := by decide +kernel
theorem dX1_readJuror_105 : decode cX1_readJuror 105 = .ok (.getfield 15, 3) := by decide +kernel
theorem dX1_readJuror_108 : decode cX1_readJuror 108 = .ok (.aload_n 0, 1) := by decide +kernel
theorem dX1_readJuror_109 : decode cX1_readJuror 109 = .ok (.getfield 25, 3) := by decide +kernel
theorem dX1_readJuror_112 : decode cX1_readJuror 112 = .ok (.aload_n 1, 1) := by decide +kernel
theorem dX1_readJuror_113 : decode cX1_readJuror 113 = .ok (.iload_n 2, 1) := by decide +kernel
theorem dX1_readJuror_114 : decode cX1_readJuror 114 = .ok (.iconst 3, 1) := by decide +kernel
theorem dX1_readJuror_115 : decode cX1_readJuror 115 = .ok (.iadd, 1) := by decide +kernel
theorem dX1_readJuror_116 : decode cX1_readJuror 116 = .ok (.invokevirtual 41, 3) := by decide +kernel
theorem dX1_readJuror_119 : decode cX1_readJuror 119 = .ok (.iastore, 1) := by decide +kernel
theorem dX1_readJuror_120 : decode cX1_readJuror 120 = .ok (.aload_n 0, 1) := by decide +kernel
theorem dX1_readJuror_121 : decode cX1_readJuror 121 = .ok (.getfield 18, 3) := by decide +kernel
theorem dX1_readJuror_124 : decode cX1_readJuror 124 = .ok (.aload_n 0, 1) := by decide +kernel
theorem dX1_readJuror_125 : decode cX1_readJuror 125 = .ok (.getfield 25, 3) := by decide +kernel
theorem dX1_readJuror_128 : decode cX1_readJuror 128 = .ok (.iconst 0, 1) := by decide +kernel
theorem dX1_readJuror_129 : decode cX1_readJuror 129 = .ok (.iastore, 1) := by decide +kernel
theorem dX1_readJuror_130 : decode cX1_readJuror 130 = .ok (.aload_n 0, 1) := by decide +kernel
theorem dX1_readJuror_131 : decode cX1_readJuror 131 = .ok (.dup, 1) := by decide +kernel
theorem dX1_readJuror_132 : decode cX1_readJuror 132 = .ok (.getfield 25, 3) := by decide +kernel
theorem dX1_readJuror_135 : decode cX1_readJuror 135 = .ok (.iconst 1, 1) := by decide +kernel
theorem dX1_readJuror_136 : decode cX1_readJuror 136 = .ok (.iadd, 1) := by decide +kernel
theorem dX1_readJuror_137 : decode cX1_readJuror 137 = .ok (.putfield 25, 3) := by decide +kernel
theorem dX1_readJuror_140 : decode cX1_readJuror 140 = .ok (.bipush (-9), 2) := by decide +kernel
theorem dX1_readJuror_142 : decode cX1_readJuror 142 = .ok (.ireturn, 1) := by decide +kernel
set_option maxRecDepth 20000 in
theorem ggX1_readPair_X4_letterAt : GoodIn wsX1_readPair wsX4_letterAt := goodIn_r _ [6, 7, 8, 30, 31] (by decide +kernel) (by decide +kernel)
set_option maxRecDepth 20000 in
theorem gX1_readPair_X4_letterAt : GoodIn wsX1_readPair (wsV RX1 31 RX4 yX4_letterAt wsX4_letterAt) := goodIn_app (goodIn_of _ (by decide +kernel)) ggX1_readPair_X4_letterAt
set_option maxRecDepth 20000 in
theorem ggX1_readPair_X1_hasPairLeft : GoodIn wsX1_readPair wsX1_hasPairLeft := goodIn_r _ [13, 14, 15, 16, 17, 12, 18, 1, 24, 25, 26, 27, 28, 29] (by decide +kernel) (by decide +kernel)
set_option maxRecDepth 20000 in
theorem gX1_readPair_X1_hasPairLeft : GoodIn wsX1_readPair (wsV RX1 54 RX1 yX1_hasPairLeft wsX1_hasPairLeft) := goodIn_app (goodIn_of _ (by decide +kernel)) ggX1_readPair_X1_hasPairLeft
set_option maxRecDepth 20000 in
theorem ggX1_readPair_X4_figureAt : GoodIn wsX1_readPair wsX4_figureAt := goodIn_r _ [22, 23, 3, 4, 5, 6, 7, 8, 30, 31] (by decide +kernel) (by decide +kernel)
set_option maxRecDepth 20000 in
theorem gX1_readPair_X4_figureAt : GoodIn wsX1_readPair (wsV RX1 41 RX4 yX4_figureAt wsX4_figureAt) := goodIn_app (goodIn_of _ (by decide +kernel)) ggX1_readPair_X4_figureAt
set_option maxRecDepth 20000 in
theorem ggX1_readPair_X1_pairsLeft : GoodIn wsX1_readPair wsX1_pairsLeft := goodIn_r _ [18, 14, 1, 24, 25, 26, 27, 28, 29] (by decide +kernel) (by decide +kernel)
set_option maxRecDepth 20000 in
theorem gX1_readPair_X1_pairsLeft : GoodIn wsX1_readPair (wsV RX1 58 RX1 yX1_pairsLeft wsX1_pairsLeft) := goodIn_app (goodIn_of _ (by decide +kernel)) ggX1_readPair_X1_pairsLeft
theorem dX1_readPair_0 : decode cX1_readPair 0 = .ok (.aload_n 1, 1) := by decide +kernel
theorem dX1_readPair_1 : decode cX1_readPair 1 = .ok (.iload_n 2, 1) := by decide +kernel
theorem dX1_readPair_2 : decode cX1_readPair 2 = .ok (.invokevirtual 31, 3) := by decide +kernel
theorem dX1_readPair_5 : decode cX1_readPair 5 = .ok (.bipush 72, 2) := by decide +kernel
theorem dX1_readPair_7 : decode cX1_readPair 7 = .ok (.if_icmp .ne 10, 3) := by decide +kernel
theorem dX1_readPair_10 : decode cX1_readPair 10 = .ok (.aload_n 0, 1) := by decide +kernel
theorem dX1_readPair_11 : decode cX1_readPair 11 = .ok (.invokevirtual 54, 3) := by decide +kernel
theorem dX1_readPair_14 : decode cX1_readPair 14 = .ok (.ifCond .ne 5, 3) := by decide +kernel
theorem dX1_readPair_17 : decode cX1_readPair 17 = .ok (.iload_n 2, 1) := by decide +kernel
theorem dX1_readPair_18 : decode cX1_readPair 18 = .ok (.ireturn, 1) := by decide +kernel
theorem dX1_readPair_19 : decode cX1_readPair 19 = .ok (.aload_n 1, 1) := by decide +kernel
theorem dX1_readPair_20 : decode cX1_readPair 20 = .ok (.iload_n 2, 1) := by decide +kernel
theorem dX1_readPair_21 : decode cX1_readPair 21 = .ok (.iconst 1, 1) := by decide +kernel
theorem dX1_readPair_22 : decode cX1_readPair 22 = .ok (.iadd, 1) := by decide +kernel
theorem dX1_readPair_23 : decode cX1_readPair 23 = .ok (.invokevirtual 41, 3) := by decide +kernel
theorem dX1_readPair_26 : decode cX1_readPair 26 = .ok (.istore_n 3, 1) := by decide +kernel
theorem dX1_readPair_27 : decode cX1_readPair 27 = .ok (.aload_n 0, 1) := by decide +kernel
theorem dX1_readPair_28 : decode cX1_readPair 28 = .ok (.iload_n 3, 1) := by decide +kernel
theorem dX1_readPair_29 : decode cX1_readPair 29 = .ok (.invokevirtual 58, 3) := by decide +kernel
theorem dX1_readPair_32 : decode cX1_readPair 32 = .ok (.ifCond .ne 7, 3) := by decide +kernel
theorem dX1_readPair_35 : decode cX1_readPair 35 = .ok (.iload_n 2, 1) := by decide +kernel
theorem dX1_readPair_36 : decode cX1_readPair 36 = .ok (.iconst 1, 1) := by decide +kernel
theorem dX1_readPair_37 : decode cX1_readPair 37 = .ok (.iadd, 1) := by decide +kernel
theorem dX1_readPair_38 : decode cX1_readPair 38 = .ok (.ireturn, 1) := by decide +kernel
theorem dX1_readPair_39 : decode cX1_readPair 39 = .ok (.aload_n 1, 1) := by decide +kernel
theorem dX1_readPair_40 : decode cX1_readPair 40 = .ok (.iload_n 2, 1) := by decide +kernel
theorem dX1_readPair_41 : decode cX1_readPair 41 = .ok (.iconst 2, 1) := by decide +kernel
theorem dX1_readPair_42 : decode cX1_readPair 42 = .ok (.iadd, 1) := by decide +kernel
theorem dX1_readPair_43 : decode cX1_readPair 43 = .ok (.invokevirtual 41, 3) := by decide +kernel
theorem dX1_readPair_46 : decode cX1_readPair 46 = .ok (.istore 4, 2) := by decide +kernel
theorem dX1_readPair_48 : decode cX1_readPair 48 = .ok (.iload 4, 2) := by decide +kernel
theorem dX1_readPair_50 : decode cX1_readPair 50 = .ok (.ifCond .lt 23, 3) := by decide +kernel
theorem dX1_readPair_53 : decode cX1_readPair 53 = .ok (.iload 4, 2) := by decide +kernel
theorem dX1_readPair_55 : decode cX1_readPair 55 = .ok (.bipush 6, 2) := by decide +kernel
theorem dX1_readPair_57 : decode cX1_readPair 57 = .ok (.if_icmp .ge 16, 3) := by decide +kernel
theorem dX1_readPair_60 : decode cX1_readPair 60 = .ok (.aload_n 0, 1) := by decide +kernel
theorem dX1_readPair_61 : decode cX1_readPair 61 = .ok (.iload_n 3, 1) := by decide +kernel
theorem dX1_readPair_62 : decode cX1_readPair 62 = .ok (.invokevirtual 58, 3) := by decide +kernel
theorem dX1_readPair_65 : decode cX1_readPair 65 = .ok (.iload 4, 2) := by decide +kernel
theorem dX1_readPair_67 : decode cX1_readPair 67 = .ok (.ishr, 1) := by decide +kernel
theorem dX1_readPair_68 : decode cX1_readPair 68 = .ok (.iconst 1, 1) := by decide +kernel
theorem dX1_readPair_69 : decode cX1_readPair 69 = .ok (.iand, 1) := by decide +kernel
theorem dX1_readPair_70 : decode cX1_readPair 70 = .ok (.ifCond .ne 7, 3) := by decide +kernel
theorem dX1_readPair_73 : decode cX1_readPair 73 = .ok (.iload_n 2, 1) := by decide +kernel
theorem dX1_readPair_74 : decode cX1_readPair 74 = .ok (.iconst 2, 1) := by decide +kernel
theorem dX1_readPair_75 : decode cX1_readPair 75 = .ok (.iadd, 1) := by decide +kernel
theorem dX1_readPair_76 : decode cX1_readPair 76 = .ok (.ireturn, 1) := by decide +kernel
theorem dX1_readPair_77 : decode cX1_readPair 77 = .ok (.iload_n 3, 1) := by decide +kernel
theorem dX1_readPair_78 : decode cX1_readPair 78 = .ok (.ifCond .lt 22, 3) := by decide +kernel
theorem dX1_readPair_81 : decode cX1_readPair 81 = .ok (.iload_n 3, 1) := by decide +kernel
theorem dX1_readPair_82 : decode cX1_readPair 82 = .ok (.bipush 6, 2) := by decide +kernel
theorem dX1_readPair_84 : decode cX1_readPair 84 = .ok (.if_icmp .ge 16, 3) := by decide +kernel
theorem dX1_readPair_87 : decode cX1_readPair 87 = .ok (.aload_n 0, 1) := by decide +kernel
theorem dX1_readPair_88 : decode cX1_readPair 88 = .ok (.getfield 18, 3) := by decide +kernel
theorem dX1_readPair_91 : decode cX1_readPair 91 = .ok (.iload_n 3, 1) := by decide +kernel
theorem dX1_readPair_92 : decode cX1_readPair 92 = .ok (.dup2, 1) := by decide +kernel
theorem dX1_readPair_93 : decode cX1_readPair 93 = .ok (.iaload, 1) := by decide +kernel
theorem dX1_readPair_94 : decode cX1_readPair 94 = .ok (.iconst 1, 1) := by decide +kernel
theorem dX1_readPair_95 : decode cX1_readPair 95 = .ok (.iload 4, 2) := by decide +kernel
theorem dX1_readPair_97 : decode cX1_readPair 97 = .ok (.ishl, 1) := by decide +kernel
theorem dX1_readPair_98 : decode cX1_readPair 98 = .ok (.ior, 1) := by decide +kernel
theorem dX1_readPair_99 : decode cX1_readPair 99 = .ok (.iastore, 1) := by decide +kernel
theorem dX1_readPair_100 : decode cX1_readPair 100 = .ok (.bipush (-9), 2) := by decide +kernel
theorem dX1_readPair_102 : decode cX1_readPair 102 = .ok (.ireturn, 1) := by decide +kernel
set_option maxRecDepth 20000 in
theorem ggX1_hasPairLeft_X1_pairsLeft : GoodIn wsX1_hasPairLeft wsX1_pairsLeft := goodIn_r _ [6, 1, 7, 8, 9, 10, 11, 12, 13] (by decide +kernel) (by decide +kernel)
set_option maxRecDepth 20000 in
theorem gX1_hasPairLeft_X1_pairsLeft : GoodIn wsX1_hasPairLeft (wsV RX1 58 RX1 yX1_pairsLeft wsX1_pairsLeft) := goodIn_app (goodIn_of _ (by decide +kernel)) ggX1_hasPairLeft_X1_pairsLeft
theorem dX1_hasPairLeft_0 : decode cX1_hasPairLeft 0 = .ok (.iconst 0, 1) := by decide +kernel
theorem dX1_hasPairLeft_1 : decode cX1_hasPairLeft 1 = .ok (.istore_n 1, 1) := by decide +kernel
theorem dX1_hasPairLeft_2 : decode cX1_hasPairLeft 2 = .ok (.iload_n 1, 1) := by decide +kernel
theorem dX1_hasPairLeft_3 : decode cX1_hasPairLeft 3 = .ok (.aload_n 0, 1) := by decide +kernel
theorem dX1_hasPairLeft_4 : decode cX1_hasPairLeft 4 = .ok (.getfield 25, 3) := by decide +kernel
theorem dX1_hasPairLeft_7 : decode cX1_hasPairLeft 7 = .ok (.if_icmp .ge 19, 3) := by decide +kernel
theorem dX1_hasPairLeft_10 : decode cX1_hasPairLeft 10 = .ok (.aload_n 0, 1) := by decide +kernel
theorem dX1_hasPairLeft_11 : decode cX1_hasPairLeft 11 = .ok (.iload_n 1, 1) := by decide +kernel
theorem dX1_hasPairLeft_12 : decode cX1_hasPairLeft 12 = .ok (.invokevirtual 58, 3) := by decide +kernel
theorem dX1_hasPairLeft_15 : decode cX1_hasPairLeft 15 = .ok (.ifCond .eq 5, 3) := by decide +kernel
theorem dX1_hasPairLeft_18 : decode cX1_hasPairLeft 18 = .ok (.iconst 1, 1) := by decide +kernel
theorem dX1_hasPairLeft_19 : decode cX1_hasPairLeft 19 = .ok (.ireturn, 1) := by decide +kernel
theorem dX1_hasPairLeft_20 : decode cX1_hasPairLeft 20 = .ok (.iinc 1 1, 3) := by decide +kernel
theorem dX1_hasPairLeft_23 : decode cX1_hasPairLeft 23 = .ok (.goto (-21), 3) := by decide +kernel
theorem dX1_hasPairLeft_26 : decode cX1_hasPairLeft 26 = .ok (.iconst 0, 1) := by decide +kernel
theorem dX1_hasPairLeft_27 : decode cX1_hasPairLeft 27 = .ok (.ireturn, 1) := by decide +kernel
theorem dX1_pairsLeft_0 : decode cX1_pairsLeft 0 = .ok (.iload_n 1, 1) := by decide +kernel
theorem dX1_pairsLeft_1 : decode cX1_pairsLeft 1 = .ok (.ifCond .lt 17, 3) := by decide +kernel
theorem dX1_pairsLeft_4 : decode cX1_pairsLeft 4 = .ok (.iload_n 1, 1) := by decide +kernel
theorem dX1_pairsLeft_5 : decode cX1_pairsLeft 5 = .ok (.aload_n 0, 1) := by decide +kernel
theorem dX1_pairsLeft_6 : decode cX1_pairsLeft 6 = .ok (.getfield 25, 3) := by decide +kernel
theorem dX1_pairsLeft_9 : decode cX1_pairsLeft 9 = .ok (.if_icmp .ge 9, 3) := by decide +kernel
theorem dX1_pairsLeft_12 : decode cX1_pairsLeft 12 = .ok (.iload_n 1, 1) := by decide +kernel
theorem dX1_pairsLeft_13 : decode cX1_pairsLeft 13 = .ok (.bipush 6, 2) := by decide +kernel
theorem dX1_pairsLeft_15 : decode cX1_pairsLeft 15 = .ok (.if_icmp .lt 5, 3) := by decide +kernel
theorem dX1_pairsLeft_18 : decode cX1_pairsLeft 18 = .ok (.iconst 0, 1) := by decide +kernel
theorem dX1_pairsLeft_19 : decode cX1_pairsLeft 19 = .ok (.ireturn, 1) := by decide +kernel
theorem dX1_pairsLeft_20 : decode cX1_pairsLeft 20 = .ok (.iconst 1, 1) := by decide +kernel
theorem dX1_pairsLeft_21 : decode cX1_pairsLeft 21 = .ok (.aload_n 0, 1) := by decide +kernel
theorem dX1_pairsLeft_22 : decode cX1_pairsLeft 22 = .ok (.getfield 25, 3) := by decide +kernel
theorem dX1_pairsLeft_25 : decode cX1_pairsLeft 25 = .ok (.ishl, 1) := by decide +kernel
theorem dX1_pairsLeft_26 : decode cX1_pairsLeft 26 = .ok (.iconst 1, 1) := by decide +kernel
theorem dX1_pairsLeft_27 : decode cX1_pairsLeft 27 = .ok (.isub, 1) := by decide +kernel
theorem dX1_pairsLeft_28 : decode cX1_pairsLeft 28 = .ok (.iconst 1, 1) := by decide +kernel
theorem dX1_pairsLeft_29 : decode cX1_pairsLeft 29 = .ok (.iload_n 1, 1) := by decide +kernel
theorem dX1_pairsLeft_30 : decode cX1_pairsLeft 30 = .ok (.ishl, 1) := by decide +kernel
theorem dX1_pairsLeft_31 : decode cX1_pairsLeft 31 = .ok (.iconst (-1), 1) := by decide +kernel
theorem dX1_pairsLeft_32 : decode cX1_pairsLeft 32 = .ok (.ixor, 1) := by decide +kernel
theorem dX1_pairsLeft_33 : decode cX1_pairsLeft 33 = .ok (.iand, 1) := by decide +kernel
theorem dX1_pairsLeft_34 : decode cX1_pairsLeft 34 = .ok (.aload_n 0, 1) := by decide +kernel
theorem dX1_pairsLeft_35 : decode cX1_pairsLeft 35 = .ok (.getfield 18, 3) := by decide +kernel
theorem dX1_pairsLeft_38 : decode cX1_pairsLeft 38 = .ok (.iload_n 1, 1) := by decide +kernel
theorem dX1_pairsLeft_39 : decode cX1_pairsLeft 39 = .ok (.iaload, 1) := by decide +kernel
theorem dX1_pairsLeft_40 : decode cX1_pairsLeft 40 = .ok (.iconst (-1), 1) := by decide +kernel
theorem dX1_pairsLeft_41 : decode cX1_pairsLeft 41 = .ok (.ixor, 1) := by decide +kernel
theorem dX1_pairsLeft_42 : decode cX1_pairsLeft 42 = .ok (.iand, 1) := by decide +kernel
theorem dX1_pairsLeft_43 : decode cX1_pairsLeft 43 = .ok (.ireturn, 1) := by decide +kernel
theorem dX2_init_0 : decode cX2_init 0 = .ok (.aload_n 0, 1) := by decide +kernel
theorem dX2_init_1 : decode cX2_init 1 = .ok (.invokespecial 3, 3) := by decide +kernel
theorem dX2_init_4 : decode cX2_init 4 = .ok (.aload_n 0, 1) := by decide +kernel
theorem dX2_init_5 : decode cX2_init 5 = .ok (.bipush 6, 2) := by decide +kernel
theorem dX2_init_7 : decode cX2_init 7 = .ok (.newarray .int, 2) := by decide +kernel
theorem dX2_init_9 : decode cX2_init 9 = .ok (.putfield 9, 3) := by decide +kernel
theorem dX2_init_12 : decode cX2_init 12 = .ok (.aload_n 0, 1) := by decide +kernel
theorem dX2_init_13 : decode cX2_init 13 = .ok (.bipush 6, 2) := by decide +kernel
theorem dX2_init_15 : decode cX2_init 15 = .ok (.newarray .int, 2) := by decide +kernel
theorem dX2_init_17 : decode cX2_init 17 = .ok (.putfield 15, 3) := by decide +kernel
theorem dX2_init_20 : decode cX2_init 20 = .ok (.aload_n 0, 1) := by decide +kernel
theorem dX2_init_21 : decode cX2_init 21 = .ok (.aload_n 1, 1) := by decide +kernel
theorem dX2_init_22 : decode cX2_init 22 = .ok (.putfield 18, 3) := by decide +kernel
theorem dX2_init_25 : decode cX2_init 25 = .ok (.return_, 1) := by decide +kernel
theorem dX2_beginAnew_0 : decode cX2_beginAnew 0 = .ok (.aload_n 0, 1) := by decide +kernel
theorem dX2_beginAnew_1 : decode cX2_beginAnew 1 = .ok (.aload_n 0, 1) := by decide +kernel
theorem dX2_beginAnew_2 : decode cX2_beginAnew 2 = .ok (.getfield 18, 3) := by decide +kernel
theorem dX2_beginAnew_5 : decode cX2_beginAnew 5 = .ok (.getfield 22, 3) := by decide +kernel
theorem dX2_beginAnew_8 : decode cX2_beginAnew 8 = .ok (.putfield 28, 3) := by decide +kernel
theorem dX2_beginAnew_11 : decode cX2_beginAnew 11 = .ok (.aload_n 0, 1) := by decide +kernel
theorem dX2_beginAnew_12 : decode cX2_beginAnew 12 = .ok (.iconst 1, 1) := by decide +kernel
theorem dX2_beginAnew_13 : decode cX2_beginAnew 13 = .ok (.aload_n 0, 1) := by decide +kernel
theorem dX2_beginAnew_14 : decode cX2_beginAnew 14 = .ok (.getfield 18, 3) := by decide +kernel
theorem dX2_beginAnew_17 : decode cX2_beginAnew 17 = .ok (.getfield 29, 3) := by decide +kernel
theorem dX2_beginAnew_20 : decode cX2_beginAnew 20 = .ok (.ishl, 1) := by decide +kernel
theorem dX2_beginAnew_21 : decode cX2_beginAnew 21 = .ok (.iconst 1, 1) := by decide +kernel
theorem dX2_beginAnew_22 : decode cX2_beginAnew 22 = .ok (.isub, 1) := by decide +kernel
theorem dX2_beginAnew_23 : decode cX2_beginAnew 23 = .ok (.putfield 32, 3) := by decide +kernel
theorem dX2_beginAnew_26 : decode cX2_beginAnew 26 = .ok (.aload_n 0, 1) := by decide +kernel
theorem dX2_beginAnew_27 : decode cX2_beginAnew 27 = .ok (.iconst 0, 1) := by decide +kernel
theorem dX2_beginAnew_28 : decode cX2_beginAnew 28 = .ok (.putfield 35, 3) := by decide +kernel
theorem dX2_beginAnew_31 : decode cX2_beginAnew 31 = .ok (.iconst 0, 1) := by decide +kernel
theorem dX2_beginAnew_32 : decode cX2_beginAnew 32 = .ok (.istore_n 1, 1) := by decide +kernel
theorem dX2_beginAnew_33 : decode cX2_beginAnew 33 = .ok (.iload_n 1, 1) := by decide +kernel
theorem dX2_beginAnew_34 : decode cX2_beginAnew 34 = .ok (.bipush 6, 2) := by decide +kernel
theorem dX2_beginAnew_36 : decode cX2_beginAnew 36 = .ok (.if_icmp .ge 31, 3) := by decide +kernel
theorem dX2_beginAnew_39 : decode cX2_beginAnew 39 = .ok (.aload_n 0, 1) := by decide +kernel
theorem dX2_beginAnew_40 : decode cX2_beginAnew 40 = .ok (.getfield 9, 3) := by decide +kernel
theorem dX2_beginAnew_43 : decode cX2_beginAnew 43 = .ok (.iload_n 1, 1) := by decide +kernel
theorem dX2_beginAnew_44 : decode cX2_beginAnew 44 = .ok (.aload_n 0, 1) := by decide +kernel
theorem dX2_beginAnew_45 : decode cX2_beginAnew 45 = .ok (.getfield 18, 3) := by decide +kernel
theorem dX2_beginAnew_48 : decode cX2_beginAnew 48 = .ok (.getfield 38, 3) := by decide +kernel
theorem dX2_beginAnew_51 : decode cX2_beginAnew 51 = .ok (.iload_n 1, 1) := by decide +kernel
theorem dX2_beginAnew_52 : decode cX2_beginAnew 52 = .ok (.iaload, 1) := by decide +kernel
theorem dX2_beginAnew_53 : decode cX2_beginAnew 53 = .ok (.iastore, 1) := by decide +kernel
theorem dX2_beginAnew_54 : decode cX2_beginAnew 54 = .ok (.aload_n 0, 1) := by decide +kernel
theorem dX2_beginAnew_55 : decode cX2_beginAnew 55 = .ok (.getfield 15, 3) := by decide +kernel
theorem dX2_beginAnew_58 : decode cX2_beginAnew 58 = .ok (.iload_n 1, 1) := by decide +kernel
theorem dX2_beginAnew_59 : decode cX2_beginAnew 59 = .ok (.iconst 0, 1) := by decide +kernel
theorem dX2_beginAnew_60 : decode cX2_beginAnew 60 = .ok (.iastore, 1) := by decide +kernel
theorem dX2_beginAnew_61 : decode cX2_beginAnew 61 = .ok (.iinc 1 1, 3) := by decide +kernel
theorem dX2_beginAnew_64 : decode cX2_beginAnew 64 = .ok (.goto (-31), 3) := by decide +kernel
theorem dX2_beginAnew_67 : decode cX2_beginAnew 67 = .ok (.return_, 1) := by decide +kernel
theorem dX2_copyFrom_0 : decode cX2_copyFrom 0 = .ok (.aload_n 0, 1) := by decide +kernel
theorem dX2_copyFrom_1 : decode cX2_copyFrom 1 = .ok (.aload_n 1, 1) := by decide +kernel
theorem dX2_copyFrom_2 : decode cX2_copyFrom 2 = .ok (.getfield 28, 3) := by decide +kernel
theorem dX2_copyFrom_5 : decode cX2_copyFrom 5 = .ok (.putfield 28, 3) := by decide +kernel
theorem dX2_copyFrom_8 : decode cX2_copyFrom 8 = .ok (.aload_n 0, 1) := by decide +kernel
theorem dX2_copyFrom_9 : decode cX2_copyFrom 9 = .ok (.aload_n 1, 1) := by decide +kernel
theorem dX2_copyFrom_10 : decode cX2_copyFrom 10 = .ok (.getfield 32, 3) := by decide +kernel
theorem dX2_copyFrom_13 : decode cX2_copyFrom 13 = .ok (.putfield 32, 3) := by decide +kernel
theorem dX2_copyFrom_16 : decode cX2_copyFrom 16 = .ok (.aload_n 0, 1) := by decide +kernel
theorem dX2_copyFrom_17 : decode cX2_copyFrom 17 = .ok (.aload_n 1, 1) := by decide +kernel
theorem dX2_copyFrom_18 : decode cX2_copyFrom 18 = .ok (.getfield 35, 3) := by decide +kernel
theorem dX2_copyFrom_21 : decode cX2_copyFrom 21 = .ok (.putfield 35, 3) := by decide +kernel
theorem dX2_copyFrom_24 : decode cX2_copyFrom 24 = .ok (.iconst 0, 1) := by decide +kernel
theorem dX2_copyFrom_25 : decode cX2_copyFrom 25 = .ok (.istore_n 2, 1) := by decide +kernel
theorem dX2_copyFrom_26 : decode cX2_copyFrom 26 = .ok (.iload_n 2, 1) := by decide +kernel
theorem dX2_copyFrom_27 : decode cX2_copyFrom 27 = .ok (.bipush 6, 2) := by decide +kernel
theorem dX2_copyFrom_29 : decode cX2_copyFrom 29 = .ok (.if_icmp .ge 33, 3) := by decide +kernel
theorem dX2_copyFrom_32 : decode cX2_copyFrom 32 = .ok (.aload_n 0, 1) := by decide +kernel
theorem dX2_copyFrom_33 : decode cX2_copyFrom 33 = .ok (.getfield 9, 3) := by decide +kernel
theorem dX2_copyFrom_36 : decode cX2_copyFrom 36 = .ok (.iload_n 2, 1) := by decide +kernel
theorem dX2_copyFrom_37 : decode cX2_copyFrom 37 = .ok (.aload_n 1, 1) := by decide +kernel
theorem dX2_copyFrom_38 : decode cX2_copyFrom 38 = .ok (.getfield 9, 3) := by decide +kernel
theorem dX2_copyFrom_41 : decode cX2_copyFrom 41 = .ok (.iload_n 2, 1) := by decide +kernel
theorem dX2_copyFrom_42 : decode cX2_copyFrom 42 = .ok (.iaload, 1) := by decide +kernel
theorem dX2_copyFrom_43 : decode cX2_copyFrom 43 = .ok (.iastore, 1) := by decide +kernel
theorem dX2_copyFrom_44 : decode cX2_copyFrom 44 = .ok (.aload_n 0, 1) := by decide +kernel
theorem dX2_copyFrom_45 : decode cX2_copyFrom 45 = .ok (.getfield 15, 3) := by decide +kernel
theorem dX2_copyFrom_48 : decode cX2_copyFrom 48 = .ok (.iload_n 2, 1) := by decide +kernel
theorem dX2_copyFrom_49 : decode cX2_copyFrom 49 = .ok (.aload_n 1, 1) := by decide +kernel
theorem dX2_copyFrom_50 : decode cX2_copyFrom 50 = .ok (.getfield 15, 3) := by decide +kernel
theorem dX2_copyFrom_53 : decode cX2_copyFrom 53 = .ok (.iload_n 2, 1) := by decide +kernel
theorem dX2_copyFrom_54 : decode cX2_copyFrom 54 = .ok (.iaload, 1) := by decide +kernel
theorem dX2_copyFrom_55 : decode cX2_copyFrom 55 = .ok (.iastore, 1) := by decide +kernel
theorem dX2_copyFrom_56 : decode cX2_copyFrom 56 = .ok (.iinc 2 1, 3) := by decide +kernel
theorem dX2_copyFrom_59 : decode cX2_copyFrom 59 = .ok (.goto (-33), 3) := by decide +kernel
theorem dX2_copyFrom_62 : decode cX2_copyFrom 62 = .ok (.return_, 1) := by decide +kernel
theorem dX2_isThere_0 : decode cX2_isThere 0 = .ok (.iload_n 1, 1) := by decide +kernel
theorem dX2_isThere_1 : decode cX2_isThere 1 = .ok (.ifCond .lt 25, 3) := by decide +kernel
theorem dX2_isThere_4 : decode cX2_isThere 4 = .ok (.iload_n 1, 1) := by decide +kernel
theorem dX2_isThere_5 : decode cX2_isThere 5 = .ok (.bipush 6, 2) := by decide +kernel
theorem dX2_isThere_7 : decode cX2_isThere 7 = .ok (.if_icmp .ge 19, 3) := by decide +kernel
theorem dX2_isThere_10 : decode cX2_isThere 10 = .ok (.aload_n 0, 1) := by decide +kernel
theorem dX2_isThere_11 : decode cX2_isThere 11 = .ok (.getfield 32, 3) := by decide +kernel
theorem dX2_isThere_14 : decode cX2_isThere 14 = .ok (.iload_n 1, 1) := by decide +kernel
theorem dX2_isThere_15 : decode cX2_isThere 15 = .ok (.ishr, 1) := by decide +kernel
theorem dX2_isThere_16 : decode cX2_isThere 16 = .ok (.iconst 1, 1) := by decide +kernel
theorem dX2_isThere_17 : decode cX2_isThere 17 = .ok (.iand, 1) := by decide +kernel
theorem dX2_isThere_18 : decode cX2_isThere 18 = .ok (.iconst 1, 1) := by decide +kernel
theorem dX2_isThere_19 : decode cX2_isThere 19 = .ok (.if_icmp .ne 7, 3) := by decide +kernel
theorem dX2_isThere_22 : decode cX2_isThere 22 = .ok (.iconst 1, 1) := by decide +kernel
theorem dX2_isThere_23 : decode cX2_isThere 23 = .ok (.goto 4, 3) := by decide +kernel
theorem dX2_isThere_26 : decode cX2_isThere 26 = .ok (.iconst 0, 1) := by decide +kernel
theorem dX2_isThere_27 : decode cX2_isThere 27 = .ok (.ireturn, 1) := by decide +kernel
theorem dX2_isYes_0 : decode cX2_isYes 0 = .ok (.iload_n 1, 1) := by decide +kernel
theorem dX2_isYes_1 : decode cX2_isYes 1 = .ok (.ifCond .lt 25, 3) := by decide +kernel
theorem dX2_isYes_4 : decode cX2_isYes 4 = .ok (.iload_n 1, 1) := by decide +kernel
theorem dX2_isYes_5 : decode cX2_isYes 5 = .ok (.bipush 6, 2) := by decide +kernel
theorem dX2_isYes_7 : decode cX2_isYes 7 = .ok (.if_icmp .ge 19, 3) := by decide +kernel
theorem dX2_isYes_10 : decode cX2_isYes 10 = .ok (.aload_n 0, 1) := by decide +kernel
theorem dX2_isYes_11 : decode cX2_isYes 11 = .ok (.getfield 28, 3) := by decide +kernel
theorem dX2_isYes_14 : decode cX2_isYes 14 = .ok (.iload_n 1, 1) := by decide +kernel
theorem dX2_isYes_15 : decode cX2_isYes 15 = .ok (.ishr, 1) := by decide +kernel
theorem dX2_isYes_16 : decode cX2_isYes 16 = .ok (.iconst 1, 1) := by decide +kernel
theorem dX2_isYes_17 : decode cX2_isYes 17 = .ok (.iand, 1) := by decide +kernel
theorem dX2_isYes_18 : decode cX2_isYes 18 = .ok (.iconst 1, 1) := by decide +kernel
theorem dX2_isYes_19 : decode cX2_isYes 19 = .ok (.if_icmp .ne 7, 3) := by decide +kernel
theorem dX2_isYes_22 : decode cX2_isYes 22 = .ok (.iconst 1, 1) := by decide +kernel
theorem dX2_isYes_23 : decode cX2_isYes 23 = .ok (.goto 4, 3) := by decide +kernel
theorem dX2_isYes_26 : decode cX2_isYes 26 = .ok (.iconst 0, 1) := by decide +kernel
theorem dX2_isYes_27 : decode cX2_isYes 27 = .ok (.ireturn, 1) := by decide +kernel
theorem dX2_yesThere_0 : decode cX2_yesThere 0 = .ok (.aload_n 0, 1) := by decide +kernel
theorem dX2_yesThere_1 : decode cX2_yesThere 1 = .ok (.getfield 28, 3) := by decide +kernel
theorem dX2_yesThere_4 : decode cX2_yesThere 4 = .ok (.aload_n 0, 1) := by decide +kernel
theorem dX2_yesThere_5 : decode cX2_yesThere 5 = .ok (.getfield 32, 3) := by decide +kernel
theorem dX2_yesThere_8 : decode cX2_yesThere 8 = .ok (.iand, 1) := by decide +kernel
theorem dX2_yesThere_9 : decode cX2_yesThere 9 = .ok (.ireturn, 1) := by decide +kernel
set_option maxRecDepth 20000 in
theorem ggX2_verdict_J6_bitCount_0f7a4 : GoodIn wsX2_verdict wsJ6_bitCount_0f7a4 := goodIn_r _ [6, 7, 8, 9] (by decide +kernel) (by decide +kernel)
set_option maxRecDepth 20000 in
theorem gX2_verdict_J6_bitCount_0f7a4 : GoodIn wsX2_verdict (va_wsS RX2 39 yJ6_bitCount_0f7a4 wsJ6_bitCount_0f7a4) := goodIn_app (goodIn_of _ (by decide +kernel)) ggX2_verdict_J6_bitCount_0f7a4
set_option maxRecDepth 20000 in
theorem ggX2_verdict_X2_carries : GoodIn wsX2_verdict wsX2_carries := goodIn_r _ [14, 15, 16, 17, 18, 19, 20, 21, 22, 23, 24, 25, 26, 27, 28] (by decide +kernel) (by decide +kernel)
set_option maxRecDepth 20000 in
theorem gX2_verdict_X2_carries : GoodIn wsX2_verdict (wsV RX2 45 RX2 yX2_carries wsX2_carries) := goodIn_app (goodIn_of _ (by decide +kernel)) ggX2_verdict_X2_carries
theorem dX2_verdict_0 : decode cX2_verdict 0 = .ok (.aload_n 0, 1) := by decide +kernel
theorem dX2_verdict_1 : decode cX2_verdict 1 = .ok (.getfield 32, 3) := by decide +kernel
theorem dX2_verdict_4 : decode cX2_verdict 4 = .ok (.aload_n 0, 1) := by decide +kernel
theorem dX2_verdict_5 : decode cX2_verdict 5 = .ok (.getfield 28, 3) := by decide +kernel
theorem dX2_verdict_8 : decode cX2_verdict 8 = .ok (.iand, 1) := by decide +kernel
theorem dX2_verdict_9 : decode cX2_verdict 9 = .ok (.invokestatic 39, 3) := by decide +kernel
theorem dX2_verdict_12 : decode cX2_verdict 12 = .ok (.istore_n 1, 1) := by decide +kernel
theorem dX2_verdict_13 : decode cX2_verdict 13 = .ok (.aload_n 0, 1) := by decide +kernel
theorem dX2_verdict_14 : decode cX2_verdict 14 = .ok (.getfield 32, 3) := by decide +kernel
theorem dX2_verdict_17 : decode cX2_verdict 17 = .ok (.aload_n 0, 1) := by decide +kernel
theorem dX2_verdict_18 : decode cX2_verdict 18 = .ok (.getfield 28, 3) := by decide +kernel
theorem dX2_verdict_21 : decode cX2_verdict 21 = .ok (.iconst (-1), 1) := by decide +kernel
theorem dX2_verdict_22 : decode cX2_verdict 22 = .ok (.ixor, 1) := by decide +kernel
theorem dX2_verdict_23 : decode cX2_verdict 23 = .ok (.iand, 1) := by decide +kernel
theorem dX2_verdict_24 : decode cX2_verdict 24 = .ok (.invokestatic 39, 3) := by decide +kernel
theorem dX2_verdict_27 : decode cX2_verdict 27 = .ok (.istore_n 2, 1) := by decide +kernel
theorem dX2_verdict_28 : decode cX2_verdict 28 = .ok (.aload_n 0, 1) := by decide +kernel
theorem dX2_verdict_29 : decode cX2_verdict 29 = .ok (.iload_n 1, 1) := by decide +kernel
theorem dX2_verdict_30 : decode cX2_verdict 30 = .ok (.iload_n 2, 1) := by decide +kernel
theorem dX2_verdict_31 : decode cX2_verdict 31 = .ok (.invokevirtual 45, 3) := by decide +kernel
theorem dX2_verdict_34 : decode cX2_verdict 34 = .ok (.ifCond .eq 5, 3) := by decide +kernel
theorem dX2_verdict_37 : decode cX2_verdict 37 = .ok (.iconst 1, 1) := by decide +kernel
theorem dX2_verdict_38 : decode cX2_verdict 38 = .ok (.ireturn, 1) := by decide +kernel
theorem dX2_verdict_39 : decode cX2_verdict 39 = .ok (.aload_n 0, 1) := by decide +kernel
theorem dX2_verdict_40 : decode cX2_verdict 40 = .ok (.iload_n 2, 1) := by decide +kernel
theorem dX2_verdict_41 : decode cX2_verdict 41 = .ok (.iload_n 1, 1) := by decide +kernel
theorem dX2_verdict_42 : decode cX2_verdict 42 = .ok (.invokevirtual 45, 3) := by decide +kernel
theorem dX2_verdict_45 : decode cX2_verdict 45 = .ok (.ifCond .eq 7, 3) := by decide +kernel
theorem dX2_verdict_48 : decode cX2_verdict 48 = .ok (.iconst 0, 1) := by decide +kernel
theorem dX2_verdict_49 : decode cX2_verdict 49 = .ok (.goto 5, 3) := by decide +kernel
theorem dX2_verdict_52 : decode cX2_verdict 52 = .ok (.bipush 9, 2) := by decide +kernel
theorem dX2_verdict_54 : decode cX2_verdict 54 = .ok (.ireturn, 1) := by decide +kernel
theorem dX2_carries_0 : decode cX2_carries 0 = .ok (.iload_n 1, 1) := by decide +kernel
theorem dX2_carries_1 : decode cX2_carries 1 = .ok (.iload_n 2, 1) := by decide +kernel
theorem dX2_carries_2 : decode cX2_carries 2 = .ok (.if_icmp .le 22, 3) := by decide +kernel
theorem dX2_carries_5 : decode cX2_carries 5 = .ok (.iload_n 2, 1) := by decide +kernel
theorem dX2_carries_6 : decode cX2_carries 6 = .ok (.ifCond .eq 14, 3) := by decide +kernel
theorem dX2_carries_9 : decode cX2_carries 9 = .ok (.iload_n 1, 1) := by decide +kernel
theorem dX2_carries_10 : decode cX2_carries 10 = .ok (.aload_n 0, 1) := by decide +kernel
theorem dX2_carries_11 : decode cX2_carries 11 = .ok (.getfield 18, 3) := by decide +kernel
theorem dX2_carries_14 : decode cX2_carries 14 = .ok (.getfield 49, 3) := by decide +kernel
theorem dX2_carries_17 : decode cX2_carries 17 = .ok (.if_icmp .lt 7, 3) := by decide +kernel
theorem dX2_carries_20 : decode cX2_carries 20 = .ok (.iconst 1, 1) := by decide +kernel
theorem dX2_carries_21 : decode cX2_carries 21 = .ok (.goto 4, 3) := by decide +kernel
theorem dX2_carries_24 : decode cX2_carries 24 = .ok (.iconst 0, 1) := by decide +kernel
theorem dX2_carries_25 : decode cX2_carries 25 = .ok (.ireturn, 1) := by decide +kernel
set_option maxRecDepth 20000 in
theorem ggX2_passHour_X2_verdict : GoodIn wsX2_passHour wsX2_verdict := goodIn_r _ [7, 8, 2, 9, 10, 11, 12, 13, 14, 15, 16, 17, 18, 6, 19, 20, 21, 50, 51, 52, 53, 54, 55, 56, 57, 58, 59, 60, 61] (by decide +kernel) (by decide +kernel)
set_option maxRecDepth 20000 in
theorem gX2_passHour_X2_verdict : GoodIn wsX2_passHour (wsV RX2 52 RX2 yX2_verdict wsX2_verdict) := goodIn_app (goodIn_of _ (by decide +kernel)) ggX2_passHour_X2_verdict
set_option maxRecDepth 20000 in
theorem ggX2_passHour_X2_growHungry : GoodIn wsX2_passHour wsX2_growHungry := goodIn_r _ [25, 26, 20, 27, 28, 29, 30, 31, 32, 33, 34, 6, 35, 8, 36, 37, 38, 39, 1, 50, 51, 52, 53, 54, 55, 56, 57, 58, 59, 60, 61] (by decide +kernel) (by decide +kernel)
set_option maxRecDepth 20000 in
theorem gX2_passHour_X2_growHungry : GoodIn wsX2_passHour (wsV RX2 56 RX2 yX2_growHungry wsX2_growHungry) := goodIn_app (goodIn_of _ (by decide +kernel)) ggX2_passHour_X2_growHungry
set_option maxRecDepth 20000 in
theorem ggX2_passHour_X2_isThere : GoodIn wsX2_passHour wsX2_isThere := goodIn_r _ [35, 8, 50, 51, 52, 53, 54, 55] (by decide +kernel) (by decide +kernel)
set_option maxRecDepth 20000 in
theorem gX2_passHour_X2_isThere : GoodIn wsX2_passHour (wsV RX2 59 RX2 yX2_isThere wsX2_isThere) := goodIn_app (goodIn_of _ (by decide +kernel)) ggX2_passHour_X2_isThere
set_option maxRecDepth 20000 in
theorem ggX2_passHour_X2_mustGiveIn : GoodIn wsX2_passHour wsX2_mustGiveIn := goodIn_r _ [43, 8, 2, 26, 20, 27, 44, 45, 46, 47, 48, 6, 49, 9, 10, 11, 12, 13, 14, 15, 50, 51, 52, 53, 54, 55, 56, 57, 58, 59, 60, 61] (by decide +kernel) (by decide +kernel)
set_option maxRecDepth 20000 in
theorem gX2_passHour_X2_mustGiveIn : GoodIn wsX2_passHour (wsV RX2 63 RX2 yX2_mustGiveIn wsX2_mustGiveIn) := goodIn_app (goodIn_of _ (by decide +kernel)) ggX2_passHour_X2_mustGiveIn
theorem dX2_passHour_0 : decode cX2_passHour 0 = .ok (.aload_n 0, 1) := by decide +kernel
theorem dX2_passHour_1 : decode cX2_passHour 1 = .ok (.invokevirtual 52, 3) := by decide +kernel
theorem dX2_passHour_4 : decode cX2_passHour 4 = .ok (.bipush 9, 2) := by decide +kernel
theorem dX2_passHour_6 : decode cX2_passHour 6 = .ok (.if_icmp .eq 7, 3) := by decide +kernel
theorem dX2_passHour_9 : decode cX2_passHour 9 = .ok (.iconst 1, 1) := by decide +kernel
theorem dX2_passHour_10 : decode cX2_passHour 10 = .ok (.goto 4, 3) := by decide +kernel
theorem dX2_passHour_13 : decode cX2_passHour 13 = .ok (.iconst 0, 1) := by decide +kernel
theorem dX2_passHour_14 : decode cX2_passHour 14 = .ok (.istore_n 1, 1) := by decide +kernel
theorem dX2_passHour_15 : decode cX2_passHour 15 = .ok (.aload_n 0, 1) := by decide +kernel
theorem dX2_passHour_16 : decode cX2_passHour 16 = .ok (.dup, 1) := by decide +kernel
theorem dX2_passHour_17 : decode cX2_passHour 17 = .ok (.getfield 35, 3) := by decide +kernel
theorem dX2_passHour_20 : decode cX2_passHour 20 = .ok (.iconst 1, 1) := by decide +kernel
theorem dX2_passHour_21 : decode cX2_passHour 21 = .ok (.iadd, 1) := by decide +kernel
theorem dX2_passHour_22 : decode cX2_passHour 22 = .ok (.putfield 35, 3) := by decide +kernel
theorem dX2_passHour_25 : decode cX2_passHour 25 = .ok (.iload_n 1, 1) := by decide +kernel
theorem dX2_passHour_26 : decode cX2_passHour 26 = .ok (.ifCond .eq 5, 3) := by decide +kernel
theorem dX2_passHour_29 : decode cX2_passHour 29 = .ok (.iconst 0, 1) := by decide +kernel
theorem dX2_passHour_30 : decode cX2_passHour 30 = .ok (.ireturn, 1) := by decide +kernel
theorem dX2_passHour_31 : decode cX2_passHour 31 = .ok (.aload_n 0, 1) := by decide +kernel
theorem dX2_passHour_32 : decode cX2_passHour 32 = .ok (.invokevirtual 56, 3) := by decide +kernel
theorem dX2_passHour_35 : decode cX2_passHour 35 = .ok (.iconst 0, 1) := by decide +kernel
theorem dX2_passHour_36 : decode cX2_passHour 36 = .ok (.istore_n 2, 1) := by decide +kernel
theorem dX2_passHour_37 : decode cX2_passHour 37 = .ok (.iconst 0, 1) := by decide +kernel
theorem dX2_passHour_38 : decode cX2_passHour 38 = .ok (.istore_n 3, 1) := by decide +kernel
theorem dX2_passHour_39 : decode cX2_passHour 39 = .ok (.iload_n 3, 1) := by decide +kernel
theorem dX2_passHour_40 : decode cX2_passHour 40 = .ok (.bipush 6, 2) := by decide +kernel
theorem dX2_passHour_42 : decode cX2_passHour 42 = .ok (.if_icmp .ge 43, 3) := by decide +kernel
theorem dX2_passHour_45 : decode cX2_passHour 45 = .ok (.aload_n 0, 1) := by decide +kernel
theorem dX2_passHour_46 : decode cX2_passHour 46 = .ok (.iload_n 3, 1) := by decide +kernel
theorem dX2_passHour_47 : decode cX2_passHour 47 = .ok (.invokevirtual 59, 3) := by decide +kernel
theorem dX2_passHour_50 : decode cX2_passHour 50 = .ok (.ifCond .eq 29, 3) := by decide +kernel
theorem dX2_passHour_53 : decode cX2_passHour 53 = .ok (.aload_n 0, 1) := by decide +kernel
theorem dX2_passHour_54 : decode cX2_passHour 54 = .ok (.iload_n 3, 1) := by decide +kernel
theorem dX2_passHour_55 : decode cX2_passHour 55 = .ok (.invokevirtual 63, 3) := by decide +kernel
theorem dX2_passHour_58 : decode cX2_passHour 58 = .ok (.ifCond .eq 21, 3) := by decide +kernel
theorem dX2_passHour_61 : decode cX2_passHour 61 = .ok (.aload_n 0, 1) := by decide +kernel
theorem dX2_passHour_62 : decode cX2_passHour 62 = .ok (.dup, 1) := by decide +kernel
theorem dX2_passHour_63 : decode cX2_passHour 63 = .ok (.getfield 28, 3) := by decide +kernel
theorem dX2_passHour_66 : decode cX2_passHour 66 = .ok (.iconst 1, 1) := by decide +kernel
theorem dX2_passHour_67 : decode cX2_passHour 67 = .ok (.iload_n 3, 1) := by decide +kernel
theorem dX2_passHour_68 : decode cX2_passHour 68 = .ok (.ishl, 1) := by decide +kernel
theorem dX2_passHour_69 : decode cX2_passHour 69 = .ok (.ixor, 1) := by decide +kernel
theorem dX2_passHour_70 : decode cX2_passHour 70 = .ok (.putfield 28, 3) := by decide +kernel
theorem dX2_passHour_73 : decode cX2_passHour 73 = .ok (.iload_n 2, 1) := by decide +kernel
theorem dX2_passHour_74 : decode cX2_passHour 74 = .ok (.iconst 1, 1) := by decide +kernel
theorem dX2_passHour_75 : decode cX2_passHour 75 = .ok (.iload_n 3, 1) := by decide +kernel
theorem dX2_passHour_76 : decode cX2_passHour 76 = .ok (.ishl, 1) := by decide +kernel
theorem dX2_passHour_77 : decode cX2_passHour 77 = .ok (.ior, 1) := by decide +kernel
theorem dX2_passHour_78 : decode cX2_passHour 78 = .ok (.istore_n 2, 1) := by decide +kernel
theorem dX2_passHour_79 : decode cX2_passHour 79 = .ok (.iinc 3 1, 3) := by decide +kernel
theorem dX2_passHour_82 : decode cX2_passHour 82 = .ok (.goto (-43), 3) := by decide +kernel
theorem dX2_passHour_85 : decode cX2_passHour 85 = .ok (.iload_n 2, 1) := by decide +kernel
theorem dX2_passHour_86 : decode cX2_passHour 86 = .ok (.ireturn, 1) := by decide +kernel
set_option maxRecDepth 20000 in
theorem ggX2_growHungry_X2_isThere : GoodIn wsX2_growHungry wsX2_isThere := goodIn_r _ [12, 13, 19, 20, 21, 22, 23, 24] (by decide +kernel) (by decide +kernel)
set_option maxRecDepth 20000 in
theorem gX2_growHungry_X2_isThere : GoodIn wsX2_growHungry (wsV RX2 59 RX2 yX2_isThere wsX2_isThere) := goodIn_app (goodIn_of _ (by decide +kernel)) ggX2_growHungry_X2_isThere
set_option maxRecDepth 20000 in
theorem ggX2_growHungry_X2_hungerOfHour : GoodIn wsX2_growHungry wsX2_hungerOfHour := goodIn_r _ [17, 18, 19, 20, 21, 22, 23, 24] (by decide +kernel) (by decide +kernel)
set_option maxRecDepth 20000 in
theorem gX2_growHungry_X2_hungerOfHour : GoodIn wsX2_growHungry (wsV RX2 69 RX2 yX2_hungerOfHour wsX2_hungerOfHour) := goodIn_app (goodIn_of _ (by decide +kernel)) ggX2_growHungry_X2_hungerOfHour
theorem dX2_growHungry_0 : decode cX2_growHungry 0 = .ok (.iconst 0, 1) := by decide +kernel
theorem dX2_growHungry_1 : decode cX2_growHungry 1 = .ok (.istore_n 1, 1) := by decide +kernel
theorem dX2_growHungry_2 : decode cX2_growHungry 2 = .ok (.iload_n 1, 1) := by decide +kernel
theorem dX2_growHungry_3 : decode cX2_growHungry 3 = .ok (.bipush 6, 2) := by decide +kernel
theorem dX2_growHungry_5 : decode cX2_growHungry 5 = .ok (.if_icmp .ge 48, 3) := by decide +kernel
theorem dX2_growHungry_8 : decode cX2_growHungry 8 = .ok (.aload_n 0, 1) := by decide +kernel
theorem dX2_growHungry_9 : decode cX2_growHungry 9 = .ok (.iload_n 1, 1) := by decide +kernel
theorem dX2_growHungry_10 : decode cX2_growHungry 10 = .ok (.invokevirtual 59, 3) := by decide +kernel
theorem dX2_growHungry_13 : decode cX2_growHungry 13 = .ok (.ifCond .eq 34, 3) := by decide +kernel
theorem dX2_growHungry_16 : decode cX2_growHungry 16 = .ok (.aload_n 0, 1) := by decide +kernel
theorem dX2_growHungry_17 : decode cX2_growHungry 17 = .ok (.getfield 15, 3) := by decide +kernel
theorem dX2_growHungry_20 : decode cX2_growHungry 20 = .ok (.iload_n 1, 1) := by decide +kernel
theorem dX2_growHungry_21 : decode cX2_growHungry 21 = .ok (.bipush 20, 2) := by decide +kernel
theorem dX2_growHungry_23 : decode cX2_growHungry 23 = .ok (.aload_n 0, 1) := by decide +kernel
theorem dX2_growHungry_24 : decode cX2_growHungry 24 = .ok (.getfield 15, 3) := by decide +kernel
theorem dX2_growHungry_27 : decode cX2_growHungry 27 = .ok (.iload_n 1, 1) := by decide +kernel
theorem dX2_growHungry_28 : decode cX2_growHungry 28 = .ok (.iaload, 1) := by decide +kernel
theorem dX2_growHungry_29 : decode cX2_growHungry 29 = .ok (.aload_n 0, 1) := by decide +kernel
theorem dX2_growHungry_30 : decode cX2_growHungry 30 = .ok (.aload_n 0, 1) := by decide +kernel
theorem dX2_growHungry_31 : decode cX2_growHungry 31 = .ok (.getfield 18, 3) := by decide +kernel
theorem dX2_growHungry_34 : decode cX2_growHungry 34 = .ok (.getfield 66, 3) := by decide +kernel
theorem dX2_growHungry_37 : decode cX2_growHungry 37 = .ok (.iload_n 1, 1) := by decide +kernel
theorem dX2_growHungry_38 : decode cX2_growHungry 38 = .ok (.iaload, 1) := by decide +kernel
theorem dX2_growHungry_39 : decode cX2_growHungry 39 = .ok (.invokevirtual 69, 3) := by decide +kernel
theorem dX2_growHungry_42 : decode cX2_growHungry 42 = .ok (.iadd, 1) := by decide +kernel
theorem dX2_growHungry_43 : decode cX2_growHungry 43 = .ok (.invokestatic 72, 3) := by decide +kernel
theorem dX2_growHungry_46 : decode cX2_growHungry 46 = .ok (.iastore, 1) := by decide +kernel
theorem dX2_growHungry_47 : decode cX2_growHungry 47 = .ok (.iinc 1 1, 3) := by decide +kernel
theorem dX2_growHungry_50 : decode cX2_growHungry 50 = .ok (.goto (-48), 3) := by decide +kernel
theorem dX2_growHungry_53 : decode cX2_growHungry 53 = .ok (.return_, 1) := by decide +kernel
theorem dX2_hungerOfHour_0 : decode cX2_hungerOfHour 0 = .ok (.iload_n 1, 1) := by decide +kernel
theorem dX2_hungerOfHour_1 : decode cX2_hungerOfHour 1 = .ok (.iconst 2, 1) := by decide +kernel
theorem dX2_hungerOfHour_2 : decode cX2_hungerOfHour 2 = .ok (.if_icmp .ne 18, 3) := by decide +kernel
theorem dX2_hungerOfHour_5 : decode cX2_hungerOfHour 5 = .ok (.aload_n 0, 1) := by decide +kernel
theorem dX2_hungerOfHour_6 : decode cX2_hungerOfHour 6 = .ok (.getfield 35, 3) := by decide +kernel
theorem dX2_hungerOfHour_9 : decode cX2_hungerOfHour 9 = .ok (.iconst 1, 1) := by decide +kernel
theorem dX2_hungerOfHour_10 : decode cX2_hungerOfHour 10 = .ok (.iand, 1) := by decide +kernel
theorem dX2_hungerOfHour_11 : decode cX2_hungerOfHour 11 = .ok (.ifCond .ne 7, 3) := by decide +kernel
theorem dX2_hungerOfHour_14 : decode cX2_hungerOfHour 14 = .ok (.iconst 1, 1) := by decide +kernel
theorem dX2_hungerOfHour_15 : decode cX2_hungerOfHour 15 = .ok (.goto 4, 3) := by decide +kernel
theorem dX2_hungerOfHour_18 : decode cX2_hungerOfHour 18 = .ok (.iconst 0, 1) := by decide +kernel
theorem dX2_hungerOfHour_19 : decode cX2_hungerOfHour 19 = .ok (.ireturn, 1) := by decide +kernel
theorem dX2_hungerOfHour_20 : decode cX2_hungerOfHour 20 = .ok (.iload_n 1, 1) := by decide +kernel
theorem dX2_hungerOfHour_21 : decode cX2_hungerOfHour 21 = .ok (.iconst 1, 1) := by decide +kernel
theorem dX2_hungerOfHour_22 : decode cX2_hungerOfHour 22 = .ok (.if_icmp .ne 7, 3) := by decide +kernel
theorem dX2_hungerOfHour_25 : decode cX2_hungerOfHour 25 = .ok (.iconst 2, 1) := by decide +kernel
theorem dX2_hungerOfHour_26 : decode cX2_hungerOfHour 26 = .ok (.goto 4, 3) := by decide +kernel
theorem dX2_hungerOfHour_29 : decode cX2_hungerOfHour 29 = .ok (.iconst 1, 1) := by decide +kernel
theorem dX2_hungerOfHour_30 : decode cX2_hungerOfHour 30 = .ok (.ireturn, 1) := by decide +kernel
set_option maxRecDepth 20000 in
theorem ggX2_mustGiveIn_X2_isYes : GoodIn wsX2_mustGiveIn wsX2_isYes := goodIn_r _ [12, 2, 20, 21, 22, 23, 24, 25] (by decide +kernel) (by decide +kernel)
set_option maxRecDepth 20000 in
theorem gX2_mustGiveIn_X2_isYes : GoodIn wsX2_mustGiveIn (wsV RX2 78 RX2 yX2_isYes wsX2_isYes) := goodIn_app (goodIn_of _ (by decide +kernel)) ggX2_mustGiveIn_X2_isYes
set_option maxRecDepth 20000 in
theorem ggX2_mustGiveIn_J6_bitCount_0f7a4 : GoodIn wsX2_mustGiveIn wsJ6_bitCount_0f7a4 := goodIn_r _ [16, 17, 18, 19] (by decide +kernel) (by decide +kernel)
set_option maxRecDepth 20000 in
theorem gX2_mustGiveIn_J6_bitCount_0f7a4 : GoodIn wsX2_mustGiveIn (va_wsS RX2 39 yJ6_bitCount_0f7a4 wsJ6_bitCount_0f7a4) := goodIn_app (goodIn_of _ (by decide +kernel)) ggX2_mustGiveIn_J6_bitCount_0f7a4
theorem dX2_mustGiveIn_0 : decode cX2_mustGiveIn 0 = .ok (.iload_n 1, 1) := by decide +kernel
theorem dX2_mustGiveIn_1 : decode cX2_mustGiveIn 1 = .ok (.ifCond .lt 9, 3) := by decide +kernel
theorem dX2_mustGiveIn_4 : decode cX2_mustGiveIn 4 = .ok (.iload_n 1, 1) := by decide +kernel
theorem dX2_mustGiveIn_5 : decode cX2_mustGiveIn 5 = .ok (.bipush 6, 2) := by decide +kernel
theorem dX2_mustGiveIn_7 : decode cX2_mustGiveIn 7 = .ok (.if_icmp .lt 5, 3) := by decide +kernel
theorem dX2_mustGiveIn_10 : decode cX2_mustGiveIn 10 = .ok (.iconst 0, 1) := by decide +kernel
theorem dX2_mustGiveIn_11 : decode cX2_mustGiveIn 11 = .ok (.ireturn, 1) := by decide +kernel
theorem dX2_mustGiveIn_12 : decode cX2_mustGiveIn 12 = .ok (.aload_n 0, 1) := by decide +kernel
theorem dX2_mustGiveIn_13 : decode cX2_mustGiveIn 13 = .ok (.iload_n 1, 1) := by decide +kernel
theorem dX2_mustGiveIn_14 : decode cX2_mustGiveIn 14 = .ok (.invokevirtual 78, 3) := by decide +kernel
theorem dX2_mustGiveIn_17 : decode cX2_mustGiveIn 17 = .ok (.ifCond .eq 17, 3) := by decide +kernel
theorem dX2_mustGiveIn_20 : decode cX2_mustGiveIn 20 = .ok (.aload_n 0, 1) := by decide +kernel
theorem dX2_mustGiveIn_21 : decode cX2_mustGiveIn 21 = .ok (.getfield 32, 3) := by decide +kernel
theorem dX2_mustGiveIn_24 : decode cX2_mustGiveIn 24 = .ok (.aload_n 0, 1) := by decide +kernel
theorem dX2_mustGiveIn_25 : decode cX2_mustGiveIn 25 = .ok (.getfield 28, 3) := by decide +kernel
theorem dX2_mustGiveIn_28 : decode cX2_mustGiveIn 28 = .ok (.iconst (-1), 1) := by decide +kernel
theorem dX2_mustGiveIn_29 : decode cX2_mustGiveIn 29 = .ok (.ixor, 1) := by decide +kernel
theorem dX2_mustGiveIn_30 : decode cX2_mustGiveIn 30 = .ok (.iand, 1) := by decide +kernel
theorem dX2_mustGiveIn_31 : decode cX2_mustGiveIn 31 = .ok (.goto 12, 3) := by decide +kernel
theorem dX2_mustGiveIn_34 : decode cX2_mustGiveIn 34 = .ok (.aload_n 0, 1) := by decide +kernel
theorem dX2_mustGiveIn_35 : decode cX2_mustGiveIn 35 = .ok (.getfield 32, 3) := by decide +kernel
theorem dX2_mustGiveIn_38 : decode cX2_mustGiveIn 38 = .ok (.aload_n 0, 1) := by decide +kernel
theorem dX2_mustGiveIn_39 : decode cX2_mustGiveIn 39 = .ok (.getfield 28, 3) := by decide +kernel
theorem dX2_mustGiveIn_42 : decode cX2_mustGiveIn 42 = .ok (.iand, 1) := by decide +kernel
theorem dX2_mustGiveIn_43 : decode cX2_mustGiveIn 43 = .ok (.istore_n 2, 1) := by decide +kernel
theorem dX2_mustGiveIn_44 : decode cX2_mustGiveIn 44 = .ok (.iload_n 2, 1) := by decide +kernel
theorem dX2_mustGiveIn_45 : decode cX2_mustGiveIn 45 = .ok (.invokestatic 39, 3) := by decide +kernel
theorem dX2_mustGiveIn_48 : decode cX2_mustGiveIn 48 = .ok (.aload_n 0, 1) := by decide +kernel
theorem dX2_mustGiveIn_49 : decode cX2_mustGiveIn 49 = .ok (.getfield 32, 3) := by decide +kernel
theorem dX2_mustGiveIn_52 : decode cX2_mustGiveIn 52 = .ok (.iload_n 2, 1) := by decide +kernel
theorem dX2_mustGiveIn_53 : decode cX2_mustGiveIn 53 = .ok (.iconst (-1), 1) := by decide +kernel
theorem dX2_mustGiveIn_54 : decode cX2_mustGiveIn 54 = .ok (.ixor, 1) := by decide +kernel
theorem dX2_mustGiveIn_55 : decode cX2_mustGiveIn 55 = .ok (.iand, 1) := by decide +kernel
theorem dX2_mustGiveIn_56 : decode cX2_mustGiveIn 56 = .ok (.invokestatic 39, 3) := by decide +kernel
theorem dX2_mustGiveIn_59 : decode cX2_mustGiveIn 59 = .ok (.isub, 1) := by decide +kernel
theorem dX2_mustGiveIn_60 : decode cX2_mustGiveIn 60 = .ok (.istore_n 3, 1) := by decide +kernel
theorem dX2_mustGiveIn_61 : decode cX2_mustGiveIn 61 = .ok (.iload_n 3, 1) := by decide +kernel
theorem dX2_mustGiveIn_62 : decode cX2_mustGiveIn 62 = .ok (.ifCond .gt 5, 3) := by decide +kernel
theorem dX2_mustGiveIn_65 : decode cX2_mustGiveIn 65 = .ok (.iconst 0, 1) := by decide +kernel
theorem dX2_mustGiveIn_66 : decode cX2_mustGiveIn 66 = .ok (.ireturn, 1) := by decide +kernel
theorem dX2_mustGiveIn_67 : decode cX2_mustGiveIn 67 = .ok (.aload_n 0, 1) := by decide +kernel
theorem dX2_mustGiveIn_68 : decode cX2_mustGiveIn 68 = .ok (.getfield 15, 3) := by decide +kernel
theorem dX2_mustGiveIn_71 : decode cX2_mustGiveIn 71 = .ok (.iload_n 1, 1) := by decide +kernel
theorem dX2_mustGiveIn_72 : decode cX2_mustGiveIn 72 = .ok (.iaload, 1) := by decide +kernel
theorem dX2_mustGiveIn_73 : decode cX2_mustGiveIn 73 = .ok (.istore 4, 2) := by decide +kernel
theorem dX2_mustGiveIn_75 : decode cX2_mustGiveIn 75 = .ok (.aload_n 0, 1) := by decide +kernel
theorem dX2_mustGiveIn_76 : decode cX2_mustGiveIn 76 = .ok (.getfield 18, 3) := by decide +kernel
theorem dX2_mustGiveIn_79 : decode cX2_mustGiveIn 79 = .ok (.getfield 66, 3) := by decide +kernel
theorem dX2_mustGiveIn_82 : decode cX2_mustGiveIn 82 = .ok (.iload_n 1, 1) := by decide +kernel
theorem dX2_mustGiveIn_83 : decode cX2_mustGiveIn 83 = .ok (.iaload, 1) := by decide +kernel
theorem dX2_mustGiveIn_84 : decode cX2_mustGiveIn 84 = .ok (.iconst 3, 1) := by decide +kernel
theorem dX2_mustGiveIn_85 : decode cX2_mustGiveIn 85 = .ok (.if_icmp .eq 26, 3) := by decide +kernel
theorem dX2_mustGiveIn_88 : decode cX2_mustGiveIn 88 = .ok (.iload 4, 2) := by decide +kernel
theorem dX2_mustGiveIn_90 : decode cX2_mustGiveIn 90 = .ok (.iload_n 3, 1) := by decide +kernel
theorem dX2_mustGiveIn_91 : decode cX2_mustGiveIn 91 = .ok (.iconst 2, 1) := by decide +kernel
theorem dX2_mustGiveIn_92 : decode cX2_mustGiveIn 92 = .ok (.aload_n 0, 1) := by decide +kernel
theorem dX2_mustGiveIn_93 : decode cX2_mustGiveIn 93 = .ok (.getfield 18, 3) := by decide +kernel
theorem dX2_mustGiveIn_96 : decode cX2_mustGiveIn 96 = .ok (.getfield 81, 3) := by decide +kernel
theorem dX2_mustGiveIn_99 : decode cX2_mustGiveIn 99 = .ok (.iload_n 1, 1) := by decide +kernel
theorem dX2_mustGiveIn_100 : decode cX2_mustGiveIn 100 = .ok (.iaload, 1) := by decide +kernel
theorem dX2_mustGiveIn_101 : decode cX2_mustGiveIn 101 = .ok (.iload_n 2, 1) := by decide +kernel
theorem dX2_mustGiveIn_102 : decode cX2_mustGiveIn 102 = .ok (.iand, 1) := by decide +kernel
theorem dX2_mustGiveIn_103 : decode cX2_mustGiveIn 103 = .ok (.invokestatic 39, 3) := by decide +kernel
theorem dX2_mustGiveIn_106 : decode cX2_mustGiveIn 106 = .ok (.imul, 1) := by decide +kernel
theorem dX2_mustGiveIn_107 : decode cX2_mustGiveIn 107 = .ok (.iadd, 1) := by decide +kernel
theorem dX2_mustGiveIn_108 : decode cX2_mustGiveIn 108 = .ok (.iadd, 1) := by decide +kernel
theorem dX2_mustGiveIn_109 : decode cX2_mustGiveIn 109 = .ok (.istore 4, 2) := by decide +kernel
theorem dX2_mustGiveIn_111 : decode cX2_mustGiveIn 111 = .ok (.iload 4, 2) := by decide +kernel
theorem dX2_mustGiveIn_113 : decode cX2_mustGiveIn 113 = .ok (.aload_n 0, 1) := by decide +kernel
theorem dX2_mustGiveIn_114 : decode cX2_mustGiveIn 114 = .ok (.getfield 9, 3) := by decide +kernel
theorem dX2_mustGiveIn_117 : decode cX2_mustGiveIn 117 = .ok (.iload_n 1, 1) := by decide +kernel
theorem dX2_mustGiveIn_118 : decode cX2_mustGiveIn 118 = .ok (.iaload, 1) := by decide +kernel
theorem dX2_mustGiveIn_119 : decode cX2_mustGiveIn 119 = .ok (.if_icmp .lt 7, 3) := by decide +kernel
theorem dX2_mustGiveIn_122 : decode cX2_mustGiveIn 122 = .ok (.iconst 1, 1) := by decide +kernel
theorem dX2_mustGiveIn_123 : decode cX2_mustGiveIn 123 = .ok (.goto 4, 3) := by decide +kernel
theorem dX2_mustGiveIn_126 : decode cX2_mustGiveIn 126 = .ok (.iconst 0, 1) := by decide +kernel
theorem dX2_mustGiveIn_127 : decode cX2_mustGiveIn 127 = .ok (.ireturn, 1) := by decide +kernel
set_option maxRecDepth 20000 in
theorem ggX2_passHoursToEnd_X2_verdict : GoodIn wsX2_passHoursToEnd wsX2_verdict := goodIn_r _ [5, 6, 7, 8, 9, 10, 11, 12, 13, 14, 15, 16, 17, 4, 18, 19, 20, 54, 55, 56, 57, 58, 59, 60, 61, 62, 63, 64, 65] (by decide +kernel) (by decide +kernel)
set_option maxRecDepth 20000 in
theorem gX2_passHoursToEnd_X2_verdict : GoodIn wsX2_passHoursToEnd (wsV RX2 52 RX2 yX2_verdict wsX2_verdict) := goodIn_app (goodIn_of _ (by decide +kernel)) ggX2_passHoursToEnd_X2_verdict
set_option maxRecDepth 20000 in
theorem ggX2_passHoursToEnd_X2_passHour : GoodIn wsX2_passHoursToEnd wsX2_passHour := goodIn_r _ [24, 25, 7, 1, 2, 3, 4, 5, 6, 8, 9, 10, 11, 12, 13, 14, 15, 16, 17, 18, 19, 20, 26, 27, 28, 29, 30, 31, 32, 33, 34, 35, 36, 37, 38, 39, 40, 41, 42, 43, 44, 45, 46, 47, 48, 49, 50, 51, 52, 53, 54, 55, 56, 57, 58, 59, 60, 61, 62, 63, 64, 65] (by decide +kernel) (by decide +kernel)
set_option maxRecDepth 20000 in
theorem gX2_passHoursToEnd_X2_passHour : GoodIn wsX2_passHoursToEnd (wsV RX2 84 RX2 yX2_passHour wsX2_passHour) := goodIn_app (goodIn_of _ (by decide +kernel)) ggX2_passHoursToEnd_X2_passHour
theorem dX2_passHoursToEnd_0 : decode cX2_passHoursToEnd 0 = .ok (.iconst 0, 1) := by decide +kernel
theorem dX2_passHoursToEnd_1 : decode cX2_passHoursToEnd 1 = .ok (.istore_n 1, 1) := by decide +kernel
theorem dX2_passHoursToEnd_2 : decode cX2_passHoursToEnd 2 = .ok (.iload_n 1, 1) := by decide +kernel
theorem dX2_passHoursToEnd_3 : decode cX2_passHoursToEnd 3 = .ok (.bipush 20, 2) := by decide +kernel
theorem dX2_passHoursToEnd_5 : decode cX2_passHoursToEnd 5 = .ok (.if_icmp .ge 25, 3) := by decide +kernel
theorem dX2_passHoursToEnd_8 : decode cX2_passHoursToEnd 8 = .ok (.aload_n 0, 1) := by decide +kernel
theorem dX2_passHoursToEnd_9 : decode cX2_passHoursToEnd 9 = .ok (.invokevirtual 52, 3) := by decide +kernel
theorem dX2_passHoursToEnd_12 : decode cX2_passHoursToEnd 12 = .ok (.bipush 9, 2) := by decide +kernel
theorem dX2_passHoursToEnd_14 : decode cX2_passHoursToEnd 14 = .ok (.if_icmp .eq 5, 3) := by decide +kernel
theorem dX2_passHoursToEnd_17 : decode cX2_passHoursToEnd 17 = .ok (.iload_n 1, 1) := by decide +kernel
theorem dX2_passHoursToEnd_18 : decode cX2_passHoursToEnd 18 = .ok (.ireturn, 1) := by decide +kernel
theorem dX2_passHoursToEnd_19 : decode cX2_passHoursToEnd 19 = .ok (.aload_n 0, 1) := by decide +kernel
theorem dX2_passHoursToEnd_20 : decode cX2_passHoursToEnd 20 = .ok (.invokevirtual 84, 3) := by decide +kernel
theorem dX2_passHoursToEnd_23 : decode cX2_passHoursToEnd 23 = .ok (.pop, 1) := by decide +kernel
theorem dX2_passHoursToEnd_24 : decode cX2_passHoursToEnd 24 = .ok (.iinc 1 1, 3) := by decide +kernel
theorem dX2_passHoursToEnd_27 : decode cX2_passHoursToEnd 27 = .ok (.goto (-25), 3) := by decide +kernel
theorem dX2_passHoursToEnd_30 : decode cX2_passHoursToEnd 30 = .ok (.aload_n 0, 1) := by decide +kernel
theorem dX2_passHoursToEnd_31 : decode cX2_passHoursToEnd 31 = .ok (.invokevirtual 52, 3) := by decide +kernel
theorem dX2_passHoursToEnd_34 : decode cX2_passHoursToEnd 34 = .ok (.bipush 9, 2) := by decide +kernel
theorem dX2_passHoursToEnd_36 : decode cX2_passHoursToEnd 36 = .ok (.if_icmp .eq 8, 3) := by decide +kernel
theorem dX2_passHoursToEnd_39 : decode cX2_passHoursToEnd 39 = .ok (.bipush 20, 2) := by decide +kernel
theorem dX2_passHoursToEnd_41 : decode cX2_passHoursToEnd 41 = .ok (.goto 5, 3) := by decide +kernel
theorem dX2_passHoursToEnd_44 : decode cX2_passHoursToEnd 44 = .ok (.bipush (-9), 2) := by decide +kernel
theorem dX2_passHoursToEnd_46 : decode cX2_passHoursToEnd 46 = .ok (.ireturn, 1) := by decide +kernel
set_option maxRecDepth 20000 in
theorem ggX2_canDo_X2_isThere : GoodIn wsX2_canDo wsX2_isThere := goodIn_r _ [7, 8, 9, 10, 11, 12, 13, 14] (by decide +kernel) (by decide +kernel)
set_option maxRecDepth 20000 in
theorem gX2_canDo_X2_isThere : GoodIn wsX2_canDo (wsV RX2 59 RX2 yX2_isThere wsX2_isThere) := goodIn_app (goodIn_of _ (by decide +kernel)) ggX2_canDo_X2_isThere
theorem dX2_canDo_0 : decode cX2_canDo 0 = .ok (.iload_n 1, 1) := by decide +kernel
theorem dX2_canDo_1 : decode cX2_canDo 1 = .ok (.ifCond .ne 13, 3) := by decide +kernel
theorem dX2_canDo_4 : decode cX2_canDo 4 = .ok (.iload_n 2, 1) := by decide +kernel
theorem dX2_canDo_5 : decode cX2_canDo 5 = .ok (.ifCond .ne 7, 3) := by decide +kernel
theorem dX2_canDo_8 : decode cX2_canDo 8 = .ok (.iconst 1, 1) := by decide +kernel
theorem dX2_canDo_9 : decode cX2_canDo 9 = .ok (.goto 4, 3) := by decide +kernel
theorem dX2_canDo_12 : decode cX2_canDo 12 = .ok (.iconst 0, 1) := by decide +kernel
theorem dX2_canDo_13 : decode cX2_canDo 13 = .ok (.ireturn, 1) := by decide +kernel
theorem dX2_canDo_14 : decode cX2_canDo 14 = .ok (.iload_n 2, 1) := by decide +kernel
theorem dX2_canDo_15 : decode cX2_canDo 15 = .ok (.ifCond .lt 17, 3) := by decide +kernel
theorem dX2_canDo_18 : decode cX2_canDo 18 = .ok (.iload_n 2, 1) := by decide +kernel
theorem dX2_canDo_19 : decode cX2_canDo 19 = .ok (.bipush 6, 2) := by decide +kernel
theorem dX2_canDo_21 : decode cX2_canDo 21 = .ok (.if_icmp .ge 11, 3) := by decide +kernel
theorem dX2_canDo_24 : decode cX2_canDo 24 = .ok (.aload_n 0, 1) := by decide +kernel
theorem dX2_canDo_25 : decode cX2_canDo 25 = .ok (.iload_n 2, 1) := by decide +kernel
theorem dX2_canDo_26 : decode cX2_canDo 26 = .ok (.invokevirtual 59, 3) := by decide +kernel
theorem dX2_canDo_29 : decode cX2_canDo 29 = .ok (.ifCond .ne 5, 3) := by decide +kernel
theorem dX2_canDo_32 : decode cX2_canDo 32 = .ok (.iconst 0, 1) := by decide +kernel
theorem dX2_canDo_33 : decode cX2_canDo 33 = .ok (.ireturn, 1) := by decide +kernel
theorem dX2_canDo_34 : decode cX2_canDo 34 = .ok (.iload_n 1, 1) := by decide +kernel
theorem dX2_canDo_35 : decode cX2_canDo 35 = .ok (.lookupswitch 56 #[(1, 25), (2, 41)], 25) := by decide +kernel
theorem dX2_canDo_60 : decode cX2_canDo 60 = .ok (.aload_n 0, 1) := by decide +kernel
theorem dX2_canDo_61 : decode cX2_canDo 61 = .ok (.getfield 9, 3) := by decide +kernel
theorem dX2_canDo_64 : decode cX2_canDo 64 = .ok (.iload_n 2, 1) := by decide +kernel
theorem dX2_canDo_65 : decode cX2_canDo 65 = .ok (.iaload, 1) := by decide +kernel
theorem dX2_canDo_66 : decode cX2_canDo 66 = .ok (.iconst 1, 1) := by decide +kernel
theorem dX2_canDo_67 : decode cX2_canDo 67 = .ok (.if_icmp .le 7, 3) := by decide +kernel
theorem dX2_canDo_70 : decode cX2_canDo 70 = .ok (.iconst 1, 1) := by decide +kernel
theorem dX2_canDo_71 : decode cX2_canDo 71 = .ok (.goto 4, 3) := by decide +kernel
theorem dX2_canDo_74 : decode cX2_canDo 74 = .ok (.iconst 0, 1) := by decide +kernel
theorem dX2_canDo_75 : decode cX2_canDo 75 = .ok (.ireturn, 1) := by decide +kernel
theorem dX2_canDo_76 : decode cX2_canDo 76 = .ok (.aload_n 0, 1) := by decide +kernel
theorem dX2_canDo_77 : decode cX2_canDo 77 = .ok (.getfield 15, 3) := by decide +kernel
theorem dX2_canDo_80 : decode cX2_canDo 80 = .ok (.iload_n 2, 1) := by decide +kernel
theorem dX2_canDo_81 : decode cX2_canDo 81 = .ok (.iaload, 1) := by decide +kernel
theorem dX2_canDo_82 : decode cX2_canDo 82 = .ok (.ifCond .le 7, 3) := by decide +kernel
theorem dX2_canDo_85 : decode cX2_canDo 85 = .ok (.iconst 1, 1) := by decide +kernel
theorem dX2_canDo_86 : decode cX2_canDo 86 = .ok (.goto 4, 3) := by decide +kernel
theorem dX2_canDo_89 : decode cX2_canDo 89 = .ok (.iconst 0, 1) := by decide +kernel
theorem dX2_canDo_90 : decode cX2_canDo 90 = .ok (.ireturn, 1) := by decide +kernel
theorem dX2_canDo_91 : decode cX2_canDo 91 = .ok (.iload_n 1, 1) := by decide +kernel
theorem dX2_canDo_92 : decode cX2_canDo 92 = .ok (.iconst 3, 1) := by decide +kernel
theorem dX2_canDo_93 : decode cX2_canDo 93 = .ok (.if_icmp .eq 8, 3) := by decide +kernel
theorem dX2_canDo_96 : decode cX2_canDo 96 = .ok (.iload_n 1, 1) := by decide +kernel
theorem dX2_canDo_97 : decode cX2_canDo 97 = .ok (.iconst 4, 1) := by decide +kernel
theorem dX2_canDo_98 : decode cX2_canDo 98 = .ok (.if_icmp .ne 7, 3) := by decide +kernel
theorem dX2_canDo_101 : decode cX2_canDo 101 = .ok (.iconst 1, 1) := by decide +kernel
theorem dX2_canDo_102 : decode cX2_canDo 102 = .ok (.goto 4, 3) := by decide +kernel
theorem dX2_canDo_105 : decode cX2_canDo 105 = .ok (.iconst 0, 1) := by decide +kernel
theorem dX2_canDo_106 : decode cX2_canDo 106 = .ok (.ireturn, 1) := by decide +kernel
set_option maxRecDepth 20000 in
theorem ggX2_carryOut_X2_passHour : GoodIn wsX2_carryOut wsX2_passHour := goodIn_r _ [14, 8, 9, 15, 16, 17, 13, 18, 7, 19, 20, 21, 22, 23, 24, 25, 26, 27, 28, 29, 30, 31, 32, 33, 34, 35, 6, 36, 37, 38, 4, 39, 40, 41, 42, 43, 44, 45, 46, 47, 48, 49, 50, 51, 52, 1, 53, 54, 55, 56, 57, 58, 59, 60, 61, 62, 63, 64, 65, 66, 67, 68] (by decide +kernel) (by decide +kernel)
set_option maxRecDepth 20000 in
theorem gX2_carryOut_X2_passHour : GoodIn wsX2_carryOut (wsV RX2 84 RX2 yX2_passHour wsX2_passHour) := goodIn_app (goodIn_of _ (by decide +kernel)) ggX2_carryOut_X2_passHour
theorem dX2_carryOut_0 : decode cX2_carryOut 0 = .ok (.iload_n 2, 1) := by decide +kernel
theorem dX2_carryOut_1 : decode cX2_carryOut 1 = .ok (.ifCond .lt 9, 3) := by decide +kernel
theorem dX2_carryOut_4 : decode cX2_carryOut 4 = .ok (.iload_n 2, 1) := by decide +kernel
theorem dX2_carryOut_5 : decode cX2_carryOut 5 = .ok (.bipush 6, 2) := by decide +kernel
theorem dX2_carryOut_7 : decode cX2_carryOut 7 = .ok (.if_icmp .lt 4, 3) := by decide +kernel
theorem dX2_carryOut_10 : decode cX2_carryOut 10 = .ok (.return_, 1) := by decide +kernel
theorem dX2_carryOut_11 : decode cX2_carryOut 11 = .ok (.iload_n 1, 1) := by decide +kernel
theorem dX2_carryOut_12 : decode cX2_carryOut 12 = .ok (.tableswitch 112 0 4 #[36, 44, 65, 75, 97], 36) := by decide +kernel
theorem dX2_carryOut_48 : decode cX2_carryOut 48 = .ok (.aload_n 0, 1) := by decide +kernel
theorem dX2_carryOut_49 : decode cX2_carryOut 49 = .ok (.invokevirtual 84, 3) := by decide +kernel
theorem dX2_carryOut_52 : decode cX2_carryOut 52 = .ok (.pop, 1) := by decide +kernel
theorem dX2_carryOut_53 : decode cX2_carryOut 53 = .ok (.goto 71, 3) := by decide +kernel
theorem dX2_carryOut_56 : decode cX2_carryOut 56 = .ok (.aload_n 0, 1) := by decide +kernel
theorem dX2_carryOut_57 : decode cX2_carryOut 57 = .ok (.getfield 9, 3) := by decide +kernel
theorem dX2_carryOut_60 : decode cX2_carryOut 60 = .ok (.iload_n 2, 1) := by decide +kernel
theorem dX2_carryOut_61 : decode cX2_carryOut 61 = .ok (.iconst 1, 1) := by decide +kernel
theorem dX2_carryOut_62 : decode cX2_carryOut 62 = .ok (.aload_n 0, 1) := by decide +kernel
theorem dX2_carryOut_63 : decode cX2_carryOut 63 = .ok (.getfield 9, 3) := by decide +kernel
theorem dX2_carryOut_66 : decode cX2_carryOut 66 = .ok (.iload_n 2, 1) := by decide +kernel
theorem dX2_carryOut_67 : decode cX2_carryOut 67 = .ok (.iaload, 1) := by decide +kernel
theorem dX2_carryOut_68 : decode cX2_carryOut 68 = .ok (.iconst 1, 1) := by decide +kernel
theorem dX2_carryOut_69 : decode cX2_carryOut 69 = .ok (.isub, 1) := by decide +kernel
theorem dX2_carryOut_70 : decode cX2_carryOut 70 = .ok (.invokestatic 87, 3) := by decide +kernel
theorem dX2_carryOut_73 : decode cX2_carryOut 73 = .ok (.iastore, 1) := by decide +kernel
theorem dX2_carryOut_74 : decode cX2_carryOut 74 = .ok (.goto 50, 3) := by decide +kernel
theorem dX2_carryOut_77 : decode cX2_carryOut 77 = .ok (.aload_n 0, 1) := by decide +kernel
theorem dX2_carryOut_78 : decode cX2_carryOut 78 = .ok (.getfield 15, 3) := by decide +kernel
theorem dX2_carryOut_81 : decode cX2_carryOut 81 = .ok (.iload_n 2, 1) := by decide +kernel
theorem dX2_carryOut_82 : decode cX2_carryOut 82 = .ok (.iconst 0, 1) := by decide +kernel
theorem dX2_carryOut_83 : decode cX2_carryOut 83 = .ok (.iastore, 1) := by decide +kernel
theorem dX2_carryOut_84 : decode cX2_carryOut 84 = .ok (.goto 40, 3) := by decide +kernel
theorem dX2_carryOut_87 : decode cX2_carryOut 87 = .ok (.aload_n 0, 1) := by decide +kernel
theorem dX2_carryOut_88 : decode cX2_carryOut 88 = .ok (.dup, 1) := by decide +kernel
theorem dX2_carryOut_89 : decode cX2_carryOut 89 = .ok (.getfield 32, 3) := by decide +kernel
theorem dX2_carryOut_92 : decode cX2_carryOut 92 = .ok (.iconst 1, 1) := by decide +kernel
theorem dX2_carryOut_93 : decode cX2_carryOut 93 = .ok (.iload_n 2, 1) := by decide +kernel
theorem dX2_carryOut_94 : decode cX2_carryOut 94 = .ok (.ishl, 1) := by decide +kernel
theorem dX2_carryOut_95 : decode cX2_carryOut 95 = .ok (.iconst (-1), 1) := by decide +kernel
theorem dX2_carryOut_96 : decode cX2_carryOut 96 = .ok (.ixor, 1) := by decide +kernel
theorem dX2_carryOut_97 : decode cX2_carryOut 97 = .ok (.iand, 1) := by decide +kernel
theorem dX2_carryOut_98 : decode cX2_carryOut 98 = .ok (.putfield 32, 3) := by decide +kernel
theorem dX2_carryOut_101 : decode cX2_carryOut 101 = .ok (.aload_n 0, 1) := by decide +kernel
theorem dX2_carryOut_102 : decode cX2_carryOut 102 = .ok (.iconst 0, 1) := by decide +kernel
theorem dX2_carryOut_103 : decode cX2_carryOut 103 = .ok (.putfield 35, 3) := by decide +kernel
theorem dX2_carryOut_106 : decode cX2_carryOut 106 = .ok (.goto 18, 3) := by decide +kernel
theorem dX2_carryOut_109 : decode cX2_carryOut 109 = .ok (.aload_n 0, 1) := by decide +kernel
theorem dX2_carryOut_110 : decode cX2_carryOut 110 = .ok (.dup, 1) := by decide +kernel
theorem dX2_carryOut_111 : decode cX2_carryOut 111 = .ok (.getfield 28, 3) := by decide +kernel
theorem dX2_carryOut_114 : decode cX2_carryOut 114 = .ok (.iconst 1, 1) := by decide +kernel
theorem dX2_carryOut_115 : decode cX2_carryOut 115 = .ok (.iload_n 2, 1) := by decide +kernel
theorem dX2_carryOut_116 : decode cX2_carryOut 116 = .ok (.ishl, 1) := by decide +kernel
theorem dX2_carryOut_117 : decode cX2_carryOut 117 = .ok (.ixor, 1) := by decide +kernel
theorem dX2_carryOut_118 : decode cX2_carryOut 118 = .ok (.putfield 28, 3) := by decide +kernel
theorem dX2_carryOut_121 : decode cX2_carryOut 121 = .ok (.goto 3, 3) := by decide +kernel
theorem dX2_carryOut_124 : decode cX2_carryOut 124 = .ok (.return_, 1) := by decide +kernel
theorem dX3_init_0 : decode cX3_init 0 = .ok (.aload_n 0, 1) := by decide +kernel
theorem dX3_init_1 : decode cX3_init 1 = .ok (.invokespecial 3, 3) := by decide +kernel
theorem dX3_init_4 : decode cX3_init 4 = .ok (.aload_n 0, 1) := by decide +kernel
theorem dX3_init_5 : decode cX3_init 5 = .ok (.bipush 6, 2) := by decide +kernel
theorem dX3_init_7 : decode cX3_init 7 = .ok (.newarray .int, 2) := by decide +kernel
theorem dX3_init_9 : decode cX3_init 9 = .ok (.putfield 9, 3) := by decide +kernel
theorem dX3_init_12 : decode cX3_init 12 = .ok (.aload_n 0, 1) := by decide +kernel
theorem dX3_init_13 : decode cX3_init 13 = .ok (.bipush 6, 2) := by decide +kernel
theorem dX3_init_15 : decode cX3_init 15 = .ok (.newarray .int, 2) := by decide +kernel
theorem dX3_init_17 : decode cX3_init 17 = .ok (.putfield 15, 3) := by decide +kernel
theorem dX3_init_20 : decode cX3_init 20 = .ok (.aload_n 0, 1) := by decide +kernel
theorem dX3_init_21 : decode cX3_init 21 = .ok (.bipush 6, 2) := by decide +kernel
theorem dX3_init_23 : decode cX3_init 23 = .ok (.newarray .int, 2) := by decide +kernel
theorem dX3_init_25 : decode cX3_init 25 = .ok (.putfield 18, 3) := by decide +kernel
theorem dX3_init_28 : decode cX3_init 28 = .ok (.return_, 1) := by decide +kernel
theorem dX3_add_0 : decode cX3_add 0 = .ok (.aload_n 0, 1) := by decide +kernel
theorem dX3_add_1 : decode cX3_add 1 = .ok (.getfield 21, 3) := by decide +kernel
theorem dX3_add_4 : decode cX3_add 4 = .ok (.ifCond .lt 12, 3) := by decide +kernel
theorem dX3_add_7 : decode cX3_add 7 = .ok (.aload_n 0, 1) := by decide +kernel
theorem dX3_add_8 : decode cX3_add 8 = .ok (.getfield 21, 3) := by decide +kernel
theorem dX3_add_11 : decode cX3_add 11 = .ok (.bipush 6, 2) := by decide +kernel
theorem dX3_add_13 : decode cX3_add 13 = .ok (.if_icmp .lt 5, 3) := by decide +kernel
theorem dX3_add_16 : decode cX3_add 16 = .ok (.iconst 0, 1) := by decide +kernel
theorem dX3_add_17 : decode cX3_add 17 = .ok (.ireturn, 1) := by decide +kernel
theorem dX3_add_18 : decode cX3_add 18 = .ok (.aload_n 0, 1) := by decide +kernel
theorem dX3_add_19 : decode cX3_add 19 = .ok (.getfield 9, 3) := by decide +kernel
theorem dX3_add_22 : decode cX3_add 22 = .ok (.aload_n 0, 1) := by decide +kernel
theorem dX3_add_23 : decode cX3_add 23 = .ok (.getfield 21, 3) := by decide +kernel
theorem dX3_add_26 : decode cX3_add 26 = .ok (.iload_n 1, 1) := by decide +kernel
theorem dX3_add_27 : decode cX3_add 27 = .ok (.iastore, 1) := by decide +kernel
theorem dX3_add_28 : decode cX3_add 28 = .ok (.aload_n 0, 1) := by decide +kernel
theorem dX3_add_29 : decode cX3_add 29 = .ok (.getfield 15, 3) := by decide +kernel
theorem dX3_add_32 : decode cX3_add 32 = .ok (.aload_n 0, 1) := by decide +kernel
theorem dX3_add_33 : decode cX3_add 33 = .ok (.getfield 21, 3) := by decide +kernel
theorem dX3_add_36 : decode cX3_add 36 = .ok (.iload_n 2, 1) := by decide +kernel
theorem dX3_add_37 : decode cX3_add 37 = .ok (.iastore, 1) := by decide +kernel
theorem dX3_add_38 : decode cX3_add 38 = .ok (.aload_n 0, 1) := by decide +kernel
theorem dX3_add_39 : decode cX3_add 39 = .ok (.getfield 18, 3) := by decide +kernel
theorem dX3_add_42 : decode cX3_add 42 = .ok (.aload_n 0, 1) := by decide +kernel
theorem dX3_add_43 : decode cX3_add 43 = .ok (.getfield 21, 3) := by decide +kernel
theorem dX3_add_46 : decode cX3_add 46 = .ok (.iload_n 3, 1) := by decide +kernel
theorem dX3_add_47 : decode cX3_add 47 = .ok (.iastore, 1) := by decide +kernel
theorem dX3_add_48 : decode cX3_add 48 = .ok (.aload_n 0, 1) := by decide +kernel
theorem dX3_add_49 : decode cX3_add 49 = .ok (.dup, 1) := by decide +kernel
theorem dX3_add_50 : decode cX3_add 50 = .ok (.getfield 21, 3) := by decide +kernel
theorem dX3_add_53 : decode cX3_add 53 = .ok (.iconst 1, 1) := by decide +kernel
theorem dX3_add_54 : decode cX3_add 54 = .ok (.iadd, 1) := by decide +kernel
theorem dX3_add_55 : decode cX3_add 55 = .ok (.putfield 21, 3) := by decide +kernel
theorem dX3_add_58 : decode cX3_add 58 = .ok (.iconst 1, 1) := by decide +kernel
theorem dX3_add_59 : decode cX3_add 59 = .ok (.ireturn, 1) := by decide +kernel
set_option maxRecDepth 20000 in
theorem ggX3_fit_X2_isThere : GoodIn wsX3_fit wsX2_isThere := goodIn_r _ [9, 10, 20, 21, 22, 23, 24, 25] (by decide +kernel) (by decide +kernel)
set_option maxRecDepth 20000 in
theorem gX3_fit_X2_isThere : GoodIn wsX3_fit (wsV RX3 25 RX2 yX2_isThere wsX2_isThere) := goodIn_app (goodIn_of _ (by decide +kernel)) ggX3_fit_X2_isThere
set_option maxRecDepth 20000 in
theorem ggX3_fit_X2_isYes : GoodIn wsX3_fit wsX2_isYes := goodIn_r _ [14, 15, 20, 21, 22, 23, 24, 25] (by decide +kernel) (by decide +kernel)
set_option maxRecDepth 20000 in
theorem gX3_fit_X2_isYes : GoodIn wsX3_fit (wsV RX3 31 RX2 yX2_isYes wsX2_isYes) := goodIn_app (goodIn_of _ (by decide +kernel)) ggX3_fit_X2_isYes
theorem dX3_fit_0 : decode cX3_fit 0 = .ok (.iconst 0, 1) := by decide +kernel
theorem dX3_fit_1 : decode cX3_fit 1 = .ok (.istore_n 3, 1) := by decide +kernel
theorem dX3_fit_2 : decode cX3_fit 2 = .ok (.iload_n 3, 1) := by decide +kernel
theorem dX3_fit_3 : decode cX3_fit 3 = .ok (.aload_n 0, 1) := by decide +kernel
theorem dX3_fit_4 : decode cX3_fit 4 = .ok (.getfield 21, 3) := by decide +kernel
theorem dX3_fit_7 : decode cX3_fit 7 = .ok (.if_icmp .ge 80, 3) := by decide +kernel
theorem dX3_fit_10 : decode cX3_fit 10 = .ok (.iload_n 3, 1) := by decide +kernel
theorem dX3_fit_11 : decode cX3_fit 11 = .ok (.bipush 6, 2) := by decide +kernel
theorem dX3_fit_13 : decode cX3_fit 13 = .ok (.if_icmp .ge 74, 3) := by decide +kernel
theorem dX3_fit_16 : decode cX3_fit 16 = .ok (.aload_n 0, 1) := by decide +kernel
theorem dX3_fit_17 : decode cX3_fit 17 = .ok (.getfield 15, 3) := by decide +kernel
theorem dX3_fit_20 : decode cX3_fit 20 = .ok (.iload_n 3, 1) := by decide +kernel
theorem dX3_fit_21 : decode cX3_fit 21 = .ok (.iaload, 1) := by decide +kernel
theorem dX3_fit_22 : decode cX3_fit 22 = .ok (.iload_n 2, 1) := by decide +kernel
theorem dX3_fit_23 : decode cX3_fit 23 = .ok (.if_icmp .ne 20, 3) := by decide +kernel
theorem dX3_fit_26 : decode cX3_fit 26 = .ok (.aload_n 1, 1) := by decide +kernel
theorem dX3_fit_27 : decode cX3_fit 27 = .ok (.aload_n 0, 1) := by decide +kernel
theorem dX3_fit_28 : decode cX3_fit 28 = .ok (.getfield 9, 3) := by decide +kernel
theorem dX3_fit_31 : decode cX3_fit 31 = .ok (.iload_n 3, 1) := by decide +kernel
theorem dX3_fit_32 : decode cX3_fit 32 = .ok (.iaload, 1) := by decide +kernel
theorem dX3_fit_33 : decode cX3_fit 33 = .ok (.invokevirtual 25, 3) := by decide +kernel
theorem dX3_fit_36 : decode cX3_fit 36 = .ok (.ifCond .eq 7, 3) := by decide +kernel
theorem dX3_fit_39 : decode cX3_fit 39 = .ok (.iconst 1, 1) := by decide +kernel
theorem dX3_fit_40 : decode cX3_fit 40 = .ok (.goto 4, 3) := by decide +kernel
theorem dX3_fit_43 : decode cX3_fit 43 = .ok (.iconst 0, 1) := by decide +kernel
theorem dX3_fit_44 : decode cX3_fit 44 = .ok (.istore 4, 2) := by decide +kernel
theorem dX3_fit_46 : decode cX3_fit 46 = .ok (.iload 4, 2) := by decide +kernel
theorem dX3_fit_48 : decode cX3_fit 48 = .ok (.ifCond .eq 33, 3) := by decide +kernel
theorem dX3_fit_51 : decode cX3_fit 51 = .ok (.aload_n 1, 1) := by decide +kernel
theorem dX3_fit_52 : decode cX3_fit 52 = .ok (.aload_n 0, 1) := by decide +kernel
theorem dX3_fit_53 : decode cX3_fit 53 = .ok (.getfield 9, 3) := by decide +kernel
theorem dX3_fit_56 : decode cX3_fit 56 = .ok (.iload_n 3, 1) := by decide +kernel
theorem dX3_fit_57 : decode cX3_fit 57 = .ok (.iaload, 1) := by decide +kernel
theorem dX3_fit_58 : decode cX3_fit 58 = .ok (.invokevirtual 31, 3) := by decide +kernel
theorem dX3_fit_61 : decode cX3_fit 61 = .ok (.aload_n 0, 1) := by decide +kernel
theorem dX3_fit_62 : decode cX3_fit 62 = .ok (.getfield 18, 3) := by decide +kernel
theorem dX3_fit_65 : decode cX3_fit 65 = .ok (.iload_n 3, 1) := by decide +kernel
theorem dX3_fit_66 : decode cX3_fit 66 = .ok (.iaload, 1) := by decide +kernel
theorem dX3_fit_67 : decode cX3_fit 67 = .ok (.iconst 1, 1) := by decide +kernel
theorem dX3_fit_68 : decode cX3_fit 68 = .ok (.if_icmp .ne 7, 3) := by decide +kernel
theorem dX3_fit_71 : decode cX3_fit 71 = .ok (.iconst 1, 1) := by decide +kernel
theorem dX3_fit_72 : decode cX3_fit 72 = .ok (.goto 4, 3) := by decide +kernel
theorem dX3_fit_75 : decode cX3_fit 75 = .ok (.iconst 0, 1) := by decide +kernel
theorem dX3_fit_76 : decode cX3_fit 76 = .ok (.if_icmp .eq 5, 3) := by decide +kernel
theorem dX3_fit_79 : decode cX3_fit 79 = .ok (.iconst 0, 1) := by decide +kernel
theorem dX3_fit_80 : decode cX3_fit 80 = .ok (.ireturn, 1) := by decide +kernel
theorem dX3_fit_81 : decode cX3_fit 81 = .ok (.iinc 3 1, 3) := by decide +kernel
theorem dX3_fit_84 : decode cX3_fit 84 = .ok (.goto (-82), 3) := by decide +kernel
theorem dX3_fit_87 : decode cX3_fit 87 = .ok (.iconst 1, 1) := by decide +kernel
theorem dX3_fit_88 : decode cX3_fit 88 = .ok (.ireturn, 1) := by decide +kernel
theorem dX4_init_0 : decode cX4_init 0 = .ok (.aload_n 0, 1) := by decide +kernel
theorem dX4_init_1 : decode cX4_init 1 = .ok (.invokespecial 3, 3) := by decide +kernel
theorem dX4_init_4 : decode cX4_init 4 = .ok (.aload_n 0, 1) := by decide +kernel
theorem dX4_init_5 : decode cX4_init 5 = .ok (.bipush 56, 2) := by decide +kernel
theorem dX4_init_7 : decode cX4_init 7 = .ok (.newarray .int, 2) := by decide +kernel
theorem dX4_init_9 : decode cX4_init 9 = .ok (.putfield 9, 3) := by decide +kernel
theorem dX4_init_12 : decode cX4_init 12 = .ok (.return_, 1) := by decide +kernel
theorem dX4_add_0 : decode cX4_add 0 = .ok (.aload_n 0, 1) := by decide +kernel
theorem dX4_add_1 : decode cX4_add 1 = .ok (.getfield 15, 3) := by decide +kernel
theorem dX4_add_4 : decode cX4_add 4 = .ok (.ifCond .lt 12, 3) := by decide +kernel
theorem dX4_add_7 : decode cX4_add 7 = .ok (.aload_n 0, 1) := by decide +kernel
theorem dX4_add_8 : decode cX4_add 8 = .ok (.getfield 15, 3) := by decide +kernel
theorem dX4_add_11 : decode cX4_add 11 = .ok (.bipush 56, 2) := by decide +kernel
theorem dX4_add_13 : decode cX4_add 13 = .ok (.if_icmp .lt 5, 3) := by decide +kernel
theorem dX4_add_16 : decode cX4_add 16 = .ok (.iconst 0, 1) := by decide +kernel
theorem dX4_add_17 : decode cX4_add 17 = .ok (.ireturn, 1) := by decide +kernel
theorem dX4_add_18 : decode cX4_add 18 = .ok (.aload_n 0, 1) := by decide +kernel
theorem dX4_add_19 : decode cX4_add 19 = .ok (.getfield 9, 3) := by decide +kernel
theorem dX4_add_22 : decode cX4_add 22 = .ok (.aload_n 0, 1) := by decide +kernel
theorem dX4_add_23 : decode cX4_add 23 = .ok (.getfield 15, 3) := by decide +kernel
theorem dX4_add_26 : decode cX4_add 26 = .ok (.iload_n 1, 1) := by decide +kernel
theorem dX4_add_27 : decode cX4_add 27 = .ok (.iastore, 1) := by decide +kernel
theorem dX4_add_28 : decode cX4_add 28 = .ok (.aload_n 0, 1) := by decide +kernel
theorem dX4_add_29 : decode cX4_add 29 = .ok (.dup, 1) := by decide +kernel
theorem dX4_add_30 : decode cX4_add 30 = .ok (.getfield 15, 3) := by decide +kernel
theorem dX4_add_33 : decode cX4_add 33 = .ok (.iconst 1, 1) := by decide +kernel
theorem dX4_add_34 : decode cX4_add 34 = .ok (.iadd, 1) := by decide +kernel
theorem dX4_add_35 : decode cX4_add 35 = .ok (.putfield 15, 3) := by decide +kernel
theorem dX4_add_38 : decode cX4_add 38 = .ok (.iconst 1, 1) := by decide +kernel
theorem dX4_add_39 : decode cX4_add 39 = .ok (.ireturn, 1) := by decide +kernel
theorem dX4_letterAt_0 : decode cX4_letterAt 0 = .ok (.iload_n 1, 1) := by decide +kernel
theorem dX4_letterAt_1 : decode cX4_letterAt 1 = .ok (.ifCond .lt 17, 3) := by decide +kernel
theorem dX4_letterAt_4 : decode cX4_letterAt 4 = .ok (.iload_n 1, 1) := by decide +kernel
theorem dX4_letterAt_5 : decode cX4_letterAt 5 = .ok (.aload_n 0, 1) := by decide +kernel
theorem dX4_letterAt_6 : decode cX4_letterAt 6 = .ok (.getfield 15, 3) := by decide +kernel
theorem dX4_letterAt_9 : decode cX4_letterAt 9 = .ok (.if_icmp .ge 9, 3) := by decide +kernel
theorem dX4_letterAt_12 : decode cX4_letterAt 12 = .ok (.iload_n 1, 1) := by decide +kernel
theorem dX4_letterAt_13 : decode cX4_letterAt 13 = .ok (.bipush 56, 2) := by decide +kernel
theorem dX4_letterAt_15 : decode cX4_letterAt 15 = .ok (.if_icmp .lt 7, 3) := by decide +kernel
theorem dX4_letterAt_18 : decode cX4_letterAt 18 = .ok (.iconst (-1), 1) := by decide +kernel
theorem dX4_letterAt_19 : decode cX4_letterAt 19 = .ok (.goto 9, 3) := by decide +kernel
theorem dX4_letterAt_22 : decode cX4_letterAt 22 = .ok (.aload_n 0, 1) := by decide +kernel
theorem dX4_letterAt_23 : decode cX4_letterAt 23 = .ok (.getfield 9, 3) := by decide +kernel
theorem dX4_letterAt_26 : decode cX4_letterAt 26 = .ok (.iload_n 1, 1) := by decide +kernel
theorem dX4_letterAt_27 : decode cX4_letterAt 27 = .ok (.iaload, 1) := by decide +kernel
theorem dX4_letterAt_28 : decode cX4_letterAt 28 = .ok (.ireturn, 1) := by decide +kernel
set_option maxRecDepth 20000 in
theorem ggX4_isFigure_X4_letterAt : GoodIn wsX4_isFigure wsX4_letterAt := goodIn_r _ [5, 6, 7, 8, 9] (by decide +kernel) (by decide +kernel)
set_option maxRecDepth 20000 in
theorem gX4_isFigure_X4_letterAt : GoodIn wsX4_isFigure (wsV RX4 19 RX4 yX4_letterAt wsX4_letterAt) := goodIn_app (goodIn_of _ (by decide +kernel)) ggX4_isFigure_X4_letterAt
theorem dX4_isFigure_0 : decode cX4_isFigure 0 = .ok (.aload_n 0, 1) := by decide +kernel
theorem dX4_isFigure_1 : decode cX4_isFigure 1 = .ok (.iload_n 1, 1) := by decide +kernel
theorem dX4_isFigure_2 : decode cX4_isFigure 2 = .ok (.invokevirtual 19, 3) := by decide +kernel
theorem dX4_isFigure_5 : decode cX4_isFigure 5 = .ok (.istore 4, 2) := by decide +kernel
theorem dX4_isFigure_7 : decode cX4_isFigure 7 = .ok (.iload 4, 2) := by decide +kernel
theorem dX4_isFigure_9 : decode cX4_isFigure 9 = .ok (.bipush 48, 2) := by decide +kernel
theorem dX4_isFigure_11 : decode cX4_isFigure 11 = .ok (.iload_n 2, 1) := by decide +kernel
theorem dX4_isFigure_12 : decode cX4_isFigure 12 = .ok (.iadd, 1) := by decide +kernel
theorem dX4_isFigure_13 : decode cX4_isFigure 13 = .ok (.if_icmp .lt 16, 3) := by decide +kernel
theorem dX4_isFigure_16 : decode cX4_isFigure 16 = .ok (.iload 4, 2) := by decide +kernel
theorem dX4_isFigure_18 : decode cX4_isFigure 18 = .ok (.bipush 48, 2) := by decide +kernel
theorem dX4_isFigure_20 : decode cX4_isFigure 20 = .ok (.iload_n 3, 1) := by decide +kernel
theorem dX4_isFigure_21 : decode cX4_isFigure 21 = .ok (.iadd, 1) := by decide +kernel
theorem dX4_isFigure_22 : decode cX4_isFigure 22 = .ok (.if_icmp .gt 7, 3) := by decide +kernel
theorem dX4_isFigure_25 : decode cX4_isFigure 25 = .ok (.iconst 1, 1) := by decide +kernel
theorem dX4_isFigure_26 : decode cX4_isFigure 26 = .ok (.goto 4, 3) := by decide +kernel
theorem dX4_isFigure_29 : decode cX4_isFigure 29 = .ok (.iconst 0, 1) := by decide +kernel
theorem dX4_isFigure_30 : decode cX4_isFigure 30 = .ok (.ireturn, 1) := by decide +kernel
set_option maxRecDepth 20000 in
theorem ggX4_figureAt_X4_letterAt : GoodIn wsX4_figureAt wsX4_letterAt := goodIn_r _ [5, 6, 7, 8, 9] (by decide +kernel) (by decide +kernel)
set_option maxRecDepth 20000 in
theorem gX4_figureAt_X4_letterAt : GoodIn wsX4_figureAt (wsV RX4 19 RX4 yX4_letterAt wsX4_letterAt) := goodIn_app (goodIn_of _ (by decide +kernel)) ggX4_figureAt_X4_letterAt
theorem dX4_figureAt_0 : decode cX4_figureAt 0 = .ok (.aload_n 0, 1) := by decide +kernel
theorem dX4_figureAt_1 : decode cX4_figureAt 1 = .ok (.iload_n 1, 1) := by decide +kernel
theorem dX4_figureAt_2 : decode cX4_figureAt 2 = .ok (.invokevirtual 19, 3) := by decide +kernel
theorem dX4_figureAt_5 : decode cX4_figureAt 5 = .ok (.bipush 48, 2) := by decide +kernel
theorem dX4_figureAt_7 : decode cX4_figureAt 7 = .ok (.isub, 1) := by decide +kernel
theorem dX4_figureAt_8 : decode cX4_figureAt 8 = .ok (.ireturn, 1) := by decide +kernel
