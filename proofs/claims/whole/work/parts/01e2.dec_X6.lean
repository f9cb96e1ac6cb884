theorem dX6_judge_47 : decode cX6_judge 47 = .ok (.iconst 1, 1) := by decide +kernel
theorem dX6_judge_48 : decode cX6_judge 48 = .ok (.isub, 1) := by decide +kernel
theorem dX6_judge_49 : decode cX6_judge 49 = .ok (.iload_n 3, 1) := by decide +kernel
theorem dX6_judge_50 : decode cX6_judge 50 = .ok (.isub, 1) := by decide +kernel
theorem dX6_judge_51 : decode cX6_judge 51 = .ok (.imul, 1) := by decide +kernel
theorem dX6_judge_52 : decode cX6_judge 52 = .ok (.invokestatic 149, 3) := by decide +kernel
theorem dX6_judge_55 : decode cX6_judge 55 = .ok (.idiv, 1) := by decide +kernel
theorem dX6_judge_56 : decode cX6_judge 56 = .ok (.bipush 100, 2) := by decide +kernel
theorem dX6_judge_58 : decode cX6_judge 58 = .ok (.irem, 1) := by decide +kernel
theorem dX6_judge_59 : decode cX6_judge 59 = .ok (.istore 4, 2) := by decide +kernel
theorem dX6_judge_61 : decode cX6_judge 61 = .ok (.aload_n 0, 1) := by decide +kernel
theorem dX6_judge_62 : decode cX6_judge 62 = .ok (.iload 4, 2) := by decide +kernel
theorem dX6_judge_64 : decode cX6_judge 64 = .ok (.bipush 10, 2) := by decide +kernel
theorem dX6_judge_66 : decode cX6_judge 66 = .ok (.idiv, 1) := by decide +kernel
theorem dX6_judge_67 : decode cX6_judge 67 = .ok (.iload 4, 2) := by decide +kernel
theorem dX6_judge_69 : decode cX6_judge 69 = .ok (.bipush 10, 2) := by decide +kernel
theorem dX6_judge_71 : decode cX6_judge 71 = .ok (.irem, 1) := by decide +kernel
theorem dX6_judge_72 : decode cX6_judge 72 = .ok (.invokevirtual 158, 3) := by decide +kernel
theorem dX6_judge_75 : decode cX6_judge 75 = .ok (.ifCond .ne 5, 3) := by decide +kernel
theorem dX6_judge_78 : decode cX6_judge 78 = .ok (.iload_n 3, 1) := by decide +kernel
theorem dX6_judge_79 : decode cX6_judge 79 = .ok (.ireturn, 1) := by decide +kernel
theorem dX6_judge_80 : decode cX6_judge 80 = .ok (.iinc 3 1, 3) := by decide +kernel
theorem dX6_judge_83 : decode cX6_judge 83 = .ok (.goto (-44), 3) := by decide +kernel
theorem dX6_judge_86 : decode cX6_judge 86 = .ok (.bipush (-9), 2) := by decide +kernel
theorem dX6_judge_88 : decode cX6_judge 88 = .ok (.ireturn, 1) := by decide +kernel
set_option maxRecDepth 20000 in
theorem ggX6_see_X6_isJuror : GoodIn wsX6_see wsX6_isJuror := goodIn_r _ [10, 11, 12, 13, 9, 14, 15, 16, 17, 18, 19, 20, 21, 22, 23, 24, 25, 26, 27, 28, 29, 30, 31, 32, 33, 34, 35, 36, 37, 38] (by decide +kernel) (by decide +kernel)
set_option maxRecDepth 20000 in
theorem gX6_see_X6_isJuror : GoodIn wsX6_see (wsV RX6 118 RX6 yX6_isJuror wsX6_isJuror) := goodIn_app (goodIn_of _ (by decide +kernel)) ggX6_see_X6_isJuror
set_option maxRecDepth 20000 in
theorem ggX6_see_X6_in : GoodIn wsX6_see wsX6_in := goodIn_r _ [14] (by decide +kernel) (by decide +kernel)
set_option maxRecDepth 20000 in
theorem gX6_see_X6_in : GoodIn wsX6_see (va_wsS RX6 53 yX6_in wsX6_in) := goodIn_app (goodIn_of _ (by decide +kernel)) ggX6_see_X6_in
theorem dX6_see_0 : decode cX6_see 0 = .ok (.aload_n 0, 1) := by decide +kernel
theorem dX6_see_1 : decode cX6_see 1 = .ok (.iload_n 1, 1) := by decide +kernel
theorem dX6_see_2 : decode cX6_see 2 = .ok (.invokevirtual 118, 3) := by decide +kernel
theorem dX6_see_5 : decode cX6_see 5 = .ok (.ifCond .ne 5, 3) := by decide +kernel
theorem dX6_see_8 : decode cX6_see 8 = .ok (.iconst (-1), 1) := by decide +kernel
theorem dX6_see_9 : decode cX6_see 9 = .ok (.ireturn, 1) := by decide +kernel
theorem dX6_see_10 : decode cX6_see 10 = .ok (.iload_n 2, 1) := by decide +kernel
theorem dX6_see_11 : decode cX6_see 11 = .ok (.i2l, 1) := by decide +kernel
theorem dX6_see_12 : decode cX6_see 12 = .ok (.lconst 0, 1) := by decide +kernel
theorem dX6_see_13 : decode cX6_see 13 = .ok (.ldc2_w 66, 3) := by decide +kernel
theorem dX6_see_16 : decode cX6_see 16 = .ok (.invokestatic 53, 3) := by decide +kernel
theorem dX6_see_19 : decode cX6_see 19 = .ok (.ifCond .eq 13, 3) := by decide +kernel
theorem dX6_see_22 : decode cX6_see 22 = .ok (.iload_n 3, 1) := by decide +kernel
theorem dX6_see_23 : decode cX6_see 23 = .ok (.i2l, 1) := by decide +kernel
theorem dX6_see_24 : decode cX6_see 24 = .ok (.lconst 0, 1) := by decide +kernel
theorem dX6_see_25 : decode cX6_see 25 = .ok (.lconst 1, 1) := by decide +kernel
theorem dX6_see_26 : decode cX6_see 26 = .ok (.invokestatic 53, 3) := by decide +kernel
theorem dX6_see_29 : decode cX6_see 29 = .ok (.ifCond .ne 6, 3) := by decide +kernel
theorem dX6_see_32 : decode cX6_see 32 = .ok (.bipush (-2), 2) := by decide +kernel
theorem dX6_see_34 : decode cX6_see 34 = .ok (.ireturn, 1) := by decide +kernel
theorem dX6_see_35 : decode cX6_see 35 = .ok (.aload_n 0, 1) := by decide +kernel
theorem dX6_see_36 : decode cX6_see 36 = .ok (.getfield 161, 3) := by decide +kernel
theorem dX6_see_39 : decode cX6_see 39 = .ok (.bipush 6, 2) := by decide +kernel
theorem dX6_see_41 : decode cX6_see 41 = .ok (.if_icmp .ne 6, 3) := by decide +kernel
theorem dX6_see_44 : decode cX6_see 44 = .ok (.bipush (-4), 2) := by decide +kernel
theorem dX6_see_46 : decode cX6_see 46 = .ok (.ireturn, 1) := by decide +kernel
theorem dX6_see_47 : decode cX6_see 47 = .ok (.aload_n 0, 1) := by decide +kernel
theorem dX6_see_48 : decode cX6_see 48 = .ok (.getfield 31, 3) := by decide +kernel
theorem dX6_see_51 : decode cX6_see 51 = .ok (.aload_n 0, 1) := by decide +kernel
theorem dX6_see_52 : decode cX6_see 52 = .ok (.getfield 161, 3) := by decide +kernel
theorem dX6_see_55 : decode cX6_see 55 = .ok (.iload_n 1, 1) := by decide +kernel
theorem dX6_see_56 : decode cX6_see 56 = .ok (.iastore, 1) := by decide +kernel
theorem dX6_see_57 : decode cX6_see 57 = .ok (.aload_n 0, 1) := by decide +kernel
theorem dX6_see_58 : decode cX6_see 58 = .ok (.getfield 34, 3) := by decide +kernel
theorem dX6_see_61 : decode cX6_see 61 = .ok (.aload_n 0, 1) := by decide +kernel
theorem dX6_see_62 : decode cX6_see 62 = .ok (.getfield 161, 3) := by decide +kernel
theorem dX6_see_65 : decode cX6_see 65 = .ok (.iload_n 2, 1) := by decide +kernel
theorem dX6_see_66 : decode cX6_see 66 = .ok (.iastore, 1) := by decide +kernel
theorem dX6_see_67 : decode cX6_see 67 = .ok (.aload_n 0, 1) := by decide +kernel
theorem dX6_see_68 : decode cX6_see 68 = .ok (.getfield 37, 3) := by decide +kernel
theorem dX6_see_71 : decode cX6_see 71 = .ok (.aload_n 0, 1) := by decide +kernel
theorem dX6_see_72 : decode cX6_see 72 = .ok (.getfield 161, 3) := by decide +kernel
theorem dX6_see_75 : decode cX6_see 75 = .ok (.iload_n 3, 1) := by decide +kernel
theorem dX6_see_76 : decode cX6_see 76 = .ok (.iastore, 1) := by decide +kernel
theorem dX6_see_77 : decode cX6_see 77 = .ok (.aload_n 0, 1) := by decide +kernel
theorem dX6_see_78 : decode cX6_see 78 = .ok (.dup, 1) := by decide +kernel
theorem dX6_see_79 : decode cX6_see 79 = .ok (.getfield 161, 3) := by decide +kernel
theorem dX6_see_82 : decode cX6_see 82 = .ok (.iconst 1, 1) := by decide +kernel
theorem dX6_see_83 : decode cX6_see 83 = .ok (.iadd, 1) := by decide +kernel
theorem dX6_see_84 : decode cX6_see 84 = .ok (.putfield 161, 3) := by decide +kernel
theorem dX6_see_87 : decode cX6_see 87 = .ok (.aload_n 0, 1) := by decide +kernel
theorem dX6_see_88 : decode cX6_see 88 = .ok (.getfield 161, 3) := by decide +kernel
theorem dX6_see_91 : decode cX6_see 91 = .ok (.ireturn, 1) := by decide +kernel
theorem dX6_unsee_0 : decode cX6_unsee 0 = .ok (.aload_n 0, 1) := by decide +kernel
theorem dX6_unsee_1 : decode cX6_unsee 1 = .ok (.getfield 161, 3) := by decide +kernel
theorem dX6_unsee_4 : decode cX6_unsee 4 = .ok (.istore_n 1, 1) := by decide +kernel
theorem dX6_unsee_5 : decode cX6_unsee 5 = .ok (.aload_n 0, 1) := by decide +kernel
theorem dX6_unsee_6 : decode cX6_unsee 6 = .ok (.iconst 0, 1) := by decide +kernel
theorem dX6_unsee_7 : decode cX6_unsee 7 = .ok (.putfield 161, 3) := by decide +kernel
theorem dX6_unsee_10 : decode cX6_unsee 10 = .ok (.iload_n 1, 1) := by decide +kernel
theorem dX6_unsee_11 : decode cX6_unsee 11 = .ok (.ireturn, 1) := by decide +kernel
set_option maxRecDepth 20000 in
theorem ggX6_isSeen_X6_isJuror : GoodIn wsX6_isSeen wsX6_isJuror := goodIn_r _ [10, 11, 12, 13, 9, 14, 22, 23, 24, 25, 26, 27, 28, 29, 30, 31, 32, 33, 34, 35, 36, 37, 38, 39, 40, 41, 42, 43, 44, 45] (by decide +kernel) (by decide +kernel)
set_option maxRecDepth 20000 in
theorem gX6_isSeen_X6_isJuror : GoodIn wsX6_isSeen (wsV RX6 118 RX6 yX6_isJuror wsX6_isJuror) := goodIn_app (goodIn_of _ (by decide +kernel)) ggX6_isSeen_X6_isJuror
set_option maxRecDepth 20000 in
theorem ggX6_isSeen_X6_isThere : GoodIn wsX6_isSeen wsX6_isThere := goodIn_r _ [18, 4, 19, 20, 9, 21, 22, 23, 24, 25, 26, 27, 28, 29, 30, 31, 32, 33, 34, 35, 36, 37, 38, 39, 40, 41, 42, 43, 44, 45] (by decide +kernel) (by decide +kernel)
set_option maxRecDepth 20000 in
theorem gX6_isSeen_X6_isThere : GoodIn wsX6_isSeen (wsV RX6 108 RX6 yX6_isThere wsX6_isThere) := goodIn_app (goodIn_of _ (by decide +kernel)) ggX6_isSeen_X6_isThere
theorem dX6_isSeen_0 : decode cX6_isSeen 0 = .ok (.iconst 1, 1) := by decide +kernel
theorem dX6_isSeen_1 : decode cX6_isSeen 1 = .ok (.istore_n 2, 1) := by decide +kernel
theorem dX6_isSeen_2 : decode cX6_isSeen 2 = .ok (.iconst 0, 1) := by decide +kernel
theorem dX6_isSeen_3 : decode cX6_isSeen 3 = .ok (.istore_n 3, 1) := by decide +kernel
theorem dX6_isSeen_4 : decode cX6_isSeen 4 = .ok (.iload_n 3, 1) := by decide +kernel
theorem dX6_isSeen_5 : decode cX6_isSeen 5 = .ok (.aload_n 0, 1) := by decide +kernel
theorem dX6_isSeen_6 : decode cX6_isSeen 6 = .ok (.getfield 161, 3) := by decide +kernel
theorem dX6_isSeen_9 : decode cX6_isSeen 9 = .ok (.if_icmp .ge 93, 3) := by decide +kernel
theorem dX6_isSeen_12 : decode cX6_isSeen 12 = .ok (.aload_n 0, 1) := by decide +kernel
theorem dX6_isSeen_13 : decode cX6_isSeen 13 = .ok (.getfield 34, 3) := by decide +kernel
theorem dX6_isSeen_16 : decode cX6_isSeen 16 = .ok (.iload_n 3, 1) := by decide +kernel
theorem dX6_isSeen_17 : decode cX6_isSeen 17 = .ok (.iaload, 1) := by decide +kernel
theorem dX6_isSeen_18 : decode cX6_isSeen 18 = .ok (.iload_n 1, 1) := by decide +kernel
theorem dX6_isSeen_19 : decode cX6_isSeen 19 = .ok (.if_icmp .ne 34, 3) := by decide +kernel
theorem dX6_isSeen_22 : decode cX6_isSeen 22 = .ok (.aload_n 0, 1) := by decide +kernel
theorem dX6_isSeen_23 : decode cX6_isSeen 23 = .ok (.aload_n 0, 1) := by decide +kernel
theorem dX6_isSeen_24 : decode cX6_isSeen 24 = .ok (.getfield 31, 3) := by decide +kernel
theorem dX6_isSeen_27 : decode cX6_isSeen 27 = .ok (.iload_n 3, 1) := by decide +kernel
theorem dX6_isSeen_28 : decode cX6_isSeen 28 = .ok (.iaload, 1) := by decide +kernel
theorem dX6_isSeen_29 : decode cX6_isSeen 29 = .ok (.invokevirtual 118, 3) := by decide +kernel
theorem dX6_isSeen_32 : decode cX6_isSeen 32 = .ok (.ifCond .eq 21, 3) := by decide +kernel
theorem dX6_isSeen_35 : decode cX6_isSeen 35 = .ok (.aload_n 0, 1) := by decide +kernel
theorem dX6_isSeen_36 : decode cX6_isSeen 36 = .ok (.iconst 1, 1) := by decide +kernel
theorem dX6_isSeen_37 : decode cX6_isSeen 37 = .ok (.aload_n 0, 1) := by decide +kernel
theorem dX6_isSeen_38 : decode cX6_isSeen 38 = .ok (.getfield 31, 3) := by decide +kernel
theorem dX6_isSeen_41 : decode cX6_isSeen 41 = .ok (.iload_n 3, 1) := by decide +kernel
theorem dX6_isSeen_42 : decode cX6_isSeen 42 = .ok (.iaload, 1) := by decide +kernel
theorem dX6_isSeen_43 : decode cX6_isSeen 43 = .ok (.invokevirtual 108, 3) := by decide +kernel
theorem dX6_isSeen_46 : decode cX6_isSeen 46 = .ok (.ifCond .eq 7, 3) := by decide +kernel
theorem dX6_isSeen_49 : decode cX6_isSeen 49 = .ok (.iconst 1, 1) := by decide +kernel
theorem dX6_isSeen_50 : decode cX6_isSeen 50 = .ok (.goto 4, 3) := by decide +kernel
theorem dX6_isSeen_53 : decode cX6_isSeen 53 = .ok (.iconst 0, 1) := by decide +kernel
theorem dX6_isSeen_54 : decode cX6_isSeen 54 = .ok (.istore 4, 2) := by decide +kernel
theorem dX6_isSeen_56 : decode cX6_isSeen 56 = .ok (.iload_n 2, 1) := by decide +kernel
theorem dX6_isSeen_57 : decode cX6_isSeen 57 = .ok (.ifCond .eq 37, 3) := by decide +kernel
theorem dX6_isSeen_60 : decode cX6_isSeen 60 = .ok (.iload 4, 2) := by decide +kernel
theorem dX6_isSeen_62 : decode cX6_isSeen 62 = .ok (.ifCond .eq 28, 3) := by decide +kernel
theorem dX6_isSeen_65 : decode cX6_isSeen 65 = .ok (.aload_n 0, 1) := by decide +kernel
theorem dX6_isSeen_66 : decode cX6_isSeen 66 = .ok (.getfield 16, 3) := by decide +kernel
theorem dX6_isSeen_69 : decode cX6_isSeen 69 = .ok (.bipush 15, 2) := by decide +kernel
theorem dX6_isSeen_71 : decode cX6_isSeen 71 = .ok (.iaload, 1) := by decide +kernel
theorem dX6_isSeen_72 : decode cX6_isSeen 72 = .ok (.aload_n 0, 1) := by decide +kernel
theorem dX6_isSeen_73 : decode cX6_isSeen 73 = .ok (.getfield 31, 3) := by decide +kernel
theorem dX6_isSeen_76 : decode cX6_isSeen 76 = .ok (.iload_n 3, 1) := by decide +kernel
theorem dX6_isSeen_77 : decode cX6_isSeen 77 = .ok (.iaload, 1) := by decide +kernel
theorem dX6_isSeen_78 : decode cX6_isSeen 78 = .ok (.ishr, 1) := by decide +kernel
theorem dX6_isSeen_79 : decode cX6_isSeen 79 = .ok (.iconst 1, 1) := by decide +kernel
theorem dX6_isSeen_80 : decode cX6_isSeen 80 = .ok (.iand, 1) := by decide +kernel
theorem dX6_isSeen_81 : decode cX6_isSeen 81 = .ok (.aload_n 0, 1) := by decide +kernel
theorem dX6_isSeen_82 : decode cX6_isSeen 82 = .ok (.getfield 37, 3) := by decide +kernel
theorem dX6_isSeen_85 : decode cX6_isSeen 85 = .ok (.iload_n 3, 1) := by decide +kernel
theorem dX6_isSeen_86 : decode cX6_isSeen 86 = .ok (.iaload, 1) := by decide +kernel
theorem dX6_isSeen_87 : decode cX6_isSeen 87 = .ok (.if_icmp .ne 7, 3) := by decide +kernel
theorem dX6_isSeen_90 : decode cX6_isSeen 90 = .ok (.iconst 1, 1) := by decide +kernel
theorem dX6_isSeen_91 : decode cX6_isSeen 91 = .ok (.goto 4, 3) := by decide +kernel
theorem dX6_isSeen_94 : decode cX6_isSeen 94 = .ok (.iconst 0, 1) := by decide +kernel
theorem dX6_isSeen_95 : decode cX6_isSeen 95 = .ok (.istore_n 2, 1) := by decide +kernel
theorem dX6_isSeen_96 : decode cX6_isSeen 96 = .ok (.iinc 3 1, 3) := by decide +kernel
theorem dX6_isSeen_99 : decode cX6_isSeen 99 = .ok (.goto (-95), 3) := by decide +kernel
theorem dX6_isSeen_102 : decode cX6_isSeen 102 = .ok (.iload_n 2, 1) := by decide +kernel
theorem dX6_isSeen_103 : decode cX6_isSeen 103 = .ok (.ireturn, 1) := by decide +kernel
set_option maxRecDepth 20000 in
theorem ggX6_layYes_X6_layTrial : GoodIn wsX6_layYes wsX6_layTrial := goodIn_r _ [6, 1, 7, 8, 9, 10, 11, 12, 13, 14, 15, 16, 17, 18, 19, 20, 21, 22, 23, 24, 25, 26, 27, 28, 29, 30] (by decide +kernel) (by decide +kernel)
set_option maxRecDepth 20000 in
theorem gX6_layYes_X6_layTrial : GoodIn wsX6_layYes (wsV RX6 140 RX6 yX6_layTrial wsX6_layTrial) := goodIn_app (goodIn_of _ (by decide +kernel)) ggX6_layYes_X6_layTrial
theorem dX6_layYes_0 : decode cX6_layYes 0 = .ok (.aload_n 0, 1) := by decide +kernel
theorem dX6_layYes_1 : decode cX6_layYes 1 = .ok (.invokevirtual 140, 3) := by decide +kernel
theorem dX6_layYes_4 : decode cX6_layYes 4 = .ok (.aload_n 0, 1) := by decide +kernel
theorem dX6_layYes_5 : decode cX6_layYes 5 = .ok (.getfield 16, 3) := by decide +kernel
theorem dX6_layYes_8 : decode cX6_layYes 8 = .ok (.bipush 15, 2) := by decide +kernel
theorem dX6_layYes_10 : decode cX6_layYes 10 = .ok (.aload_n 0, 1) := by decide +kernel
theorem dX6_layYes_11 : decode cX6_layYes 11 = .ok (.getfield 16, 3) := by decide +kernel
theorem dX6_layYes_14 : decode cX6_layYes 14 = .ok (.iconst 0, 1) := by decide +kernel
theorem dX6_layYes_15 : decode cX6_layYes 15 = .ok (.iaload, 1) := by decide +kernel
theorem dX6_layYes_16 : decode cX6_layYes 16 = .ok (.aload_n 0, 1) := by decide +kernel
theorem dX6_layYes_17 : decode cX6_layYes 17 = .ok (.getfield 16, 3) := by decide +kernel
theorem dX6_layYes_20 : decode cX6_layYes 20 = .ok (.iconst 1, 1) := by decide +kernel
theorem dX6_layYes_21 : decode cX6_layYes 21 = .ok (.iaload, 1) := by decide +kernel
theorem dX6_layYes_22 : decode cX6_layYes 22 = .ok (.iconst (-1), 1) := by decide +kernel
theorem dX6_layYes_23 : decode cX6_layYes 23 = .ok (.ixor, 1) := by decide +kernel
theorem dX6_layYes_24 : decode cX6_layYes 24 = .ok (.iand, 1) := by decide +kernel
theorem dX6_layYes_25 : decode cX6_layYes 25 = .ok (.iload_n 1, 1) := by decide +kernel
theorem dX6_layYes_26 : decode cX6_layYes 26 = .ok (.ior, 1) := by decide +kernel
theorem dX6_layYes_27 : decode cX6_layYes 27 = .ok (.iastore, 1) := by decide +kernel
theorem dX6_layYes_28 : decode cX6_layYes 28 = .ok (.return_, 1) := by decide +kernel
set_option maxRecDepth 20000 in
theorem ggX6_mayBe_X6_layYes : GoodIn wsX6_mayBe wsX6_layYes := goodIn_r _ [5, 6, 7, 8, 9, 4, 10, 56, 57, 58, 59, 60, 61, 62, 63, 64, 65, 66, 67, 68, 69, 70, 71, 72, 73, 74, 75, 76, 77, 78, 79] (by decide +kernel) (by decide +kernel)
set_option maxRecDepth 20000 in
theorem gX6_mayBe_X6_layYes : GoodIn wsX6_mayBe (wsV RX6 164 RX6 yX6_layYes wsX6_layYes) := goodIn_app (goodIn_of _ (by decide +kernel)) ggX6_mayBe_X6_layYes
set_option maxRecDepth 20000 in
theorem ggX6_mayBe_X6_isSeen : GoodIn wsX6_mayBe wsX6_isSeen := goodIn_r _ [14, 15, 16, 17, 6, 18, 19, 20, 21, 4, 22, 23, 24, 25, 26, 27, 28, 29, 30, 31, 32, 33, 56, 57, 58, 59, 60, 61, 62, 63, 64, 65, 66, 67, 68, 69, 70, 71, 72, 73, 74, 75, 76, 77, 78, 79] (by decide +kernel) (by decide +kernel)
set_option maxRecDepth 20000 in
theorem gX6_mayBe_X6_isSeen : GoodIn wsX6_mayBe (wsV RX6 167 RX6 yX6_isSeen wsX6_isSeen) := goodIn_app (goodIn_of _ (by decide +kernel)) ggX6_mayBe_X6_isSeen
set_option maxRecDepth 20000 in
theorem ggX6_mayBe_X6_passOn : GoodIn wsX6_mayBe wsX6_passOn := goodIn_r _ [37, 6, 23, 38, 39, 40, 4, 41, 42, 43, 44, 45, 27, 28, 29, 30, 31, 32, 33, 46, 47, 48, 49, 50, 51, 52, 53, 54, 55, 56, 57, 58, 59, 60, 61, 62, 63, 64, 65, 66, 67, 68, 69, 70, 71, 72, 73, 74, 75, 76, 77, 78, 79] (by decide +kernel) (by decide +kernel)
set_option maxRecDepth 20000 in
theorem gX6_mayBe_X6_passOn : GoodIn wsX6_mayBe (wsV RX6 128 RX6 yX6_passOn wsX6_passOn) := goodIn_app (goodIn_of _ (by decide +kernel)) ggX6_mayBe_X6_passOn
theorem dX6_mayBe_0 : decode cX6_mayBe 0 = .ok (.aload_n 0, 1) := by decide +kernel
theorem dX6_mayBe_1 : decode cX6_mayBe 1 = .ok (.iload_n 1, 1) := by decide +kernel
theorem dX6_mayBe_2 : decode cX6_mayBe 2 = .ok (.invokevirtual 164, 3) := by decide +kernel
theorem dX6_mayBe_5 : decode cX6_mayBe 5 = .ok (.aload_n 0, 1) := by decide +kernel
theorem dX6_mayBe_6 : decode cX6_mayBe 6 = .ok (.iconst 0, 1) := by decide +kernel
theorem dX6_mayBe_7 : decode cX6_mayBe 7 = .ok (.invokevirtual 167, 3) := by decide +kernel
theorem dX6_mayBe_10 : decode cX6_mayBe 10 = .ok (.istore_n 2, 1) := by decide +kernel
theorem dX6_mayBe_11 : decode cX6_mayBe 11 = .ok (.iconst 1, 1) := by decide +kernel
theorem dX6_mayBe_12 : decode cX6_mayBe 12 = .ok (.istore_n 3, 1) := by decide +kernel
theorem dX6_mayBe_13 : decode cX6_mayBe 13 = .ok (.iload_n 3, 1) := by decide +kernel
theorem dX6_mayBe_14 : decode cX6_mayBe 14 = .ok (.bipush 10, 2) := by decide +kernel
theorem dX6_mayBe_16 : decode cX6_mayBe 16 = .ok (.if_icmp .ge 25, 3) := by decide +kernel
theorem dX6_mayBe_19 : decode cX6_mayBe 19 = .ok (.iload_n 2, 1) := by decide +kernel
theorem dX6_mayBe_20 : decode cX6_mayBe 20 = .ok (.ifCond .eq 21, 3) := by decide +kernel
theorem dX6_mayBe_23 : decode cX6_mayBe 23 = .ok (.aload_n 0, 1) := by decide +kernel
theorem dX6_mayBe_24 : decode cX6_mayBe 24 = .ok (.iconst 1, 1) := by decide +kernel
theorem dX6_mayBe_25 : decode cX6_mayBe 25 = .ok (.invokevirtual 128, 3) := by decide +kernel
theorem dX6_mayBe_28 : decode cX6_mayBe 28 = .ok (.pop, 1) := by decide +kernel
theorem dX6_mayBe_29 : decode cX6_mayBe 29 = .ok (.aload_n 0, 1) := by decide +kernel
theorem dX6_mayBe_30 : decode cX6_mayBe 30 = .ok (.iload_n 3, 1) := by decide +kernel
theorem dX6_mayBe_31 : decode cX6_mayBe 31 = .ok (.invokevirtual 167, 3) := by decide +kernel
theorem dX6_mayBe_34 : decode cX6_mayBe 34 = .ok (.istore_n 2, 1) := by decide +kernel
theorem dX6_mayBe_35 : decode cX6_mayBe 35 = .ok (.iinc 3 1, 3) := by decide +kernel
theorem dX6_mayBe_38 : decode cX6_mayBe 38 = .ok (.goto (-25), 3) := by decide +kernel
theorem dX6_mayBe_41 : decode cX6_mayBe 41 = .ok (.iload_n 2, 1) := by decide +kernel
theorem dX6_mayBe_42 : decode cX6_mayBe 42 = .ok (.ireturn, 1) := by decide +kernel
set_option maxRecDepth 20000 in
theorem ggX6_first_X6_in : GoodIn wsX6_first wsX6_in := goodIn_r _ [6] (by decide +kernel) (by decide +kernel)
set_option maxRecDepth 20000 in
theorem gX6_first_X6_in : GoodIn wsX6_first (va_wsS RX6 53 yX6_in wsX6_in) := goodIn_app (goodIn_of _ (by decide +kernel)) ggX6_first_X6_in
set_option maxRecDepth 20000 in
theorem ggX6_first_X6_mayBe : GoodIn wsX6_first wsX6_mayBe := goodIn_r _ [10, 11, 12, 13, 5, 14, 2, 15, 16, 17, 18, 19, 20, 21, 22, 23, 24, 25, 26, 27, 28, 29, 30, 31, 3, 4, 6, 32, 33, 34, 35, 36, 37, 38, 39, 40, 41, 42, 43, 44, 45, 46, 47, 48, 49, 50, 51, 52, 53, 54, 55, 56, 57, 58, 59, 60, 61, 62, 63, 64, 65, 66, 67, 68, 69, 70, 71, 72, 73, 74, 75, 76, 77, 78, 79, 80, 81, 82, 83, 84] (by decide +kernel) (by decide +kernel)
set_option maxRecDepth 20000 in
theorem gX6_first_X6_mayBe : GoodIn wsX6_first (wsV RX6 172 RX6 yX6_mayBe wsX6_mayBe) := goodIn_app (goodIn_of _ (by decide +kernel)) ggX6_first_X6_mayBe
theorem dX6_first_0 : decode cX6_first 0 = .ok (.iload_n 1, 1) := by decide +kernel
theorem dX6_first_1 : decode cX6_first 1 = .ok (.i2l, 1) := by decide +kernel
theorem dX6_first_2 : decode cX6_first 2 = .ok (.lconst 0, 1) := by decide +kernel
theorem dX6_first_3 : decode cX6_first 3 = .ok (.ldc2_w 170, 3) := by decide +kernel
theorem dX6_first_6 : decode cX6_first 6 = .ok (.invokestatic 53, 3) := by decide +kernel
theorem dX6_first_9 : decode cX6_first 9 = .ok (.ifCond .ne 6, 3) := by decide +kernel
theorem dX6_first_12 : decode cX6_first 12 = .ok (.bipush (-2), 2) := by decide +kernel
theorem dX6_first_14 : decode cX6_first 14 = .ok (.ireturn, 1) := by decide +kernel
theorem dX6_first_15 : decode cX6_first 15 = .ok (.iconst 0, 1) := by decide +kernel
theorem dX6_first_16 : decode cX6_first 16 = .ok (.istore_n 2, 1) := by decide +kernel
theorem dX6_first_17 : decode cX6_first 17 = .ok (.aload_n 0, 1) := by decide +kernel
theorem dX6_first_18 : decode cX6_first 18 = .ok (.getfield 16, 3) := by decide +kernel
theorem dX6_first_21 : decode cX6_first 21 = .ok (.iconst 1, 1) := by decide +kernel
theorem dX6_first_22 : decode cX6_first 22 = .ok (.iaload, 1) := by decide +kernel
theorem dX6_first_23 : decode cX6_first 23 = .ok (.istore_n 3, 1) := by decide +kernel
theorem dX6_first_24 : decode cX6_first 24 = .ok (.iconst 0, 1) := by decide +kernel
theorem dX6_first_25 : decode cX6_first 25 = .ok (.istore 4, 2) := by decide +kernel
theorem dX6_first_27 : decode cX6_first 27 = .ok (.iconst 0, 1) := by decide +kernel
theorem dX6_first_28 : decode cX6_first 28 = .ok (.istore 5, 2) := by decide +kernel
theorem dX6_first_30 : decode cX6_first 30 = .ok (.iload 5, 2) := by decide +kernel
theorem dX6_first_32 : decode cX6_first 32 = .ok (.bipush 64, 2) := by decide +kernel
theorem dX6_first_34 : decode cX6_first 34 = .ok (.if_icmp .ge 47, 3) := by decide +kernel
theorem dX6_first_37 : decode cX6_first 37 = .ok (.iload 5, 2) := by decide +kernel
theorem dX6_first_39 : decode cX6_first 39 = .ok (.aload_n 0, 1) := by decide +kernel
theorem dX6_first_40 : decode cX6_first 40 = .ok (.getfield 16, 3) := by decide +kernel
theorem dX6_first_43 : decode cX6_first 43 = .ok (.iconst 1, 1) := by decide +kernel
theorem dX6_first_44 : decode cX6_first 44 = .ok (.iaload, 1) := by decide +kernel
theorem dX6_first_45 : decode cX6_first 45 = .ok (.iconst (-1), 1) := by decide +kernel
theorem dX6_first_46 : decode cX6_first 46 = .ok (.ixor, 1) := by decide +kernel
theorem dX6_first_47 : decode cX6_first 47 = .ok (.iand, 1) := by decide +kernel
theorem dX6_first_48 : decode cX6_first 48 = .ok (.ifCond .ne 27, 3) := by decide +kernel
theorem dX6_first_51 : decode cX6_first 51 = .ok (.aload_n 0, 1) := by decide +kernel
theorem dX6_first_52 : decode cX6_first 52 = .ok (.iload 5, 2) := by decide +kernel
theorem dX6_first_54 : decode cX6_first 54 = .ok (.invokevirtual 172, 3) := by decide +kernel
theorem dX6_first_57 : decode cX6_first 57 = .ok (.ifCond .eq 18, 3) := by decide +kernel
theorem dX6_first_60 : decode cX6_first 60 = .ok (.iinc 2 1, 3) := by decide +kernel
theorem dX6_first_63 : decode cX6_first 63 = .ok (.iload_n 3, 1) := by decide +kernel
theorem dX6_first_64 : decode cX6_first 64 = .ok (.iload 5, 2) := by decide +kernel
theorem dX6_first_66 : decode cX6_first 66 = .ok (.iand, 1) := by decide +kernel
theorem dX6_first_67 : decode cX6_first 67 = .ok (.istore_n 3, 1) := by decide +kernel
theorem dX6_first_68 : decode cX6_first 68 = .ok (.iload 4, 2) := by decide +kernel
theorem dX6_first_70 : decode cX6_first 70 = .ok (.iload 5, 2) := by decide +kernel
theorem dX6_first_72 : decode cX6_first 72 = .ok (.ior, 1) := by decide +kernel
theorem dX6_first_73 : decode cX6_first 73 = .ok (.istore 4, 2) := by decide +kernel
theorem dX6_first_75 : decode cX6_first 75 = .ok (.iinc 5 1, 3) := by decide +kernel
theorem dX6_first_78 : decode cX6_first 78 = .ok (.goto (-48), 3) := by decide +kernel
theorem dX6_first_81 : decode cX6_first 81 = .ok (.iload_n 1, 1) := by decide +kernel
theorem dX6_first_82 : decode cX6_first 82 = .ok (.ifCond .ne 7, 3) := by decide +kernel
theorem dX6_first_85 : decode cX6_first 85 = .ok (.iload_n 2, 1) := by decide +kernel
theorem dX6_first_86 : decode cX6_first 86 = .ok (.goto 32, 3) := by decide +kernel
theorem dX6_first_89 : decode cX6_first 89 = .ok (.iload_n 2, 1) := by decide +kernel
theorem dX6_first_90 : decode cX6_first 90 = .ok (.ifCond .ne 8, 3) := by decide +kernel
theorem dX6_first_93 : decode cX6_first 93 = .ok (.bipush (-9), 2) := by decide +kernel
theorem dX6_first_95 : decode cX6_first 95 = .ok (.goto 23, 3) := by decide +kernel
theorem dX6_first_98 : decode cX6_first 98 = .ok (.iload_n 1, 1) := by decide +kernel
theorem dX6_first_99 : decode cX6_first 99 = .ok (.iconst 1, 1) := by decide +kernel
theorem dX6_first_100 : decode cX6_first 100 = .ok (.if_icmp .ne 7, 3) := by decide +kernel
theorem dX6_first_103 : decode cX6_first 103 = .ok (.iload_n 3, 1) := by decide +kernel
theorem dX6_first_104 : decode cX6_first 104 = .ok (.goto 14, 3) := by decide +kernel
theorem dX6_first_107 : decode cX6_first 107 = .ok (.aload_n 0, 1) := by decide +kernel
theorem dX6_first_108 : decode cX6_first 108 = .ok (.getfield 16, 3) := by decide +kernel
theorem dX6_first_111 : decode cX6_first 111 = .ok (.iconst 1, 1) := by decide +kernel
theorem dX6_first_112 : decode cX6_first 112 = .ok (.iaload, 1) := by decide +kernel
theorem dX6_first_113 : decode cX6_first 113 = .ok (.iload 4, 2) := by decide +kernel
theorem dX6_first_115 : decode cX6_first 115 = .ok (.iconst (-1), 1) := by decide +kernel
theorem dX6_first_116 : decode cX6_first 116 = .ok (.ixor, 1) := by decide +kernel
theorem dX6_first_117 : decode cX6_first 117 = .ok (.iand, 1) := by decide +kernel
theorem dX6_first_118 : decode cX6_first 118 = .ok (.ireturn, 1) := by decide +kernel
theorem dX6_factorial_0 : decode cX6_factorial 0 = .ok (.iconst 1, 1) := by decide +kernel
theorem dX6_factorial_1 : decode cX6_factorial 1 = .ok (.istore_n 1, 1) := by decide +kernel
theorem dX6_factorial_2 : decode cX6_factorial 2 = .ok (.iconst 2, 1) := by decide +kernel
theorem dX6_factorial_3 : decode cX6_factorial 3 = .ok (.istore_n 2, 1) := by decide +kernel
theorem dX6_factorial_4 : decode cX6_factorial 4 = .ok (.iload_n 2, 1) := by decide +kernel
theorem dX6_factorial_5 : decode cX6_factorial 5 = .ok (.iload_n 0, 1) := by decide +kernel
theorem dX6_factorial_6 : decode cX6_factorial 6 = .ok (.if_icmp .gt 13, 3) := by decide +kernel
theorem dX6_factorial_9 : decode cX6_factorial 9 = .ok (.iload_n 1, 1) := by decide +kernel
theorem dX6_factorial_10 : decode cX6_factorial 10 = .ok (.iload_n 2, 1) := by decide +kernel
theorem dX6_factorial_11 : decode cX6_factorial 11 = .ok (.imul, 1) := by decide +kernel
theorem dX6_factorial_12 : decode cX6_factorial 12 = .ok (.istore_n 1, 1) := by decide +kernel
theorem dX6_factorial_13 : decode cX6_factorial 13 = .ok (.iinc 2 1, 3) := by decide +kernel
theorem dX6_factorial_16 : decode cX6_factorial 16 = .ok (.goto (-12), 3) := by decide +kernel
theorem dX6_factorial_19 : decode cX6_factorial 19 = .ok (.iload_n 1, 1) := by decide +kernel
theorem dX6_factorial_20 : decode cX6_factorial 20 = .ok (.ireturn, 1) := by decide +kernel
theorem dX6_common_0 : decode cX6_common 0 = .ok (.iload_n 0, 1) := by decide +kernel
theorem dX6_common_1 : decode cX6_common 1 = .ok (.ifCond .ge 8, 3) := by decide +kernel
theorem dX6_common_4 : decode cX6_common 4 = .ok (.iload_n 0, 1) := by decide +kernel
theorem dX6_common_5 : decode cX6_common 5 = .ok (.ineg, 1) := by decide +kernel
theorem dX6_common_6 : decode cX6_common 6 = .ok (.goto 4, 3) := by decide +kernel
theorem dX6_common_9 : decode cX6_common 9 = .ok (.iload_n 0, 1) := by decide +kernel
theorem dX6_common_10 : decode cX6_common 10 = .ok (.istore_n 2, 1) := by decide +kernel
theorem dX6_common_11 : decode cX6_common 11 = .ok (.iload_n 1, 1) := by decide +kernel
theorem dX6_common_12 : decode cX6_common 12 = .ok (.istore_n 3, 1) := by decide +kernel
theorem dX6_common_13 : decode cX6_common 13 = .ok (.iload_n 3, 1) := by decide +kernel
theorem dX6_common_14 : decode cX6_common 14 = .ok (.ifCond .eq 16, 3) := by decide +kernel
theorem dX6_common_17 : decode cX6_common 17 = .ok (.iload_n 2, 1) := by decide +kernel
theorem dX6_common_18 : decode cX6_common 18 = .ok (.iload_n 3, 1) := by decide +kernel
theorem dX6_common_19 : decode cX6_common 19 = .ok (.irem, 1) := by decide +kernel
theorem dX6_common_20 : decode cX6_common 20 = .ok (.istore 4, 2) := by decide +kernel
theorem dX6_common_22 : decode cX6_common 22 = .ok (.iload_n 3, 1) := by decide +kernel
theorem dX6_common_23 : decode cX6_common 23 = .ok (.istore_n 2, 1) := by decide +kernel
theorem dX6_common_24 : decode cX6_common 24 = .ok (.iload 4, 2) := by decide +kernel
theorem dX6_common_26 : decode cX6_common 26 = .ok (.istore_n 3, 1) := by decide +kernel
theorem dX6_common_27 : decode cX6_common 27 = .ok (.goto (-14), 3) := by decide +kernel
theorem dX6_common_30 : decode cX6_common 30 = .ok (.iload_n 2, 1) := by decide +kernel
theorem dX6_common_31 : decode cX6_common 31 = .ok (.ireturn, 1) := by decide +kernel
set_option maxRecDepth 20000 in
theorem ggX6_endOf_X6_layYes : GoodIn wsX6_endOf wsX6_layYes := goodIn_r _ [5, 6, 7, 8, 9, 4, 10, 46, 47, 48, 49, 50, 51, 52, 53, 54, 55, 56, 57, 58, 59, 60, 61, 62, 63, 64, 65, 66, 67, 68, 69] (by decide +kernel) (by decide +kernel)
set_option maxRecDepth 20000 in
theorem gX6_endOf_X6_layYes : GoodIn wsX6_endOf (wsV RX6 164 RX6 yX6_layYes wsX6_layYes) := goodIn_app (goodIn_of _ (by decide +kernel)) ggX6_endOf_X6_layYes
set_option maxRecDepth 20000 in
theorem ggX6_endOf_X6_runTrial : GoodIn wsX6_endOf wsX6_runTrial := goodIn_r _ [14, 15, 16, 17, 18, 4, 19, 6, 20, 21, 22, 23, 24, 25, 26, 27, 28, 29, 30, 31, 32, 33, 34, 35, 36, 37, 38, 39, 40, 41, 42, 43, 44, 45, 46, 47, 48, 49, 50, 51, 52, 53, 54, 55, 56, 57, 58, 59, 60, 61, 62, 63, 64, 65, 66, 67, 68, 69] (by decide +kernel) (by decide +kernel)
set_option maxRecDepth 20000 in
theorem gX6_endOf_X6_runTrial : GoodIn wsX6_endOf (wsV RX6 146 RX6 yX6_runTrial wsX6_runTrial) := goodIn_app (goodIn_of _ (by decide +kernel)) ggX6_endOf_X6_runTrial
theorem dX6_endOf_0 : decode cX6_endOf 0 = .ok (.aload_n 0, 1) := by decide +kernel
theorem dX6_endOf_1 : decode cX6_endOf 1 = .ok (.iload_n 1, 1) := by decide +kernel
theorem dX6_endOf_2 : decode cX6_endOf 2 = .ok (.invokevirtual 164, 3) := by decide +kernel
theorem dX6_endOf_5 : decode cX6_endOf 5 = .ok (.aload_n 0, 1) := by decide +kernel
theorem dX6_endOf_6 : decode cX6_endOf 6 = .ok (.invokevirtual 146, 3) := by decide +kernel
theorem dX6_endOf_9 : decode cX6_endOf 9 = .ok (.ireturn, 1) := by decide +kernel
set_option maxRecDepth 20000 in
theorem ggX6_share_X6_isJuror : GoodIn wsX6_share wsX6_isJuror := goodIn_r _ [6, 7, 8, 9, 5, 10, 63, 64, 65, 66, 67, 68, 69, 70, 71, 72, 73, 74, 75, 76, 77, 78, 79, 80, 81, 82, 83, 84, 85, 86] (by decide +kernel) (by decide +kernel)
set_option maxRecDepth 20000 in
theorem gX6_share_X6_isJuror : GoodIn wsX6_share (wsV RX6 118 RX6 yX6_isJuror wsX6_isJuror) := goodIn_app (goodIn_of _ (by decide +kernel)) ggX6_share_X6_isJuror
set_option maxRecDepth 20000 in
theorem ggX6_share_X6_isThere : GoodIn wsX6_share wsX6_isThere := goodIn_r _ [14, 1, 15, 16, 5, 17, 63, 64, 65, 66, 67, 68, 69, 70, 71, 72, 73, 74, 75, 76, 77, 78, 79, 80, 81, 82, 83, 84, 85, 86] (by decide +kernel) (by decide +kernel)
set_option maxRecDepth 20000 in
theorem gX6_share_X6_isThere : GoodIn wsX6_share (wsV RX6 108 RX6 yX6_isThere wsX6_isThere) := goodIn_app (goodIn_of _ (by decide +kernel)) ggX6_share_X6_isThere
set_option maxRecDepth 20000 in
theorem ggX6_share_X6_has : GoodIn wsX6_share wsX6_has := goodIn_r _ [17] (by decide +kernel) (by decide +kernel)
set_option maxRecDepth 20000 in
theorem gX6_share_X6_has : GoodIn wsX6_share (va_wsS RX6 68 yX6_has wsX6_has) := goodIn_app (goodIn_of _ (by decide +kernel)) ggX6_share_X6_has
set_option maxRecDepth 20000 in
theorem ggX6_share_X6_ones : GoodIn wsX6_share wsX6_ones := goodIn_r _ [20] (by decide +kernel) (by decide +kernel)
set_option maxRecDepth 20000 in
theorem gX6_share_X6_ones : GoodIn wsX6_share (va_wsS RX6 102 yX6_ones wsX6_ones) := goodIn_app (goodIn_of _ (by decide +kernel)) ggX6_share_X6_ones
set_option maxRecDepth 20000 in
theorem ggX6_share_X6_factorial : GoodIn wsX6_share wsX6_factorial := goodIn_r _ [23] (by decide +kernel) (by decide +kernel)
set_option maxRecDepth 20000 in
theorem gX6_share_X6_factorial : GoodIn wsX6_share (va_wsS RX6 175 yX6_factorial wsX6_factorial) := goodIn_app (goodIn_of _ (by decide +kernel)) ggX6_share_X6_factorial
set_option maxRecDepth 20000 in
theorem ggX6_share_X6_endOf : GoodIn wsX6_share wsX6_endOf := goodIn_r _ [27, 28, 29, 30, 5, 31, 1, 32, 33, 34, 35, 36, 37, 38, 39, 40, 41, 42, 43, 44, 45, 18, 19, 20, 46, 47, 48, 49, 7, 11, 12, 13, 14, 15, 16, 17, 50, 51, 52, 53, 54, 55, 56, 57, 58, 59, 63, 64, 65, 66, 67, 68, 69, 70, 71, 72, 73, 74, 75, 76, 77, 78, 79, 80, 81, 82, 83, 84, 85, 86] (by decide +kernel) (by decide +kernel)
set_option maxRecDepth 20000 in
theorem gX6_share_X6_endOf : GoodIn wsX6_share (wsV RX6 178 RX6 yX6_endOf wsX6_endOf) := goodIn_app (goodIn_of _ (by decide +kernel)) ggX6_share_X6_endOf
set_option maxRecDepth 20000 in
theorem ggX6_share_X6_common : GoodIn wsX6_share wsX6_common := goodIn_r _ [62] (by decide +kernel) (by decide +kernel)
set_option maxRecDepth 20000 in
theorem gX6_share_X6_common : GoodIn wsX6_share (va_wsS RX6 181 yX6_common wsX6_common) := goodIn_app (goodIn_of _ (by decide +kernel)) ggX6_share_X6_common
theorem dX6_share_0 : decode cX6_share 0 = .ok (.aload_n 0, 1) := by decide +kernel
theorem dX6_share_1 : decode cX6_share 1 = .ok (.iload_n 1, 1) := by decide +kernel
theorem dX6_share_2 : decode cX6_share 2 = .ok (.invokevirtual 118, 3) := by decide +kernel
theorem dX6_share_5 : decode cX6_share 5 = .ok (.ifCond .ne 5, 3) := by decide +kernel
theorem dX6_share_8 : decode cX6_share 8 = .ok (.iconst (-1), 1) := by decide +kernel
theorem dX6_share_9 : decode cX6_share 9 = .ok (.ireturn, 1) := by decide +kernel
theorem dX6_share_10 : decode cX6_share 10 = .ok (.aload_n 0, 1) := by decide +kernel
theorem dX6_share_11 : decode cX6_share 11 = .ok (.iconst 0, 1) := by decide +kernel
theorem dX6_share_12 : decode cX6_share 12 = .ok (.iload_n 1, 1) := by decide +kernel
theorem dX6_share_13 : decode cX6_share 13 = .ok (.invokevirtual 108, 3) := by decide +kernel
theorem dX6_share_16 : decode cX6_share 16 = .ok (.ifCond .ne 13, 3) := by decide +kernel
theorem dX6_share_19 : decode cX6_share 19 = .ok (.iload_n 2, 1) := by decide +kernel
theorem dX6_share_20 : decode cX6_share 20 = .ok (.ifCond .eq 7, 3) := by decide +kernel
theorem dX6_share_23 : decode cX6_share 23 = .ok (.iconst 0, 1) := by decide +kernel
theorem dX6_share_24 : decode cX6_share 24 = .ok (.goto 4, 3) := by decide +kernel
theorem dX6_share_27 : decode cX6_share 27 = .ok (.iconst 1, 1) := by decide +kernel
theorem dX6_share_28 : decode cX6_share 28 = .ok (.ireturn, 1) := by decide +kernel
theorem dX6_share_29 : decode cX6_share 29 = .ok (.aload_n 0, 1) := by decide +kernel
theorem dX6_share_30 : decode cX6_share 30 = .ok (.getfield 16, 3) := by decide +kernel
theorem dX6_share_33 : decode cX6_share 33 = .ok (.iconst 1, 1) := by decide +kernel
theorem dX6_share_34 : decode cX6_share 34 = .ok (.iaload, 1) := by decide +kernel
theorem dX6_share_35 : decode cX6_share 35 = .ok (.istore_n 3, 1) := by decide +kernel
theorem dX6_share_36 : decode cX6_share 36 = .ok (.iconst 0, 1) := by decide +kernel
theorem dX6_share_37 : decode cX6_share 37 = .ok (.istore 4, 2) := by decide +kernel
theorem dX6_share_39 : decode cX6_share 39 = .ok (.iconst 0, 1) := by decide +kernel
theorem dX6_share_40 : decode cX6_share 40 = .ok (.istore 5, 2) := by decide +kernel
theorem dX6_share_42 : decode cX6_share 42 = .ok (.iload 5, 2) := by decide +kernel
theorem dX6_share_44 : decode cX6_share 44 = .ok (.iload_n 3, 1) := by decide +kernel
theorem dX6_share_45 : decode cX6_share 45 = .ok (.if_icmp .gt 96, 3) := by decide +kernel
theorem dX6_share_48 : decode cX6_share 48 = .ok (.iload 5, 2) := by decide +kernel
theorem dX6_share_50 : decode cX6_share 50 = .ok (.iload_n 3, 1) := by decide +kernel
theorem dX6_share_51 : decode cX6_share 51 = .ok (.iconst (-1), 1) := by decide +kernel
theorem dX6_share_52 : decode cX6_share 52 = .ok (.ixor, 1) := by decide +kernel
theorem dX6_share_53 : decode cX6_share 53 = .ok (.iand, 1) := by decide +kernel
theorem dX6_share_54 : decode cX6_share 54 = .ok (.ifCond .ne 81, 3) := by decide +kernel
theorem dX6_share_57 : decode cX6_share 57 = .ok (.iload 5, 2) := by decide +kernel
theorem dX6_share_59 : decode cX6_share 59 = .ok (.iload_n 1, 1) := by decide +kernel
theorem dX6_share_60 : decode cX6_share 60 = .ok (.invokestatic 68, 3) := by decide +kernel
theorem dX6_share_63 : decode cX6_share 63 = .ok (.ifCond .ne 72, 3) := by decide +kernel
theorem dX6_share_66 : decode cX6_share 66 = .ok (.iload 5, 2) := by decide +kernel
theorem dX6_share_68 : decode cX6_share 68 = .ok (.invokestatic 102, 3) := by decide +kernel
theorem dX6_share_71 : decode cX6_share 71 = .ok (.invokestatic 175, 3) := by decide +kernel
theorem dX6_share_74 : decode cX6_share 74 = .ok (.iload_n 3, 1) := by decide +kernel
theorem dX6_share_75 : decode cX6_share 75 = .ok (.invokestatic 102, 3) := by decide +kernel
theorem dX6_share_78 : decode cX6_share 78 = .ok (.iconst 1, 1) := by decide +kernel
theorem dX6_share_79 : decode cX6_share 79 = .ok (.isub, 1) := by decide +kernel
theorem dX6_share_80 : decode cX6_share 80 = .ok (.iload 5, 2) := by decide +kernel
theorem dX6_share_82 : decode cX6_share 82 = .ok (.invokestatic 102, 3) := by decide +kernel
theorem dX6_share_85 : decode cX6_share 85 = .ok (.isub, 1) := by decide +kernel
theorem dX6_share_86 : decode cX6_share 86 = .ok (.invokestatic 175, 3) := by decide +kernel
theorem dX6_share_89 : decode cX6_share 89 = .ok (.imul, 1) := by decide +kernel
theorem dX6_share_90 : decode cX6_share 90 = .ok (.istore 6, 2) := by decide +kernel
theorem dX6_share_92 : decode cX6_share 92 = .ok (.iload 4, 2) := by decide +kernel
theorem dX6_share_94 : decode cX6_share 94 = .ok (.iload 6, 2) := by decide +kernel
theorem dX6_share_96 : decode cX6_share 96 = .ok (.aload_n 0, 1) := by decide +kernel
theorem dX6_share_97 : decode cX6_share 97 = .ok (.iload 5, 2) := by decide +kernel
theorem dX6_share_99 : decode cX6_share 99 = .ok (.iconst 1, 1) := by decide +kernel
theorem dX6_share_100 : decode cX6_share 100 = .ok (.iload_n 1, 1) := by decide +kernel
theorem dX6_share_101 : decode cX6_share 101 = .ok (.ishl, 1) := by decide +kernel
theorem dX6_share_102 : decode cX6_share 102 = .ok (.ior, 1) := by decide +kernel
theorem dX6_share_103 : decode cX6_share 103 = .ok (.invokevirtual 178, 3) := by decide +kernel
theorem dX6_share_106 : decode cX6_share 106 = .ok (.iconst 1, 1) := by decide +kernel
theorem dX6_share_107 : decode cX6_share 107 = .ok (.if_icmp .ne 7, 3) := by decide +kernel
theorem dX6_share_110 : decode cX6_share 110 = .ok (.iconst 1, 1) := by decide +kernel
theorem dX6_share_111 : decode cX6_share 111 = .ok (.goto 4, 3) := by decide +kernel
theorem dX6_share_114 : decode cX6_share 114 = .ok (.iconst 0, 1) := by decide +kernel
theorem dX6_share_115 : decode cX6_share 115 = .ok (.aload_n 0, 1) := by decide +kernel
theorem dX6_share_116 : decode cX6_share 116 = .ok (.iload 5, 2) := by decide +kernel
theorem dX6_share_118 : decode cX6_share 118 = .ok (.invokevirtual 178, 3) := by decide +kernel
theorem dX6_share_121 : decode cX6_share 121 = .ok (.iconst 1, 1) := by decide +kernel
theorem dX6_share_122 : decode cX6_share 122 = .ok (.if_icmp .ne 7, 3) := by decide +kernel
theorem dX6_share_125 : decode cX6_share 125 = .ok (.iconst 1, 1) := by decide +kernel
theorem dX6_share_126 : decode cX6_share 126 = .ok (.goto 4, 3) := by decide +kernel
theorem dX6_share_129 : decode cX6_share 129 = .ok (.iconst 0, 1) := by decide +kernel
theorem dX6_share_130 : decode cX6_share 130 = .ok (.isub, 1) := by decide +kernel
theorem dX6_share_131 : decode cX6_share 131 = .ok (.imul, 1) := by decide +kernel
theorem dX6_share_132 : decode cX6_share 132 = .ok (.iadd, 1) := by decide +kernel
theorem dX6_share_133 : decode cX6_share 133 = .ok (.istore 4, 2) := by decide +kernel
theorem dX6_share_135 : decode cX6_share 135 = .ok (.iinc 5 1, 3) := by decide +kernel
theorem dX6_share_138 : decode cX6_share 138 = .ok (.goto (-96), 3) := by decide +kernel
theorem dX6_share_141 : decode cX6_share 141 = .ok (.iload 4, 2) := by decide +kernel
theorem dX6_share_143 : decode cX6_share 143 = .ok (.iload_n 3, 1) := by decide +kernel
theorem dX6_share_144 : decode cX6_share 144 = .ok (.invokestatic 102, 3) := by decide +kernel
theorem dX6_share_147 : decode cX6_share 147 = .ok (.invokestatic 175, 3) := by decide +kernel
theorem dX6_share_150 : decode cX6_share 150 = .ok (.invokestatic 181, 3) := by decide +kernel
theorem dX6_share_153 : decode cX6_share 153 = .ok (.istore 5, 2) := by decide +kernel
theorem dX6_share_155 : decode cX6_share 155 = .ok (.iload_n 2, 1) := by decide +kernel
theorem dX6_share_156 : decode cX6_share 156 = .ok (.ifCond .eq 11, 3) := by decide +kernel
theorem dX6_share_159 : decode cX6_share 159 = .ok (.iload 4, 2) := by decide +kernel
theorem dX6_share_161 : decode cX6_share 161 = .ok (.iload 5, 2) := by decide +kernel
theorem dX6_share_163 : decode cX6_share 163 = .ok (.idiv, 1) := by decide +kernel
theorem dX6_share_164 : decode cX6_share 164 = .ok (.goto 13, 3) := by decide +kernel
theorem dX6_share_167 : decode cX6_share 167 = .ok (.iload_n 3, 1) := by decide +kernel
theorem dX6_share_168 : decode cX6_share 168 = .ok (.invokestatic 102, 3) := by decide +kernel
theorem dX6_share_171 : decode cX6_share 171 = .ok (.invokestatic 175, 3) := by decide +kernel
theorem dX6_share_174 : decode cX6_share 174 = .ok (.iload 5, 2) := by decide +kernel
theorem dX6_share_176 : decode cX6_share 176 = .ok (.idiv, 1) := by decide +kernel
theorem dX6_share_177 : decode cX6_share 177 = .ok (.ireturn, 1) := by decide +kernel
theorem dX6_loses_0 : decode cX6_loses 0 = .ok (.aload_n 0, 1) := by decide +kernel
theorem dX6_loses_1 : decode cX6_loses 1 = .ok (.getfield 7, 3) := by decide +kernel
theorem dX6_loses_4 : decode cX6_loses 4 = .ok (.iload_n 1, 1) := by decide +kernel
theorem dX6_loses_5 : decode cX6_loses 5 = .ok (.iaload, 1) := by decide +kernel
theorem dX6_loses_6 : decode cX6_loses 6 = .ok (.iconst 1, 1) := by decide +kernel
theorem dX6_loses_7 : decode cX6_loses 7 = .ok (.if_icmp .ne 7, 3) := by decide +kernel
theorem dX6_loses_10 : decode cX6_loses 10 = .ok (.iconst 2, 1) := by decide +kernel
theorem dX6_loses_11 : decode cX6_loses 11 = .ok (.goto 4, 3) := by decide +kernel
theorem dX6_loses_14 : decode cX6_loses 14 = .ok (.iconst 1, 1) := by decide +kernel
theorem dX6_loses_15 : decode cX6_loses 15 = .ok (.istore 5, 2) := by decide +kernel
theorem dX6_loses_17 : decode cX6_loses 17 = .ok (.iload_n 3, 1) := by decide +kernel
theorem dX6_loses_18 : decode cX6_loses 18 = .ok (.iload 4, 2) := by decide +kernel
theorem dX6_loses_20 : decode cX6_loses 20 = .ok (.if_icmp .lt 14, 3) := by decide +kernel
theorem dX6_loses_23 : decode cX6_loses 23 = .ok (.iload_n 3, 1) := by decide +kernel
theorem dX6_loses_24 : decode cX6_loses 24 = .ok (.iload 4, 2) := by decide +kernel
theorem dX6_loses_26 : decode cX6_loses 26 = .ok (.if_icmp .ne 12, 3) := by decide +kernel
theorem dX6_loses_29 : decode cX6_loses 29 = .ok (.iload_n 1, 1) := by decide +kernel
theorem dX6_loses_30 : decode cX6_loses 30 = .ok (.iload_n 2, 1) := by decide +kernel
theorem dX6_loses_31 : decode cX6_loses 31 = .ok (.if_icmp .ge 7, 3) := by decide +kernel
theorem dX6_loses_34 : decode cX6_loses 34 = .ok (.iconst 1, 1) := by decide +kernel
theorem dX6_loses_35 : decode cX6_loses 35 = .ok (.goto 4, 3) := by decide +kernel
theorem dX6_loses_38 : decode cX6_loses 38 = .ok (.iconst 0, 1) := by decide +kernel
theorem dX6_loses_39 : decode cX6_loses 39 = .ok (.istore 6, 2) := by decide +kernel
theorem dX6_loses_41 : decode cX6_loses 41 = .ok (.iload 6, 2) := by decide +kernel
theorem dX6_loses_43 : decode cX6_loses 43 = .ok (.ifCond .eq 12, 3) := by decide +kernel
theorem dX6_loses_46 : decode cX6_loses 46 = .ok (.iconst 3, 1) := by decide +kernel
theorem dX6_loses_47 : decode cX6_loses 47 = .ok (.iload_n 3, 1) := by decide +kernel
theorem dX6_loses_48 : decode cX6_loses 48 = .ok (.iload 5, 2) := by decide +kernel
theorem dX6_loses_50 : decode cX6_loses 50 = .ok (.imul, 1) := by decide +kernel
theorem dX6_loses_51 : decode cX6_loses 51 = .ok (.iadd, 1) := by decide +kernel
theorem dX6_loses_52 : decode cX6_loses 52 = .ok (.goto 8, 3) := by decide +kernel
theorem dX6_loses_55 : decode cX6_loses 55 = .ok (.iload 4, 2) := by decide +kernel
theorem dX6_loses_57 : decode cX6_loses 57 = .ok (.iload 5, 2) := by decide +kernel
theorem dX6_loses_59 : decode cX6_loses 59 = .ok (.imul, 1) := by decide +kernel
theorem dX6_loses_60 : decode cX6_loses 60 = .ok (.ireturn, 1) := by decide +kernel
set_option maxRecDepth 20000 in
theorem ggX6_isRest_X6_loses : GoodIn wsX6_isRest wsX6_loses := goodIn_r _ [5, 6, 7, 8, 9, 10, 11, 12, 13, 14, 15, 16, 17, 18, 19, 20, 21, 22, 23, 24, 25, 26, 27, 28, 29, 30] (by decide +kernel) (by decide +kernel)
set_option maxRecDepth 20000 in
theorem gX6_isRest_X6_loses : GoodIn wsX6_isRest (wsV RX6 185 RX6 yX6_loses wsX6_loses) := goodIn_app (goodIn_of _ (by decide +kernel)) ggX6_isRest_X6_loses
theorem dX6_isRest_0 : decode cX6_isRest 0 = .ok (.iconst 1, 1) := by decide +kernel
theorem dX6_isRest_1 : decode cX6_isRest 1 = .ok (.istore 5, 2) := by decide +kernel
theorem dX6_isRest_3 : decode cX6_isRest 3 = .ok (.iconst 0, 1) := by decide +kernel
theorem dX6_isRest_4 : decode cX6_isRest 4 = .ok (.istore 6, 2) := by decide +kernel
theorem dX6_isRest_6 : decode cX6_isRest 6 = .ok (.iload 6, 2) := by decide +kernel
theorem dX6_isRest_8 : decode cX6_isRest 8 = .ok (.iconst 5, 1) := by decide +kernel
theorem dX6_isRest_9 : decode cX6_isRest 9 = .ok (.if_icmp .ge 64, 3) := by decide +kernel
theorem dX6_isRest_12 : decode cX6_isRest 12 = .ok (.iload 5, 2) := by decide +kernel
theorem dX6_isRest_14 : decode cX6_isRest 14 = .ok (.ifCond .eq 50, 3) := by decide +kernel
theorem dX6_isRest_17 : decode cX6_isRest 17 = .ok (.aload_n 0, 1) := by decide +kernel
theorem dX6_isRest_18 : decode cX6_isRest 18 = .ok (.iload_n 1, 1) := by decide +kernel
theorem dX6_isRest_19 : decode cX6_isRest 19 = .ok (.iload_n 2, 1) := by decide +kernel
theorem dX6_isRest_20 : decode cX6_isRest 20 = .ok (.iload 6, 2) := by decide +kernel
theorem dX6_isRest_22 : decode cX6_isRest 22 = .ok (.iload 4, 2) := by decide +kernel
theorem dX6_isRest_24 : decode cX6_isRest 24 = .ok (.invokevirtual 185, 3) := by decide +kernel
theorem dX6_isRest_27 : decode cX6_isRest 27 = .ok (.aload_n 0, 1) := by decide +kernel
theorem dX6_isRest_28 : decode cX6_isRest 28 = .ok (.iload_n 1, 1) := by decide +kernel
theorem dX6_isRest_29 : decode cX6_isRest 29 = .ok (.iload_n 2, 1) := by decide +kernel
theorem dX6_isRest_30 : decode cX6_isRest 30 = .ok (.iload_n 3, 1) := by decide +kernel
theorem dX6_isRest_31 : decode cX6_isRest 31 = .ok (.iload 4, 2) := by decide +kernel
theorem dX6_isRest_33 : decode cX6_isRest 33 = .ok (.invokevirtual 185, 3) := by decide +kernel
theorem dX6_isRest_36 : decode cX6_isRest 36 = .ok (.if_icmp .lt 28, 3) := by decide +kernel
theorem dX6_isRest_39 : decode cX6_isRest 39 = .ok (.aload_n 0, 1) := by decide +kernel
theorem dX6_isRest_40 : decode cX6_isRest 40 = .ok (.iload_n 2, 1) := by decide +kernel
theorem dX6_isRest_41 : decode cX6_isRest 41 = .ok (.iload_n 1, 1) := by decide +kernel
theorem dX6_isRest_42 : decode cX6_isRest 42 = .ok (.iload 6, 2) := by decide +kernel
theorem dX6_isRest_44 : decode cX6_isRest 44 = .ok (.iload_n 3, 1) := by decide +kernel
theorem dX6_isRest_45 : decode cX6_isRest 45 = .ok (.invokevirtual 185, 3) := by decide +kernel
theorem dX6_isRest_48 : decode cX6_isRest 48 = .ok (.aload_n 0, 1) := by decide +kernel
theorem dX6_isRest_49 : decode cX6_isRest 49 = .ok (.iload_n 2, 1) := by decide +kernel
theorem dX6_isRest_50 : decode cX6_isRest 50 = .ok (.iload_n 1, 1) := by decide +kernel
theorem dX6_isRest_51 : decode cX6_isRest 51 = .ok (.iload 4, 2) := by decide +kernel
theorem dX6_isRest_53 : decode cX6_isRest 53 = .ok (.iload_n 3, 1) := by decide +kernel
theorem dX6_isRest_54 : decode cX6_isRest 54 = .ok (.invokevirtual 185, 3) := by decide +kernel
theorem dX6_isRest_57 : decode cX6_isRest 57 = .ok (.if_icmp .lt 7, 3) := by decide +kernel
theorem dX6_isRest_60 : decode cX6_isRest 60 = .ok (.iconst 1, 1) := by decide +kernel
theorem dX6_isRest_61 : decode cX6_isRest 61 = .ok (.goto 4, 3) := by decide +kernel
theorem dX6_isRest_64 : decode cX6_isRest 64 = .ok (.iconst 0, 1) := by decide +kernel
theorem dX6_isRest_65 : decode cX6_isRest 65 = .ok (.istore 5, 2) := by decide +kernel
theorem dX6_isRest_67 : decode cX6_isRest 67 = .ok (.iinc 6 1, 3) := by decide +kernel
theorem dX6_isRest_70 : decode cX6_isRest 70 = .ok (.goto (-64), 3) := by decide +kernel
theorem dX6_isRest_73 : decode cX6_isRest 73 = .ok (.iload 5, 2) := by decide +kernel
theorem dX6_isRest_75 : decode cX6_isRest 75 = .ok (.ireturn, 1) := by decide +kernel
set_option maxRecDepth 20000 in
theorem ggX6_rests_X6_isJuror : GoodIn wsX6_rests wsX6_isJuror := goodIn_r _ [5, 6, 7, 8, 4, 9, 19, 20, 21, 22, 23, 24, 25, 26, 27, 28, 29, 30, 31, 32, 33, 34, 35, 36, 37, 38, 39, 40, 41, 42] (by decide +kernel) (by decide +kernel)
set_option maxRecDepth 20000 in
theorem gX6_rests_X6_isJuror : GoodIn wsX6_rests (wsV RX6 118 RX6 yX6_isJuror wsX6_isJuror) := goodIn_app (goodIn_of _ (by decide +kernel)) ggX6_rests_X6_isJuror
set_option maxRecDepth 20000 in
theorem ggX6_rests_X6_in : GoodIn wsX6_rests wsX6_in := goodIn_r _ [9] (by decide +kernel) (by decide +kernel)
set_option maxRecDepth 20000 in
theorem gX6_rests_X6_in : GoodIn wsX6_rests (va_wsS RX6 53 yX6_in wsX6_in) := goodIn_app (goodIn_of _ (by decide +kernel)) ggX6_rests_X6_in
set_option maxRecDepth 20000 in
theorem ggX6_rests_X6_isRest : GoodIn wsX6_rests wsX6_isRest := goodIn_r _ [13, 14, 15, 16, 4, 17, 18, 19, 20, 21, 22, 23, 24, 25, 26, 27, 28, 29, 30, 31, 32, 33, 34, 35, 36, 37, 38, 39, 40, 41, 42] (by decide +kernel) (by decide +kernel)
set_option maxRecDepth 20000 in
theorem gX6_rests_X6_isRest : GoodIn wsX6_rests (wsV RX6 189 RX6 yX6_isRest wsX6_isRest) := goodIn_app (goodIn_of _ (by decide +kernel)) ggX6_rests_X6_isRest
theorem dX6_rests_0 : decode cX6_rests 0 = .ok (.aload_n 0, 1) := by decide +kernel
theorem dX6_rests_1 : decode cX6_rests 1 = .ok (.iload_n 1, 1) := by decide +kernel
theorem dX6_rests_2 : decode cX6_rests 2 = .ok (.invokevirtual 118, 3) := by decide +kernel
theorem dX6_rests_5 : decode cX6_rests 5 = .ok (.ifCond .eq 11, 3) := by decide +kernel
theorem dX6_rests_8 : decode cX6_rests 8 = .ok (.aload_n 0, 1) := by decide +kernel
theorem dX6_rests_9 : decode cX6_rests 9 = .ok (.iload_n 2, 1) := by decide +kernel
theorem dX6_rests_10 : decode cX6_rests 10 = .ok (.invokevirtual 118, 3) := by decide +kernel
theorem dX6_rests_13 : decode cX6_rests 13 = .ok (.ifCond .ne 5, 3) := by decide +kernel
theorem dX6_rests_16 : decode cX6_rests 16 = .ok (.iconst (-1), 1) := by decide +kernel
theorem dX6_rests_17 : decode cX6_rests 17 = .ok (.ireturn, 1) := by decide +kernel
theorem dX6_rests_18 : decode cX6_rests 18 = .ok (.iload_n 1, 1) := by decide +kernel
theorem dX6_rests_19 : decode cX6_rests 19 = .ok (.iload_n 2, 1) := by decide +kernel
theorem dX6_rests_20 : decode cX6_rests 20 = .ok (.if_icmp .eq 13, 3) := by decide +kernel
theorem dX6_rests_23 : decode cX6_rests 23 = .ok (.iload_n 3, 1) := by decide +kernel
theorem dX6_rests_24 : decode cX6_rests 24 = .ok (.i2l, 1) := by decide +kernel
theorem dX6_rests_25 : decode cX6_rests 25 = .ok (.lconst 0, 1) := by decide +kernel
theorem dX6_rests_26 : decode cX6_rests 26 = .ok (.lconst 1, 1) := by decide +kernel
theorem dX6_rests_27 : decode cX6_rests 27 = .ok (.invokestatic 53, 3) := by decide +kernel
theorem dX6_rests_30 : decode cX6_rests 30 = .ok (.ifCond .ne 6, 3) := by decide +kernel
theorem dX6_rests_33 : decode cX6_rests 33 = .ok (.bipush (-2), 2) := by decide +kernel
theorem dX6_rests_35 : decode cX6_rests 35 = .ok (.ireturn, 1) := by decide +kernel
theorem dX6_rests_36 : decode cX6_rests 36 = .ok (.iconst 0, 1) := by decide +kernel
theorem dX6_rests_37 : decode cX6_rests 37 = .ok (.istore 4, 2) := by decide +kernel
theorem dX6_rests_39 : decode cX6_rests 39 = .ok (.bipush (-9), 2) := by decide +kernel
theorem dX6_rests_41 : decode cX6_rests 41 = .ok (.istore 5, 2) := by decide +kernel
theorem dX6_rests_43 : decode cX6_rests 43 = .ok (.iconst 0, 1) := by decide +kernel
theorem dX6_rests_44 : decode cX6_rests 44 = .ok (.istore 6, 2) := by decide +kernel
theorem dX6_rests_46 : decode cX6_rests 46 = .ok (.iload 6, 2) := by decide +kernel
theorem dX6_rests_48 : decode cX6_rests 48 = .ok (.bipush 25, 2) := by decide +kernel
theorem dX6_rests_50 : decode cX6_rests 50 = .ok (.if_icmp .ge 53, 3) := by decide +kernel
theorem dX6_rests_53 : decode cX6_rests 53 = .ok (.aload_n 0, 1) := by decide +kernel
theorem dX6_rests_54 : decode cX6_rests 54 = .ok (.iload_n 1, 1) := by decide +kernel
theorem dX6_rests_55 : decode cX6_rests 55 = .ok (.iload_n 2, 1) := by decide +kernel
theorem dX6_rests_56 : decode cX6_rests 56 = .ok (.iload 6, 2) := by decide +kernel
theorem dX6_rests_58 : decode cX6_rests 58 = .ok (.iconst 5, 1) := by decide +kernel
theorem dX6_rests_59 : decode cX6_rests 59 = .ok (.idiv, 1) := by decide +kernel
theorem dX6_rests_60 : decode cX6_rests 60 = .ok (.iload 6, 2) := by decide +kernel
theorem dX6_rests_62 : decode cX6_rests 62 = .ok (.iconst 5, 1) := by decide +kernel
theorem dX6_rests_63 : decode cX6_rests 63 = .ok (.irem, 1) := by decide +kernel
theorem dX6_rests_64 : decode cX6_rests 64 = .ok (.invokevirtual 189, 3) := by decide +kernel
theorem dX6_rests_67 : decode cX6_rests 67 = .ok (.ifCond .eq 30, 3) := by decide +kernel
theorem dX6_rests_70 : decode cX6_rests 70 = .ok (.iload 4, 2) := by decide +kernel
theorem dX6_rests_72 : decode cX6_rests 72 = .ok (.ifCond .ne 18, 3) := by decide +kernel
theorem dX6_rests_75 : decode cX6_rests 75 = .ok (.bipush 10, 2) := by decide +kernel
theorem dX6_rests_77 : decode cX6_rests 77 = .ok (.iload 6, 2) := by decide +kernel
theorem dX6_rests_79 : decode cX6_rests 79 = .ok (.iconst 5, 1) := by decide +kernel
theorem dX6_rests_80 : decode cX6_rests 80 = .ok (.idiv, 1) := by decide +kernel
theorem dX6_rests_81 : decode cX6_rests 81 = .ok (.imul, 1) := by decide +kernel
theorem dX6_rests_82 : decode cX6_rests 82 = .ok (.iload 6, 2) := by decide +kernel
theorem dX6_rests_84 : decode cX6_rests 84 = .ok (.iconst 5, 1) := by decide +kernel
theorem dX6_rests_85 : decode cX6_rests 85 = .ok (.irem, 1) := by decide +kernel
theorem dX6_rests_86 : decode cX6_rests 86 = .ok (.iadd, 1) := by decide +kernel
theorem dX6_rests_87 : decode cX6_rests 87 = .ok (.goto 5, 3) := by decide +kernel
theorem dX6_rests_90 : decode cX6_rests 90 = .ok (.iload 5, 2) := by decide +kernel
theorem dX6_rests_92 : decode cX6_rests 92 = .ok (.istore 5, 2) := by decide +kernel
theorem dX6_rests_94 : decode cX6_rests 94 = .ok (.iinc 4 1, 3) := by decide +kernel
theorem dX6_rests_97 : decode cX6_rests 97 = .ok (.iinc 6 1, 3) := by decide +kernel
theorem dX6_rests_100 : decode cX6_rests 100 = .ok (.goto (-54), 3) := by decide +kernel
theorem dX6_rests_103 : decode cX6_rests 103 = .ok (.iload_n 3, 1) := by decide +kernel
theorem dX6_rests_104 : decode cX6_rests 104 = .ok (.ifCond .ne 8, 3) := by decide +kernel
theorem dX6_rests_107 : decode cX6_rests 107 = .ok (.iload 4, 2) := by decide +kernel
theorem dX6_rests_109 : decode cX6_rests 109 = .ok (.goto 5, 3) := by decide +kernel
theorem dX6_rests_112 : decode cX6_rests 112 = .ok (.iload 5, 2) := by decide +kernel
theorem dX6_rests_114 : decode cX6_rests 114 = .ok (.ireturn, 1) := by decide +kernel
theorem dX6_power_0 : decode cX6_power 0 = .ok (.iconst 1, 1) := by decide +kernel
theorem dX6_power_1 : decode cX6_power 1 = .ok (.istore_n 2, 1) := by decide +kernel
theorem dX6_power_2 : decode cX6_power 2 = .ok (.iconst 0, 1) := by decide +kernel
theorem dX6_power_3 : decode cX6_power 3 = .ok (.istore_n 3, 1) := by decide +kernel
theorem dX6_power_4 : decode cX6_power 4 = .ok (.iload_n 3, 1) := by decide +kernel
theorem dX6_power_5 : decode cX6_power 5 = .ok (.iload_n 1, 1) := by decide +kernel
theorem dX6_power_6 : decode cX6_power 6 = .ok (.if_icmp .ge 13, 3) := by decide +kernel
theorem dX6_power_9 : decode cX6_power 9 = .ok (.iload_n 2, 1) := by decide +kernel
theorem dX6_power_10 : decode cX6_power 10 = .ok (.iload_n 0, 1) := by decide +kernel
theorem dX6_power_11 : decode cX6_power 11 = .ok (.imul, 1) := by decide +kernel
theorem dX6_power_12 : decode cX6_power 12 = .ok (.istore_n 2, 1) := by decide +kernel
theorem dX6_power_13 : decode cX6_power 13 = .ok (.iinc 3 1, 3) := by decide +kernel
theorem dX6_power_16 : decode cX6_power 16 = .ok (.goto (-12), 3) := by decide +kernel
theorem dX6_power_19 : decode cX6_power 19 = .ok (.iload_n 2, 1) := by decide +kernel
theorem dX6_power_20 : decode cX6_power 20 = .ok (.ireturn, 1) := by decide +kernel
set_option maxRecDepth 20000 in
theorem ggX6_coins_X6_in : GoodIn wsX6_coins wsX6_in := goodIn_r _ [6] (by decide +kernel) (by decide +kernel)
set_option maxRecDepth 20000 in
theorem gX6_coins_X6_in : GoodIn wsX6_coins (va_wsS RX6 53 yX6_in wsX6_in) := goodIn_app (goodIn_of _ (by decide +kernel)) ggX6_coins_X6_in
set_option maxRecDepth 20000 in
theorem ggX6_coins_X6_ones : GoodIn wsX6_coins wsX6_ones := goodIn_r _ [9] (by decide +kernel) (by decide +kernel)
set_option maxRecDepth 20000 in
theorem gX6_coins_X6_ones : GoodIn wsX6_coins (va_wsS RX6 102 yX6_ones wsX6_ones) := goodIn_app (goodIn_of _ (by decide +kernel)) ggX6_coins_X6_ones
set_option maxRecDepth 20000 in
theorem ggX6_coins_X6_power : GoodIn wsX6_coins wsX6_power := goodIn_r _ [12] (by decide +kernel) (by decide +kernel)
set_option maxRecDepth 20000 in
theorem gX6_coins_X6_power : GoodIn wsX6_coins (va_wsS RX6 195 yX6_power wsX6_power) := goodIn_app (goodIn_of _ (by decide +kernel)) ggX6_coins_X6_power
set_option maxRecDepth 20000 in
theorem ggX6_coins_X6_endOf : GoodIn wsX6_coins wsX6_endOf := goodIn_r _ [16, 17, 18, 19, 5, 20, 2, 21, 22, 23, 24, 25, 26, 27, 28, 29, 30, 31, 32, 33, 34, 7, 8, 9, 35, 36, 37, 38, 39, 40, 41, 42, 43, 44, 45, 46, 47, 48, 49, 50, 51, 52, 53, 54, 55, 56, 60, 61, 62, 63, 64, 65, 66, 67, 68, 69, 70, 71, 72, 73, 74, 75, 76, 77, 78, 79, 80, 81, 82, 83] (by decide +kernel) (by decide +kernel)
set_option maxRecDepth 20000 in
theorem gX6_coins_X6_endOf : GoodIn wsX6_coins (wsV RX6 178 RX6 yX6_endOf wsX6_endOf) := goodIn_app (goodIn_of _ (by decide +kernel)) ggX6_coins_X6_endOf
set_option maxRecDepth 20000 in
theorem ggX6_coins_X6_common : GoodIn wsX6_coins wsX6_common := goodIn_r _ [59] (by decide +kernel) (by decide +kernel)
set_option maxRecDepth 20000 in
theorem gX6_coins_X6_common : GoodIn wsX6_coins (va_wsS RX6 181 yX6_common wsX6_common) := goodIn_app (goodIn_of _ (by decide +kernel)) ggX6_coins_X6_common
theorem dX6_coins_0 : decode cX6_coins 0 = .ok (.iload_n 1, 1) := by decide +kernel
theorem dX6_coins_1 : decode cX6_coins 1 = .ok (.i2l, 1) := by decide +kernel
theorem dX6_coins_2 : decode cX6_coins 2 = .ok (.lconst 0, 1) := by decide +kernel
theorem dX6_coins_3 : decode cX6_coins 3 = .ok (.lconst 1, 1) := by decide +kernel
theorem dX6_coins_4 : decode cX6_coins 4 = .ok (.invokestatic 53, 3) := by decide +kernel
theorem dX6_coins_7 : decode cX6_coins 7 = .ok (.ifCond .ne 9, 3) := by decide +kernel
theorem dX6_coins_10 : decode cX6_coins 10 = .ok (.iload_n 1, 1) := by decide +kernel
theorem dX6_coins_11 : decode cX6_coins 11 = .ok (.bipush 9, 2) := by decide +kernel
theorem dX6_coins_13 : decode cX6_coins 13 = .ok (.if_icmp .ne 15, 3) := by decide +kernel
theorem dX6_coins_16 : decode cX6_coins 16 = .ok (.iload_n 2, 1) := by decide +kernel
theorem dX6_coins_17 : decode cX6_coins 17 = .ok (.i2l, 1) := by decide +kernel
theorem dX6_coins_18 : decode cX6_coins 18 = .ok (.lconst 0, 1) := by decide +kernel
theorem dX6_coins_19 : decode cX6_coins 19 = .ok (.ldc2_w 193, 3) := by decide +kernel
theorem dX6_coins_22 : decode cX6_coins 22 = .ok (.invokestatic 53, 3) := by decide +kernel
theorem dX6_coins_25 : decode cX6_coins 25 = .ok (.ifCond .ne 6, 3) := by decide +kernel
theorem dX6_coins_28 : decode cX6_coins 28 = .ok (.bipush (-2), 2) := by decide +kernel
theorem dX6_coins_30 : decode cX6_coins 30 = .ok (.ireturn, 1) := by decide +kernel
theorem dX6_coins_31 : decode cX6_coins 31 = .ok (.aload_n 0, 1) := by decide +kernel
theorem dX6_coins_32 : decode cX6_coins 32 = .ok (.getfield 16, 3) := by decide +kernel
theorem dX6_coins_35 : decode cX6_coins 35 = .ok (.iconst 1, 1) := by decide +kernel
theorem dX6_coins_36 : decode cX6_coins 36 = .ok (.iaload, 1) := by decide +kernel
theorem dX6_coins_37 : decode cX6_coins 37 = .ok (.istore 4, 2) := by decide +kernel
theorem dX6_coins_39 : decode cX6_coins 39 = .ok (.iconst 0, 1) := by decide +kernel
theorem dX6_coins_40 : decode cX6_coins 40 = .ok (.istore 5, 2) := by decide +kernel
theorem dX6_coins_42 : decode cX6_coins 42 = .ok (.iconst 0, 1) := by decide +kernel
theorem dX6_coins_43 : decode cX6_coins 43 = .ok (.istore 6, 2) := by decide +kernel
theorem dX6_coins_45 : decode cX6_coins 45 = .ok (.iconst 0, 1) := by decide +kernel
theorem dX6_coins_46 : decode cX6_coins 46 = .ok (.istore 7, 2) := by decide +kernel
theorem dX6_coins_48 : decode cX6_coins 48 = .ok (.iload 7, 2) := by decide +kernel
theorem dX6_coins_50 : decode cX6_coins 50 = .ok (.iload 4, 2) := by decide +kernel
theorem dX6_coins_52 : decode cX6_coins 52 = .ok (.if_icmp .gt 87, 3) := by decide +kernel
theorem dX6_coins_55 : decode cX6_coins 55 = .ok (.iload 7, 2) := by decide +kernel
theorem dX6_coins_57 : decode cX6_coins 57 = .ok (.iload 4, 2) := by decide +kernel
theorem dX6_coins_59 : decode cX6_coins 59 = .ok (.iconst (-1), 1) := by decide +kernel
theorem dX6_coins_60 : decode cX6_coins 60 = .ok (.ixor, 1) := by decide +kernel
theorem dX6_coins_61 : decode cX6_coins 61 = .ok (.iand, 1) := by decide +kernel
theorem dX6_coins_62 : decode cX6_coins 62 = .ok (.ifCond .ne 71, 3) := by decide +kernel
theorem dX6_coins_65 : decode cX6_coins 65 = .ok (.iload_n 2, 1) := by decide +kernel
theorem dX6_coins_66 : decode cX6_coins 66 = .ok (.iload 7, 2) := by decide +kernel
theorem dX6_coins_68 : decode cX6_coins 68 = .ok (.invokestatic 102, 3) := by decide +kernel
theorem dX6_coins_71 : decode cX6_coins 71 = .ok (.invokestatic 195, 3) := by decide +kernel
theorem dX6_coins_74 : decode cX6_coins 74 = .ok (.bipush 10, 2) := by decide +kernel
theorem dX6_coins_76 : decode cX6_coins 76 = .ok (.iload_n 2, 1) := by decide +kernel
theorem dX6_coins_77 : decode cX6_coins 77 = .ok (.isub, 1) := by decide +kernel
theorem dX6_coins_78 : decode cX6_coins 78 = .ok (.iload 4, 2) := by decide +kernel
theorem dX6_coins_80 : decode cX6_coins 80 = .ok (.invokestatic 102, 3) := by decide +kernel
theorem dX6_coins_83 : decode cX6_coins 83 = .ok (.iload 7, 2) := by decide +kernel
theorem dX6_coins_85 : decode cX6_coins 85 = .ok (.invokestatic 102, 3) := by decide +kernel
theorem dX6_coins_88 : decode cX6_coins 88 = .ok (.isub, 1) := by decide +kernel
theorem dX6_coins_89 : decode cX6_coins 89 = .ok (.invokestatic 195, 3) := by decide +kernel
theorem dX6_coins_92 : decode cX6_coins 92 = .ok (.imul, 1) := by decide +kernel
theorem dX6_coins_93 : decode cX6_coins 93 = .ok (.istore 8, 2) := by decide +kernel
theorem dX6_coins_95 : decode cX6_coins 95 = .ok (.iload 6, 2) := by decide +kernel
theorem dX6_coins_97 : decode cX6_coins 97 = .ok (.iload 8, 2) := by decide +kernel
theorem dX6_coins_99 : decode cX6_coins 99 = .ok (.iadd, 1) := by decide +kernel
theorem dX6_coins_100 : decode cX6_coins 100 = .ok (.istore 6, 2) := by decide +kernel
theorem dX6_coins_102 : decode cX6_coins 102 = .ok (.iload 5, 2) := by decide +kernel
theorem dX6_coins_104 : decode cX6_coins 104 = .ok (.aload_n 0, 1) := by decide +kernel
theorem dX6_coins_105 : decode cX6_coins 105 = .ok (.aload_n 0, 1) := by decide +kernel
theorem dX6_coins_106 : decode cX6_coins 106 = .ok (.getfield 16, 3) := by decide +kernel
theorem dX6_coins_109 : decode cX6_coins 109 = .ok (.iconst 0, 1) := by decide +kernel
theorem dX6_coins_110 : decode cX6_coins 110 = .ok (.iaload, 1) := by decide +kernel
theorem dX6_coins_111 : decode cX6_coins 111 = .ok (.iload 4, 2) := by decide +kernel
theorem dX6_coins_113 : decode cX6_coins 113 = .ok (.iand, 1) := by decide +kernel
theorem dX6_coins_114 : decode cX6_coins 114 = .ok (.iload 7, 2) := by decide +kernel
theorem dX6_coins_116 : decode cX6_coins 116 = .ok (.ixor, 1) := by decide +kernel
theorem dX6_coins_117 : decode cX6_coins 117 = .ok (.invokevirtual 178, 3) := by decide +kernel
theorem dX6_coins_120 : decode cX6_coins 120 = .ok (.iload_n 1, 1) := by decide +kernel
theorem dX6_coins_121 : decode cX6_coins 121 = .ok (.if_icmp .ne 8, 3) := by decide +kernel
theorem dX6_coins_124 : decode cX6_coins 124 = .ok (.iload 8, 2) := by decide +kernel
theorem dX6_coins_126 : decode cX6_coins 126 = .ok (.goto 4, 3) := by decide +kernel
theorem dX6_coins_129 : decode cX6_coins 129 = .ok (.iconst 0, 1) := by decide +kernel
theorem dX6_coins_130 : decode cX6_coins 130 = .ok (.iadd, 1) := by decide +kernel
theorem dX6_coins_131 : decode cX6_coins 131 = .ok (.istore 5, 2) := by decide +kernel
theorem dX6_coins_133 : decode cX6_coins 133 = .ok (.iinc 7 1, 3) := by decide +kernel
theorem dX6_coins_136 : decode cX6_coins 136 = .ok (.goto (-88), 3) := by decide +kernel
theorem dX6_coins_139 : decode cX6_coins 139 = .ok (.iload 5, 2) := by decide +kernel
theorem dX6_coins_141 : decode cX6_coins 141 = .ok (.iload 6, 2) := by decide +kernel
theorem dX6_coins_143 : decode cX6_coins 143 = .ok (.invokestatic 181, 3) := by decide +kernel
theorem dX6_coins_146 : decode cX6_coins 146 = .ok (.istore 7, 2) := by decide +kernel
theorem dX6_coins_148 : decode cX6_coins 148 = .ok (.iload_n 3, 1) := by decide +kernel
theorem dX6_coins_149 : decode cX6_coins 149 = .ok (.ifCond .eq 11, 3) := by decide +kernel
theorem dX6_coins_152 : decode cX6_coins 152 = .ok (.iload 5, 2) := by decide +kernel
theorem dX6_coins_154 : decode cX6_coins 154 = .ok (.iload 7, 2) := by decide +kernel
theorem dX6_coins_156 : decode cX6_coins 156 = .ok (.idiv, 1) := by decide +kernel
theorem dX6_coins_157 : decode cX6_coins 157 = .ok (.goto 8, 3) := by decide +kernel
theorem dX6_coins_160 : decode cX6_coins 160 = .ok (.iload 6, 2) := by decide +kernel
theorem dX6_coins_162 : decode cX6_coins 162 = .ok (.iload 7, 2) := by decide +kernel
theorem dX6_coins_164 : decode cX6_coins 164 = .ok (.idiv, 1) := by decide +kernel
theorem dX6_coins_165 : decode cX6_coins 165 = .ok (.ireturn, 1) := by decide +kernel
theorem dX6_seed_0 : decode cX6_seed 0 = .ok (.aload_n 0, 1) := by decide +kernel
theorem dX6_seed_1 : decode cX6_seed 1 = .ok (.getfield 198, 3) := by decide +kernel
theorem dX6_seed_4 : decode cX6_seed 4 = .ok (.lstore_n 3, 1) := by decide +kernel
theorem dX6_seed_5 : decode cX6_seed 5 = .ok (.aload_n 0, 1) := by decide +kernel
theorem dX6_seed_6 : decode cX6_seed 6 = .ok (.lload_n 1, 1) := by decide +kernel
theorem dX6_seed_7 : decode cX6_seed 7 = .ok (.putfield 198, 3) := by decide +kernel
theorem dX6_seed_10 : decode cX6_seed 10 = .ok (.lload_n 3, 1) := by decide +kernel
theorem dX6_seed_11 : decode cX6_seed 11 = .ok (.lreturn, 1) := by decide +kernel
set_option maxRecDepth 20000 in
theorem ggX6_assizes_X6_in : GoodIn wsX6_assizes wsX6_in := goodIn_r _ [10] (by decide +kernel) (by decide +kernel)
set_option maxRecDepth 20000 in
theorem gX6_assizes_X6_in : GoodIn wsX6_assizes (va_wsS RX6 53 yX6_in wsX6_in) := goodIn_app (goodIn_of _ (by decide +kernel)) ggX6_assizes_X6_in
set_option maxRecDepth 20000 in
theorem ggX6_assizes_X6_layTrial : GoodIn wsX6_assizes wsX6_layTrial := goodIn_r _ [14, 6, 49, 50, 51, 52, 53, 54, 55, 56, 57, 58, 59, 60, 61, 62, 63, 64, 65, 66, 67, 68, 69, 70, 71, 72] (by decide +kernel) (by decide +kernel)
set_option maxRecDepth 20000 in
theorem gX6_assizes_X6_layTrial : GoodIn wsX6_assizes (wsV RX6 140 RX6 yX6_layTrial wsX6_layTrial) := goodIn_app (goodIn_of _ (by decide +kernel)) ggX6_assizes_X6_layTrial
set_option maxRecDepth 20000 in
theorem ggX6_assizes_X6_passOn : GoodIn wsX6_assizes wsX6_passOn := goodIn_r _ [18, 6, 19, 20, 21, 22, 9, 23, 24, 25, 26, 27, 28, 29, 30, 31, 32, 33, 34, 35, 36, 37, 38, 39, 40, 41, 42, 43, 44, 49, 50, 51, 52, 53, 54, 55, 56, 57, 58, 59, 60, 61, 62, 63, 64, 65, 66, 67, 68, 69, 70, 71, 72] (by decide +kernel) (by decide +kernel)
set_option maxRecDepth 20000 in
theorem gX6_assizes_X6_passOn : GoodIn wsX6_assizes (wsV RX6 128 RX6 yX6_passOn wsX6_passOn) := goodIn_app (goodIn_of _ (by decide +kernel)) ggX6_assizes_X6_passOn
set_option maxRecDepth 20000 in
theorem ggX6_assizes_X6_isJuror : GoodIn wsX6_assizes wsX6_isJuror := goodIn_r _ [48, 19, 7, 8, 9, 10, 49, 50, 51, 52, 53, 54, 55, 56, 57, 58, 59, 60, 61, 62, 63, 64, 65, 66, 67, 68, 69, 70, 71, 72] (by decide +kernel) (by decide +kernel)
set_option maxRecDepth 20000 in
theorem gX6_assizes_X6_isJuror : GoodIn wsX6_assizes (wsV RX6 118 RX6 yX6_isJuror wsX6_isJuror) := goodIn_app (goodIn_of _ (by decide +kernel)) ggX6_assizes_X6_isJuror
set_option maxRecDepth 20000 in
theorem ggX6_assizes_X6_isThere : GoodIn wsX6_assizes wsX6_isThere := goodIn_r _ [31, 6, 32, 33, 9, 34, 49, 50, 51, 52, 53, 54, 55, 56, 57, 58, 59, 60, 61, 62, 63, 64, 65, 66, 67, 68, 69, 70, 71, 72] (by decide +kernel) (by decide +kernel)
set_option maxRecDepth 20000 in
theorem gX6_assizes_X6_isThere : GoodIn wsX6_assizes (wsV RX6 108 RX6 yX6_isThere wsX6_isThere) := goodIn_app (goodIn_of _ (by decide +kernel)) ggX6_assizes_X6_isThere
set_option maxRecDepth 20000 in
theorem ggX6_assizes_X6_verdict : GoodIn wsX6_assizes wsX6_verdict := goodIn_r _ [23, 6, 24, 25, 26, 9, 27, 49, 50, 51, 52, 53, 54, 55, 56, 57, 58, 59, 60, 61, 62, 63, 64, 65, 66, 67, 68, 69, 70, 71, 72] (by decide +kernel) (by decide +kernel)
set_option maxRecDepth 20000 in
theorem gX6_assizes_X6_verdict : GoodIn wsX6_assizes (wsV RX6 105 RX6 yX6_verdict wsX6_verdict) := goodIn_app (goodIn_of _ (by decide +kernel)) ggX6_assizes_X6_verdict
theorem dX6_assizes_0 : decode cX6_assizes 0 = .ok (.iload_n 1, 1) := by decide +kernel
theorem dX6_assizes_1 : decode cX6_assizes 1 = .ok (.i2l, 1) := by decide +kernel
theorem dX6_assizes_2 : decode cX6_assizes 2 = .ok (.lconst 1, 1) := by decide +kernel
theorem dX6_assizes_3 : decode cX6_assizes 3 = .ok (.ldc2_w 202, 3) := by decide +kernel
theorem dX6_assizes_6 : decode cX6_assizes 6 = .ok (.invokestatic 53, 3) := by decide +kernel
theorem dX6_assizes_9 : decode cX6_assizes 9 = .ok (.ifCond .ne 6, 3) := by decide +kernel
theorem dX6_assizes_12 : decode cX6_assizes 12 = .ok (.bipush (-2), 2) := by decide +kernel
theorem dX6_assizes_14 : decode cX6_assizes 14 = .ok (.ireturn, 1) := by decide +kernel
theorem dX6_assizes_15 : decode cX6_assizes 15 = .ok (.aload_n 0, 1) := by decide +kernel
theorem dX6_assizes_16 : decode cX6_assizes 16 = .ok (.invokevirtual 140, 3) := by decide +kernel
theorem dX6_assizes_19 : decode cX6_assizes 19 = .ok (.iconst 0, 1) := by decide +kernel
theorem dX6_assizes_20 : decode cX6_assizes 20 = .ok (.istore_n 2, 1) := by decide +kernel
theorem dX6_assizes_21 : decode cX6_assizes 21 = .ok (.iconst 0, 1) := by decide +kernel
theorem dX6_assizes_22 : decode cX6_assizes 22 = .ok (.istore_n 3, 1) := by decide +kernel
theorem dX6_assizes_23 : decode cX6_assizes 23 = .ok (.iload_n 3, 1) := by decide +kernel
theorem dX6_assizes_24 : decode cX6_assizes 24 = .ok (.iload_n 1, 1) := by decide +kernel
theorem dX6_assizes_25 : decode cX6_assizes 25 = .ok (.if_icmp .ge 105, 3) := by decide +kernel
theorem dX6_assizes_28 : decode cX6_assizes 28 = .ok (.aload_n 0, 1) := by decide +kernel
theorem dX6_assizes_29 : decode cX6_assizes 29 = .ok (.aload_n 0, 1) := by decide +kernel
theorem dX6_assizes_30 : decode cX6_assizes 30 = .ok (.getfield 198, 3) := by decide +kernel
theorem dX6_assizes_33 : decode cX6_assizes 33 = .ok (.ldc2_w 204, 3) := by decide +kernel
theorem dX6_assizes_36 : decode cX6_assizes 36 = .ok (.lmul, 1) := by decide +kernel
theorem dX6_assizes_37 : decode cX6_assizes 37 = .ok (.ldc2_w 206, 3) := by decide +kernel
theorem dX6_assizes_40 : decode cX6_assizes 40 = .ok (.ladd, 1) := by decide +kernel
theorem dX6_assizes_41 : decode cX6_assizes 41 = .ok (.putfield 198, 3) := by decide +kernel
theorem dX6_assizes_44 : decode cX6_assizes 44 = .ok (.aload_n 0, 1) := by decide +kernel
theorem dX6_assizes_45 : decode cX6_assizes 45 = .ok (.getfield 198, 3) := by decide +kernel
theorem dX6_assizes_48 : decode cX6_assizes 48 = .ok (.bipush 33, 2) := by decide +kernel
theorem dX6_assizes_50 : decode cX6_assizes 50 = .ok (.lushr, 1) := by decide +kernel
theorem dX6_assizes_51 : decode cX6_assizes 51 = .ok (.ldc2_w 66, 3) := by decide +kernel
theorem dX6_assizes_54 : decode cX6_assizes 54 = .ok (.lrem, 1) := by decide +kernel
theorem dX6_assizes_55 : decode cX6_assizes 55 = .ok (.l2i, 1) := by decide +kernel
theorem dX6_assizes_56 : decode cX6_assizes 56 = .ok (.istore 4, 2) := by decide +kernel
theorem dX6_assizes_58 : decode cX6_assizes 58 = .ok (.iload 4, 2) := by decide +kernel
theorem dX6_assizes_60 : decode cX6_assizes 60 = .ok (.iconst 5, 1) := by decide +kernel
theorem dX6_assizes_61 : decode cX6_assizes 61 = .ok (.if_icmp .le 12, 3) := by decide +kernel
theorem dX6_assizes_64 : decode cX6_assizes 64 = .ok (.aload_n 0, 1) := by decide +kernel
theorem dX6_assizes_65 : decode cX6_assizes 65 = .ok (.iconst 1, 1) := by decide +kernel
theorem dX6_assizes_66 : decode cX6_assizes 66 = .ok (.invokevirtual 128, 3) := by decide +kernel
theorem dX6_assizes_69 : decode cX6_assizes 69 = .ok (.pop, 1) := by decide +kernel
theorem dX6_assizes_70 : decode cX6_assizes 70 = .ok (.goto 36, 3) := by decide +kernel
theorem dX6_assizes_73 : decode cX6_assizes 73 = .ok (.aload_n 0, 1) := by decide +kernel
theorem dX6_assizes_74 : decode cX6_assizes 74 = .ok (.iload 4, 2) := by decide +kernel
theorem dX6_assizes_76 : decode cX6_assizes 76 = .ok (.invokevirtual 118, 3) := by decide +kernel
theorem dX6_assizes_79 : decode cX6_assizes 79 = .ok (.ifCond .eq 27, 3) := by decide +kernel
theorem dX6_assizes_82 : decode cX6_assizes 82 = .ok (.aload_n 0, 1) := by decide +kernel
theorem dX6_assizes_83 : decode cX6_assizes 83 = .ok (.iconst 1, 1) := by decide +kernel
theorem dX6_assizes_84 : decode cX6_assizes 84 = .ok (.iload 4, 2) := by decide +kernel
theorem dX6_assizes_86 : decode cX6_assizes 86 = .ok (.invokevirtual 108, 3) := by decide +kernel
theorem dX6_assizes_89 : decode cX6_assizes 89 = .ok (.ifCond .eq 17, 3) := by decide +kernel
theorem dX6_assizes_92 : decode cX6_assizes 92 = .ok (.aload_n 0, 1) := by decide +kernel
theorem dX6_assizes_93 : decode cX6_assizes 93 = .ok (.getfield 16, 3) := by decide +kernel
theorem dX6_assizes_96 : decode cX6_assizes 96 = .ok (.bipush 15, 2) := by decide +kernel
theorem dX6_assizes_98 : decode cX6_assizes 98 = .ok (.dup2, 1) := by decide +kernel
theorem dX6_assizes_99 : decode cX6_assizes 99 = .ok (.iaload, 1) := by decide +kernel
theorem dX6_assizes_100 : decode cX6_assizes 100 = .ok (.iconst 1, 1) := by decide +kernel
theorem dX6_assizes_101 : decode cX6_assizes 101 = .ok (.iload 4, 2) := by decide +kernel
theorem dX6_assizes_103 : decode cX6_assizes 103 = .ok (.ishl, 1) := by decide +kernel
theorem dX6_assizes_104 : decode cX6_assizes 104 = .ok (.ixor, 1) := by decide +kernel
theorem dX6_assizes_105 : decode cX6_assizes 105 = .ok (.iastore, 1) := by decide +kernel
theorem dX6_assizes_106 : decode cX6_assizes 106 = .ok (.iload_n 2, 1) := by decide +kernel
theorem dX6_assizes_107 : decode cX6_assizes 107 = .ok (.aload_n 0, 1) := by decide +kernel
theorem dX6_assizes_108 : decode cX6_assizes 108 = .ok (.iconst 1, 1) := by decide +kernel
theorem dX6_assizes_109 : decode cX6_assizes 109 = .ok (.invokevirtual 105, 3) := by decide +kernel
theorem dX6_assizes_112 : decode cX6_assizes 112 = .ok (.bipush 9, 2) := by decide +kernel
theorem dX6_assizes_114 : decode cX6_assizes 114 = .ok (.if_icmp .ne 7, 3) := by decide +kernel
theorem dX6_assizes_117 : decode cX6_assizes 117 = .ok (.iconst 0, 1) := by decide +kernel
theorem dX6_assizes_118 : decode cX6_assizes 118 = .ok (.goto 4, 3) := by decide +kernel
theorem dX6_assizes_121 : decode cX6_assizes 121 = .ok (.iconst 1, 1) := by decide +kernel
theorem dX6_assizes_122 : decode cX6_assizes 122 = .ok (.iadd, 1) := by decide +kernel
theorem dX6_assizes_123 : decode cX6_assizes 123 = .ok (.istore_n 2, 1) := by decide +kernel
theorem dX6_assizes_124 : decode cX6_assizes 124 = .ok (.iinc 3 1, 3) := by decide +kernel
theorem dX6_assizes_127 : decode cX6_assizes 127 = .ok (.goto (-104), 3) := by decide +kernel
theorem dX6_assizes_130 : decode cX6_assizes 130 = .ok (.iload_n 2, 1) := by decide +kernel
theorem dX6_assizes_131 : decode cX6_assizes 131 = .ok (.ireturn, 1) := by decide +kernel
set_option maxRecDepth 20000 in
theorem ggX6_keep_X6_in : GoodIn wsX6_keep wsX6_in := goodIn_r _ [7] (by decide +kernel) (by decide +kernel)
set_option maxRecDepth 20000 in
theorem gX6_keep_X6_in : GoodIn wsX6_keep (va_wsS RX6 53 yX6_in wsX6_in) := goodIn_app (goodIn_of _ (by decide +kernel)) ggX6_keep_X6_in
theorem dX6_keep_0 : decode cX6_keep 0 = .ok (.iload_n 1, 1) := by decide +kernel
theorem dX6_keep_1 : decode cX6_keep 1 = .ok (.i2l, 1) := by decide +kernel
theorem dX6_keep_2 : decode cX6_keep 2 = .ok (.lconst 0, 1) := by decide +kernel
theorem dX6_keep_3 : decode cX6_keep 3 = .ok (.lconst 1, 1) := by decide +kernel
theorem dX6_keep_4 : decode cX6_keep 4 = .ok (.invokestatic 53, 3) := by decide +kernel
theorem dX6_keep_7 : decode cX6_keep 7 = .ok (.ifCond .ne 5, 3) := by decide +kernel
theorem dX6_keep_10 : decode cX6_keep 10 = .ok (.iconst (-1), 1) := by decide +kernel
theorem dX6_keep_11 : decode cX6_keep 11 = .ok (.ireturn, 1) := by decide +kernel
theorem dX6_keep_12 : decode cX6_keep 12 = .ok (.aload_n 0, 1) := by decide +kernel
theorem dX6_keep_13 : decode cX6_keep 13 = .ok (.getfield 40, 3) := by decide +kernel
theorem dX6_keep_16 : decode cX6_keep 16 = .ok (.iload_n 1, 1) := by decide +kernel
theorem dX6_keep_17 : decode cX6_keep 17 = .ok (.iconst 1, 1) := by decide +kernel
theorem dX6_keep_18 : decode cX6_keep 18 = .ok (.bastore, 1) := by decide +kernel
theorem dX6_keep_19 : decode cX6_keep 19 = .ok (.iconst 0, 1) := by decide +kernel
theorem dX6_keep_20 : decode cX6_keep 20 = .ok (.istore_n 2, 1) := by decide +kernel
theorem dX6_keep_21 : decode cX6_keep 21 = .ok (.iload_n 2, 1) := by decide +kernel
theorem dX6_keep_22 : decode cX6_keep 22 = .ok (.bipush 15, 2) := by decide +kernel
theorem dX6_keep_24 : decode cX6_keep 24 = .ok (.if_icmp .ge 26, 3) := by decide +kernel
theorem dX6_keep_27 : decode cX6_keep 27 = .ok (.aload_n 0, 1) := by decide +kernel
theorem dX6_keep_28 : decode cX6_keep 28 = .ok (.getfield 44, 3) := by decide +kernel
theorem dX6_keep_31 : decode cX6_keep 31 = .ok (.bipush 15, 2) := by decide +kernel
theorem dX6_keep_33 : decode cX6_keep 33 = .ok (.iload_n 1, 1) := by decide +kernel
theorem dX6_keep_34 : decode cX6_keep 34 = .ok (.imul, 1) := by decide +kernel
theorem dX6_keep_35 : decode cX6_keep 35 = .ok (.iload_n 2, 1) := by decide +kernel
theorem dX6_keep_36 : decode cX6_keep 36 = .ok (.iadd, 1) := by decide +kernel
theorem dX6_keep_37 : decode cX6_keep 37 = .ok (.aload_n 0, 1) := by decide +kernel
theorem dX6_keep_38 : decode cX6_keep 38 = .ok (.getfield 16, 3) := by decide +kernel
theorem dX6_keep_41 : decode cX6_keep 41 = .ok (.iload_n 2, 1) := by decide +kernel
theorem dX6_keep_42 : decode cX6_keep 42 = .ok (.iaload, 1) := by decide +kernel
theorem dX6_keep_43 : decode cX6_keep 43 = .ok (.iastore, 1) := by decide +kernel
theorem dX6_keep_44 : decode cX6_keep 44 = .ok (.iinc 2 1, 3) := by decide +kernel
theorem dX6_keep_47 : decode cX6_keep 47 = .ok (.goto (-26), 3) := by decide +kernel
theorem dX6_keep_50 : decode cX6_keep 50 = .ok (.aload_n 0, 1) := by decide +kernel
theorem dX6_keep_51 : decode cX6_keep 51 = .ok (.getfield 16, 3) := by decide +kernel
theorem dX6_keep_54 : decode cX6_keep 54 = .ok (.iconst 2, 1) := by decide +kernel
theorem dX6_keep_55 : decode cX6_keep 55 = .ok (.iaload, 1) := by decide +kernel
theorem dX6_keep_56 : decode cX6_keep 56 = .ok (.ireturn, 1) := by decide +kernel
set_option maxRecDepth 20000 in
theorem ggX6_again_X6_in : GoodIn wsX6_again wsX6_in := goodIn_r _ [8] (by decide +kernel) (by decide +kernel)
set_option maxRecDepth 20000 in
theorem gX6_again_X6_in : GoodIn wsX6_again (va_wsS RX6 53 yX6_in wsX6_in) := goodIn_app (goodIn_of _ (by decide +kernel)) ggX6_again_X6_in
theorem dX6_again_0 : decode cX6_again 0 = .ok (.iload_n 1, 1) := by decide +kernel
theorem dX6_again_1 : decode cX6_again 1 = .ok (.i2l, 1) := by decide +kernel
theorem dX6_again_2 : decode cX6_again 2 = .ok (.lconst 0, 1) := by decide +kernel
theorem dX6_again_3 : decode cX6_again 3 = .ok (.lconst 1, 1) := by decide +kernel
theorem dX6_again_4 : decode cX6_again 4 = .ok (.invokestatic 53, 3) := by decide +kernel
theorem dX6_again_7 : decode cX6_again 7 = .ok (.ifCond .ne 5, 3) := by decide +kernel
theorem dX6_again_10 : decode cX6_again 10 = .ok (.iconst (-1), 1) := by decide +kernel
theorem dX6_again_11 : decode cX6_again 11 = .ok (.ireturn, 1) := by decide +kernel
theorem dX6_again_12 : decode cX6_again 12 = .ok (.aload_n 0, 1) := by decide +kernel
theorem dX6_again_13 : decode cX6_again 13 = .ok (.getfield 40, 3) := by decide +kernel
theorem dX6_again_16 : decode cX6_again 16 = .ok (.iload_n 1, 1) := by decide +kernel
theorem dX6_again_17 : decode cX6_again 17 = .ok (.baload, 1) := by decide +kernel
theorem dX6_again_18 : decode cX6_again 18 = .ok (.ifCond .ne 6, 3) := by decide +kernel
theorem dX6_again_21 : decode cX6_again 21 = .ok (.bipush (-3), 2) := by decide +kernel
theorem dX6_again_23 : decode cX6_again 23 = .ok (.ireturn, 1) := by decide +kernel
theorem dX6_again_24 : decode cX6_again 24 = .ok (.iconst 0, 1) := by decide +kernel
theorem dX6_again_25 : decode cX6_again 25 = .ok (.istore_n 2, 1) := by decide +kernel
theorem dX6_again_26 : decode cX6_again 26 = .ok (.iload_n 2, 1) := by decide +kernel
theorem dX6_again_27 : decode cX6_again 27 = .ok (.bipush 15, 2) := by decide +kernel
theorem dX6_again_29 : decode cX6_again 29 = .ok (.if_icmp .ge 26, 3) := by decide +kernel
theorem dX6_again_32 : decode cX6_again 32 = .ok (.aload_n 0, 1) := by decide +kernel
theorem dX6_again_33 : decode cX6_again 33 = .ok (.getfield 16, 3) := by decide +kernel
theorem dX6_again_36 : decode cX6_again 36 = .ok (.iload_n 2, 1) := by decide +kernel
theorem dX6_again_37 : decode cX6_again 37 = .ok (.aload_n 0, 1) := by decide +kernel
theorem dX6_again_38 : decode cX6_again 38 = .ok (.getfield 44, 3) := by decide +kernel
theorem dX6_again_41 : decode cX6_again 41 = .ok (.bipush 15, 2) := by decide +kernel
theorem dX6_again_43 : decode cX6_again 43 = .ok (.iload_n 1, 1) := by decide +kernel
theorem dX6_again_44 : decode cX6_again 44 = .ok (.imul, 1) := by decide +kernel
theorem dX6_again_45 : decode cX6_again 45 = .ok (.iload_n 2, 1) := by decide +kernel
theorem dX6_again_46 : decode cX6_again 46 = .ok (.iadd, 1) := by decide +kernel
theorem dX6_again_47 : decode cX6_again 47 = .ok (.iaload, 1) := by decide +kernel
theorem dX6_again_48 : decode cX6_again 48 = .ok (.iastore, 1) := by decide +kernel
theorem dX6_again_49 : decode cX6_again 49 = .ok (.iinc 2 1, 3) := by decide +kernel
theorem dX6_again_52 : decode cX6_again 52 = .ok (.goto (-26), 3) := by decide +kernel
theorem dX6_again_55 : decode cX6_again 55 = .ok (.aload_n 0, 1) := by decide +kernel
theorem dX6_again_56 : decode cX6_again 56 = .ok (.iconst 0, 1) := by decide +kernel
theorem dX6_again_57 : decode cX6_again 57 = .ok (.putfield 99, 3) := by decide +kernel
theorem dX6_again_60 : decode cX6_again 60 = .ok (.aload_n 0, 1) := by decide +kernel
theorem dX6_again_61 : decode cX6_again 61 = .ok (.getfield 16, 3) := by decide +kernel
theorem dX6_again_64 : decode cX6_again 64 = .ok (.iconst 2, 1) := by decide +kernel
theorem dX6_again_65 : decode cX6_again 65 = .ok (.iaload, 1) := by decide +kernel
theorem dX6_again_66 : decode cX6_again 66 = .ok (.ireturn, 1) := by decide +kernel
set_option maxRecDepth 20000 in
theorem ggX6_count_X6_verdict : GoodIn wsX6_count wsX6_verdict := goodIn_r _ [11, 4, 3, 12, 13, 10, 14, 15, 16, 17, 18, 19, 20, 21, 22, 23, 24, 25, 26, 27, 28, 29, 30, 31, 32, 33, 34, 35, 36, 37, 38] (by decide +kernel) (by decide +kernel)
set_option maxRecDepth 20000 in
theorem gX6_count_X6_verdict : GoodIn wsX6_count (wsV RX6 105 RX6 yX6_verdict wsX6_verdict) := goodIn_app (goodIn_of _ (by decide +kernel)) ggX6_count_X6_verdict
theorem dX6_count_0 : decode cX6_count 0 = .ok (.iload_n 1, 1) := by decide +kernel
theorem dX6_count_1 : decode cX6_count 1 = .ok (.tableswitch 110 0 8 #[51, 56, 61, 66, 73, 80, 94, 100, 105], 51) := by decide +kernel
theorem dX6_count_52 : decode cX6_count 52 = .ok (.aload_n 0, 1) := by decide +kernel
theorem dX6_count_53 : decode cX6_count 53 = .ok (.getfield 57, 3) := by decide +kernel
theorem dX6_count_56 : decode cX6_count 56 = .ok (.ireturn, 1) := by decide +kernel
theorem dX6_count_57 : decode cX6_count 57 = .ok (.aload_n 0, 1) := by decide +kernel
theorem dX6_count_58 : decode cX6_count 58 = .ok (.getfield 96, 3) := by decide +kernel
theorem dX6_count_61 : decode cX6_count 61 = .ok (.ireturn, 1) := by decide +kernel
theorem dX6_count_62 : decode cX6_count 62 = .ok (.aload_n 0, 1) := by decide +kernel
theorem dX6_count_63 : decode cX6_count 63 = .ok (.getfield 47, 3) := by decide +kernel
theorem dX6_count_66 : decode cX6_count 66 = .ok (.ireturn, 1) := by decide +kernel
theorem dX6_count_67 : decode cX6_count 67 = .ok (.aload_n 0, 1) := by decide +kernel
theorem dX6_count_68 : decode cX6_count 68 = .ok (.getfield 16, 3) := by decide +kernel
theorem dX6_count_71 : decode cX6_count 71 = .ok (.iconst 2, 1) := by decide +kernel
theorem dX6_count_72 : decode cX6_count 72 = .ok (.iaload, 1) := by decide +kernel
