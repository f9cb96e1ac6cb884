theorem dX6_keepAct_21 : decode cX6_keepAct 21 = .ok (.aload_n 0, 1) := by decide +kernel
theorem dX6_keepAct_22 : decode cX6_keepAct 22 = .ok (.getfield 16, 3) := by decide +kernel
theorem dX6_keepAct_25 : decode cX6_keepAct 25 = .ok (.iload_n 1, 1) := by decide +kernel
theorem dX6_keepAct_26 : decode cX6_keepAct 26 = .ok (.iaload, 1) := by decide +kernel
theorem dX6_keepAct_27 : decode cX6_keepAct 27 = .ok (.iastore, 1) := by decide +kernel
theorem dX6_keepAct_28 : decode cX6_keepAct 28 = .ok (.iinc 1 1, 3) := by decide +kernel
theorem dX6_keepAct_31 : decode cX6_keepAct 31 = .ok (.goto (-29), 3) := by decide +kernel
theorem dX6_keepAct_34 : decode cX6_keepAct 34 = .ok (.aload_n 0, 1) := by decide +kernel
theorem dX6_keepAct_35 : decode cX6_keepAct 35 = .ok (.aload_n 0, 1) := by decide +kernel
theorem dX6_keepAct_36 : decode cX6_keepAct 36 = .ok (.getfield 122, 3) := by decide +kernel
theorem dX6_keepAct_39 : decode cX6_keepAct 39 = .ok (.iconst 1, 1) := by decide +kernel
theorem dX6_keepAct_40 : decode cX6_keepAct 40 = .ok (.iadd, 1) := by decide +kernel
theorem dX6_keepAct_41 : decode cX6_keepAct 41 = .ok (.bipush 14, 2) := by decide +kernel
theorem dX6_keepAct_43 : decode cX6_keepAct 43 = .ok (.irem, 1) := by decide +kernel
theorem dX6_keepAct_44 : decode cX6_keepAct 44 = .ok (.putfield 122, 3) := by decide +kernel
theorem dX6_keepAct_47 : decode cX6_keepAct 47 = .ok (.aload_n 0, 1) := by decide +kernel
theorem dX6_keepAct_48 : decode cX6_keepAct 48 = .ok (.aload_n 0, 1) := by decide +kernel
theorem dX6_keepAct_49 : decode cX6_keepAct 49 = .ok (.getfield 99, 3) := by decide +kernel
theorem dX6_keepAct_52 : decode cX6_keepAct 52 = .ok (.bipush 14, 2) := by decide +kernel
theorem dX6_keepAct_54 : decode cX6_keepAct 54 = .ok (.if_icmp .ge 12, 3) := by decide +kernel
theorem dX6_keepAct_57 : decode cX6_keepAct 57 = .ok (.aload_n 0, 1) := by decide +kernel
theorem dX6_keepAct_58 : decode cX6_keepAct 58 = .ok (.getfield 99, 3) := by decide +kernel
theorem dX6_keepAct_61 : decode cX6_keepAct 61 = .ok (.iconst 1, 1) := by decide +kernel
theorem dX6_keepAct_62 : decode cX6_keepAct 62 = .ok (.iadd, 1) := by decide +kernel
theorem dX6_keepAct_63 : decode cX6_keepAct 63 = .ok (.goto 5, 3) := by decide +kernel
theorem dX6_keepAct_66 : decode cX6_keepAct 66 = .ok (.bipush 14, 2) := by decide +kernel
theorem dX6_keepAct_68 : decode cX6_keepAct 68 = .ok (.putfield 99, 3) := by decide +kernel
theorem dX6_keepAct_71 : decode cX6_keepAct 71 = .ok (.return_, 1) := by decide +kernel
set_option maxRecDepth 20000 in
theorem ggX6_hour_X6_keepAct : GoodIn wsX6_hour wsX6_keepAct := goodIn_r _ [5, 6, 7, 8, 9, 40, 41, 42, 43, 44, 45, 46, 47, 48, 49, 50, 51, 52, 53, 54, 55, 56, 57, 58, 59, 60, 61, 62, 63] (by decide +kernel) (by decide +kernel)
set_option maxRecDepth 20000 in
theorem gX6_hour_X6_keepAct : GoodIn wsX6_hour (wsV RX6 125 RX6 yX6_keepAct wsX6_keepAct) := goodIn_app (goodIn_of _ (by decide +kernel)) ggX6_hour_X6_keepAct
set_option maxRecDepth 20000 in
theorem ggX6_hour_X6_passOn : GoodIn wsX6_hour wsX6_passOn := goodIn_r _ [13, 8, 14, 15, 16, 17, 4, 18, 19, 20, 21, 22, 23, 24, 25, 26, 27, 28, 29, 30, 31, 32, 33, 34, 35, 36, 37, 38, 39, 40, 41, 42, 43, 44, 45, 46, 47, 48, 49, 50, 51, 52, 53, 54, 55, 56, 57, 58, 59, 60, 61, 62, 63] (by decide +kernel) (by decide +kernel)
set_option maxRecDepth 20000 in
theorem gX6_hour_X6_passOn : GoodIn wsX6_hour (wsV RX6 128 RX6 yX6_passOn wsX6_passOn) := goodIn_app (goodIn_of _ (by decide +kernel)) ggX6_hour_X6_passOn
theorem dX6_hour_0 : decode cX6_hour 0 = .ok (.aload_n 0, 1) := by decide +kernel
theorem dX6_hour_1 : decode cX6_hour 1 = .ok (.invokevirtual 125, 3) := by decide +kernel
theorem dX6_hour_4 : decode cX6_hour 4 = .ok (.aload_n 0, 1) := by decide +kernel
theorem dX6_hour_5 : decode cX6_hour 5 = .ok (.iconst 0, 1) := by decide +kernel
theorem dX6_hour_6 : decode cX6_hour 6 = .ok (.invokevirtual 128, 3) := by decide +kernel
theorem dX6_hour_9 : decode cX6_hour 9 = .ok (.ireturn, 1) := by decide +kernel
set_option maxRecDepth 20000 in
theorem ggX6_canArgue_X6_isThere : GoodIn wsX6_canArgue wsX6_isThere := goodIn_r _ [6, 1, 7, 8, 5, 9, 10, 11, 12, 13, 14, 15, 16, 17, 18, 19, 20, 21, 22, 23, 24, 25, 26, 27, 28, 29, 30, 31, 32, 33] (by decide +kernel) (by decide +kernel)
set_option maxRecDepth 20000 in
theorem gX6_canArgue_X6_isThere : GoodIn wsX6_canArgue (wsV RX6 108 RX6 yX6_isThere wsX6_isThere) := goodIn_app (goodIn_of _ (by decide +kernel)) ggX6_canArgue_X6_isThere
theorem dX6_canArgue_0 : decode cX6_canArgue 0 = .ok (.aload_n 0, 1) := by decide +kernel
theorem dX6_canArgue_1 : decode cX6_canArgue 1 = .ok (.iload_n 1, 1) := by decide +kernel
theorem dX6_canArgue_2 : decode cX6_canArgue 2 = .ok (.iload_n 2, 1) := by decide +kernel
theorem dX6_canArgue_3 : decode cX6_canArgue 3 = .ok (.invokevirtual 108, 3) := by decide +kernel
theorem dX6_canArgue_6 : decode cX6_canArgue 6 = .ok (.ifCond .eq 24, 3) := by decide +kernel
theorem dX6_canArgue_9 : decode cX6_canArgue 9 = .ok (.aload_n 0, 1) := by decide +kernel
theorem dX6_canArgue_10 : decode cX6_canArgue 10 = .ok (.getfield 16, 3) := by decide +kernel
theorem dX6_canArgue_13 : decode cX6_canArgue 13 = .ok (.bipush 15, 2) := by decide +kernel
theorem dX6_canArgue_15 : decode cX6_canArgue 15 = .ok (.iload_n 1, 1) := by decide +kernel
theorem dX6_canArgue_16 : decode cX6_canArgue 16 = .ok (.imul, 1) := by decide +kernel
theorem dX6_canArgue_17 : decode cX6_canArgue 17 = .ok (.iconst 3, 1) := by decide +kernel
theorem dX6_canArgue_18 : decode cX6_canArgue 18 = .ok (.iadd, 1) := by decide +kernel
theorem dX6_canArgue_19 : decode cX6_canArgue 19 = .ok (.iload_n 2, 1) := by decide +kernel
theorem dX6_canArgue_20 : decode cX6_canArgue 20 = .ok (.iadd, 1) := by decide +kernel
theorem dX6_canArgue_21 : decode cX6_canArgue 21 = .ok (.iaload, 1) := by decide +kernel
theorem dX6_canArgue_22 : decode cX6_canArgue 22 = .ok (.iconst 1, 1) := by decide +kernel
theorem dX6_canArgue_23 : decode cX6_canArgue 23 = .ok (.if_icmp .le 7, 3) := by decide +kernel
theorem dX6_canArgue_26 : decode cX6_canArgue 26 = .ok (.iconst 1, 1) := by decide +kernel
theorem dX6_canArgue_27 : decode cX6_canArgue 27 = .ok (.goto 4, 3) := by decide +kernel
theorem dX6_canArgue_30 : decode cX6_canArgue 30 = .ok (.iconst 0, 1) := by decide +kernel
theorem dX6_canArgue_31 : decode cX6_canArgue 31 = .ok (.ireturn, 1) := by decide +kernel
set_option maxRecDepth 20000 in
theorem ggX6_argue_X6_isJuror : GoodIn wsX6_argue wsX6_isJuror := goodIn_r _ [6, 7, 8, 9, 5, 10, 29, 30, 31, 32, 33, 34, 35, 36, 37, 38, 39, 40, 41, 42, 43, 44, 45, 46, 47, 48, 49, 50, 51, 52] (by decide +kernel) (by decide +kernel)
set_option maxRecDepth 20000 in
theorem gX6_argue_X6_isJuror : GoodIn wsX6_argue (wsV RX6 118 RX6 yX6_isJuror wsX6_isJuror) := goodIn_app (goodIn_of _ (by decide +kernel)) ggX6_argue_X6_isJuror
set_option maxRecDepth 20000 in
theorem ggX6_argue_X6_canArgue : GoodIn wsX6_argue wsX6_canArgue := goodIn_r _ [14, 1, 15, 16, 17, 5, 18, 19, 20, 21, 29, 30, 31, 32, 33, 34, 35, 36, 37, 38, 39, 40, 41, 42, 43, 44, 45, 46, 47, 48, 49, 50, 51, 52] (by decide +kernel) (by decide +kernel)
set_option maxRecDepth 20000 in
theorem gX6_argue_X6_canArgue : GoodIn wsX6_argue (wsV RX6 131 RX6 yX6_canArgue wsX6_canArgue) := goodIn_app (goodIn_of _ (by decide +kernel)) ggX6_argue_X6_canArgue
set_option maxRecDepth 20000 in
theorem ggX6_argue_X6_keepAct : GoodIn wsX6_argue wsX6_keepAct := goodIn_r _ [25, 26, 27, 1, 28, 29, 30, 31, 32, 33, 34, 35, 36, 37, 38, 39, 40, 41, 42, 43, 44, 45, 46, 47, 48, 49, 50, 51, 52] (by decide +kernel) (by decide +kernel)
set_option maxRecDepth 20000 in
theorem gX6_argue_X6_keepAct : GoodIn wsX6_argue (wsV RX6 125 RX6 yX6_keepAct wsX6_keepAct) := goodIn_app (goodIn_of _ (by decide +kernel)) ggX6_argue_X6_keepAct
theorem dX6_argue_0 : decode cX6_argue 0 = .ok (.aload_n 0, 1) := by decide +kernel
theorem dX6_argue_1 : decode cX6_argue 1 = .ok (.iload_n 1, 1) := by decide +kernel
theorem dX6_argue_2 : decode cX6_argue 2 = .ok (.invokevirtual 118, 3) := by decide +kernel
theorem dX6_argue_5 : decode cX6_argue 5 = .ok (.ifCond .ne 5, 3) := by decide +kernel
theorem dX6_argue_8 : decode cX6_argue 8 = .ok (.iconst (-1), 1) := by decide +kernel
theorem dX6_argue_9 : decode cX6_argue 9 = .ok (.ireturn, 1) := by decide +kernel
theorem dX6_argue_10 : decode cX6_argue 10 = .ok (.aload_n 0, 1) := by decide +kernel
theorem dX6_argue_11 : decode cX6_argue 11 = .ok (.iconst 0, 1) := by decide +kernel
theorem dX6_argue_12 : decode cX6_argue 12 = .ok (.iload_n 1, 1) := by decide +kernel
theorem dX6_argue_13 : decode cX6_argue 13 = .ok (.invokevirtual 131, 3) := by decide +kernel
theorem dX6_argue_16 : decode cX6_argue 16 = .ok (.ifCond .ne 6, 3) := by decide +kernel
theorem dX6_argue_19 : decode cX6_argue 19 = .ok (.bipush (-3), 2) := by decide +kernel
theorem dX6_argue_21 : decode cX6_argue 21 = .ok (.ireturn, 1) := by decide +kernel
theorem dX6_argue_22 : decode cX6_argue 22 = .ok (.aload_n 0, 1) := by decide +kernel
theorem dX6_argue_23 : decode cX6_argue 23 = .ok (.invokevirtual 125, 3) := by decide +kernel
theorem dX6_argue_26 : decode cX6_argue 26 = .ok (.aload_n 0, 1) := by decide +kernel
theorem dX6_argue_27 : decode cX6_argue 27 = .ok (.getfield 16, 3) := by decide +kernel
theorem dX6_argue_30 : decode cX6_argue 30 = .ok (.iconst 3, 1) := by decide +kernel
theorem dX6_argue_31 : decode cX6_argue 31 = .ok (.iload_n 1, 1) := by decide +kernel
theorem dX6_argue_32 : decode cX6_argue 32 = .ok (.iadd, 1) := by decide +kernel
theorem dX6_argue_33 : decode cX6_argue 33 = .ok (.dup2, 1) := by decide +kernel
theorem dX6_argue_34 : decode cX6_argue 34 = .ok (.iaload, 1) := by decide +kernel
theorem dX6_argue_35 : decode cX6_argue 35 = .ok (.iconst 1, 1) := by decide +kernel
theorem dX6_argue_36 : decode cX6_argue 36 = .ok (.isub, 1) := by decide +kernel
theorem dX6_argue_37 : decode cX6_argue 37 = .ok (.iastore, 1) := by decide +kernel
theorem dX6_argue_38 : decode cX6_argue 38 = .ok (.aload_n 0, 1) := by decide +kernel
theorem dX6_argue_39 : decode cX6_argue 39 = .ok (.getfield 16, 3) := by decide +kernel
theorem dX6_argue_42 : decode cX6_argue 42 = .ok (.iconst 3, 1) := by decide +kernel
theorem dX6_argue_43 : decode cX6_argue 43 = .ok (.iload_n 1, 1) := by decide +kernel
theorem dX6_argue_44 : decode cX6_argue 44 = .ok (.iadd, 1) := by decide +kernel
theorem dX6_argue_45 : decode cX6_argue 45 = .ok (.iaload, 1) := by decide +kernel
theorem dX6_argue_46 : decode cX6_argue 46 = .ok (.ireturn, 1) := by decide +kernel
set_option maxRecDepth 20000 in
theorem ggX6_canFeed_X6_isThere : GoodIn wsX6_canFeed wsX6_isThere := goodIn_r _ [6, 1, 7, 8, 5, 9, 10, 11, 12, 13, 14, 15, 16, 17, 18, 19, 20, 21, 22, 23, 24, 25, 26, 27, 28, 29, 30, 31, 32, 33] (by decide +kernel) (by decide +kernel)
set_option maxRecDepth 20000 in
theorem gX6_canFeed_X6_isThere : GoodIn wsX6_canFeed (wsV RX6 108 RX6 yX6_isThere wsX6_isThere) := goodIn_app (goodIn_of _ (by decide +kernel)) ggX6_canFeed_X6_isThere
theorem dX6_canFeed_0 : decode cX6_canFeed 0 = .ok (.aload_n 0, 1) := by decide +kernel
theorem dX6_canFeed_1 : decode cX6_canFeed 1 = .ok (.iload_n 1, 1) := by decide +kernel
theorem dX6_canFeed_2 : decode cX6_canFeed 2 = .ok (.iload_n 2, 1) := by decide +kernel
theorem dX6_canFeed_3 : decode cX6_canFeed 3 = .ok (.invokevirtual 108, 3) := by decide +kernel
theorem dX6_canFeed_6 : decode cX6_canFeed 6 = .ok (.ifCond .eq 24, 3) := by decide +kernel
theorem dX6_canFeed_9 : decode cX6_canFeed 9 = .ok (.aload_n 0, 1) := by decide +kernel
theorem dX6_canFeed_10 : decode cX6_canFeed 10 = .ok (.getfield 16, 3) := by decide +kernel
theorem dX6_canFeed_13 : decode cX6_canFeed 13 = .ok (.bipush 15, 2) := by decide +kernel
theorem dX6_canFeed_15 : decode cX6_canFeed 15 = .ok (.iload_n 1, 1) := by decide +kernel
theorem dX6_canFeed_16 : decode cX6_canFeed 16 = .ok (.imul, 1) := by decide +kernel
theorem dX6_canFeed_17 : decode cX6_canFeed 17 = .ok (.bipush 9, 2) := by decide +kernel
theorem dX6_canFeed_19 : decode cX6_canFeed 19 = .ok (.iadd, 1) := by decide +kernel
theorem dX6_canFeed_20 : decode cX6_canFeed 20 = .ok (.iload_n 2, 1) := by decide +kernel
theorem dX6_canFeed_21 : decode cX6_canFeed 21 = .ok (.iadd, 1) := by decide +kernel
theorem dX6_canFeed_22 : decode cX6_canFeed 22 = .ok (.iaload, 1) := by decide +kernel
theorem dX6_canFeed_23 : decode cX6_canFeed 23 = .ok (.ifCond .le 7, 3) := by decide +kernel
theorem dX6_canFeed_26 : decode cX6_canFeed 26 = .ok (.iconst 1, 1) := by decide +kernel
theorem dX6_canFeed_27 : decode cX6_canFeed 27 = .ok (.goto 4, 3) := by decide +kernel
theorem dX6_canFeed_30 : decode cX6_canFeed 30 = .ok (.iconst 0, 1) := by decide +kernel
theorem dX6_canFeed_31 : decode cX6_canFeed 31 = .ok (.ireturn, 1) := by decide +kernel
set_option maxRecDepth 20000 in
theorem ggX6_feed_X6_isJuror : GoodIn wsX6_feed wsX6_isJuror := goodIn_r _ [6, 7, 8, 9, 5, 10, 29, 30, 31, 32, 33, 34, 35, 36, 37, 38, 39, 40, 41, 42, 43, 44, 45, 46, 47, 48, 49, 50, 51, 52] (by decide +kernel) (by decide +kernel)
set_option maxRecDepth 20000 in
theorem gX6_feed_X6_isJuror : GoodIn wsX6_feed (wsV RX6 118 RX6 yX6_isJuror wsX6_isJuror) := goodIn_app (goodIn_of _ (by decide +kernel)) ggX6_feed_X6_isJuror
set_option maxRecDepth 20000 in
theorem ggX6_feed_X6_canFeed : GoodIn wsX6_feed wsX6_canFeed := goodIn_r _ [14, 1, 15, 16, 17, 5, 18, 19, 20, 21, 29, 30, 31, 32, 33, 34, 35, 36, 37, 38, 39, 40, 41, 42, 43, 44, 45, 46, 47, 48, 49, 50, 51, 52] (by decide +kernel) (by decide +kernel)
set_option maxRecDepth 20000 in
theorem gX6_feed_X6_canFeed : GoodIn wsX6_feed (wsV RX6 134 RX6 yX6_canFeed wsX6_canFeed) := goodIn_app (goodIn_of _ (by decide +kernel)) ggX6_feed_X6_canFeed
set_option maxRecDepth 20000 in
theorem ggX6_feed_X6_keepAct : GoodIn wsX6_feed wsX6_keepAct := goodIn_r _ [25, 26, 27, 1, 28, 29, 30, 31, 32, 33, 34, 35, 36, 37, 38, 39, 40, 41, 42, 43, 44, 45, 46, 47, 48, 49, 50, 51, 52] (by decide +kernel) (by decide +kernel)
set_option maxRecDepth 20000 in
theorem gX6_feed_X6_keepAct : GoodIn wsX6_feed (wsV RX6 125 RX6 yX6_keepAct wsX6_keepAct) := goodIn_app (goodIn_of _ (by decide +kernel)) ggX6_feed_X6_keepAct
theorem dX6_feed_0 : decode cX6_feed 0 = .ok (.aload_n 0, 1) := by decide +kernel
theorem dX6_feed_1 : decode cX6_feed 1 = .ok (.iload_n 1, 1) := by decide +kernel
theorem dX6_feed_2 : decode cX6_feed 2 = .ok (.invokevirtual 118, 3) := by decide +kernel
theorem dX6_feed_5 : decode cX6_feed 5 = .ok (.ifCond .ne 5, 3) := by decide +kernel
theorem dX6_feed_8 : decode cX6_feed 8 = .ok (.iconst (-1), 1) := by decide +kernel
theorem dX6_feed_9 : decode cX6_feed 9 = .ok (.ireturn, 1) := by decide +kernel
theorem dX6_feed_10 : decode cX6_feed 10 = .ok (.aload_n 0, 1) := by decide +kernel
theorem dX6_feed_11 : decode cX6_feed 11 = .ok (.iconst 0, 1) := by decide +kernel
theorem dX6_feed_12 : decode cX6_feed 12 = .ok (.iload_n 1, 1) := by decide +kernel
theorem dX6_feed_13 : decode cX6_feed 13 = .ok (.invokevirtual 134, 3) := by decide +kernel
theorem dX6_feed_16 : decode cX6_feed 16 = .ok (.ifCond .ne 6, 3) := by decide +kernel
theorem dX6_feed_19 : decode cX6_feed 19 = .ok (.bipush (-3), 2) := by decide +kernel
theorem dX6_feed_21 : decode cX6_feed 21 = .ok (.ireturn, 1) := by decide +kernel
theorem dX6_feed_22 : decode cX6_feed 22 = .ok (.aload_n 0, 1) := by decide +kernel
theorem dX6_feed_23 : decode cX6_feed 23 = .ok (.invokevirtual 125, 3) := by decide +kernel
theorem dX6_feed_26 : decode cX6_feed 26 = .ok (.aload_n 0, 1) := by decide +kernel
theorem dX6_feed_27 : decode cX6_feed 27 = .ok (.getfield 16, 3) := by decide +kernel
theorem dX6_feed_30 : decode cX6_feed 30 = .ok (.bipush 9, 2) := by decide +kernel
theorem dX6_feed_32 : decode cX6_feed 32 = .ok (.iload_n 1, 1) := by decide +kernel
theorem dX6_feed_33 : decode cX6_feed 33 = .ok (.iadd, 1) := by decide +kernel
theorem dX6_feed_34 : decode cX6_feed 34 = .ok (.iaload, 1) := by decide +kernel
theorem dX6_feed_35 : decode cX6_feed 35 = .ok (.istore_n 2, 1) := by decide +kernel
theorem dX6_feed_36 : decode cX6_feed 36 = .ok (.aload_n 0, 1) := by decide +kernel
theorem dX6_feed_37 : decode cX6_feed 37 = .ok (.getfield 16, 3) := by decide +kernel
theorem dX6_feed_40 : decode cX6_feed 40 = .ok (.bipush 9, 2) := by decide +kernel
theorem dX6_feed_42 : decode cX6_feed 42 = .ok (.iload_n 1, 1) := by decide +kernel
theorem dX6_feed_43 : decode cX6_feed 43 = .ok (.iadd, 1) := by decide +kernel
theorem dX6_feed_44 : decode cX6_feed 44 = .ok (.iconst 0, 1) := by decide +kernel
theorem dX6_feed_45 : decode cX6_feed 45 = .ok (.iastore, 1) := by decide +kernel
theorem dX6_feed_46 : decode cX6_feed 46 = .ok (.iload_n 2, 1) := by decide +kernel
theorem dX6_feed_47 : decode cX6_feed 47 = .ok (.ireturn, 1) := by decide +kernel
theorem dX6_dieOn_0 : decode cX6_dieOn 0 = .ok (.aload_n 0, 1) := by decide +kernel
theorem dX6_dieOn_1 : decode cX6_dieOn 1 = .ok (.getfield 16, 3) := by decide +kernel
theorem dX6_dieOn_4 : decode cX6_dieOn 4 = .ok (.bipush 15, 2) := by decide +kernel
theorem dX6_dieOn_6 : decode cX6_dieOn 6 = .ok (.iload_n 1, 1) := by decide +kernel
theorem dX6_dieOn_7 : decode cX6_dieOn 7 = .ok (.imul, 1) := by decide +kernel
theorem dX6_dieOn_8 : decode cX6_dieOn 8 = .ok (.iconst 1, 1) := by decide +kernel
theorem dX6_dieOn_9 : decode cX6_dieOn 9 = .ok (.iadd, 1) := by decide +kernel
theorem dX6_dieOn_10 : decode cX6_dieOn 10 = .ok (.dup2, 1) := by decide +kernel
theorem dX6_dieOn_11 : decode cX6_dieOn 11 = .ok (.iaload, 1) := by decide +kernel
theorem dX6_dieOn_12 : decode cX6_dieOn 12 = .ok (.iconst 1, 1) := by decide +kernel
theorem dX6_dieOn_13 : decode cX6_dieOn 13 = .ok (.iload_n 2, 1) := by decide +kernel
theorem dX6_dieOn_14 : decode cX6_dieOn 14 = .ok (.ishl, 1) := by decide +kernel
theorem dX6_dieOn_15 : decode cX6_dieOn 15 = .ok (.iconst (-1), 1) := by decide +kernel
theorem dX6_dieOn_16 : decode cX6_dieOn 16 = .ok (.ixor, 1) := by decide +kernel
theorem dX6_dieOn_17 : decode cX6_dieOn 17 = .ok (.iand, 1) := by decide +kernel
theorem dX6_dieOn_18 : decode cX6_dieOn 18 = .ok (.iastore, 1) := by decide +kernel
theorem dX6_dieOn_19 : decode cX6_dieOn 19 = .ok (.aload_n 0, 1) := by decide +kernel
theorem dX6_dieOn_20 : decode cX6_dieOn 20 = .ok (.getfield 16, 3) := by decide +kernel
theorem dX6_dieOn_23 : decode cX6_dieOn 23 = .ok (.bipush 15, 2) := by decide +kernel
theorem dX6_dieOn_25 : decode cX6_dieOn 25 = .ok (.iload_n 1, 1) := by decide +kernel
theorem dX6_dieOn_26 : decode cX6_dieOn 26 = .ok (.imul, 1) := by decide +kernel
theorem dX6_dieOn_27 : decode cX6_dieOn 27 = .ok (.iconst 2, 1) := by decide +kernel
theorem dX6_dieOn_28 : decode cX6_dieOn 28 = .ok (.iadd, 1) := by decide +kernel
theorem dX6_dieOn_29 : decode cX6_dieOn 29 = .ok (.iconst 0, 1) := by decide +kernel
theorem dX6_dieOn_30 : decode cX6_dieOn 30 = .ok (.iastore, 1) := by decide +kernel
theorem dX6_dieOn_31 : decode cX6_dieOn 31 = .ok (.return_, 1) := by decide +kernel
set_option maxRecDepth 20000 in
theorem ggX6_die_X6_isJuror : GoodIn wsX6_die wsX6_isJuror := goodIn_r _ [6, 7, 8, 9, 5, 10, 32, 33, 34, 35, 36, 37, 38, 39, 40, 41, 42, 43, 44, 45, 46, 47, 48, 49, 50, 51, 52, 53, 54, 55] (by decide +kernel) (by decide +kernel)
set_option maxRecDepth 20000 in
theorem gX6_die_X6_isJuror : GoodIn wsX6_die (wsV RX6 118 RX6 yX6_isJuror wsX6_isJuror) := goodIn_app (goodIn_of _ (by decide +kernel)) ggX6_die_X6_isJuror
set_option maxRecDepth 20000 in
theorem ggX6_die_X6_isThere : GoodIn wsX6_die wsX6_isThere := goodIn_r _ [14, 1, 15, 16, 5, 17, 32, 33, 34, 35, 36, 37, 38, 39, 40, 41, 42, 43, 44, 45, 46, 47, 48, 49, 50, 51, 52, 53, 54, 55] (by decide +kernel) (by decide +kernel)
set_option maxRecDepth 20000 in
theorem gX6_die_X6_isThere : GoodIn wsX6_die (wsV RX6 108 RX6 yX6_isThere wsX6_isThere) := goodIn_app (goodIn_of _ (by decide +kernel)) ggX6_die_X6_isThere
set_option maxRecDepth 20000 in
theorem ggX6_die_X6_keepAct : GoodIn wsX6_die wsX6_keepAct := goodIn_r _ [21, 22, 23, 1, 24, 32, 33, 34, 35, 36, 37, 38, 39, 40, 41, 42, 43, 44, 45, 46, 47, 48, 49, 50, 51, 52, 53, 54, 55] (by decide +kernel) (by decide +kernel)
set_option maxRecDepth 20000 in
theorem gX6_die_X6_keepAct : GoodIn wsX6_die (wsV RX6 125 RX6 yX6_keepAct wsX6_keepAct) := goodIn_app (goodIn_of _ (by decide +kernel)) ggX6_die_X6_keepAct
set_option maxRecDepth 20000 in
theorem ggX6_die_X6_dieOn : GoodIn wsX6_die wsX6_dieOn := goodIn_r _ [28, 1, 32, 33, 34, 35, 36, 37, 38, 39, 40, 41, 42, 43, 44, 45, 46, 47, 48, 49, 50, 51, 52, 53, 54, 55] (by decide +kernel) (by decide +kernel)
set_option maxRecDepth 20000 in
theorem gX6_die_X6_dieOn : GoodIn wsX6_die (wsV RX6 137 RX6 yX6_dieOn wsX6_dieOn) := goodIn_app (goodIn_of _ (by decide +kernel)) ggX6_die_X6_dieOn
set_option maxRecDepth 20000 in
theorem ggX6_die_X6_ones : GoodIn wsX6_die wsX6_ones := goodIn_r _ [31] (by decide +kernel) (by decide +kernel)
set_option maxRecDepth 20000 in
theorem gX6_die_X6_ones : GoodIn wsX6_die (va_wsS RX6 102 yX6_ones wsX6_ones) := goodIn_app (goodIn_of _ (by decide +kernel)) ggX6_die_X6_ones
theorem dX6_die_0 : decode cX6_die 0 = .ok (.aload_n 0, 1) := by decide +kernel
theorem dX6_die_1 : decode cX6_die 1 = .ok (.iload_n 1, 1) := by decide +kernel
theorem dX6_die_2 : decode cX6_die 2 = .ok (.invokevirtual 118, 3) := by decide +kernel
theorem dX6_die_5 : decode cX6_die 5 = .ok (.ifCond .ne 5, 3) := by decide +kernel
theorem dX6_die_8 : decode cX6_die 8 = .ok (.iconst (-1), 1) := by decide +kernel
theorem dX6_die_9 : decode cX6_die 9 = .ok (.ireturn, 1) := by decide +kernel
theorem dX6_die_10 : decode cX6_die 10 = .ok (.aload_n 0, 1) := by decide +kernel
theorem dX6_die_11 : decode cX6_die 11 = .ok (.iconst 0, 1) := by decide +kernel
theorem dX6_die_12 : decode cX6_die 12 = .ok (.iload_n 1, 1) := by decide +kernel
theorem dX6_die_13 : decode cX6_die 13 = .ok (.invokevirtual 108, 3) := by decide +kernel
theorem dX6_die_16 : decode cX6_die 16 = .ok (.ifCond .ne 6, 3) := by decide +kernel
theorem dX6_die_19 : decode cX6_die 19 = .ok (.bipush (-3), 2) := by decide +kernel
theorem dX6_die_21 : decode cX6_die 21 = .ok (.ireturn, 1) := by decide +kernel
theorem dX6_die_22 : decode cX6_die 22 = .ok (.aload_n 0, 1) := by decide +kernel
theorem dX6_die_23 : decode cX6_die 23 = .ok (.invokevirtual 125, 3) := by decide +kernel
theorem dX6_die_26 : decode cX6_die 26 = .ok (.aload_n 0, 1) := by decide +kernel
theorem dX6_die_27 : decode cX6_die 27 = .ok (.iconst 0, 1) := by decide +kernel
theorem dX6_die_28 : decode cX6_die 28 = .ok (.iload_n 1, 1) := by decide +kernel
theorem dX6_die_29 : decode cX6_die 29 = .ok (.invokevirtual 137, 3) := by decide +kernel
theorem dX6_die_32 : decode cX6_die 32 = .ok (.aload_n 0, 1) := by decide +kernel
theorem dX6_die_33 : decode cX6_die 33 = .ok (.getfield 16, 3) := by decide +kernel
theorem dX6_die_36 : decode cX6_die 36 = .ok (.iconst 1, 1) := by decide +kernel
theorem dX6_die_37 : decode cX6_die 37 = .ok (.iaload, 1) := by decide +kernel
theorem dX6_die_38 : decode cX6_die 38 = .ok (.invokestatic 102, 3) := by decide +kernel
theorem dX6_die_41 : decode cX6_die 41 = .ok (.ireturn, 1) := by decide +kernel
set_option maxRecDepth 20000 in
theorem ggX6_toss_X6_isJuror : GoodIn wsX6_toss wsX6_isJuror := goodIn_r _ [6, 7, 8, 9, 5, 10, 25, 26, 27, 28, 29, 30, 31, 32, 33, 34, 35, 36, 37, 38, 39, 40, 41, 42, 43, 44, 45, 46, 47, 48] (by decide +kernel) (by decide +kernel)
set_option maxRecDepth 20000 in
theorem gX6_toss_X6_isJuror : GoodIn wsX6_toss (wsV RX6 118 RX6 yX6_isJuror wsX6_isJuror) := goodIn_app (goodIn_of _ (by decide +kernel)) ggX6_toss_X6_isJuror
set_option maxRecDepth 20000 in
theorem ggX6_toss_X6_isThere : GoodIn wsX6_toss wsX6_isThere := goodIn_r _ [14, 1, 15, 16, 5, 17, 25, 26, 27, 28, 29, 30, 31, 32, 33, 34, 35, 36, 37, 38, 39, 40, 41, 42, 43, 44, 45, 46, 47, 48] (by decide +kernel) (by decide +kernel)
set_option maxRecDepth 20000 in
theorem gX6_toss_X6_isThere : GoodIn wsX6_toss (wsV RX6 108 RX6 yX6_isThere wsX6_isThere) := goodIn_app (goodIn_of _ (by decide +kernel)) ggX6_toss_X6_isThere
set_option maxRecDepth 20000 in
theorem ggX6_toss_X6_keepAct : GoodIn wsX6_toss wsX6_keepAct := goodIn_r _ [21, 22, 23, 1, 24, 25, 26, 27, 28, 29, 30, 31, 32, 33, 34, 35, 36, 37, 38, 39, 40, 41, 42, 43, 44, 45, 46, 47, 48] (by decide +kernel) (by decide +kernel)
set_option maxRecDepth 20000 in
theorem gX6_toss_X6_keepAct : GoodIn wsX6_toss (wsV RX6 125 RX6 yX6_keepAct wsX6_keepAct) := goodIn_app (goodIn_of _ (by decide +kernel)) ggX6_toss_X6_keepAct
theorem dX6_toss_0 : decode cX6_toss 0 = .ok (.aload_n 0, 1) := by decide +kernel
theorem dX6_toss_1 : decode cX6_toss 1 = .ok (.iload_n 1, 1) := by decide +kernel
theorem dX6_toss_2 : decode cX6_toss 2 = .ok (.invokevirtual 118, 3) := by decide +kernel
theorem dX6_toss_5 : decode cX6_toss 5 = .ok (.ifCond .ne 5, 3) := by decide +kernel
theorem dX6_toss_8 : decode cX6_toss 8 = .ok (.iconst (-1), 1) := by decide +kernel
theorem dX6_toss_9 : decode cX6_toss 9 = .ok (.ireturn, 1) := by decide +kernel
theorem dX6_toss_10 : decode cX6_toss 10 = .ok (.aload_n 0, 1) := by decide +kernel
theorem dX6_toss_11 : decode cX6_toss 11 = .ok (.iconst 0, 1) := by decide +kernel
theorem dX6_toss_12 : decode cX6_toss 12 = .ok (.iload_n 1, 1) := by decide +kernel
theorem dX6_toss_13 : decode cX6_toss 13 = .ok (.invokevirtual 108, 3) := by decide +kernel
theorem dX6_toss_16 : decode cX6_toss 16 = .ok (.ifCond .ne 6, 3) := by decide +kernel
theorem dX6_toss_19 : decode cX6_toss 19 = .ok (.bipush (-3), 2) := by decide +kernel
theorem dX6_toss_21 : decode cX6_toss 21 = .ok (.ireturn, 1) := by decide +kernel
theorem dX6_toss_22 : decode cX6_toss 22 = .ok (.aload_n 0, 1) := by decide +kernel
theorem dX6_toss_23 : decode cX6_toss 23 = .ok (.invokevirtual 125, 3) := by decide +kernel
theorem dX6_toss_26 : decode cX6_toss 26 = .ok (.aload_n 0, 1) := by decide +kernel
theorem dX6_toss_27 : decode cX6_toss 27 = .ok (.getfield 16, 3) := by decide +kernel
theorem dX6_toss_30 : decode cX6_toss 30 = .ok (.iconst 0, 1) := by decide +kernel
theorem dX6_toss_31 : decode cX6_toss 31 = .ok (.dup2, 1) := by decide +kernel
theorem dX6_toss_32 : decode cX6_toss 32 = .ok (.iaload, 1) := by decide +kernel
theorem dX6_toss_33 : decode cX6_toss 33 = .ok (.iconst 1, 1) := by decide +kernel
theorem dX6_toss_34 : decode cX6_toss 34 = .ok (.iload_n 1, 1) := by decide +kernel
theorem dX6_toss_35 : decode cX6_toss 35 = .ok (.ishl, 1) := by decide +kernel
theorem dX6_toss_36 : decode cX6_toss 36 = .ok (.ixor, 1) := by decide +kernel
theorem dX6_toss_37 : decode cX6_toss 37 = .ok (.iastore, 1) := by decide +kernel
theorem dX6_toss_38 : decode cX6_toss 38 = .ok (.aload_n 0, 1) := by decide +kernel
theorem dX6_toss_39 : decode cX6_toss 39 = .ok (.getfield 16, 3) := by decide +kernel
theorem dX6_toss_42 : decode cX6_toss 42 = .ok (.iconst 0, 1) := by decide +kernel
theorem dX6_toss_43 : decode cX6_toss 43 = .ok (.iaload, 1) := by decide +kernel
theorem dX6_toss_44 : decode cX6_toss 44 = .ok (.iload_n 1, 1) := by decide +kernel
theorem dX6_toss_45 : decode cX6_toss 45 = .ok (.ishr, 1) := by decide +kernel
theorem dX6_toss_46 : decode cX6_toss 46 = .ok (.iconst 1, 1) := by decide +kernel
theorem dX6_toss_47 : decode cX6_toss 47 = .ok (.iand, 1) := by decide +kernel
theorem dX6_toss_48 : decode cX6_toss 48 = .ok (.ireturn, 1) := by decide +kernel
theorem dX6_undo_0 : decode cX6_undo 0 = .ok (.aload_n 0, 1) := by decide +kernel
theorem dX6_undo_1 : decode cX6_undo 1 = .ok (.getfield 99, 3) := by decide +kernel
theorem dX6_undo_4 : decode cX6_undo 4 = .ok (.ifCond .ne 6, 3) := by decide +kernel
theorem dX6_undo_7 : decode cX6_undo 7 = .ok (.bipush (-3), 2) := by decide +kernel
theorem dX6_undo_9 : decode cX6_undo 9 = .ok (.ireturn, 1) := by decide +kernel
theorem dX6_undo_10 : decode cX6_undo 10 = .ok (.aload_n 0, 1) := by decide +kernel
theorem dX6_undo_11 : decode cX6_undo 11 = .ok (.dup, 1) := by decide +kernel
theorem dX6_undo_12 : decode cX6_undo 12 = .ok (.getfield 99, 3) := by decide +kernel
theorem dX6_undo_15 : decode cX6_undo 15 = .ok (.iconst 1, 1) := by decide +kernel
theorem dX6_undo_16 : decode cX6_undo 16 = .ok (.isub, 1) := by decide +kernel
theorem dX6_undo_17 : decode cX6_undo 17 = .ok (.putfield 99, 3) := by decide +kernel
theorem dX6_undo_20 : decode cX6_undo 20 = .ok (.aload_n 0, 1) := by decide +kernel
theorem dX6_undo_21 : decode cX6_undo 21 = .ok (.aload_n 0, 1) := by decide +kernel
theorem dX6_undo_22 : decode cX6_undo 22 = .ok (.getfield 122, 3) := by decide +kernel
theorem dX6_undo_25 : decode cX6_undo 25 = .ok (.bipush 13, 2) := by decide +kernel
theorem dX6_undo_27 : decode cX6_undo 27 = .ok (.iadd, 1) := by decide +kernel
theorem dX6_undo_28 : decode cX6_undo 28 = .ok (.bipush 14, 2) := by decide +kernel
theorem dX6_undo_30 : decode cX6_undo 30 = .ok (.irem, 1) := by decide +kernel
theorem dX6_undo_31 : decode cX6_undo 31 = .ok (.putfield 122, 3) := by decide +kernel
theorem dX6_undo_34 : decode cX6_undo 34 = .ok (.iconst 0, 1) := by decide +kernel
theorem dX6_undo_35 : decode cX6_undo 35 = .ok (.istore_n 1, 1) := by decide +kernel
theorem dX6_undo_36 : decode cX6_undo 36 = .ok (.iload_n 1, 1) := by decide +kernel
theorem dX6_undo_37 : decode cX6_undo 37 = .ok (.bipush 15, 2) := by decide +kernel
theorem dX6_undo_39 : decode cX6_undo 39 = .ok (.if_icmp .ge 29, 3) := by decide +kernel
theorem dX6_undo_42 : decode cX6_undo 42 = .ok (.aload_n 0, 1) := by decide +kernel
theorem dX6_undo_43 : decode cX6_undo 43 = .ok (.getfield 16, 3) := by decide +kernel
theorem dX6_undo_46 : decode cX6_undo 46 = .ok (.iload_n 1, 1) := by decide +kernel
theorem dX6_undo_47 : decode cX6_undo 47 = .ok (.aload_n 0, 1) := by decide +kernel
theorem dX6_undo_48 : decode cX6_undo 48 = .ok (.getfield 28, 3) := by decide +kernel
theorem dX6_undo_51 : decode cX6_undo 51 = .ok (.bipush 15, 2) := by decide +kernel
theorem dX6_undo_53 : decode cX6_undo 53 = .ok (.aload_n 0, 1) := by decide +kernel
theorem dX6_undo_54 : decode cX6_undo 54 = .ok (.getfield 122, 3) := by decide +kernel
theorem dX6_undo_57 : decode cX6_undo 57 = .ok (.imul, 1) := by decide +kernel
theorem dX6_undo_58 : decode cX6_undo 58 = .ok (.iload_n 1, 1) := by decide +kernel
theorem dX6_undo_59 : decode cX6_undo 59 = .ok (.iadd, 1) := by decide +kernel
theorem dX6_undo_60 : decode cX6_undo 60 = .ok (.iaload, 1) := by decide +kernel
theorem dX6_undo_61 : decode cX6_undo 61 = .ok (.iastore, 1) := by decide +kernel
theorem dX6_undo_62 : decode cX6_undo 62 = .ok (.iinc 1 1, 3) := by decide +kernel
theorem dX6_undo_65 : decode cX6_undo 65 = .ok (.goto (-29), 3) := by decide +kernel
theorem dX6_undo_68 : decode cX6_undo 68 = .ok (.aload_n 0, 1) := by decide +kernel
theorem dX6_undo_69 : decode cX6_undo 69 = .ok (.getfield 99, 3) := by decide +kernel
theorem dX6_undo_72 : decode cX6_undo 72 = .ok (.ireturn, 1) := by decide +kernel
theorem dX6_layTrial_0 : decode cX6_layTrial 0 = .ok (.iconst 0, 1) := by decide +kernel
theorem dX6_layTrial_1 : decode cX6_layTrial 1 = .ok (.istore_n 1, 1) := by decide +kernel
theorem dX6_layTrial_2 : decode cX6_layTrial 2 = .ok (.iload_n 1, 1) := by decide +kernel
theorem dX6_layTrial_3 : decode cX6_layTrial 3 = .ok (.bipush 15, 2) := by decide +kernel
theorem dX6_layTrial_5 : decode cX6_layTrial 5 = .ok (.if_icmp .ge 24, 3) := by decide +kernel
theorem dX6_layTrial_8 : decode cX6_layTrial 8 = .ok (.aload_n 0, 1) := by decide +kernel
theorem dX6_layTrial_9 : decode cX6_layTrial 9 = .ok (.getfield 16, 3) := by decide +kernel
theorem dX6_layTrial_12 : decode cX6_layTrial 12 = .ok (.bipush 15, 2) := by decide +kernel
theorem dX6_layTrial_14 : decode cX6_layTrial 14 = .ok (.iload_n 1, 1) := by decide +kernel
theorem dX6_layTrial_15 : decode cX6_layTrial 15 = .ok (.iadd, 1) := by decide +kernel
theorem dX6_layTrial_16 : decode cX6_layTrial 16 = .ok (.aload_n 0, 1) := by decide +kernel
theorem dX6_layTrial_17 : decode cX6_layTrial 17 = .ok (.getfield 16, 3) := by decide +kernel
theorem dX6_layTrial_20 : decode cX6_layTrial 20 = .ok (.iload_n 1, 1) := by decide +kernel
theorem dX6_layTrial_21 : decode cX6_layTrial 21 = .ok (.iaload, 1) := by decide +kernel
theorem dX6_layTrial_22 : decode cX6_layTrial 22 = .ok (.iastore, 1) := by decide +kernel
theorem dX6_layTrial_23 : decode cX6_layTrial 23 = .ok (.iinc 1 1, 3) := by decide +kernel
theorem dX6_layTrial_26 : decode cX6_layTrial 26 = .ok (.goto (-24), 3) := by decide +kernel
theorem dX6_layTrial_29 : decode cX6_layTrial 29 = .ok (.return_, 1) := by decide +kernel
set_option maxRecDepth 20000 in
theorem ggX6_ahead_X6_in : GoodIn wsX6_ahead wsX6_in := goodIn_r _ [6] (by decide +kernel) (by decide +kernel)
set_option maxRecDepth 20000 in
theorem gX6_ahead_X6_in : GoodIn wsX6_ahead (va_wsS RX6 53 yX6_in wsX6_in) := goodIn_app (goodIn_of _ (by decide +kernel)) ggX6_ahead_X6_in
set_option maxRecDepth 20000 in
theorem ggX6_ahead_X6_layTrial : GoodIn wsX6_ahead wsX6_layTrial := goodIn_r _ [10, 2, 41, 42, 43, 44, 45, 46, 47, 48, 49, 50, 51, 52, 53, 54, 55, 56, 57, 58, 59, 60, 61, 62, 63, 64] (by decide +kernel) (by decide +kernel)
set_option maxRecDepth 20000 in
theorem gX6_ahead_X6_layTrial : GoodIn wsX6_ahead (wsV RX6 140 RX6 yX6_layTrial wsX6_layTrial) := goodIn_app (goodIn_of _ (by decide +kernel)) ggX6_ahead_X6_layTrial
set_option maxRecDepth 20000 in
theorem ggX6_ahead_X6_passOn : GoodIn wsX6_ahead wsX6_passOn := goodIn_r _ [14, 2, 15, 16, 17, 18, 5, 19, 20, 21, 22, 23, 24, 25, 26, 27, 28, 29, 30, 31, 32, 33, 34, 35, 36, 37, 38, 39, 40, 41, 42, 43, 44, 45, 46, 47, 48, 49, 50, 51, 52, 53, 54, 55, 56, 57, 58, 59, 60, 61, 62, 63, 64] (by decide +kernel) (by decide +kernel)
set_option maxRecDepth 20000 in
theorem gX6_ahead_X6_passOn : GoodIn wsX6_ahead (wsV RX6 128 RX6 yX6_passOn wsX6_passOn) := goodIn_app (goodIn_of _ (by decide +kernel)) ggX6_ahead_X6_passOn
theorem dX6_ahead_0 : decode cX6_ahead 0 = .ok (.iload_n 1, 1) := by decide +kernel
theorem dX6_ahead_1 : decode cX6_ahead 1 = .ok (.i2l, 1) := by decide +kernel
theorem dX6_ahead_2 : decode cX6_ahead 2 = .ok (.lconst 0, 1) := by decide +kernel
theorem dX6_ahead_3 : decode cX6_ahead 3 = .ok (.ldc2_w 66, 3) := by decide +kernel
theorem dX6_ahead_6 : decode cX6_ahead 6 = .ok (.invokestatic 53, 3) := by decide +kernel
theorem dX6_ahead_9 : decode cX6_ahead 9 = .ok (.ifCond .ne 6, 3) := by decide +kernel
theorem dX6_ahead_12 : decode cX6_ahead 12 = .ok (.bipush (-2), 2) := by decide +kernel
theorem dX6_ahead_14 : decode cX6_ahead 14 = .ok (.ireturn, 1) := by decide +kernel
theorem dX6_ahead_15 : decode cX6_ahead 15 = .ok (.aload_n 0, 1) := by decide +kernel
theorem dX6_ahead_16 : decode cX6_ahead 16 = .ok (.invokevirtual 140, 3) := by decide +kernel
theorem dX6_ahead_19 : decode cX6_ahead 19 = .ok (.iconst 0, 1) := by decide +kernel
theorem dX6_ahead_20 : decode cX6_ahead 20 = .ok (.istore_n 2, 1) := by decide +kernel
theorem dX6_ahead_21 : decode cX6_ahead 21 = .ok (.iload_n 2, 1) := by decide +kernel
theorem dX6_ahead_22 : decode cX6_ahead 22 = .ok (.iload_n 1, 1) := by decide +kernel
theorem dX6_ahead_23 : decode cX6_ahead 23 = .ok (.if_icmp .ge 15, 3) := by decide +kernel
theorem dX6_ahead_26 : decode cX6_ahead 26 = .ok (.aload_n 0, 1) := by decide +kernel
theorem dX6_ahead_27 : decode cX6_ahead 27 = .ok (.iconst 1, 1) := by decide +kernel
theorem dX6_ahead_28 : decode cX6_ahead 28 = .ok (.invokevirtual 128, 3) := by decide +kernel
theorem dX6_ahead_31 : decode cX6_ahead 31 = .ok (.pop, 1) := by decide +kernel
theorem dX6_ahead_32 : decode cX6_ahead 32 = .ok (.iinc 2 1, 3) := by decide +kernel
theorem dX6_ahead_35 : decode cX6_ahead 35 = .ok (.goto (-14), 3) := by decide +kernel
theorem dX6_ahead_38 : decode cX6_ahead 38 = .ok (.aload_n 0, 1) := by decide +kernel
theorem dX6_ahead_39 : decode cX6_ahead 39 = .ok (.getfield 16, 3) := by decide +kernel
theorem dX6_ahead_42 : decode cX6_ahead 42 = .ok (.bipush 15, 2) := by decide +kernel
theorem dX6_ahead_44 : decode cX6_ahead 44 = .ok (.iaload, 1) := by decide +kernel
theorem dX6_ahead_45 : decode cX6_ahead 45 = .ok (.aload_n 0, 1) := by decide +kernel
theorem dX6_ahead_46 : decode cX6_ahead 46 = .ok (.getfield 16, 3) := by decide +kernel
theorem dX6_ahead_49 : decode cX6_ahead 49 = .ok (.bipush 16, 2) := by decide +kernel
theorem dX6_ahead_51 : decode cX6_ahead 51 = .ok (.iaload, 1) := by decide +kernel
theorem dX6_ahead_52 : decode cX6_ahead 52 = .ok (.iand, 1) := by decide +kernel
theorem dX6_ahead_53 : decode cX6_ahead 53 = .ok (.ireturn, 1) := by decide +kernel
set_option maxRecDepth 20000 in
theorem ggX6_runTrial_X6_verdict : GoodIn wsX6_runTrial wsX6_verdict := goodIn_r _ [6, 7, 8, 9, 10, 5, 11, 34, 35, 36, 37, 38, 39, 40, 41, 42, 43, 44, 45, 46, 47, 48, 49, 50, 51, 52, 53, 54, 55, 56, 57] (by decide +kernel) (by decide +kernel)
set_option maxRecDepth 20000 in
theorem gX6_runTrial_X6_verdict : GoodIn wsX6_runTrial (wsV RX6 105 RX6 yX6_verdict wsX6_verdict) := goodIn_app (goodIn_of _ (by decide +kernel)) ggX6_runTrial_X6_verdict
set_option maxRecDepth 20000 in
theorem ggX6_runTrial_X6_passOn : GoodIn wsX6_runTrial wsX6_passOn := goodIn_r _ [15, 7, 16, 2, 3, 4, 5, 6, 8, 9, 10, 11, 17, 18, 19, 20, 21, 22, 23, 24, 25, 26, 27, 28, 29, 30, 31, 32, 33, 34, 35, 36, 37, 38, 39, 40, 41, 42, 43, 44, 45, 46, 47, 48, 49, 50, 51, 52, 53, 54, 55, 56, 57] (by decide +kernel) (by decide +kernel)
set_option maxRecDepth 20000 in
theorem gX6_runTrial_X6_passOn : GoodIn wsX6_runTrial (wsV RX6 128 RX6 yX6_passOn wsX6_passOn) := goodIn_app (goodIn_of _ (by decide +kernel)) ggX6_runTrial_X6_passOn
theorem dX6_runTrial_0 : decode cX6_runTrial 0 = .ok (.iconst 0, 1) := by decide +kernel
theorem dX6_runTrial_1 : decode cX6_runTrial 1 = .ok (.istore_n 1, 1) := by decide +kernel
theorem dX6_runTrial_2 : decode cX6_runTrial 2 = .ok (.iload_n 1, 1) := by decide +kernel
theorem dX6_runTrial_3 : decode cX6_runTrial 3 = .ok (.bipush 20, 2) := by decide +kernel
theorem dX6_runTrial_5 : decode cX6_runTrial 5 = .ok (.if_icmp .gt 36, 3) := by decide +kernel
theorem dX6_runTrial_8 : decode cX6_runTrial 8 = .ok (.aload_n 0, 1) := by decide +kernel
theorem dX6_runTrial_9 : decode cX6_runTrial 9 = .ok (.iconst 1, 1) := by decide +kernel
theorem dX6_runTrial_10 : decode cX6_runTrial 10 = .ok (.invokevirtual 105, 3) := by decide +kernel
theorem dX6_runTrial_13 : decode cX6_runTrial 13 = .ok (.bipush 9, 2) := by decide +kernel
theorem dX6_runTrial_15 : decode cX6_runTrial 15 = .ok (.if_icmp .eq 14, 3) := by decide +kernel
theorem dX6_runTrial_18 : decode cX6_runTrial 18 = .ok (.aload_n 0, 1) := by decide +kernel
theorem dX6_runTrial_19 : decode cX6_runTrial 19 = .ok (.iload_n 1, 1) := by decide +kernel
theorem dX6_runTrial_20 : decode cX6_runTrial 20 = .ok (.putfield 143, 3) := by decide +kernel
theorem dX6_runTrial_23 : decode cX6_runTrial 23 = .ok (.aload_n 0, 1) := by decide +kernel
theorem dX6_runTrial_24 : decode cX6_runTrial 24 = .ok (.iconst 1, 1) := by decide +kernel
theorem dX6_runTrial_25 : decode cX6_runTrial 25 = .ok (.invokevirtual 105, 3) := by decide +kernel
theorem dX6_runTrial_28 : decode cX6_runTrial 28 = .ok (.ireturn, 1) := by decide +kernel
theorem dX6_runTrial_29 : decode cX6_runTrial 29 = .ok (.aload_n 0, 1) := by decide +kernel
theorem dX6_runTrial_30 : decode cX6_runTrial 30 = .ok (.iconst 1, 1) := by decide +kernel
theorem dX6_runTrial_31 : decode cX6_runTrial 31 = .ok (.invokevirtual 128, 3) := by decide +kernel
theorem dX6_runTrial_34 : decode cX6_runTrial 34 = .ok (.pop, 1) := by decide +kernel
theorem dX6_runTrial_35 : decode cX6_runTrial 35 = .ok (.iinc 1 1, 3) := by decide +kernel
theorem dX6_runTrial_38 : decode cX6_runTrial 38 = .ok (.goto (-36), 3) := by decide +kernel
theorem dX6_runTrial_41 : decode cX6_runTrial 41 = .ok (.aload_n 0, 1) := by decide +kernel
theorem dX6_runTrial_42 : decode cX6_runTrial 42 = .ok (.bipush (-9), 2) := by decide +kernel
theorem dX6_runTrial_44 : decode cX6_runTrial 44 = .ok (.putfield 143, 3) := by decide +kernel
theorem dX6_runTrial_47 : decode cX6_runTrial 47 = .ok (.bipush 9, 2) := by decide +kernel
theorem dX6_runTrial_49 : decode cX6_runTrial 49 = .ok (.ireturn, 1) := by decide +kernel
set_option maxRecDepth 20000 in
theorem ggX6_end_X6_in : GoodIn wsX6_end wsX6_in := goodIn_r _ [5] (by decide +kernel) (by decide +kernel)
set_option maxRecDepth 20000 in
theorem gX6_end_X6_in : GoodIn wsX6_end (va_wsS RX6 53 yX6_in wsX6_in) := goodIn_app (goodIn_of _ (by decide +kernel)) ggX6_end_X6_in
set_option maxRecDepth 20000 in
theorem ggX6_end_X6_layTrial : GoodIn wsX6_end wsX6_layTrial := goodIn_r _ [9, 10, 45, 46, 47, 48, 49, 50, 51, 52, 53, 54, 55, 56, 57, 58, 59, 60, 61, 62, 63, 64, 65, 66, 67, 68] (by decide +kernel) (by decide +kernel)
set_option maxRecDepth 20000 in
theorem gX6_end_X6_layTrial : GoodIn wsX6_end (wsV RX6 140 RX6 yX6_layTrial wsX6_layTrial) := goodIn_app (goodIn_of _ (by decide +kernel)) ggX6_end_X6_layTrial
set_option maxRecDepth 20000 in
theorem ggX6_end_X6_runTrial : GoodIn wsX6_end wsX6_runTrial := goodIn_r _ [14, 1, 15, 16, 17, 4, 18, 10, 19, 20, 21, 22, 23, 24, 25, 26, 27, 28, 29, 30, 31, 32, 33, 34, 35, 36, 37, 38, 39, 40, 41, 42, 43, 44, 45, 46, 47, 48, 49, 50, 51, 52, 53, 54, 55, 56, 57, 58, 59, 60, 61, 62, 63, 64, 65, 66, 67, 68] (by decide +kernel) (by decide +kernel)
set_option maxRecDepth 20000 in
theorem gX6_end_X6_runTrial : GoodIn wsX6_end (wsV RX6 146 RX6 yX6_runTrial wsX6_runTrial) := goodIn_app (goodIn_of _ (by decide +kernel)) ggX6_end_X6_runTrial
theorem dX6_end_0 : decode cX6_end 0 = .ok (.iload_n 1, 1) := by decide +kernel
theorem dX6_end_1 : decode cX6_end 1 = .ok (.i2l, 1) := by decide +kernel
theorem dX6_end_2 : decode cX6_end 2 = .ok (.lconst 0, 1) := by decide +kernel
theorem dX6_end_3 : decode cX6_end 3 = .ok (.lconst 1, 1) := by decide +kernel
theorem dX6_end_4 : decode cX6_end 4 = .ok (.invokestatic 53, 3) := by decide +kernel
theorem dX6_end_7 : decode cX6_end 7 = .ok (.ifCond .ne 6, 3) := by decide +kernel
theorem dX6_end_10 : decode cX6_end 10 = .ok (.bipush (-2), 2) := by decide +kernel
theorem dX6_end_12 : decode cX6_end 12 = .ok (.ireturn, 1) := by decide +kernel
theorem dX6_end_13 : decode cX6_end 13 = .ok (.aload_n 0, 1) := by decide +kernel
theorem dX6_end_14 : decode cX6_end 14 = .ok (.invokevirtual 140, 3) := by decide +kernel
theorem dX6_end_17 : decode cX6_end 17 = .ok (.aload_n 0, 1) := by decide +kernel
theorem dX6_end_18 : decode cX6_end 18 = .ok (.invokevirtual 146, 3) := by decide +kernel
theorem dX6_end_21 : decode cX6_end 21 = .ok (.istore_n 2, 1) := by decide +kernel
theorem dX6_end_22 : decode cX6_end 22 = .ok (.iload_n 1, 1) := by decide +kernel
theorem dX6_end_23 : decode cX6_end 23 = .ok (.ifCond .ne 10, 3) := by decide +kernel
theorem dX6_end_26 : decode cX6_end 26 = .ok (.aload_n 0, 1) := by decide +kernel
theorem dX6_end_27 : decode cX6_end 27 = .ok (.getfield 143, 3) := by decide +kernel
theorem dX6_end_30 : decode cX6_end 30 = .ok (.goto 15, 3) := by decide +kernel
theorem dX6_end_33 : decode cX6_end 33 = .ok (.iload_n 2, 1) := by decide +kernel
theorem dX6_end_34 : decode cX6_end 34 = .ok (.bipush 9, 2) := by decide +kernel
theorem dX6_end_36 : decode cX6_end 36 = .ok (.if_icmp .ne 8, 3) := by decide +kernel
theorem dX6_end_39 : decode cX6_end 39 = .ok (.bipush (-9), 2) := by decide +kernel
theorem dX6_end_41 : decode cX6_end 41 = .ok (.goto 4, 3) := by decide +kernel
theorem dX6_end_44 : decode cX6_end 44 = .ok (.iload_n 2, 1) := by decide +kernel
theorem dX6_end_45 : decode cX6_end 45 = .ok (.ireturn, 1) := by decide +kernel
set_option maxRecDepth 20000 in
theorem ggX6_gives_X6_isJuror : GoodIn wsX6_gives wsX6_isJuror := goodIn_r _ [6, 7, 8, 9, 5, 10, 44, 45, 46, 47, 48, 49, 50, 51, 52, 53, 54, 55, 56, 57, 58, 59, 60, 61, 62, 63, 64, 65, 66, 67] (by decide +kernel) (by decide +kernel)
set_option maxRecDepth 20000 in
theorem gX6_gives_X6_isJuror : GoodIn wsX6_gives (wsV RX6 118 RX6 yX6_isJuror wsX6_isJuror) := goodIn_app (goodIn_of _ (by decide +kernel)) ggX6_gives_X6_isJuror
set_option maxRecDepth 20000 in
theorem ggX6_gives_X6_isThere : GoodIn wsX6_gives wsX6_isThere := goodIn_r _ [14, 1, 15, 16, 5, 17, 44, 45, 46, 47, 48, 49, 50, 51, 52, 53, 54, 55, 56, 57, 58, 59, 60, 61, 62, 63, 64, 65, 66, 67] (by decide +kernel) (by decide +kernel)
set_option maxRecDepth 20000 in
theorem gX6_gives_X6_isThere : GoodIn wsX6_gives (wsV RX6 108 RX6 yX6_isThere wsX6_isThere) := goodIn_app (goodIn_of _ (by decide +kernel)) ggX6_gives_X6_isThere
set_option maxRecDepth 20000 in
theorem ggX6_gives_X6_layTrial : GoodIn wsX6_gives wsX6_layTrial := goodIn_r _ [21, 1, 44, 45, 46, 47, 48, 49, 50, 51, 52, 53, 54, 55, 56, 57, 58, 59, 60, 61, 62, 63, 64, 65, 66, 67] (by decide +kernel) (by decide +kernel)
set_option maxRecDepth 20000 in
theorem gX6_gives_X6_layTrial : GoodIn wsX6_gives (wsV RX6 140 RX6 yX6_layTrial wsX6_layTrial) := goodIn_app (goodIn_of _ (by decide +kernel)) ggX6_gives_X6_layTrial
set_option maxRecDepth 20000 in
theorem ggX6_gives_X6_passOn : GoodIn wsX6_gives wsX6_passOn := goodIn_r _ [25, 1, 7, 26, 27, 28, 5, 29, 30, 31, 32, 33, 11, 12, 13, 14, 15, 16, 17, 34, 35, 36, 37, 38, 39, 40, 41, 42, 43, 44, 45, 46, 47, 48, 49, 50, 51, 52, 53, 54, 55, 56, 57, 58, 59, 60, 61, 62, 63, 64, 65, 66, 67] (by decide +kernel) (by decide +kernel)
set_option maxRecDepth 20000 in
theorem gX6_gives_X6_passOn : GoodIn wsX6_gives (wsV RX6 128 RX6 yX6_passOn wsX6_passOn) := goodIn_app (goodIn_of _ (by decide +kernel)) ggX6_gives_X6_passOn
set_option maxRecDepth 20000 in
theorem ggX6_gives_X6_has : GoodIn wsX6_gives wsX6_has := goodIn_r _ [17] (by decide +kernel) (by decide +kernel)
set_option maxRecDepth 20000 in
theorem gX6_gives_X6_has : GoodIn wsX6_gives (va_wsS RX6 68 yX6_has wsX6_has) := goodIn_app (goodIn_of _ (by decide +kernel)) ggX6_gives_X6_has
theorem dX6_gives_0 : decode cX6_gives 0 = .ok (.aload_n 0, 1) := by decide +kernel
theorem dX6_gives_1 : decode cX6_gives 1 = .ok (.iload_n 1, 1) := by decide +kernel
theorem dX6_gives_2 : decode cX6_gives 2 = .ok (.invokevirtual 118, 3) := by decide +kernel
theorem dX6_gives_5 : decode cX6_gives 5 = .ok (.ifCond .ne 5, 3) := by decide +kernel
theorem dX6_gives_8 : decode cX6_gives 8 = .ok (.iconst (-1), 1) := by decide +kernel
theorem dX6_gives_9 : decode cX6_gives 9 = .ok (.ireturn, 1) := by decide +kernel
theorem dX6_gives_10 : decode cX6_gives 10 = .ok (.aload_n 0, 1) := by decide +kernel
theorem dX6_gives_11 : decode cX6_gives 11 = .ok (.iconst 0, 1) := by decide +kernel
theorem dX6_gives_12 : decode cX6_gives 12 = .ok (.iload_n 1, 1) := by decide +kernel
theorem dX6_gives_13 : decode cX6_gives 13 = .ok (.invokevirtual 108, 3) := by decide +kernel
theorem dX6_gives_16 : decode cX6_gives 16 = .ok (.ifCond .ne 6, 3) := by decide +kernel
theorem dX6_gives_19 : decode cX6_gives 19 = .ok (.bipush (-3), 2) := by decide +kernel
theorem dX6_gives_21 : decode cX6_gives 21 = .ok (.ireturn, 1) := by decide +kernel
theorem dX6_gives_22 : decode cX6_gives 22 = .ok (.aload_n 0, 1) := by decide +kernel
theorem dX6_gives_23 : decode cX6_gives 23 = .ok (.invokevirtual 140, 3) := by decide +kernel
theorem dX6_gives_26 : decode cX6_gives 26 = .ok (.iconst 1, 1) := by decide +kernel
theorem dX6_gives_27 : decode cX6_gives 27 = .ok (.istore_n 2, 1) := by decide +kernel
theorem dX6_gives_28 : decode cX6_gives 28 = .ok (.iload_n 2, 1) := by decide +kernel
theorem dX6_gives_29 : decode cX6_gives 29 = .ok (.bipush 20, 2) := by decide +kernel
theorem dX6_gives_31 : decode cX6_gives 31 = .ok (.if_icmp .gt 41, 3) := by decide +kernel
theorem dX6_gives_34 : decode cX6_gives 34 = .ok (.aload_n 0, 1) := by decide +kernel
theorem dX6_gives_35 : decode cX6_gives 35 = .ok (.iconst 1, 1) := by decide +kernel
theorem dX6_gives_36 : decode cX6_gives 36 = .ok (.invokevirtual 128, 3) := by decide +kernel
theorem dX6_gives_39 : decode cX6_gives 39 = .ok (.pop, 1) := by decide +kernel
theorem dX6_gives_40 : decode cX6_gives 40 = .ok (.aload_n 0, 1) := by decide +kernel
theorem dX6_gives_41 : decode cX6_gives 41 = .ok (.getfield 16, 3) := by decide +kernel
theorem dX6_gives_44 : decode cX6_gives 44 = .ok (.bipush 15, 2) := by decide +kernel
theorem dX6_gives_46 : decode cX6_gives 46 = .ok (.iaload, 1) := by decide +kernel
theorem dX6_gives_47 : decode cX6_gives 47 = .ok (.iload_n 1, 1) := by decide +kernel
theorem dX6_gives_48 : decode cX6_gives 48 = .ok (.invokestatic 68, 3) := by decide +kernel
theorem dX6_gives_51 : decode cX6_gives 51 = .ok (.aload_n 0, 1) := by decide +kernel
theorem dX6_gives_52 : decode cX6_gives 52 = .ok (.getfield 16, 3) := by decide +kernel
theorem dX6_gives_55 : decode cX6_gives 55 = .ok (.iconst 0, 1) := by decide +kernel
theorem dX6_gives_56 : decode cX6_gives 56 = .ok (.iaload, 1) := by decide +kernel
theorem dX6_gives_57 : decode cX6_gives 57 = .ok (.iload_n 1, 1) := by decide +kernel
theorem dX6_gives_58 : decode cX6_gives 58 = .ok (.invokestatic 68, 3) := by decide +kernel
theorem dX6_gives_61 : decode cX6_gives 61 = .ok (.if_icmp .eq 5, 3) := by decide +kernel
theorem dX6_gives_64 : decode cX6_gives 64 = .ok (.iload_n 2, 1) := by decide +kernel
theorem dX6_gives_65 : decode cX6_gives 65 = .ok (.ireturn, 1) := by decide +kernel
theorem dX6_gives_66 : decode cX6_gives 66 = .ok (.iinc 2 1, 3) := by decide +kernel
theorem dX6_gives_69 : decode cX6_gives 69 = .ok (.goto (-41), 3) := by decide +kernel
theorem dX6_gives_72 : decode cX6_gives 72 = .ok (.bipush (-9), 2) := by decide +kernel
theorem dX6_gives_74 : decode cX6_gives 74 = .ok (.ireturn, 1) := by decide +kernel
set_option maxRecDepth 20000 in
theorem ggX6_toFeed_X6_in : GoodIn wsX6_toFeed wsX6_in := goodIn_r _ [6] (by decide +kernel) (by decide +kernel)
set_option maxRecDepth 20000 in
theorem gX6_toFeed_X6_in : GoodIn wsX6_toFeed (va_wsS RX6 53 yX6_in wsX6_in) := goodIn_app (goodIn_of _ (by decide +kernel)) ggX6_toFeed_X6_in
set_option maxRecDepth 20000 in
theorem ggX6_toFeed_X6_ones : GoodIn wsX6_toFeed wsX6_ones := goodIn_r _ [9] (by decide +kernel) (by decide +kernel)
set_option maxRecDepth 20000 in
theorem gX6_toFeed_X6_ones : GoodIn wsX6_toFeed (va_wsS RX6 102 yX6_ones wsX6_ones) := goodIn_app (goodIn_of _ (by decide +kernel)) ggX6_toFeed_X6_ones
set_option maxRecDepth 20000 in
theorem ggX6_toFeed_X6_layTrial : GoodIn wsX6_toFeed wsX6_layTrial := goodIn_r _ [13, 1, 45, 46, 47, 48, 49, 50, 51, 52, 53, 54, 55, 56, 57, 58, 59, 60, 61, 62, 63, 64, 65, 66, 67, 68] (by decide +kernel) (by decide +kernel)
set_option maxRecDepth 20000 in
theorem gX6_toFeed_X6_layTrial : GoodIn wsX6_toFeed (wsV RX6 140 RX6 yX6_layTrial wsX6_layTrial) := goodIn_app (goodIn_of _ (by decide +kernel)) ggX6_toFeed_X6_layTrial
set_option maxRecDepth 20000 in
theorem ggX6_toFeed_X6_has : GoodIn wsX6_toFeed wsX6_has := goodIn_r _ [16] (by decide +kernel) (by decide +kernel)
set_option maxRecDepth 20000 in
theorem gX6_toFeed_X6_has : GoodIn wsX6_toFeed (va_wsS RX6 68 yX6_has wsX6_has) := goodIn_app (goodIn_of _ (by decide +kernel)) ggX6_toFeed_X6_has
set_option maxRecDepth 20000 in
theorem ggX6_toFeed_X6_runTrial : GoodIn wsX6_toFeed wsX6_runTrial := goodIn_r _ [20, 21, 22, 23, 24, 5, 25, 1, 26, 7, 8, 9, 27, 28, 29, 30, 2, 31, 32, 33, 34, 14, 15, 16, 35, 36, 37, 38, 39, 40, 41, 42, 43, 44, 45, 46, 47, 48, 49, 50, 51, 52, 53, 54, 55, 56, 57, 58, 59, 60, 61, 62, 63, 64, 65, 66, 67, 68] (by decide +kernel) (by decide +kernel)
set_option maxRecDepth 20000 in
theorem gX6_toFeed_X6_runTrial : GoodIn wsX6_toFeed (wsV RX6 146 RX6 yX6_runTrial wsX6_runTrial) := goodIn_app (goodIn_of _ (by decide +kernel)) ggX6_toFeed_X6_runTrial
theorem dX6_toFeed_0 : decode cX6_toFeed 0 = .ok (.iload_n 1, 1) := by decide +kernel
theorem dX6_toFeed_1 : decode cX6_toFeed 1 = .ok (.i2l, 1) := by decide +kernel
theorem dX6_toFeed_2 : decode cX6_toFeed 2 = .ok (.lconst 0, 1) := by decide +kernel
theorem dX6_toFeed_3 : decode cX6_toFeed 3 = .ok (.lconst 1, 1) := by decide +kernel
theorem dX6_toFeed_4 : decode cX6_toFeed 4 = .ok (.invokestatic 53, 3) := by decide +kernel
theorem dX6_toFeed_7 : decode cX6_toFeed 7 = .ok (.ifCond .ne 6, 3) := by decide +kernel
theorem dX6_toFeed_10 : decode cX6_toFeed 10 = .ok (.bipush (-2), 2) := by decide +kernel
theorem dX6_toFeed_12 : decode cX6_toFeed 12 = .ok (.ireturn, 1) := by decide +kernel
theorem dX6_toFeed_13 : decode cX6_toFeed 13 = .ok (.bipush (-9), 2) := by decide +kernel
theorem dX6_toFeed_15 : decode cX6_toFeed 15 = .ok (.istore_n 2, 1) := by decide +kernel
theorem dX6_toFeed_16 : decode cX6_toFeed 16 = .ok (.iconst 0, 1) := by decide +kernel
theorem dX6_toFeed_17 : decode cX6_toFeed 17 = .ok (.istore_n 3, 1) := by decide +kernel
theorem dX6_toFeed_18 : decode cX6_toFeed 18 = .ok (.iload_n 3, 1) := by decide +kernel
theorem dX6_toFeed_19 : decode cX6_toFeed 19 = .ok (.bipush 64, 2) := by decide +kernel
theorem dX6_toFeed_21 : decode cX6_toFeed 21 = .ok (.if_icmp .ge 120, 3) := by decide +kernel
theorem dX6_toFeed_24 : decode cX6_toFeed 24 = .ok (.iload_n 2, 1) := by decide +kernel
theorem dX6_toFeed_25 : decode cX6_toFeed 25 = .ok (.bipush (-9), 2) := by decide +kernel
theorem dX6_toFeed_27 : decode cX6_toFeed 27 = .ok (.if_icmp .eq 14, 3) := by decide +kernel
theorem dX6_toFeed_30 : decode cX6_toFeed 30 = .ok (.iload_n 3, 1) := by decide +kernel
theorem dX6_toFeed_31 : decode cX6_toFeed 31 = .ok (.invokestatic 102, 3) := by decide +kernel
theorem dX6_toFeed_34 : decode cX6_toFeed 34 = .ok (.iload_n 2, 1) := by decide +kernel
theorem dX6_toFeed_35 : decode cX6_toFeed 35 = .ok (.invokestatic 102, 3) := by decide +kernel
theorem dX6_toFeed_38 : decode cX6_toFeed 38 = .ok (.if_icmp .ge 7, 3) := by decide +kernel
theorem dX6_toFeed_41 : decode cX6_toFeed 41 = .ok (.iconst 1, 1) := by decide +kernel
theorem dX6_toFeed_42 : decode cX6_toFeed 42 = .ok (.goto 4, 3) := by decide +kernel
theorem dX6_toFeed_45 : decode cX6_toFeed 45 = .ok (.iconst 0, 1) := by decide +kernel
theorem dX6_toFeed_46 : decode cX6_toFeed 46 = .ok (.istore 4, 2) := by decide +kernel
theorem dX6_toFeed_48 : decode cX6_toFeed 48 = .ok (.iload 4, 2) := by decide +kernel
theorem dX6_toFeed_50 : decode cX6_toFeed 50 = .ok (.ifCond .eq 85, 3) := by decide +kernel
theorem dX6_toFeed_53 : decode cX6_toFeed 53 = .ok (.iload_n 3, 1) := by decide +kernel
theorem dX6_toFeed_54 : decode cX6_toFeed 54 = .ok (.aload_n 0, 1) := by decide +kernel
theorem dX6_toFeed_55 : decode cX6_toFeed 55 = .ok (.getfield 16, 3) := by decide +kernel
theorem dX6_toFeed_58 : decode cX6_toFeed 58 = .ok (.iconst 1, 1) := by decide +kernel
theorem dX6_toFeed_59 : decode cX6_toFeed 59 = .ok (.iaload, 1) := by decide +kernel
theorem dX6_toFeed_60 : decode cX6_toFeed 60 = .ok (.iconst (-1), 1) := by decide +kernel
theorem dX6_toFeed_61 : decode cX6_toFeed 61 = .ok (.ixor, 1) := by decide +kernel
theorem dX6_toFeed_62 : decode cX6_toFeed 62 = .ok (.iand, 1) := by decide +kernel
theorem dX6_toFeed_63 : decode cX6_toFeed 63 = .ok (.ifCond .ne 72, 3) := by decide +kernel
theorem dX6_toFeed_66 : decode cX6_toFeed 66 = .ok (.aload_n 0, 1) := by decide +kernel
theorem dX6_toFeed_67 : decode cX6_toFeed 67 = .ok (.invokevirtual 140, 3) := by decide +kernel
theorem dX6_toFeed_70 : decode cX6_toFeed 70 = .ok (.iconst 0, 1) := by decide +kernel
theorem dX6_toFeed_71 : decode cX6_toFeed 71 = .ok (.istore 5, 2) := by decide +kernel
theorem dX6_toFeed_73 : decode cX6_toFeed 73 = .ok (.iload 5, 2) := by decide +kernel
theorem dX6_toFeed_75 : decode cX6_toFeed 75 = .ok (.aload_n 0, 1) := by decide +kernel
theorem dX6_toFeed_76 : decode cX6_toFeed 76 = .ok (.getfield 96, 3) := by decide +kernel
theorem dX6_toFeed_79 : decode cX6_toFeed 79 = .ok (.if_icmp .ge 42, 3) := by decide +kernel
theorem dX6_toFeed_82 : decode cX6_toFeed 82 = .ok (.aload_n 0, 1) := by decide +kernel
theorem dX6_toFeed_83 : decode cX6_toFeed 83 = .ok (.getfield 16, 3) := by decide +kernel
theorem dX6_toFeed_86 : decode cX6_toFeed 86 = .ok (.bipush 24, 2) := by decide +kernel
theorem dX6_toFeed_88 : decode cX6_toFeed 88 = .ok (.iload 5, 2) := by decide +kernel
theorem dX6_toFeed_90 : decode cX6_toFeed 90 = .ok (.iadd, 1) := by decide +kernel
theorem dX6_toFeed_91 : decode cX6_toFeed 91 = .ok (.iload_n 3, 1) := by decide +kernel
theorem dX6_toFeed_92 : decode cX6_toFeed 92 = .ok (.iload 5, 2) := by decide +kernel
theorem dX6_toFeed_94 : decode cX6_toFeed 94 = .ok (.invokestatic 68, 3) := by decide +kernel
theorem dX6_toFeed_97 : decode cX6_toFeed 97 = .ok (.ifCond .eq 7, 3) := by decide +kernel
theorem dX6_toFeed_100 : decode cX6_toFeed 100 = .ok (.iconst 0, 1) := by decide +kernel
theorem dX6_toFeed_101 : decode cX6_toFeed 101 = .ok (.goto 13, 3) := by decide +kernel
theorem dX6_toFeed_104 : decode cX6_toFeed 104 = .ok (.aload_n 0, 1) := by decide +kernel
theorem dX6_toFeed_105 : decode cX6_toFeed 105 = .ok (.getfield 16, 3) := by decide +kernel
theorem dX6_toFeed_108 : decode cX6_toFeed 108 = .ok (.bipush 9, 2) := by decide +kernel
theorem dX6_toFeed_110 : decode cX6_toFeed 110 = .ok (.iload 5, 2) := by decide +kernel
theorem dX6_toFeed_112 : decode cX6_toFeed 112 = .ok (.iadd, 1) := by decide +kernel
theorem dX6_toFeed_113 : decode cX6_toFeed 113 = .ok (.iaload, 1) := by decide +kernel
theorem dX6_toFeed_114 : decode cX6_toFeed 114 = .ok (.iastore, 1) := by decide +kernel
theorem dX6_toFeed_115 : decode cX6_toFeed 115 = .ok (.iinc 5 1, 3) := by decide +kernel
theorem dX6_toFeed_118 : decode cX6_toFeed 118 = .ok (.goto (-45), 3) := by decide +kernel
theorem dX6_toFeed_121 : decode cX6_toFeed 121 = .ok (.aload_n 0, 1) := by decide +kernel
theorem dX6_toFeed_122 : decode cX6_toFeed 122 = .ok (.invokevirtual 146, 3) := by decide +kernel
theorem dX6_toFeed_125 : decode cX6_toFeed 125 = .ok (.iload_n 1, 1) := by decide +kernel
theorem dX6_toFeed_126 : decode cX6_toFeed 126 = .ok (.if_icmp .ne 7, 3) := by decide +kernel
theorem dX6_toFeed_129 : decode cX6_toFeed 129 = .ok (.iload_n 3, 1) := by decide +kernel
theorem dX6_toFeed_130 : decode cX6_toFeed 130 = .ok (.goto 4, 3) := by decide +kernel
theorem dX6_toFeed_133 : decode cX6_toFeed 133 = .ok (.iload_n 2, 1) := by decide +kernel
theorem dX6_toFeed_134 : decode cX6_toFeed 134 = .ok (.istore_n 2, 1) := by decide +kernel
theorem dX6_toFeed_135 : decode cX6_toFeed 135 = .ok (.iinc 3 1, 3) := by decide +kernel
theorem dX6_toFeed_138 : decode cX6_toFeed 138 = .ok (.goto (-120), 3) := by decide +kernel
theorem dX6_toFeed_141 : decode cX6_toFeed 141 = .ok (.iload_n 2, 1) := by decide +kernel
theorem dX6_toFeed_142 : decode cX6_toFeed 142 = .ok (.ireturn, 1) := by decide +kernel
set_option maxRecDepth 20000 in
theorem ggX6_strike_X6_in : GoodIn wsX6_strike wsX6_in := goodIn_r _ [6] (by decide +kernel) (by decide +kernel)
set_option maxRecDepth 20000 in
theorem gX6_strike_X6_in : GoodIn wsX6_strike (va_wsS RX6 53 yX6_in wsX6_in) := goodIn_app (goodIn_of _ (by decide +kernel)) ggX6_strike_X6_in
set_option maxRecDepth 20000 in
theorem ggX6_strike_X6_ones : GoodIn wsX6_strike wsX6_ones := goodIn_r _ [9] (by decide +kernel) (by decide +kernel)
set_option maxRecDepth 20000 in
theorem gX6_strike_X6_ones : GoodIn wsX6_strike (va_wsS RX6 102 yX6_ones wsX6_ones) := goodIn_app (goodIn_of _ (by decide +kernel)) ggX6_strike_X6_ones
set_option maxRecDepth 20000 in
theorem ggX6_strike_X6_layTrial : GoodIn wsX6_strike wsX6_layTrial := goodIn_r _ [13, 1, 49, 50, 51, 52, 53, 54, 55, 56, 57, 58, 59, 60, 61, 62, 63, 64, 65, 66, 67, 68, 69, 70, 71, 72] (by decide +kernel) (by decide +kernel)
set_option maxRecDepth 20000 in
theorem gX6_strike_X6_layTrial : GoodIn wsX6_strike (wsV RX6 140 RX6 yX6_layTrial wsX6_layTrial) := goodIn_app (goodIn_of _ (by decide +kernel)) ggX6_strike_X6_layTrial
set_option maxRecDepth 20000 in
theorem ggX6_strike_X6_has : GoodIn wsX6_strike wsX6_has := goodIn_r _ [16] (by decide +kernel) (by decide +kernel)
set_option maxRecDepth 20000 in
theorem gX6_strike_X6_has : GoodIn wsX6_strike (va_wsS RX6 68 yX6_has wsX6_has) := goodIn_app (goodIn_of _ (by decide +kernel)) ggX6_strike_X6_has
set_option maxRecDepth 20000 in
theorem ggX6_strike_X6_dieOn : GoodIn wsX6_strike wsX6_dieOn := goodIn_r _ [20, 1, 49, 50, 51, 52, 53, 54, 55, 56, 57, 58, 59, 60, 61, 62, 63, 64, 65, 66, 67, 68, 69, 70, 71, 72] (by decide +kernel) (by decide +kernel)
set_option maxRecDepth 20000 in
theorem gX6_strike_X6_dieOn : GoodIn wsX6_strike (wsV RX6 137 RX6 yX6_dieOn wsX6_dieOn) := goodIn_app (goodIn_of _ (by decide +kernel)) ggX6_strike_X6_dieOn
set_option maxRecDepth 20000 in
theorem ggX6_strike_X6_runTrial : GoodIn wsX6_strike wsX6_runTrial := goodIn_r _ [24, 25, 26, 27, 28, 5, 29, 1, 30, 7, 8, 9, 31, 32, 33, 34, 2, 35, 36, 37, 38, 14, 15, 16, 39, 40, 41, 42, 43, 44, 45, 46, 47, 48, 49, 50, 51, 52, 53, 54, 55, 56, 57, 58, 59, 60, 61, 62, 63, 64, 65, 66, 67, 68, 69, 70, 71, 72] (by decide +kernel) (by decide +kernel)
set_option maxRecDepth 20000 in
theorem gX6_strike_X6_runTrial : GoodIn wsX6_strike (wsV RX6 146 RX6 yX6_runTrial wsX6_runTrial) := goodIn_app (goodIn_of _ (by decide +kernel)) ggX6_strike_X6_runTrial
theorem dX6_strike_0 : decode cX6_strike 0 = .ok (.iload_n 1, 1) := by decide +kernel
theorem dX6_strike_1 : decode cX6_strike 1 = .ok (.i2l, 1) := by decide +kernel
theorem dX6_strike_2 : decode cX6_strike 2 = .ok (.lconst 0, 1) := by decide +kernel
theorem dX6_strike_3 : decode cX6_strike 3 = .ok (.lconst 1, 1) := by decide +kernel
theorem dX6_strike_4 : decode cX6_strike 4 = .ok (.invokestatic 53, 3) := by decide +kernel
theorem dX6_strike_7 : decode cX6_strike 7 = .ok (.ifCond .ne 6, 3) := by decide +kernel
theorem dX6_strike_10 : decode cX6_strike 10 = .ok (.bipush (-2), 2) := by decide +kernel
theorem dX6_strike_12 : decode cX6_strike 12 = .ok (.ireturn, 1) := by decide +kernel
theorem dX6_strike_13 : decode cX6_strike 13 = .ok (.bipush (-9), 2) := by decide +kernel
theorem dX6_strike_15 : decode cX6_strike 15 = .ok (.istore_n 2, 1) := by decide +kernel
theorem dX6_strike_16 : decode cX6_strike 16 = .ok (.iconst 0, 1) := by decide +kernel
theorem dX6_strike_17 : decode cX6_strike 17 = .ok (.istore_n 3, 1) := by decide +kernel
theorem dX6_strike_18 : decode cX6_strike 18 = .ok (.iload_n 3, 1) := by decide +kernel
theorem dX6_strike_19 : decode cX6_strike 19 = .ok (.bipush 64, 2) := by decide +kernel
theorem dX6_strike_21 : decode cX6_strike 21 = .ok (.if_icmp .ge 113, 3) := by decide +kernel
theorem dX6_strike_24 : decode cX6_strike 24 = .ok (.iload_n 2, 1) := by decide +kernel
theorem dX6_strike_25 : decode cX6_strike 25 = .ok (.bipush (-9), 2) := by decide +kernel
theorem dX6_strike_27 : decode cX6_strike 27 = .ok (.if_icmp .eq 14, 3) := by decide +kernel
theorem dX6_strike_30 : decode cX6_strike 30 = .ok (.iload_n 3, 1) := by decide +kernel
theorem dX6_strike_31 : decode cX6_strike 31 = .ok (.invokestatic 102, 3) := by decide +kernel
theorem dX6_strike_34 : decode cX6_strike 34 = .ok (.iload_n 2, 1) := by decide +kernel
theorem dX6_strike_35 : decode cX6_strike 35 = .ok (.invokestatic 102, 3) := by decide +kernel
theorem dX6_strike_38 : decode cX6_strike 38 = .ok (.if_icmp .ge 7, 3) := by decide +kernel
theorem dX6_strike_41 : decode cX6_strike 41 = .ok (.iconst 1, 1) := by decide +kernel
theorem dX6_strike_42 : decode cX6_strike 42 = .ok (.goto 4, 3) := by decide +kernel
theorem dX6_strike_45 : decode cX6_strike 45 = .ok (.iconst 0, 1) := by decide +kernel
theorem dX6_strike_46 : decode cX6_strike 46 = .ok (.istore 4, 2) := by decide +kernel
theorem dX6_strike_48 : decode cX6_strike 48 = .ok (.iload 4, 2) := by decide +kernel
theorem dX6_strike_50 : decode cX6_strike 50 = .ok (.ifCond .eq 78, 3) := by decide +kernel
theorem dX6_strike_53 : decode cX6_strike 53 = .ok (.iload_n 3, 1) := by decide +kernel
theorem dX6_strike_54 : decode cX6_strike 54 = .ok (.aload_n 0, 1) := by decide +kernel
theorem dX6_strike_55 : decode cX6_strike 55 = .ok (.getfield 16, 3) := by decide +kernel
theorem dX6_strike_58 : decode cX6_strike 58 = .ok (.iconst 1, 1) := by decide +kernel
theorem dX6_strike_59 : decode cX6_strike 59 = .ok (.iaload, 1) := by decide +kernel
theorem dX6_strike_60 : decode cX6_strike 60 = .ok (.iconst (-1), 1) := by decide +kernel
theorem dX6_strike_61 : decode cX6_strike 61 = .ok (.ixor, 1) := by decide +kernel
theorem dX6_strike_62 : decode cX6_strike 62 = .ok (.iand, 1) := by decide +kernel
theorem dX6_strike_63 : decode cX6_strike 63 = .ok (.ifCond .ne 65, 3) := by decide +kernel
theorem dX6_strike_66 : decode cX6_strike 66 = .ok (.iload_n 3, 1) := by decide +kernel
theorem dX6_strike_67 : decode cX6_strike 67 = .ok (.aload_n 0, 1) := by decide +kernel
theorem dX6_strike_68 : decode cX6_strike 68 = .ok (.getfield 16, 3) := by decide +kernel
theorem dX6_strike_71 : decode cX6_strike 71 = .ok (.iconst 1, 1) := by decide +kernel
theorem dX6_strike_72 : decode cX6_strike 72 = .ok (.iaload, 1) := by decide +kernel
theorem dX6_strike_73 : decode cX6_strike 73 = .ok (.if_icmp .eq 55, 3) := by decide +kernel
theorem dX6_strike_76 : decode cX6_strike 76 = .ok (.aload_n 0, 1) := by decide +kernel
theorem dX6_strike_77 : decode cX6_strike 77 = .ok (.invokevirtual 140, 3) := by decide +kernel
theorem dX6_strike_80 : decode cX6_strike 80 = .ok (.iconst 0, 1) := by decide +kernel
theorem dX6_strike_81 : decode cX6_strike 81 = .ok (.istore 5, 2) := by decide +kernel
theorem dX6_strike_83 : decode cX6_strike 83 = .ok (.iload 5, 2) := by decide +kernel
theorem dX6_strike_85 : decode cX6_strike 85 = .ok (.aload_n 0, 1) := by decide +kernel
theorem dX6_strike_86 : decode cX6_strike 86 = .ok (.getfield 96, 3) := by decide +kernel
theorem dX6_strike_89 : decode cX6_strike 89 = .ok (.if_icmp .ge 25, 3) := by decide +kernel
theorem dX6_strike_92 : decode cX6_strike 92 = .ok (.iload_n 3, 1) := by decide +kernel
theorem dX6_strike_93 : decode cX6_strike 93 = .ok (.iload 5, 2) := by decide +kernel
theorem dX6_strike_95 : decode cX6_strike 95 = .ok (.invokestatic 68, 3) := by decide +kernel
theorem dX6_strike_98 : decode cX6_strike 98 = .ok (.ifCond .eq 10, 3) := by decide +kernel
theorem dX6_strike_101 : decode cX6_strike 101 = .ok (.aload_n 0, 1) := by decide +kernel
theorem dX6_strike_102 : decode cX6_strike 102 = .ok (.iconst 1, 1) := by decide +kernel
theorem dX6_strike_103 : decode cX6_strike 103 = .ok (.iload 5, 2) := by decide +kernel
theorem dX6_strike_105 : decode cX6_strike 105 = .ok (.invokevirtual 137, 3) := by decide +kernel
theorem dX6_strike_108 : decode cX6_strike 108 = .ok (.iinc 5 1, 3) := by decide +kernel
theorem dX6_strike_111 : decode cX6_strike 111 = .ok (.goto (-28), 3) := by decide +kernel
theorem dX6_strike_114 : decode cX6_strike 114 = .ok (.aload_n 0, 1) := by decide +kernel
theorem dX6_strike_115 : decode cX6_strike 115 = .ok (.invokevirtual 146, 3) := by decide +kernel
theorem dX6_strike_118 : decode cX6_strike 118 = .ok (.iload_n 1, 1) := by decide +kernel
theorem dX6_strike_119 : decode cX6_strike 119 = .ok (.if_icmp .ne 7, 3) := by decide +kernel
theorem dX6_strike_122 : decode cX6_strike 122 = .ok (.iload_n 3, 1) := by decide +kernel
theorem dX6_strike_123 : decode cX6_strike 123 = .ok (.goto 4, 3) := by decide +kernel
theorem dX6_strike_126 : decode cX6_strike 126 = .ok (.iload_n 2, 1) := by decide +kernel
theorem dX6_strike_127 : decode cX6_strike 127 = .ok (.istore_n 2, 1) := by decide +kernel
theorem dX6_strike_128 : decode cX6_strike 128 = .ok (.iinc 3 1, 3) := by decide +kernel
theorem dX6_strike_131 : decode cX6_strike 131 = .ok (.goto (-113), 3) := by decide +kernel
theorem dX6_strike_134 : decode cX6_strike 134 = .ok (.iload_n 2, 1) := by decide +kernel
theorem dX6_strike_135 : decode cX6_strike 135 = .ok (.ireturn, 1) := by decide +kernel
theorem dX6_tenTo_0 : decode cX6_tenTo 0 = .ok (.iconst 1, 1) := by decide +kernel
theorem dX6_tenTo_1 : decode cX6_tenTo 1 = .ok (.istore_n 1, 1) := by decide +kernel
theorem dX6_tenTo_2 : decode cX6_tenTo 2 = .ok (.iconst 0, 1) := by decide +kernel
theorem dX6_tenTo_3 : decode cX6_tenTo 3 = .ok (.istore_n 2, 1) := by decide +kernel
theorem dX6_tenTo_4 : decode cX6_tenTo 4 = .ok (.iload_n 2, 1) := by decide +kernel
theorem dX6_tenTo_5 : decode cX6_tenTo 5 = .ok (.iload_n 0, 1) := by decide +kernel
theorem dX6_tenTo_6 : decode cX6_tenTo 6 = .ok (.if_icmp .ge 14, 3) := by decide +kernel
theorem dX6_tenTo_9 : decode cX6_tenTo 9 = .ok (.iload_n 1, 1) := by decide +kernel
theorem dX6_tenTo_10 : decode cX6_tenTo 10 = .ok (.bipush 10, 2) := by decide +kernel
theorem dX6_tenTo_12 : decode cX6_tenTo 12 = .ok (.imul, 1) := by decide +kernel
theorem dX6_tenTo_13 : decode cX6_tenTo 13 = .ok (.istore_n 1, 1) := by decide +kernel
theorem dX6_tenTo_14 : decode cX6_tenTo 14 = .ok (.iinc 2 1, 3) := by decide +kernel
theorem dX6_tenTo_17 : decode cX6_tenTo 17 = .ok (.goto (-13), 3) := by decide +kernel
theorem dX6_tenTo_20 : decode cX6_tenTo 20 = .ok (.iload_n 1, 1) := by decide +kernel
theorem dX6_tenTo_21 : decode cX6_tenTo 21 = .ok (.ireturn, 1) := by decide +kernel
set_option maxRecDepth 20000 in
theorem ggX6_isMove_X6_layTrial : GoodIn wsX6_isMove wsX6_layTrial := goodIn_r _ [6, 1, 56, 57, 58, 59, 60, 61, 62, 63, 64, 65, 66, 67, 68, 69, 70, 71, 72, 73, 74, 75, 76, 77, 78, 79] (by decide +kernel) (by decide +kernel)
set_option maxRecDepth 20000 in
theorem gX6_isMove_X6_layTrial : GoodIn wsX6_isMove (wsV RX6 140 RX6 yX6_layTrial wsX6_layTrial) := goodIn_app (goodIn_of _ (by decide +kernel)) ggX6_isMove_X6_layTrial
set_option maxRecDepth 20000 in
theorem ggX6_isMove_X6_tenTo : GoodIn wsX6_isMove wsX6_tenTo := goodIn_r _ [9] (by decide +kernel) (by decide +kernel)
set_option maxRecDepth 20000 in
theorem gX6_isMove_X6_tenTo : GoodIn wsX6_isMove (va_wsS RX6 149 yX6_tenTo wsX6_tenTo) := goodIn_app (goodIn_of _ (by decide +kernel)) ggX6_isMove_X6_tenTo
set_option maxRecDepth 20000 in
theorem ggX6_isMove_X6_isJuror : GoodIn wsX6_isMove wsX6_isJuror := goodIn_r _ [13, 14, 15, 16, 5, 17, 56, 57, 58, 59, 60, 61, 62, 63, 64, 65, 66, 67, 68, 69, 70, 71, 72, 73, 74, 75, 76, 77, 78, 79] (by decide +kernel) (by decide +kernel)
set_option maxRecDepth 20000 in
theorem gX6_isMove_X6_isJuror : GoodIn wsX6_isMove (wsV RX6 118 RX6 yX6_isJuror wsX6_isJuror) := goodIn_app (goodIn_of _ (by decide +kernel)) ggX6_isMove_X6_isJuror
set_option maxRecDepth 20000 in
theorem ggX6_isMove_X6_canArgue : GoodIn wsX6_isMove wsX6_canArgue := goodIn_r _ [21, 1, 22, 23, 24, 5, 25, 26, 27, 28, 56, 57, 58, 59, 60, 61, 62, 63, 64, 65, 66, 67, 68, 69, 70, 71, 72, 73, 74, 75, 76, 77, 78, 79] (by decide +kernel) (by decide +kernel)
set_option maxRecDepth 20000 in
theorem gX6_isMove_X6_canArgue : GoodIn wsX6_isMove (wsV RX6 131 RX6 yX6_canArgue wsX6_canArgue) := goodIn_app (goodIn_of _ (by decide +kernel)) ggX6_isMove_X6_canArgue
set_option maxRecDepth 20000 in
theorem ggX6_isMove_X6_runTrial : GoodIn wsX6_isMove wsX6_runTrial := goodIn_r _ [32, 33, 34, 35, 36, 5, 37, 1, 38, 39, 40, 41, 42, 43, 44, 45, 14, 22, 23, 24, 25, 26, 27, 28, 46, 47, 48, 49, 50, 51, 52, 53, 54, 55, 56, 57, 58, 59, 60, 61, 62, 63, 64, 65, 66, 67, 68, 69, 70, 71, 72, 73, 74, 75, 76, 77, 78, 79] (by decide +kernel) (by decide +kernel)
set_option maxRecDepth 20000 in
theorem gX6_isMove_X6_runTrial : GoodIn wsX6_isMove (wsV RX6 146 RX6 yX6_runTrial wsX6_runTrial) := goodIn_app (goodIn_of _ (by decide +kernel)) ggX6_isMove_X6_runTrial
theorem dX6_isMove_0 : decode cX6_isMove 0 = .ok (.aload_n 0, 1) := by decide +kernel
theorem dX6_isMove_1 : decode cX6_isMove 1 = .ok (.invokevirtual 140, 3) := by decide +kernel
theorem dX6_isMove_4 : decode cX6_isMove 4 = .ok (.iconst 0, 1) := by decide +kernel
theorem dX6_isMove_5 : decode cX6_isMove 5 = .ok (.istore 4, 2) := by decide +kernel
theorem dX6_isMove_7 : decode cX6_isMove 7 = .ok (.iconst 0, 1) := by decide +kernel
theorem dX6_isMove_8 : decode cX6_isMove 8 = .ok (.istore 5, 2) := by decide +kernel
theorem dX6_isMove_10 : decode cX6_isMove 10 = .ok (.iload 5, 2) := by decide +kernel
theorem dX6_isMove_12 : decode cX6_isMove 12 = .ok (.iload_n 1, 1) := by decide +kernel
theorem dX6_isMove_13 : decode cX6_isMove 13 = .ok (.if_icmp .ge 73, 3) := by decide +kernel
theorem dX6_isMove_16 : decode cX6_isMove 16 = .ok (.iload_n 2, 1) := by decide +kernel
theorem dX6_isMove_17 : decode cX6_isMove 17 = .ok (.iload_n 1, 1) := by decide +kernel
theorem dX6_isMove_18 : decode cX6_isMove 18 = .ok (.iconst 1, 1) := by decide +kernel
theorem dX6_isMove_19 : decode cX6_isMove 19 = .ok (.isub, 1) := by decide +kernel
theorem dX6_isMove_20 : decode cX6_isMove 20 = .ok (.iload 5, 2) := by decide +kernel
theorem dX6_isMove_22 : decode cX6_isMove 22 = .ok (.isub, 1) := by decide +kernel
theorem dX6_isMove_23 : decode cX6_isMove 23 = .ok (.invokestatic 149, 3) := by decide +kernel
theorem dX6_isMove_26 : decode cX6_isMove 26 = .ok (.idiv, 1) := by decide +kernel
theorem dX6_isMove_27 : decode cX6_isMove 27 = .ok (.bipush 10, 2) := by decide +kernel
theorem dX6_isMove_29 : decode cX6_isMove 29 = .ok (.irem, 1) := by decide +kernel
theorem dX6_isMove_30 : decode cX6_isMove 30 = .ok (.iconst 1, 1) := by decide +kernel
theorem dX6_isMove_31 : decode cX6_isMove 31 = .ok (.isub, 1) := by decide +kernel
theorem dX6_isMove_32 : decode cX6_isMove 32 = .ok (.istore 6, 2) := by decide +kernel
theorem dX6_isMove_34 : decode cX6_isMove 34 = .ok (.aload_n 0, 1) := by decide +kernel
theorem dX6_isMove_35 : decode cX6_isMove 35 = .ok (.iload 6, 2) := by decide +kernel
theorem dX6_isMove_37 : decode cX6_isMove 37 = .ok (.invokevirtual 118, 3) := by decide +kernel
theorem dX6_isMove_40 : decode cX6_isMove 40 = .ok (.ifCond .eq 20, 3) := by decide +kernel
theorem dX6_isMove_43 : decode cX6_isMove 43 = .ok (.iload 6, 2) := by decide +kernel
theorem dX6_isMove_45 : decode cX6_isMove 45 = .ok (.iload 4, 2) := by decide +kernel
theorem dX6_isMove_47 : decode cX6_isMove 47 = .ok (.if_icmp .lt 13, 3) := by decide +kernel
theorem dX6_isMove_50 : decode cX6_isMove 50 = .ok (.aload_n 0, 1) := by decide +kernel
theorem dX6_isMove_51 : decode cX6_isMove 51 = .ok (.iconst 1, 1) := by decide +kernel
theorem dX6_isMove_52 : decode cX6_isMove 52 = .ok (.iload 6, 2) := by decide +kernel
theorem dX6_isMove_54 : decode cX6_isMove 54 = .ok (.invokevirtual 131, 3) := by decide +kernel
theorem dX6_isMove_57 : decode cX6_isMove 57 = .ok (.ifCond .ne 5, 3) := by decide +kernel
theorem dX6_isMove_60 : decode cX6_isMove 60 = .ok (.iconst 0, 1) := by decide +kernel
theorem dX6_isMove_61 : decode cX6_isMove 61 = .ok (.ireturn, 1) := by decide +kernel
theorem dX6_isMove_62 : decode cX6_isMove 62 = .ok (.aload_n 0, 1) := by decide +kernel
theorem dX6_isMove_63 : decode cX6_isMove 63 = .ok (.getfield 16, 3) := by decide +kernel
theorem dX6_isMove_66 : decode cX6_isMove 66 = .ok (.bipush 18, 2) := by decide +kernel
theorem dX6_isMove_68 : decode cX6_isMove 68 = .ok (.iload 6, 2) := by decide +kernel
theorem dX6_isMove_70 : decode cX6_isMove 70 = .ok (.iadd, 1) := by decide +kernel
theorem dX6_isMove_71 : decode cX6_isMove 71 = .ok (.dup2, 1) := by decide +kernel
theorem dX6_isMove_72 : decode cX6_isMove 72 = .ok (.iaload, 1) := by decide +kernel
theorem dX6_isMove_73 : decode cX6_isMove 73 = .ok (.iconst 1, 1) := by decide +kernel
theorem dX6_isMove_74 : decode cX6_isMove 74 = .ok (.isub, 1) := by decide +kernel
theorem dX6_isMove_75 : decode cX6_isMove 75 = .ok (.iastore, 1) := by decide +kernel
theorem dX6_isMove_76 : decode cX6_isMove 76 = .ok (.iload 6, 2) := by decide +kernel
theorem dX6_isMove_78 : decode cX6_isMove 78 = .ok (.istore 4, 2) := by decide +kernel
theorem dX6_isMove_80 : decode cX6_isMove 80 = .ok (.iinc 5 1, 3) := by decide +kernel
theorem dX6_isMove_83 : decode cX6_isMove 83 = .ok (.goto (-73), 3) := by decide +kernel
theorem dX6_isMove_86 : decode cX6_isMove 86 = .ok (.aload_n 0, 1) := by decide +kernel
theorem dX6_isMove_87 : decode cX6_isMove 87 = .ok (.invokevirtual 146, 3) := by decide +kernel
theorem dX6_isMove_90 : decode cX6_isMove 90 = .ok (.iload_n 3, 1) := by decide +kernel
theorem dX6_isMove_91 : decode cX6_isMove 91 = .ok (.if_icmp .ne 7, 3) := by decide +kernel
theorem dX6_isMove_94 : decode cX6_isMove 94 = .ok (.iconst 1, 1) := by decide +kernel
theorem dX6_isMove_95 : decode cX6_isMove 95 = .ok (.goto 4, 3) := by decide +kernel
theorem dX6_isMove_98 : decode cX6_isMove 98 = .ok (.iconst 0, 1) := by decide +kernel
theorem dX6_isMove_99 : decode cX6_isMove 99 = .ok (.ireturn, 1) := by decide +kernel
set_option maxRecDepth 20000 in
theorem ggX6_toMove_X6_in : GoodIn wsX6_toMove wsX6_in := goodIn_r _ [4] (by decide +kernel) (by decide +kernel)
set_option maxRecDepth 20000 in
theorem gX6_toMove_X6_in : GoodIn wsX6_toMove (va_wsS RX6 53 yX6_in wsX6_in) := goodIn_app (goodIn_of _ (by decide +kernel)) ggX6_toMove_X6_in
set_option maxRecDepth 20000 in
theorem ggX6_toMove_X6_tenTo : GoodIn wsX6_toMove wsX6_tenTo := goodIn_r _ [7] (by decide +kernel) (by decide +kernel)
set_option maxRecDepth 20000 in
theorem gX6_toMove_X6_tenTo : GoodIn wsX6_toMove (va_wsS RX6 149 yX6_tenTo wsX6_tenTo) := goodIn_app (goodIn_of _ (by decide +kernel)) ggX6_toMove_X6_tenTo
set_option maxRecDepth 20000 in
theorem ggX6_toMove_X6_isMove : GoodIn wsX6_toMove wsX6_isMove := goodIn_r _ [11, 12, 13, 14, 15, 3, 16, 5, 6, 7, 17, 18, 19, 20, 21, 1, 2, 4, 22, 23, 24, 25, 26, 27, 28, 29, 30, 31, 32, 33, 34, 35, 36, 37, 38, 39, 40, 41, 42, 43, 44, 45, 46, 47, 48, 49, 50, 51, 52, 53, 54, 55, 56, 57, 58, 59, 60, 61, 62, 63, 64, 65, 66, 67, 68, 69, 70, 71, 72, 73, 74, 75, 76, 77, 78, 79, 80, 81, 82, 83] (by decide +kernel) (by decide +kernel)
set_option maxRecDepth 20000 in
theorem gX6_toMove_X6_isMove : GoodIn wsX6_toMove (wsV RX6 152 RX6 yX6_isMove wsX6_isMove) := goodIn_app (goodIn_of _ (by decide +kernel)) ggX6_toMove_X6_isMove
theorem dX6_toMove_0 : decode cX6_toMove 0 = .ok (.iload_n 1, 1) := by decide +kernel
theorem dX6_toMove_1 : decode cX6_toMove 1 = .ok (.i2l, 1) := by decide +kernel
theorem dX6_toMove_2 : decode cX6_toMove 2 = .ok (.lconst 0, 1) := by decide +kernel
theorem dX6_toMove_3 : decode cX6_toMove 3 = .ok (.lconst 1, 1) := by decide +kernel
theorem dX6_toMove_4 : decode cX6_toMove 4 = .ok (.invokestatic 53, 3) := by decide +kernel
theorem dX6_toMove_7 : decode cX6_toMove 7 = .ok (.ifCond .ne 6, 3) := by decide +kernel
theorem dX6_toMove_10 : decode cX6_toMove 10 = .ok (.bipush (-2), 2) := by decide +kernel
theorem dX6_toMove_12 : decode cX6_toMove 12 = .ok (.ireturn, 1) := by decide +kernel
theorem dX6_toMove_13 : decode cX6_toMove 13 = .ok (.iconst 0, 1) := by decide +kernel
theorem dX6_toMove_14 : decode cX6_toMove 14 = .ok (.istore_n 3, 1) := by decide +kernel
theorem dX6_toMove_15 : decode cX6_toMove 15 = .ok (.iload_n 3, 1) := by decide +kernel
theorem dX6_toMove_16 : decode cX6_toMove 16 = .ok (.iconst 4, 1) := by decide +kernel
theorem dX6_toMove_17 : decode cX6_toMove 17 = .ok (.if_icmp .ge 49, 3) := by decide +kernel
theorem dX6_toMove_20 : decode cX6_toMove 20 = .ok (.iconst 0, 1) := by decide +kernel
theorem dX6_toMove_21 : decode cX6_toMove 21 = .ok (.istore 4, 2) := by decide +kernel
theorem dX6_toMove_23 : decode cX6_toMove 23 = .ok (.iload 4, 2) := by decide +kernel
theorem dX6_toMove_25 : decode cX6_toMove 25 = .ok (.iload_n 3, 1) := by decide +kernel
theorem dX6_toMove_26 : decode cX6_toMove 26 = .ok (.invokestatic 149, 3) := by decide +kernel
theorem dX6_toMove_29 : decode cX6_toMove 29 = .ok (.if_icmp .ge 31, 3) := by decide +kernel
theorem dX6_toMove_32 : decode cX6_toMove 32 = .ok (.aload_n 0, 1) := by decide +kernel
theorem dX6_toMove_33 : decode cX6_toMove 33 = .ok (.iload_n 3, 1) := by decide +kernel
theorem dX6_toMove_34 : decode cX6_toMove 34 = .ok (.iload 4, 2) := by decide +kernel
theorem dX6_toMove_36 : decode cX6_toMove 36 = .ok (.iload_n 1, 1) := by decide +kernel
theorem dX6_toMove_37 : decode cX6_toMove 37 = .ok (.invokevirtual 152, 3) := by decide +kernel
theorem dX6_toMove_40 : decode cX6_toMove 40 = .ok (.ifCond .eq 14, 3) := by decide +kernel
theorem dX6_toMove_43 : decode cX6_toMove 43 = .ok (.iload_n 2, 1) := by decide +kernel
theorem dX6_toMove_44 : decode cX6_toMove 44 = .ok (.ifCond .eq 8, 3) := by decide +kernel
theorem dX6_toMove_47 : decode cX6_toMove 47 = .ok (.iload 4, 2) := by decide +kernel
theorem dX6_toMove_49 : decode cX6_toMove 49 = .ok (.goto 4, 3) := by decide +kernel
theorem dX6_toMove_52 : decode cX6_toMove 52 = .ok (.iload_n 3, 1) := by decide +kernel
theorem dX6_toMove_53 : decode cX6_toMove 53 = .ok (.ireturn, 1) := by decide +kernel
theorem dX6_toMove_54 : decode cX6_toMove 54 = .ok (.iinc 4 1, 3) := by decide +kernel
theorem dX6_toMove_57 : decode cX6_toMove 57 = .ok (.goto (-34), 3) := by decide +kernel
theorem dX6_toMove_60 : decode cX6_toMove 60 = .ok (.iinc 3 1, 3) := by decide +kernel
theorem dX6_toMove_63 : decode cX6_toMove 63 = .ok (.goto (-48), 3) := by decide +kernel
theorem dX6_toMove_66 : decode cX6_toMove 66 = .ok (.bipush (-9), 2) := by decide +kernel
theorem dX6_toMove_68 : decode cX6_toMove 68 = .ok (.ireturn, 1) := by decide +kernel
set_option maxRecDepth 20000 in
theorem ggX6_tryThing_X6_passOn : GoodIn wsX6_tryThing wsX6_passOn := goodIn_r _ [6, 1, 7, 8, 9, 10, 5, 11, 12, 13, 14, 15, 16, 17, 18, 19, 20, 21, 22, 23, 24, 25, 26, 27, 28, 29, 30, 31, 32, 52, 53, 54, 55, 56, 57, 58, 59, 60, 61, 62, 63, 64, 65, 66, 67, 68, 69, 70, 71, 72, 73, 74, 75] (by decide +kernel) (by decide +kernel)
set_option maxRecDepth 20000 in
theorem gX6_tryThing_X6_passOn : GoodIn wsX6_tryThing (wsV RX6 128 RX6 yX6_passOn wsX6_passOn) := goodIn_app (goodIn_of _ (by decide +kernel)) ggX6_tryThing_X6_passOn
set_option maxRecDepth 20000 in
theorem ggX6_tryThing_X6_isJuror : GoodIn wsX6_tryThing wsX6_isJuror := goodIn_r _ [36, 7, 37, 38, 5, 39, 52, 53, 54, 55, 56, 57, 58, 59, 60, 61, 62, 63, 64, 65, 66, 67, 68, 69, 70, 71, 72, 73, 74, 75] (by decide +kernel) (by decide +kernel)
set_option maxRecDepth 20000 in
theorem gX6_tryThing_X6_isJuror : GoodIn wsX6_tryThing (wsV RX6 118 RX6 yX6_isJuror wsX6_isJuror) := goodIn_app (goodIn_of _ (by decide +kernel)) ggX6_tryThing_X6_isJuror
set_option maxRecDepth 20000 in
theorem ggX6_tryThing_X6_isThere : GoodIn wsX6_tryThing wsX6_isThere := goodIn_r _ [19, 1, 20, 21, 5, 22, 52, 53, 54, 55, 56, 57, 58, 59, 60, 61, 62, 63, 64, 65, 66, 67, 68, 69, 70, 71, 72, 73, 74, 75] (by decide +kernel) (by decide +kernel)
set_option maxRecDepth 20000 in
theorem gX6_tryThing_X6_isThere : GoodIn wsX6_tryThing (wsV RX6 108 RX6 yX6_isThere wsX6_isThere) := goodIn_app (goodIn_of _ (by decide +kernel)) ggX6_tryThing_X6_isThere
set_option maxRecDepth 20000 in
theorem ggX6_tryThing_X6_canArgue : GoodIn wsX6_tryThing wsX6_canArgue := goodIn_r _ [43, 1, 16, 17, 18, 5, 19, 20, 21, 22, 52, 53, 54, 55, 56, 57, 58, 59, 60, 61, 62, 63, 64, 65, 66, 67, 68, 69, 70, 71, 72, 73, 74, 75] (by decide +kernel) (by decide +kernel)
set_option maxRecDepth 20000 in
theorem gX6_tryThing_X6_canArgue : GoodIn wsX6_tryThing (wsV RX6 131 RX6 yX6_canArgue wsX6_canArgue) := goodIn_app (goodIn_of _ (by decide +kernel)) ggX6_tryThing_X6_canArgue
set_option maxRecDepth 20000 in
theorem ggX6_tryThing_X6_canFeed : GoodIn wsX6_tryThing wsX6_canFeed := goodIn_r _ [47, 1, 16, 17, 18, 5, 19, 20, 21, 22, 52, 53, 54, 55, 56, 57, 58, 59, 60, 61, 62, 63, 64, 65, 66, 67, 68, 69, 70, 71, 72, 73, 74, 75] (by decide +kernel) (by decide +kernel)
set_option maxRecDepth 20000 in
theorem gX6_tryThing_X6_canFeed : GoodIn wsX6_tryThing (wsV RX6 134 RX6 yX6_canFeed wsX6_canFeed) := goodIn_app (goodIn_of _ (by decide +kernel)) ggX6_tryThing_X6_canFeed
set_option maxRecDepth 20000 in
theorem ggX6_tryThing_X6_dieOn : GoodIn wsX6_tryThing wsX6_dieOn := goodIn_r _ [51, 1, 52, 53, 54, 55, 56, 57, 58, 59, 60, 61, 62, 63, 64, 65, 66, 67, 68, 69, 70, 71, 72, 73, 74, 75] (by decide +kernel) (by decide +kernel)
set_option maxRecDepth 20000 in
theorem gX6_tryThing_X6_dieOn : GoodIn wsX6_tryThing (wsV RX6 137 RX6 yX6_dieOn wsX6_dieOn) := goodIn_app (goodIn_of _ (by decide +kernel)) ggX6_tryThing_X6_dieOn
theorem dX6_tryThing_0 : decode cX6_tryThing 0 = .ok (.iload_n 1, 1) := by decide +kernel
theorem dX6_tryThing_1 : decode cX6_tryThing 1 = .ok (.ifCond .ne 15, 3) := by decide +kernel
theorem dX6_tryThing_4 : decode cX6_tryThing 4 = .ok (.iload_n 2, 1) := by decide +kernel
theorem dX6_tryThing_5 : decode cX6_tryThing 5 = .ok (.ifCond .ne 11, 3) := by decide +kernel
theorem dX6_tryThing_8 : decode cX6_tryThing 8 = .ok (.aload_n 0, 1) := by decide +kernel
theorem dX6_tryThing_9 : decode cX6_tryThing 9 = .ok (.iconst 1, 1) := by decide +kernel
theorem dX6_tryThing_10 : decode cX6_tryThing 10 = .ok (.invokevirtual 128, 3) := by decide +kernel
theorem dX6_tryThing_13 : decode cX6_tryThing 13 = .ok (.pop, 1) := by decide +kernel
theorem dX6_tryThing_14 : decode cX6_tryThing 14 = .ok (.iconst 1, 1) := by decide +kernel
theorem dX6_tryThing_15 : decode cX6_tryThing 15 = .ok (.ireturn, 1) := by decide +kernel
theorem dX6_tryThing_16 : decode cX6_tryThing 16 = .ok (.aload_n 0, 1) := by decide +kernel
theorem dX6_tryThing_17 : decode cX6_tryThing 17 = .ok (.iload_n 2, 1) := by decide +kernel
theorem dX6_tryThing_18 : decode cX6_tryThing 18 = .ok (.invokevirtual 118, 3) := by decide +kernel
theorem dX6_tryThing_21 : decode cX6_tryThing 21 = .ok (.ifCond .eq 12, 3) := by decide +kernel
theorem dX6_tryThing_24 : decode cX6_tryThing 24 = .ok (.aload_n 0, 1) := by decide +kernel
theorem dX6_tryThing_25 : decode cX6_tryThing 25 = .ok (.iconst 1, 1) := by decide +kernel
theorem dX6_tryThing_26 : decode cX6_tryThing 26 = .ok (.iload_n 2, 1) := by decide +kernel
theorem dX6_tryThing_27 : decode cX6_tryThing 27 = .ok (.invokevirtual 108, 3) := by decide +kernel
theorem dX6_tryThing_30 : decode cX6_tryThing 30 = .ok (.ifCond .ne 5, 3) := by decide +kernel
theorem dX6_tryThing_33 : decode cX6_tryThing 33 = .ok (.iconst 0, 1) := by decide +kernel
theorem dX6_tryThing_34 : decode cX6_tryThing 34 = .ok (.ireturn, 1) := by decide +kernel
theorem dX6_tryThing_35 : decode cX6_tryThing 35 = .ok (.iload_n 1, 1) := by decide +kernel
theorem dX6_tryThing_36 : decode cX6_tryThing 36 = .ok (.tableswitch 106 1 4 #[32, 62, 83, 91], 32) := by decide +kernel
theorem dX6_tryThing_68 : decode cX6_tryThing 68 = .ok (.aload_n 0, 1) := by decide +kernel
theorem dX6_tryThing_69 : decode cX6_tryThing 69 = .ok (.iconst 1, 1) := by decide +kernel
theorem dX6_tryThing_70 : decode cX6_tryThing 70 = .ok (.iload_n 2, 1) := by decide +kernel
theorem dX6_tryThing_71 : decode cX6_tryThing 71 = .ok (.invokevirtual 131, 3) := by decide +kernel
theorem dX6_tryThing_74 : decode cX6_tryThing 74 = .ok (.istore_n 3, 1) := by decide +kernel
theorem dX6_tryThing_75 : decode cX6_tryThing 75 = .ok (.aload_n 0, 1) := by decide +kernel
theorem dX6_tryThing_76 : decode cX6_tryThing 76 = .ok (.getfield 16, 3) := by decide +kernel
theorem dX6_tryThing_79 : decode cX6_tryThing 79 = .ok (.bipush 18, 2) := by decide +kernel
theorem dX6_tryThing_81 : decode cX6_tryThing 81 = .ok (.iload_n 2, 1) := by decide +kernel
theorem dX6_tryThing_82 : decode cX6_tryThing 82 = .ok (.iadd, 1) := by decide +kernel
theorem dX6_tryThing_83 : decode cX6_tryThing 83 = .ok (.dup2, 1) := by decide +kernel
theorem dX6_tryThing_84 : decode cX6_tryThing 84 = .ok (.iaload, 1) := by decide +kernel
theorem dX6_tryThing_85 : decode cX6_tryThing 85 = .ok (.iload_n 3, 1) := by decide +kernel
theorem dX6_tryThing_86 : decode cX6_tryThing 86 = .ok (.ifCond .eq 7, 3) := by decide +kernel
theorem dX6_tryThing_89 : decode cX6_tryThing 89 = .ok (.iconst 1, 1) := by decide +kernel
theorem dX6_tryThing_90 : decode cX6_tryThing 90 = .ok (.goto 4, 3) := by decide +kernel
theorem dX6_tryThing_93 : decode cX6_tryThing 93 = .ok (.iconst 0, 1) := by decide +kernel
theorem dX6_tryThing_94 : decode cX6_tryThing 94 = .ok (.isub, 1) := by decide +kernel
theorem dX6_tryThing_95 : decode cX6_tryThing 95 = .ok (.iastore, 1) := by decide +kernel
theorem dX6_tryThing_96 : decode cX6_tryThing 96 = .ok (.iload_n 3, 1) := by decide +kernel
theorem dX6_tryThing_97 : decode cX6_tryThing 97 = .ok (.ireturn, 1) := by decide +kernel
theorem dX6_tryThing_98 : decode cX6_tryThing 98 = .ok (.aload_n 0, 1) := by decide +kernel
theorem dX6_tryThing_99 : decode cX6_tryThing 99 = .ok (.iconst 1, 1) := by decide +kernel
theorem dX6_tryThing_100 : decode cX6_tryThing 100 = .ok (.iload_n 2, 1) := by decide +kernel
theorem dX6_tryThing_101 : decode cX6_tryThing 101 = .ok (.invokevirtual 134, 3) := by decide +kernel
theorem dX6_tryThing_104 : decode cX6_tryThing 104 = .ok (.istore 4, 2) := by decide +kernel
theorem dX6_tryThing_106 : decode cX6_tryThing 106 = .ok (.aload_n 0, 1) := by decide +kernel
theorem dX6_tryThing_107 : decode cX6_tryThing 107 = .ok (.getfield 16, 3) := by decide +kernel
theorem dX6_tryThing_110 : decode cX6_tryThing 110 = .ok (.bipush 24, 2) := by decide +kernel
theorem dX6_tryThing_112 : decode cX6_tryThing 112 = .ok (.iload_n 2, 1) := by decide +kernel
theorem dX6_tryThing_113 : decode cX6_tryThing 113 = .ok (.iadd, 1) := by decide +kernel
theorem dX6_tryThing_114 : decode cX6_tryThing 114 = .ok (.iconst 0, 1) := by decide +kernel
theorem dX6_tryThing_115 : decode cX6_tryThing 115 = .ok (.iastore, 1) := by decide +kernel
theorem dX6_tryThing_116 : decode cX6_tryThing 116 = .ok (.iload 4, 2) := by decide +kernel
theorem dX6_tryThing_118 : decode cX6_tryThing 118 = .ok (.ireturn, 1) := by decide +kernel
theorem dX6_tryThing_119 : decode cX6_tryThing 119 = .ok (.aload_n 0, 1) := by decide +kernel
theorem dX6_tryThing_120 : decode cX6_tryThing 120 = .ok (.iconst 1, 1) := by decide +kernel
theorem dX6_tryThing_121 : decode cX6_tryThing 121 = .ok (.iload_n 2, 1) := by decide +kernel
theorem dX6_tryThing_122 : decode cX6_tryThing 122 = .ok (.invokevirtual 137, 3) := by decide +kernel
theorem dX6_tryThing_125 : decode cX6_tryThing 125 = .ok (.iconst 1, 1) := by decide +kernel
theorem dX6_tryThing_126 : decode cX6_tryThing 126 = .ok (.ireturn, 1) := by decide +kernel
theorem dX6_tryThing_127 : decode cX6_tryThing 127 = .ok (.aload_n 0, 1) := by decide +kernel
theorem dX6_tryThing_128 : decode cX6_tryThing 128 = .ok (.getfield 16, 3) := by decide +kernel
theorem dX6_tryThing_131 : decode cX6_tryThing 131 = .ok (.bipush 15, 2) := by decide +kernel
theorem dX6_tryThing_133 : decode cX6_tryThing 133 = .ok (.dup2, 1) := by decide +kernel
theorem dX6_tryThing_134 : decode cX6_tryThing 134 = .ok (.iaload, 1) := by decide +kernel
theorem dX6_tryThing_135 : decode cX6_tryThing 135 = .ok (.iconst 1, 1) := by decide +kernel
theorem dX6_tryThing_136 : decode cX6_tryThing 136 = .ok (.iload_n 2, 1) := by decide +kernel
theorem dX6_tryThing_137 : decode cX6_tryThing 137 = .ok (.ishl, 1) := by decide +kernel
theorem dX6_tryThing_138 : decode cX6_tryThing 138 = .ok (.ixor, 1) := by decide +kernel
theorem dX6_tryThing_139 : decode cX6_tryThing 139 = .ok (.iastore, 1) := by decide +kernel
theorem dX6_tryThing_140 : decode cX6_tryThing 140 = .ok (.iconst 1, 1) := by decide +kernel
theorem dX6_tryThing_141 : decode cX6_tryThing 141 = .ok (.ireturn, 1) := by decide +kernel
theorem dX6_tryThing_142 : decode cX6_tryThing 142 = .ok (.iconst 0, 1) := by decide +kernel
theorem dX6_tryThing_143 : decode cX6_tryThing 143 = .ok (.ireturn, 1) := by decide +kernel
set_option maxRecDepth 20000 in
theorem ggX6_judge_X6_in : GoodIn wsX6_judge wsX6_in := goodIn_r _ [5] (by decide +kernel) (by decide +kernel)
set_option maxRecDepth 20000 in
theorem gX6_judge_X6_in : GoodIn wsX6_judge (va_wsS RX6 53 yX6_in wsX6_in) := goodIn_app (goodIn_of _ (by decide +kernel)) ggX6_judge_X6_in
set_option maxRecDepth 20000 in
theorem ggX6_judge_X6_tenTo : GoodIn wsX6_judge wsX6_tenTo := goodIn_r _ [8] (by decide +kernel) (by decide +kernel)
set_option maxRecDepth 20000 in
theorem gX6_judge_X6_tenTo : GoodIn wsX6_judge (va_wsS RX6 149 yX6_tenTo wsX6_tenTo) := goodIn_app (goodIn_of _ (by decide +kernel)) ggX6_judge_X6_tenTo
set_option maxRecDepth 20000 in
theorem ggX6_judge_X6_layTrial : GoodIn wsX6_judge wsX6_layTrial := goodIn_r _ [12, 13, 64, 65, 66, 67, 68, 69, 70, 71, 72, 73, 74, 75, 76, 77, 78, 79, 80, 81, 82, 83, 84, 85, 86, 87] (by decide +kernel) (by decide +kernel)
set_option maxRecDepth 20000 in
theorem gX6_judge_X6_layTrial : GoodIn wsX6_judge (wsV RX6 140 RX6 yX6_layTrial wsX6_layTrial) := goodIn_app (goodIn_of _ (by decide +kernel)) ggX6_judge_X6_layTrial
set_option maxRecDepth 20000 in
theorem ggX6_judge_X6_tryThing : GoodIn wsX6_judge wsX6_tryThing := goodIn_r _ [17, 13, 18, 19, 20, 4, 21, 22, 23, 24, 25, 26, 27, 28, 29, 30, 31, 32, 33, 34, 35, 36, 37, 38, 39, 40, 41, 42, 43, 44, 45, 46, 47, 48, 49, 50, 51, 2, 3, 5, 52, 53, 54, 55, 56, 57, 58, 59, 60, 61, 62, 63, 64, 65, 66, 67, 68, 69, 70, 71, 72, 73, 74, 75, 76, 77, 78, 79, 80, 81, 82, 83, 84, 85, 86, 87] (by decide +kernel) (by decide +kernel)
set_option maxRecDepth 20000 in
theorem gX6_judge_X6_tryThing : GoodIn wsX6_judge (wsV RX6 158 RX6 yX6_tryThing wsX6_tryThing) := goodIn_app (goodIn_of _ (by decide +kernel)) ggX6_judge_X6_tryThing
theorem dX6_judge_0 : decode cX6_judge 0 = .ok (.iload_n 1, 1) := by decide +kernel
theorem dX6_judge_1 : decode cX6_judge 1 = .ok (.i2l, 1) := by decide +kernel
theorem dX6_judge_2 : decode cX6_judge 2 = .ok (.lconst 1, 1) := by decide +kernel
theorem dX6_judge_3 : decode cX6_judge 3 = .ok (.ldc2_w 156, 3) := by decide +kernel
theorem dX6_judge_6 : decode cX6_judge 6 = .ok (.invokestatic 53, 3) := by decide +kernel
theorem dX6_judge_9 : decode cX6_judge 9 = .ok (.ifCond .eq 21, 3) := by decide +kernel
theorem dX6_judge_12 : decode cX6_judge 12 = .ok (.iload_n 2, 1) := by decide +kernel
theorem dX6_judge_13 : decode cX6_judge 13 = .ok (.i2l, 1) := by decide +kernel
theorem dX6_judge_14 : decode cX6_judge 14 = .ok (.lconst 0, 1) := by decide +kernel
theorem dX6_judge_15 : decode cX6_judge 15 = .ok (.iconst 2, 1) := by decide +kernel
theorem dX6_judge_16 : decode cX6_judge 16 = .ok (.iload_n 1, 1) := by decide +kernel
theorem dX6_judge_17 : decode cX6_judge 17 = .ok (.imul, 1) := by decide +kernel
theorem dX6_judge_18 : decode cX6_judge 18 = .ok (.invokestatic 149, 3) := by decide +kernel
theorem dX6_judge_21 : decode cX6_judge 21 = .ok (.iconst 1, 1) := by decide +kernel
theorem dX6_judge_22 : decode cX6_judge 22 = .ok (.isub, 1) := by decide +kernel
theorem dX6_judge_23 : decode cX6_judge 23 = .ok (.i2l, 1) := by decide +kernel
theorem dX6_judge_24 : decode cX6_judge 24 = .ok (.invokestatic 53, 3) := by decide +kernel
theorem dX6_judge_27 : decode cX6_judge 27 = .ok (.ifCond .ne 6, 3) := by decide +kernel
theorem dX6_judge_30 : decode cX6_judge 30 = .ok (.bipush (-2), 2) := by decide +kernel
theorem dX6_judge_32 : decode cX6_judge 32 = .ok (.ireturn, 1) := by decide +kernel
theorem dX6_judge_33 : decode cX6_judge 33 = .ok (.aload_n 0, 1) := by decide +kernel
theorem dX6_judge_34 : decode cX6_judge 34 = .ok (.invokevirtual 140, 3) := by decide +kernel
theorem dX6_judge_37 : decode cX6_judge 37 = .ok (.iconst 0, 1) := by decide +kernel
theorem dX6_judge_38 : decode cX6_judge 38 = .ok (.istore_n 3, 1) := by decide +kernel
theorem dX6_judge_39 : decode cX6_judge 39 = .ok (.iload_n 3, 1) := by decide +kernel
theorem dX6_judge_40 : decode cX6_judge 40 = .ok (.iload_n 1, 1) := by decide +kernel
theorem dX6_judge_41 : decode cX6_judge 41 = .ok (.if_icmp .ge 45, 3) := by decide +kernel
theorem dX6_judge_44 : decode cX6_judge 44 = .ok (.iload_n 2, 1) := by decide +kernel
theorem dX6_judge_45 : decode cX6_judge 45 = .ok (.iconst 2, 1) := by decide +kernel
theorem dX6_judge_46 : decode cX6_judge 46 = .ok (.iload_n 1, 1) := by decide +kernel
