theorem dX11_isFresh_2 : decode cX11_isFresh 2 = .ok (.iconst 1, 1) := by decide +kernel
theorem dX11_isFresh_3 : decode cX11_isFresh 3 = .ok (.invokevirtual 62, 3) := by decide +kernel
theorem dX11_isFresh_6 : decode cX11_isFresh 6 = .ok (.istore_n 2, 1) := by decide +kernel
theorem dX11_isFresh_7 : decode cX11_isFresh 7 = .ok (.aload_n 0, 1) := by decide +kernel
theorem dX11_isFresh_8 : decode cX11_isFresh 8 = .ok (.iload_n 1, 1) := by decide +kernel
theorem dX11_isFresh_9 : decode cX11_isFresh 9 = .ok (.invokevirtual 80, 3) := by decide +kernel
theorem dX11_isFresh_12 : decode cX11_isFresh 12 = .ok (.ifCond .lt 37, 3) := by decide +kernel
theorem dX11_isFresh_15 : decode cX11_isFresh 15 = .ok (.iload_n 2, 1) := by decide +kernel
theorem dX11_isFresh_16 : decode cX11_isFresh 16 = .ok (.aload_n 0, 1) := by decide +kernel
theorem dX11_isFresh_17 : decode cX11_isFresh 17 = .ok (.getfield 13, 3) := by decide +kernel
theorem dX11_isFresh_20 : decode cX11_isFresh 20 = .ok (.bipush 6, 2) := by decide +kernel
theorem dX11_isFresh_22 : decode cX11_isFresh 22 = .ok (.iaload, 1) := by decide +kernel
theorem dX11_isFresh_23 : decode cX11_isFresh 23 = .ok (.if_icmp .gt 26, 3) := by decide +kernel
theorem dX11_isFresh_26 : decode cX11_isFresh 26 = .ok (.iload_n 2, 1) := by decide +kernel
theorem dX11_isFresh_27 : decode cX11_isFresh 27 = .ok (.aload_n 0, 1) := by decide +kernel
theorem dX11_isFresh_28 : decode cX11_isFresh 28 = .ok (.getfield 13, 3) := by decide +kernel
theorem dX11_isFresh_31 : decode cX11_isFresh 31 = .ok (.bipush 6, 2) := by decide +kernel
theorem dX11_isFresh_33 : decode cX11_isFresh 33 = .ok (.iaload, 1) := by decide +kernel
theorem dX11_isFresh_34 : decode cX11_isFresh 34 = .ok (.aload_n 0, 1) := by decide +kernel
theorem dX11_isFresh_35 : decode cX11_isFresh 35 = .ok (.getfield 13, 3) := by decide +kernel
theorem dX11_isFresh_38 : decode cX11_isFresh 38 = .ok (.bipush 7, 2) := by decide +kernel
theorem dX11_isFresh_40 : decode cX11_isFresh 40 = .ok (.iaload, 1) := by decide +kernel
theorem dX11_isFresh_41 : decode cX11_isFresh 41 = .ok (.isub, 1) := by decide +kernel
theorem dX11_isFresh_42 : decode cX11_isFresh 42 = .ok (.if_icmp .lt 7, 3) := by decide +kernel
theorem dX11_isFresh_45 : decode cX11_isFresh 45 = .ok (.iconst 1, 1) := by decide +kernel
theorem dX11_isFresh_46 : decode cX11_isFresh 46 = .ok (.goto 4, 3) := by decide +kernel
theorem dX11_isFresh_49 : decode cX11_isFresh 49 = .ok (.iconst 0, 1) := by decide +kernel
theorem dX11_isFresh_50 : decode cX11_isFresh 50 = .ok (.ireturn, 1) := by decide +kernel
set_option maxRecDepth 20000 in
theorem ggX11_counts_X11_isFind : GoodIn wsX11_counts wsX11_isFind := goodIn_r _ [5, 6, 36, 37, 38, 39, 40, 41, 42, 43, 44, 45] (by decide +kernel) (by decide +kernel)
set_option maxRecDepth 20000 in
theorem gX11_counts_X11_isFind : GoodIn wsX11_counts (wsV RX11 65 RX11 yX11_isFind wsX11_isFind) := goodIn_app (goodIn_of _ (by decide +kernel)) ggX11_counts_X11_isFind
set_option maxRecDepth 20000 in
theorem ggX11_counts_X11_finding : GoodIn wsX11_counts wsX11_finding := goodIn_r _ [10, 11, 36, 37, 38, 39, 40, 41, 42, 43, 44, 45] (by decide +kernel) (by decide +kernel)
set_option maxRecDepth 20000 in
theorem gX11_counts_X11_finding : GoodIn wsX11_counts (wsV RX11 33 RX11 yX11_finding wsX11_finding) := goodIn_app (goodIn_of _ (by decide +kernel)) ggX11_counts_X11_finding
set_option maxRecDepth 20000 in
theorem ggX11_counts_X11_isFresh : GoodIn wsX11_counts wsX11_isFresh := goodIn_r _ [15, 6, 16, 17, 18, 4, 19, 20, 21, 22, 23, 24, 25, 26, 27, 28, 29, 30, 31, 32, 33, 34, 35, 36, 37, 38, 39, 40, 41, 42, 43, 44, 45] (by decide +kernel) (by decide +kernel)
set_option maxRecDepth 20000 in
theorem gX11_counts_X11_isFresh : GoodIn wsX11_counts (wsV RX11 83 RX11 yX11_isFresh wsX11_isFresh) := goodIn_app (goodIn_of _ (by decide +kernel)) ggX11_counts_X11_isFresh
theorem dX11_counts_0 : decode cX11_counts 0 = .ok (.aload_n 0, 1) := by decide +kernel
theorem dX11_counts_1 : decode cX11_counts 1 = .ok (.iload_n 1, 1) := by decide +kernel
theorem dX11_counts_2 : decode cX11_counts 2 = .ok (.invokevirtual 65, 3) := by decide +kernel
theorem dX11_counts_5 : decode cX11_counts 5 = .ok (.ifCond .ne 11, 3) := by decide +kernel
theorem dX11_counts_8 : decode cX11_counts 8 = .ok (.aload_n 0, 1) := by decide +kernel
theorem dX11_counts_9 : decode cX11_counts 9 = .ok (.iconst (-1), 1) := by decide +kernel
theorem dX11_counts_10 : decode cX11_counts 10 = .ok (.invokevirtual 33, 3) := by decide +kernel
theorem dX11_counts_13 : decode cX11_counts 13 = .ok (.goto 16, 3) := by decide +kernel
theorem dX11_counts_16 : decode cX11_counts 16 = .ok (.aload_n 0, 1) := by decide +kernel
theorem dX11_counts_17 : decode cX11_counts 17 = .ok (.iload_n 1, 1) := by decide +kernel
theorem dX11_counts_18 : decode cX11_counts 18 = .ok (.invokevirtual 83, 3) := by decide +kernel
theorem dX11_counts_21 : decode cX11_counts 21 = .ok (.ifCond .eq 7, 3) := by decide +kernel
theorem dX11_counts_24 : decode cX11_counts 24 = .ok (.iconst 1, 1) := by decide +kernel
theorem dX11_counts_25 : decode cX11_counts 25 = .ok (.goto 4, 3) := by decide +kernel
theorem dX11_counts_28 : decode cX11_counts 28 = .ok (.iconst 0, 1) := by decide +kernel
theorem dX11_counts_29 : decode cX11_counts 29 = .ok (.ireturn, 1) := by decide +kernel
set_option maxRecDepth 20000 in
theorem ggX11_finds_X11_isIn : GoodIn wsX11_finds wsX11_isIn := goodIn_r _ [5] (by decide +kernel) (by decide +kernel)
set_option maxRecDepth 20000 in
theorem gX11_finds_X11_isIn : GoodIn wsX11_finds (va_wsS RX11 29 yX11_isIn wsX11_isIn) := goodIn_app (goodIn_of _ (by decide +kernel)) ggX11_finds_X11_isIn
set_option maxRecDepth 20000 in
theorem ggX11_finds_X11_finding : GoodIn wsX11_finds wsX11_finding := goodIn_r _ [9, 10, 35, 36, 37, 38, 39, 40, 41, 42, 43, 44] (by decide +kernel) (by decide +kernel)
set_option maxRecDepth 20000 in
theorem gX11_finds_X11_finding : GoodIn wsX11_finds (wsV RX11 33 RX11 yX11_finding wsX11_finding) := goodIn_app (goodIn_of _ (by decide +kernel)) ggX11_finds_X11_finding
set_option maxRecDepth 20000 in
theorem ggX11_finds_X11_goesTo : GoodIn wsX11_finds wsX11_goesTo := goodIn_r _ [14, 1, 15, 16, 17, 4, 18, 19, 20, 21, 22, 23, 24, 25, 26, 27, 28, 29, 30, 35, 36, 37, 38, 39, 40, 41, 42, 43, 44] (by decide +kernel) (by decide +kernel)
set_option maxRecDepth 20000 in
theorem gX11_finds_X11_goesTo : GoodIn wsX11_finds (wsV RX11 80 RX11 yX11_goesTo wsX11_goesTo) := goodIn_app (goodIn_of _ (by decide +kernel)) ggX11_finds_X11_goesTo
set_option maxRecDepth 20000 in
theorem ggX11_finds_X11_isFresh : GoodIn wsX11_finds wsX11_isFresh := goodIn_r _ [34, 1, 27, 28, 29, 4, 30, 11, 12, 13, 14, 15, 16, 17, 18, 19, 20, 21, 22, 23, 24, 25, 26, 35, 36, 37, 38, 39, 40, 41, 42, 43, 44] (by decide +kernel) (by decide +kernel)
set_option maxRecDepth 20000 in
theorem gX11_finds_X11_isFresh : GoodIn wsX11_finds (wsV RX11 83 RX11 yX11_isFresh wsX11_isFresh) := goodIn_app (goodIn_of _ (by decide +kernel)) ggX11_finds_X11_isFresh
theorem dX11_finds_0 : decode cX11_finds 0 = .ok (.iload_n 1, 1) := by decide +kernel
theorem dX11_finds_1 : decode cX11_finds 1 = .ok (.iconst 0, 1) := by decide +kernel
theorem dX11_finds_2 : decode cX11_finds 2 = .ok (.iconst 3, 1) := by decide +kernel
theorem dX11_finds_3 : decode cX11_finds 3 = .ok (.invokestatic 29, 3) := by decide +kernel
theorem dX11_finds_6 : decode cX11_finds 6 = .ok (.ifCond .ne 9, 3) := by decide +kernel
theorem dX11_finds_9 : decode cX11_finds 9 = .ok (.aload_n 0, 1) := by decide +kernel
theorem dX11_finds_10 : decode cX11_finds 10 = .ok (.iconst (-1), 1) := by decide +kernel
theorem dX11_finds_11 : decode cX11_finds 11 = .ok (.invokevirtual 33, 3) := by decide +kernel
theorem dX11_finds_14 : decode cX11_finds 14 = .ok (.ireturn, 1) := by decide +kernel
theorem dX11_finds_15 : decode cX11_finds 15 = .ok (.iconst 0, 1) := by decide +kernel
theorem dX11_finds_16 : decode cX11_finds 16 = .ok (.istore_n 2, 1) := by decide +kernel
theorem dX11_finds_17 : decode cX11_finds 17 = .ok (.iconst 0, 1) := by decide +kernel
theorem dX11_finds_18 : decode cX11_finds 18 = .ok (.istore_n 3, 1) := by decide +kernel
theorem dX11_finds_19 : decode cX11_finds 19 = .ok (.iload_n 3, 1) := by decide +kernel
theorem dX11_finds_20 : decode cX11_finds 20 = .ok (.aload_n 0, 1) := by decide +kernel
theorem dX11_finds_21 : decode cX11_finds 21 = .ok (.getfield 13, 3) := by decide +kernel
theorem dX11_finds_24 : decode cX11_finds 24 = .ok (.iconst 3, 1) := by decide +kernel
theorem dX11_finds_25 : decode cX11_finds 25 = .ok (.iaload, 1) := by decide +kernel
theorem dX11_finds_26 : decode cX11_finds 26 = .ok (.if_icmp .ge 70, 3) := by decide +kernel
theorem dX11_finds_29 : decode cX11_finds 29 = .ok (.aload_n 0, 1) := by decide +kernel
theorem dX11_finds_30 : decode cX11_finds 30 = .ok (.iload_n 3, 1) := by decide +kernel
theorem dX11_finds_31 : decode cX11_finds 31 = .ok (.invokevirtual 80, 3) := by decide +kernel
theorem dX11_finds_34 : decode cX11_finds 34 = .ok (.istore 4, 2) := by decide +kernel
theorem dX11_finds_36 : decode cX11_finds 36 = .ok (.iload_n 2, 1) := by decide +kernel
theorem dX11_finds_37 : decode cX11_finds 37 = .ok (.iload_n 1, 1) := by decide +kernel
theorem dX11_finds_38 : decode cX11_finds 38 = .ok (.ifCond .ne 8, 3) := by decide +kernel
theorem dX11_finds_41 : decode cX11_finds 41 = .ok (.iload 4, 2) := by decide +kernel
theorem dX11_finds_43 : decode cX11_finds 43 = .ok (.ifCond .ge 40, 3) := by decide +kernel
theorem dX11_finds_46 : decode cX11_finds 46 = .ok (.iload_n 1, 1) := by decide +kernel
theorem dX11_finds_47 : decode cX11_finds 47 = .ok (.iconst 1, 1) := by decide +kernel
theorem dX11_finds_48 : decode cX11_finds 48 = .ok (.if_icmp .ne 10, 3) := by decide +kernel
theorem dX11_finds_51 : decode cX11_finds 51 = .ok (.iload 4, 2) := by decide +kernel
theorem dX11_finds_53 : decode cX11_finds 53 = .ok (.bipush (-5), 2) := by decide +kernel
theorem dX11_finds_55 : decode cX11_finds 55 = .ok (.if_icmp .eq 28, 3) := by decide +kernel
theorem dX11_finds_58 : decode cX11_finds 58 = .ok (.iload_n 1, 1) := by decide +kernel
theorem dX11_finds_59 : decode cX11_finds 59 = .ok (.iconst 2, 1) := by decide +kernel
theorem dX11_finds_60 : decode cX11_finds 60 = .ok (.if_icmp .ne 10, 3) := by decide +kernel
theorem dX11_finds_63 : decode cX11_finds 63 = .ok (.iload 4, 2) := by decide +kernel
theorem dX11_finds_65 : decode cX11_finds 65 = .ok (.bipush (-6), 2) := by decide +kernel
theorem dX11_finds_67 : decode cX11_finds 67 = .ok (.if_icmp .eq 16, 3) := by decide +kernel
theorem dX11_finds_70 : decode cX11_finds 70 = .ok (.iload_n 1, 1) := by decide +kernel
theorem dX11_finds_71 : decode cX11_finds 71 = .ok (.iconst 3, 1) := by decide +kernel
theorem dX11_finds_72 : decode cX11_finds 72 = .ok (.if_icmp .ne 15, 3) := by decide +kernel
theorem dX11_finds_75 : decode cX11_finds 75 = .ok (.aload_n 0, 1) := by decide +kernel
theorem dX11_finds_76 : decode cX11_finds 76 = .ok (.iload_n 3, 1) := by decide +kernel
theorem dX11_finds_77 : decode cX11_finds 77 = .ok (.invokevirtual 83, 3) := by decide +kernel
theorem dX11_finds_80 : decode cX11_finds 80 = .ok (.ifCond .eq 7, 3) := by decide +kernel
theorem dX11_finds_83 : decode cX11_finds 83 = .ok (.iconst 1, 1) := by decide +kernel
theorem dX11_finds_84 : decode cX11_finds 84 = .ok (.goto 4, 3) := by decide +kernel
theorem dX11_finds_87 : decode cX11_finds 87 = .ok (.iconst 0, 1) := by decide +kernel
theorem dX11_finds_88 : decode cX11_finds 88 = .ok (.iadd, 1) := by decide +kernel
theorem dX11_finds_89 : decode cX11_finds 89 = .ok (.istore_n 2, 1) := by decide +kernel
theorem dX11_finds_90 : decode cX11_finds 90 = .ok (.iinc 3 1, 3) := by decide +kernel
theorem dX11_finds_93 : decode cX11_finds 93 = .ok (.goto (-74), 3) := by decide +kernel
theorem dX11_finds_96 : decode cX11_finds 96 = .ok (.iload_n 2, 1) := by decide +kernel
theorem dX11_finds_97 : decode cX11_finds 97 = .ok (.ireturn, 1) := by decide +kernel
set_option maxRecDepth 20000 in
theorem ggX11_drop_X11_isFind : GoodIn wsX11_drop wsX11_isFind := goodIn_r _ [6, 1, 16, 17, 18, 19, 20, 21, 22, 23, 24, 25] (by decide +kernel) (by decide +kernel)
set_option maxRecDepth 20000 in
theorem gX11_drop_X11_isFind : GoodIn wsX11_drop (wsV RX11 65 RX11 yX11_isFind wsX11_isFind) := goodIn_app (goodIn_of _ (by decide +kernel)) ggX11_drop_X11_isFind
set_option maxRecDepth 20000 in
theorem ggX11_drop_X11_finding : GoodIn wsX11_drop wsX11_finding := goodIn_r _ [10, 11, 16, 17, 18, 19, 20, 21, 22, 23, 24, 25] (by decide +kernel) (by decide +kernel)
set_option maxRecDepth 20000 in
theorem gX11_drop_X11_finding : GoodIn wsX11_drop (wsV RX11 33 RX11 yX11_finding wsX11_finding) := goodIn_app (goodIn_of _ (by decide +kernel)) ggX11_drop_X11_finding
set_option maxRecDepth 20000 in
theorem ggX11_drop_X11_remove : GoodIn wsX11_drop wsX11_remove := goodIn_r _ [15, 1, 16, 17, 18, 19, 20, 21, 22, 23, 24, 25] (by decide +kernel) (by decide +kernel)
set_option maxRecDepth 20000 in
theorem gX11_drop_X11_remove : GoodIn wsX11_drop (wsV RX11 55 RX11 yX11_remove wsX11_remove) := goodIn_app (goodIn_of _ (by decide +kernel)) ggX11_drop_X11_remove
theorem dX11_drop_0 : decode cX11_drop 0 = .ok (.aload_n 0, 1) := by decide +kernel
theorem dX11_drop_1 : decode cX11_drop 1 = .ok (.iload_n 1, 1) := by decide +kernel
theorem dX11_drop_2 : decode cX11_drop 2 = .ok (.invokevirtual 65, 3) := by decide +kernel
theorem dX11_drop_5 : decode cX11_drop 5 = .ok (.ifCond .ne 9, 3) := by decide +kernel
theorem dX11_drop_8 : decode cX11_drop 8 = .ok (.aload_n 0, 1) := by decide +kernel
theorem dX11_drop_9 : decode cX11_drop 9 = .ok (.iconst (-1), 1) := by decide +kernel
theorem dX11_drop_10 : decode cX11_drop 10 = .ok (.invokevirtual 33, 3) := by decide +kernel
theorem dX11_drop_13 : decode cX11_drop 13 = .ok (.ireturn, 1) := by decide +kernel
theorem dX11_drop_14 : decode cX11_drop 14 = .ok (.aload_n 0, 1) := by decide +kernel
theorem dX11_drop_15 : decode cX11_drop 15 = .ok (.sipush 294, 3) := by decide +kernel
theorem dX11_drop_18 : decode cX11_drop 18 = .ok (.bipush 16, 2) := by decide +kernel
theorem dX11_drop_20 : decode cX11_drop 20 = .ok (.iload_n 1, 1) := by decide +kernel
theorem dX11_drop_21 : decode cX11_drop 21 = .ok (.aload_n 0, 1) := by decide +kernel
theorem dX11_drop_22 : decode cX11_drop 22 = .ok (.getfield 13, 3) := by decide +kernel
theorem dX11_drop_25 : decode cX11_drop 25 = .ok (.iconst 3, 1) := by decide +kernel
theorem dX11_drop_26 : decode cX11_drop 26 = .ok (.iaload, 1) := by decide +kernel
theorem dX11_drop_27 : decode cX11_drop 27 = .ok (.invokevirtual 55, 3) := by decide +kernel
theorem dX11_drop_30 : decode cX11_drop 30 = .ok (.aload_n 0, 1) := by decide +kernel
theorem dX11_drop_31 : decode cX11_drop 31 = .ok (.getfield 13, 3) := by decide +kernel
theorem dX11_drop_34 : decode cX11_drop 34 = .ok (.iconst 3, 1) := by decide +kernel
theorem dX11_drop_35 : decode cX11_drop 35 = .ok (.dup2, 1) := by decide +kernel
theorem dX11_drop_36 : decode cX11_drop 36 = .ok (.iaload, 1) := by decide +kernel
theorem dX11_drop_37 : decode cX11_drop 37 = .ok (.iconst 1, 1) := by decide +kernel
theorem dX11_drop_38 : decode cX11_drop 38 = .ok (.isub, 1) := by decide +kernel
theorem dX11_drop_39 : decode cX11_drop 39 = .ok (.iastore, 1) := by decide +kernel
theorem dX11_drop_40 : decode cX11_drop 40 = .ok (.aload_n 0, 1) := by decide +kernel
theorem dX11_drop_41 : decode cX11_drop 41 = .ok (.getfield 13, 3) := by decide +kernel
theorem dX11_drop_44 : decode cX11_drop 44 = .ok (.iconst 3, 1) := by decide +kernel
theorem dX11_drop_45 : decode cX11_drop 45 = .ok (.iaload, 1) := by decide +kernel
theorem dX11_drop_46 : decode cX11_drop 46 = .ok (.ireturn, 1) := by decide +kernel
set_option maxRecDepth 20000 in
theorem ggX11_today_X11_isIn : GoodIn wsX11_today wsX11_isIn := goodIn_r _ [5] (by decide +kernel) (by decide +kernel)
set_option maxRecDepth 20000 in
theorem gX11_today_X11_isIn : GoodIn wsX11_today (va_wsS RX11 29 yX11_isIn wsX11_isIn) := goodIn_app (goodIn_of _ (by decide +kernel)) ggX11_today_X11_isIn
set_option maxRecDepth 20000 in
theorem ggX11_today_X11_finding : GoodIn wsX11_today wsX11_finding := goodIn_r _ [9, 10, 11, 12, 13, 14, 15, 16, 17, 18, 19, 20] (by decide +kernel) (by decide +kernel)
set_option maxRecDepth 20000 in
theorem gX11_today_X11_finding : GoodIn wsX11_today (wsV RX11 33 RX11 yX11_finding wsX11_finding) := goodIn_app (goodIn_of _ (by decide +kernel)) ggX11_today_X11_finding
theorem dX11_today_0 : decode cX11_today 0 = .ok (.iload_n 1, 1) := by decide +kernel
theorem dX11_today_1 : decode cX11_today 1 = .ok (.iconst 0, 1) := by decide +kernel
theorem dX11_today_2 : decode cX11_today 2 = .ok (.sipush 9999, 3) := by decide +kernel
theorem dX11_today_5 : decode cX11_today 5 = .ok (.invokestatic 29, 3) := by decide +kernel
theorem dX11_today_8 : decode cX11_today 8 = .ok (.ifCond .ne 9, 3) := by decide +kernel
theorem dX11_today_11 : decode cX11_today 11 = .ok (.aload_n 0, 1) := by decide +kernel
theorem dX11_today_12 : decode cX11_today 12 = .ok (.iconst (-1), 1) := by decide +kernel
theorem dX11_today_13 : decode cX11_today 13 = .ok (.invokevirtual 33, 3) := by decide +kernel
theorem dX11_today_16 : decode cX11_today 16 = .ok (.ireturn, 1) := by decide +kernel
theorem dX11_today_17 : decode cX11_today 17 = .ok (.aload_n 0, 1) := by decide +kernel
theorem dX11_today_18 : decode cX11_today 18 = .ok (.getfield 13, 3) := by decide +kernel
theorem dX11_today_21 : decode cX11_today 21 = .ok (.bipush 6, 2) := by decide +kernel
theorem dX11_today_23 : decode cX11_today 23 = .ok (.iaload, 1) := by decide +kernel
theorem dX11_today_24 : decode cX11_today 24 = .ok (.istore_n 2, 1) := by decide +kernel
theorem dX11_today_25 : decode cX11_today 25 = .ok (.aload_n 0, 1) := by decide +kernel
theorem dX11_today_26 : decode cX11_today 26 = .ok (.getfield 13, 3) := by decide +kernel
theorem dX11_today_29 : decode cX11_today 29 = .ok (.bipush 6, 2) := by decide +kernel
theorem dX11_today_31 : decode cX11_today 31 = .ok (.iload_n 1, 1) := by decide +kernel
theorem dX11_today_32 : decode cX11_today 32 = .ok (.iastore, 1) := by decide +kernel
theorem dX11_today_33 : decode cX11_today 33 = .ok (.iload_n 2, 1) := by decide +kernel
theorem dX11_today_34 : decode cX11_today 34 = .ok (.ireturn, 1) := by decide +kernel
set_option maxRecDepth 20000 in
theorem ggX11_kept_X11_isIn : GoodIn wsX11_kept wsX11_isIn := goodIn_r _ [5] (by decide +kernel) (by decide +kernel)
set_option maxRecDepth 20000 in
theorem gX11_kept_X11_isIn : GoodIn wsX11_kept (va_wsS RX11 29 yX11_isIn wsX11_isIn) := goodIn_app (goodIn_of _ (by decide +kernel)) ggX11_kept_X11_isIn
set_option maxRecDepth 20000 in
theorem ggX11_kept_X11_finding : GoodIn wsX11_kept wsX11_finding := goodIn_r _ [9, 10, 11, 12, 13, 14, 15, 16, 17, 18, 19, 20] (by decide +kernel) (by decide +kernel)
set_option maxRecDepth 20000 in
theorem gX11_kept_X11_finding : GoodIn wsX11_kept (wsV RX11 33 RX11 yX11_finding wsX11_finding) := goodIn_app (goodIn_of _ (by decide +kernel)) ggX11_kept_X11_finding
theorem dX11_kept_0 : decode cX11_kept 0 = .ok (.iload_n 1, 1) := by decide +kernel
theorem dX11_kept_1 : decode cX11_kept 1 = .ok (.iconst 0, 1) := by decide +kernel
theorem dX11_kept_2 : decode cX11_kept 2 = .ok (.sipush 999, 3) := by decide +kernel
theorem dX11_kept_5 : decode cX11_kept 5 = .ok (.invokestatic 29, 3) := by decide +kernel
theorem dX11_kept_8 : decode cX11_kept 8 = .ok (.ifCond .ne 9, 3) := by decide +kernel
theorem dX11_kept_11 : decode cX11_kept 11 = .ok (.aload_n 0, 1) := by decide +kernel
theorem dX11_kept_12 : decode cX11_kept 12 = .ok (.iconst (-1), 1) := by decide +kernel
theorem dX11_kept_13 : decode cX11_kept 13 = .ok (.invokevirtual 33, 3) := by decide +kernel
theorem dX11_kept_16 : decode cX11_kept 16 = .ok (.ireturn, 1) := by decide +kernel
theorem dX11_kept_17 : decode cX11_kept 17 = .ok (.aload_n 0, 1) := by decide +kernel
theorem dX11_kept_18 : decode cX11_kept 18 = .ok (.getfield 13, 3) := by decide +kernel
theorem dX11_kept_21 : decode cX11_kept 21 = .ok (.bipush 7, 2) := by decide +kernel
theorem dX11_kept_23 : decode cX11_kept 23 = .ok (.iaload, 1) := by decide +kernel
theorem dX11_kept_24 : decode cX11_kept 24 = .ok (.istore_n 2, 1) := by decide +kernel
theorem dX11_kept_25 : decode cX11_kept 25 = .ok (.aload_n 0, 1) := by decide +kernel
theorem dX11_kept_26 : decode cX11_kept 26 = .ok (.getfield 13, 3) := by decide +kernel
theorem dX11_kept_29 : decode cX11_kept 29 = .ok (.bipush 7, 2) := by decide +kernel
theorem dX11_kept_31 : decode cX11_kept 31 = .ok (.iload_n 1, 1) := by decide +kernel
theorem dX11_kept_32 : decode cX11_kept 32 = .ok (.iastore, 1) := by decide +kernel
theorem dX11_kept_33 : decode cX11_kept 33 = .ok (.iload_n 2, 1) := by decide +kernel
theorem dX11_kept_34 : decode cX11_kept 34 = .ok (.ireturn, 1) := by decide +kernel
set_option maxRecDepth 20000 in
theorem ggX11_tellHad_X11_isFresh : GoodIn wsX11_tellHad wsX11_isFresh := goodIn_r _ [7, 2, 8, 9, 10, 6, 11, 12, 13, 14, 15, 16, 17, 18, 19, 20, 21, 22, 23, 24, 25, 26, 27, 40, 41, 42, 43, 44, 45, 46, 47, 48, 49] (by decide +kernel) (by decide +kernel)
set_option maxRecDepth 20000 in
theorem gX11_tellHad_X11_isFresh : GoodIn wsX11_tellHad (wsV RX11 83 RX11 yX11_isFresh wsX11_isFresh) := goodIn_app (goodIn_of _ (by decide +kernel)) ggX11_tellHad_X11_isFresh
set_option maxRecDepth 20000 in
theorem ggX11_tellHad_X11_findAt : GoodIn wsX11_tellHad wsX11_findAt := goodIn_r _ [11, 2, 40, 41, 42, 43, 44, 45, 46, 47, 48, 49] (by decide +kernel) (by decide +kernel)
set_option maxRecDepth 20000 in
theorem gX11_tellHad_X11_findAt : GoodIn wsX11_tellHad (wsV RX11 62 RX11 yX11_findAt wsX11_findAt) := goodIn_app (goodIn_of _ (by decide +kernel)) ggX11_tellHad_X11_findAt
set_option maxRecDepth 20000 in
theorem ggX11_tellHad_X11_goesTo : GoodIn wsX11_tellHad wsX11_goesTo := goodIn_r _ [15, 2, 16, 17, 18, 6, 19, 20, 21, 22, 23, 24, 25, 26, 27, 8, 9, 10, 11, 40, 41, 42, 43, 44, 45, 46, 47, 48, 49] (by decide +kernel) (by decide +kernel)
set_option maxRecDepth 20000 in
theorem gX11_tellHad_X11_goesTo : GoodIn wsX11_tellHad (wsV RX11 80 RX11 yX11_goesTo wsX11_goesTo) := goodIn_app (goodIn_of _ (by decide +kernel)) ggX11_tellHad_X11_goesTo
set_option maxRecDepth 20000 in
theorem ggX11_tellHad_X11_productAt : GoodIn wsX11_tellHad wsX11_productAt := goodIn_r _ [31, 2, 40, 41, 42, 43, 44, 45, 46, 47, 48, 49] (by decide +kernel) (by decide +kernel)
set_option maxRecDepth 20000 in
theorem gX11_tellHad_X11_productAt : GoodIn wsX11_tellHad (wsV RX11 44 RX11 yX11_productAt wsX11_productAt) := goodIn_app (goodIn_of _ (by decide +kernel)) ggX11_tellHad_X11_productAt
set_option maxRecDepth 20000 in
theorem ggX11_tellHad_X11_makeSuite : GoodIn wsX11_tellHad wsX11_makeSuite := goodIn_r _ [35, 2, 1, 36, 37, 38, 6, 39, 28, 29, 30, 31, 40, 41, 42, 43, 44, 45, 46, 47, 48, 49] (by decide +kernel) (by decide +kernel)
set_option maxRecDepth 20000 in
theorem gX11_tellHad_X11_makeSuite : GoodIn wsX11_tellHad (wsV RX11 86 RX11 yX11_makeSuite wsX11_makeSuite) := goodIn_app (goodIn_of _ (by decide +kernel)) ggX11_tellHad_X11_makeSuite
theorem dX11_tellHad_0 : decode cX11_tellHad 0 = .ok (.iconst 0, 1) := by decide +kernel
theorem dX11_tellHad_1 : decode cX11_tellHad 1 = .ok (.istore_n 1, 1) := by decide +kernel
theorem dX11_tellHad_2 : decode cX11_tellHad 2 = .ok (.iload_n 1, 1) := by decide +kernel
theorem dX11_tellHad_3 : decode cX11_tellHad 3 = .ok (.bipush 80, 2) := by decide +kernel
theorem dX11_tellHad_5 : decode cX11_tellHad 5 = .ok (.if_icmp .ge 16, 3) := by decide +kernel
theorem dX11_tellHad_8 : decode cX11_tellHad 8 = .ok (.aload_n 0, 1) := by decide +kernel
theorem dX11_tellHad_9 : decode cX11_tellHad 9 = .ok (.getfield 19, 3) := by decide +kernel
theorem dX11_tellHad_12 : decode cX11_tellHad 12 = .ok (.iload_n 1, 1) := by decide +kernel
theorem dX11_tellHad_13 : decode cX11_tellHad 13 = .ok (.iconst 0, 1) := by decide +kernel
theorem dX11_tellHad_14 : decode cX11_tellHad 14 = .ok (.iastore, 1) := by decide +kernel
theorem dX11_tellHad_15 : decode cX11_tellHad 15 = .ok (.iinc 1 1, 3) := by decide +kernel
theorem dX11_tellHad_18 : decode cX11_tellHad 18 = .ok (.goto (-16), 3) := by decide +kernel
theorem dX11_tellHad_21 : decode cX11_tellHad 21 = .ok (.iconst 0, 1) := by decide +kernel
theorem dX11_tellHad_22 : decode cX11_tellHad 22 = .ok (.istore_n 1, 1) := by decide +kernel
theorem dX11_tellHad_23 : decode cX11_tellHad 23 = .ok (.iload_n 1, 1) := by decide +kernel
theorem dX11_tellHad_24 : decode cX11_tellHad 24 = .ok (.aload_n 0, 1) := by decide +kernel
theorem dX11_tellHad_25 : decode cX11_tellHad 25 = .ok (.getfield 13, 3) := by decide +kernel
theorem dX11_tellHad_28 : decode cX11_tellHad 28 = .ok (.iconst 3, 1) := by decide +kernel
theorem dX11_tellHad_29 : decode cX11_tellHad 29 = .ok (.iaload, 1) := by decide +kernel
theorem dX11_tellHad_30 : decode cX11_tellHad 30 = .ok (.if_icmp .ge 69, 3) := by decide +kernel
theorem dX11_tellHad_33 : decode cX11_tellHad 33 = .ok (.aload_n 0, 1) := by decide +kernel
theorem dX11_tellHad_34 : decode cX11_tellHad 34 = .ok (.iload_n 1, 1) := by decide +kernel
theorem dX11_tellHad_35 : decode cX11_tellHad 35 = .ok (.invokevirtual 83, 3) := by decide +kernel
theorem dX11_tellHad_38 : decode cX11_tellHad 38 = .ok (.ifCond .eq 55, 3) := by decide +kernel
theorem dX11_tellHad_41 : decode cX11_tellHad 41 = .ok (.bipush 10, 2) := by decide +kernel
theorem dX11_tellHad_43 : decode cX11_tellHad 43 = .ok (.aload_n 0, 1) := by decide +kernel
theorem dX11_tellHad_44 : decode cX11_tellHad 44 = .ok (.iload_n 1, 1) := by decide +kernel
theorem dX11_tellHad_45 : decode cX11_tellHad 45 = .ok (.iconst 0, 1) := by decide +kernel
theorem dX11_tellHad_46 : decode cX11_tellHad 46 = .ok (.invokevirtual 62, 3) := by decide +kernel
theorem dX11_tellHad_49 : decode cX11_tellHad 49 = .ok (.imul, 1) := by decide +kernel
theorem dX11_tellHad_50 : decode cX11_tellHad 50 = .ok (.aload_n 0, 1) := by decide +kernel
theorem dX11_tellHad_51 : decode cX11_tellHad 51 = .ok (.iload_n 1, 1) := by decide +kernel
theorem dX11_tellHad_52 : decode cX11_tellHad 52 = .ok (.invokevirtual 80, 3) := by decide +kernel
theorem dX11_tellHad_55 : decode cX11_tellHad 55 = .ok (.iadd, 1) := by decide +kernel
theorem dX11_tellHad_56 : decode cX11_tellHad 56 = .ok (.istore_n 2, 1) := by decide +kernel
theorem dX11_tellHad_57 : decode cX11_tellHad 57 = .ok (.aload_n 0, 1) := by decide +kernel
theorem dX11_tellHad_58 : decode cX11_tellHad 58 = .ok (.getfield 19, 3) := by decide +kernel
theorem dX11_tellHad_61 : decode cX11_tellHad 61 = .ok (.iload_n 2, 1) := by decide +kernel
theorem dX11_tellHad_62 : decode cX11_tellHad 62 = .ok (.aload_n 0, 1) := by decide +kernel
theorem dX11_tellHad_63 : decode cX11_tellHad 63 = .ok (.iload_n 1, 1) := by decide +kernel
theorem dX11_tellHad_64 : decode cX11_tellHad 64 = .ok (.iconst 2, 1) := by decide +kernel
theorem dX11_tellHad_65 : decode cX11_tellHad 65 = .ok (.invokevirtual 62, 3) := by decide +kernel
theorem dX11_tellHad_68 : decode cX11_tellHad 68 = .ok (.aload_n 0, 1) := by decide +kernel
theorem dX11_tellHad_69 : decode cX11_tellHad 69 = .ok (.getfield 19, 3) := by decide +kernel
theorem dX11_tellHad_72 : decode cX11_tellHad 72 = .ok (.iload_n 2, 1) := by decide +kernel
theorem dX11_tellHad_73 : decode cX11_tellHad 73 = .ok (.iaload, 1) := by decide +kernel
theorem dX11_tellHad_74 : decode cX11_tellHad 74 = .ok (.if_icmp .le 12, 3) := by decide +kernel
theorem dX11_tellHad_77 : decode cX11_tellHad 77 = .ok (.aload_n 0, 1) := by decide +kernel
theorem dX11_tellHad_78 : decode cX11_tellHad 78 = .ok (.iload_n 1, 1) := by decide +kernel
theorem dX11_tellHad_79 : decode cX11_tellHad 79 = .ok (.iconst 2, 1) := by decide +kernel
theorem dX11_tellHad_80 : decode cX11_tellHad 80 = .ok (.invokevirtual 62, 3) := by decide +kernel
theorem dX11_tellHad_83 : decode cX11_tellHad 83 = .ok (.goto 9, 3) := by decide +kernel
theorem dX11_tellHad_86 : decode cX11_tellHad 86 = .ok (.aload_n 0, 1) := by decide +kernel
theorem dX11_tellHad_87 : decode cX11_tellHad 87 = .ok (.getfield 19, 3) := by decide +kernel
theorem dX11_tellHad_90 : decode cX11_tellHad 90 = .ok (.iload_n 2, 1) := by decide +kernel
theorem dX11_tellHad_91 : decode cX11_tellHad 91 = .ok (.iaload, 1) := by decide +kernel
theorem dX11_tellHad_92 : decode cX11_tellHad 92 = .ok (.iastore, 1) := by decide +kernel
theorem dX11_tellHad_93 : decode cX11_tellHad 93 = .ok (.iinc 1 1, 3) := by decide +kernel
theorem dX11_tellHad_96 : decode cX11_tellHad 96 = .ok (.goto (-73), 3) := by decide +kernel
theorem dX11_tellHad_99 : decode cX11_tellHad 99 = .ok (.iconst 0, 1) := by decide +kernel
theorem dX11_tellHad_100 : decode cX11_tellHad 100 = .ok (.istore_n 1, 1) := by decide +kernel
theorem dX11_tellHad_101 : decode cX11_tellHad 101 = .ok (.iload_n 1, 1) := by decide +kernel
theorem dX11_tellHad_102 : decode cX11_tellHad 102 = .ok (.aload_n 0, 1) := by decide +kernel
theorem dX11_tellHad_103 : decode cX11_tellHad 103 = .ok (.getfield 13, 3) := by decide +kernel
theorem dX11_tellHad_106 : decode cX11_tellHad 106 = .ok (.iconst 2, 1) := by decide +kernel
theorem dX11_tellHad_107 : decode cX11_tellHad 107 = .ok (.iaload, 1) := by decide +kernel
theorem dX11_tellHad_108 : decode cX11_tellHad 108 = .ok (.if_icmp .ge 53, 3) := by decide +kernel
theorem dX11_tellHad_111 : decode cX11_tellHad 111 = .ok (.iconst 0, 1) := by decide +kernel
theorem dX11_tellHad_112 : decode cX11_tellHad 112 = .ok (.istore_n 2, 1) := by decide +kernel
theorem dX11_tellHad_113 : decode cX11_tellHad 113 = .ok (.iload_n 2, 1) := by decide +kernel
theorem dX11_tellHad_114 : decode cX11_tellHad 114 = .ok (.aload_n 0, 1) := by decide +kernel
theorem dX11_tellHad_115 : decode cX11_tellHad 115 = .ok (.getfield 13, 3) := by decide +kernel
theorem dX11_tellHad_118 : decode cX11_tellHad 118 = .ok (.iconst 0, 1) := by decide +kernel
theorem dX11_tellHad_119 : decode cX11_tellHad 119 = .ok (.iaload, 1) := by decide +kernel
theorem dX11_tellHad_120 : decode cX11_tellHad 120 = .ok (.if_icmp .ge 35, 3) := by decide +kernel
theorem dX11_tellHad_123 : decode cX11_tellHad 123 = .ok (.aload_n 0, 1) := by decide +kernel
theorem dX11_tellHad_124 : decode cX11_tellHad 124 = .ok (.iload_n 2, 1) := by decide +kernel
theorem dX11_tellHad_125 : decode cX11_tellHad 125 = .ok (.iconst 0, 1) := by decide +kernel
theorem dX11_tellHad_126 : decode cX11_tellHad 126 = .ok (.invokevirtual 44, 3) := by decide +kernel
theorem dX11_tellHad_129 : decode cX11_tellHad 129 = .ok (.iconst 1, 1) := by decide +kernel
theorem dX11_tellHad_130 : decode cX11_tellHad 130 = .ok (.if_icmp .eq 13, 3) := by decide +kernel
theorem dX11_tellHad_133 : decode cX11_tellHad 133 = .ok (.aload_n 0, 1) := by decide +kernel
theorem dX11_tellHad_134 : decode cX11_tellHad 134 = .ok (.iload_n 2, 1) := by decide +kernel
theorem dX11_tellHad_135 : decode cX11_tellHad 135 = .ok (.iconst 0, 1) := by decide +kernel
theorem dX11_tellHad_136 : decode cX11_tellHad 136 = .ok (.invokevirtual 44, 3) := by decide +kernel
theorem dX11_tellHad_139 : decode cX11_tellHad 139 = .ok (.iconst 3, 1) := by decide +kernel
theorem dX11_tellHad_140 : decode cX11_tellHad 140 = .ok (.if_icmp .ne 9, 3) := by decide +kernel
theorem dX11_tellHad_143 : decode cX11_tellHad 143 = .ok (.aload_n 0, 1) := by decide +kernel
theorem dX11_tellHad_144 : decode cX11_tellHad 144 = .ok (.iload_n 1, 1) := by decide +kernel
theorem dX11_tellHad_145 : decode cX11_tellHad 145 = .ok (.iload_n 2, 1) := by decide +kernel
theorem dX11_tellHad_146 : decode cX11_tellHad 146 = .ok (.invokevirtual 86, 3) := by decide +kernel
theorem dX11_tellHad_149 : decode cX11_tellHad 149 = .ok (.iinc 2 1, 3) := by decide +kernel
theorem dX11_tellHad_152 : decode cX11_tellHad 152 = .ok (.goto (-39), 3) := by decide +kernel
theorem dX11_tellHad_155 : decode cX11_tellHad 155 = .ok (.iinc 1 1, 3) := by decide +kernel
theorem dX11_tellHad_158 : decode cX11_tellHad 158 = .ok (.goto (-57), 3) := by decide +kernel
theorem dX11_tellHad_161 : decode cX11_tellHad 161 = .ok (.return_, 1) := by decide +kernel
set_option maxRecDepth 20000 in
theorem ggX11_isPart_X11_productAt : GoodIn wsX11_isPart wsX11_productAt := goodIn_r _ [5, 6, 7, 8, 9, 10, 11, 12, 13, 14, 15, 16] (by decide +kernel) (by decide +kernel)
set_option maxRecDepth 20000 in
theorem gX11_isPart_X11_productAt : GoodIn wsX11_isPart (wsV RX11 44 RX11 yX11_productAt wsX11_productAt) := goodIn_app (goodIn_of _ (by decide +kernel)) ggX11_isPart_X11_productAt
theorem dX11_isPart_0 : decode cX11_isPart 0 = .ok (.iload_n 2, 1) := by decide +kernel
theorem dX11_isPart_1 : decode cX11_isPart 1 = .ok (.iload_n 1, 1) := by decide +kernel
theorem dX11_isPart_2 : decode cX11_isPart 2 = .ok (.if_icmp .eq 21, 3) := by decide +kernel
theorem dX11_isPart_5 : decode cX11_isPart 5 = .ok (.aload_n 0, 1) := by decide +kernel
theorem dX11_isPart_6 : decode cX11_isPart 6 = .ok (.iload_n 1, 1) := by decide +kernel
theorem dX11_isPart_7 : decode cX11_isPart 7 = .ok (.iconst 1, 1) := by decide +kernel
theorem dX11_isPart_8 : decode cX11_isPart 8 = .ok (.invokevirtual 44, 3) := by decide +kernel
theorem dX11_isPart_11 : decode cX11_isPart 11 = .ok (.iload_n 2, 1) := by decide +kernel
theorem dX11_isPart_12 : decode cX11_isPart 12 = .ok (.ishr, 1) := by decide +kernel
theorem dX11_isPart_13 : decode cX11_isPart 13 = .ok (.iconst 1, 1) := by decide +kernel
theorem dX11_isPart_14 : decode cX11_isPart 14 = .ok (.iand, 1) := by decide +kernel
theorem dX11_isPart_15 : decode cX11_isPart 15 = .ok (.iconst 1, 1) := by decide +kernel
theorem dX11_isPart_16 : decode cX11_isPart 16 = .ok (.if_icmp .ne 7, 3) := by decide +kernel
theorem dX11_isPart_19 : decode cX11_isPart 19 = .ok (.iconst 1, 1) := by decide +kernel
theorem dX11_isPart_20 : decode cX11_isPart 20 = .ok (.goto 4, 3) := by decide +kernel
theorem dX11_isPart_23 : decode cX11_isPart 23 = .ok (.iconst 0, 1) := by decide +kernel
theorem dX11_isPart_24 : decode cX11_isPart 24 = .ok (.ireturn, 1) := by decide +kernel
set_option maxRecDepth 20000 in
theorem ggX11_makeSuite_X11_isPart : GoodIn wsX11_makeSuite wsX11_isPart := goodIn_r _ [7, 8, 9, 10, 6, 11, 1, 12, 13, 14, 15, 16, 17, 18, 19, 20, 21] (by decide +kernel) (by decide +kernel)
set_option maxRecDepth 20000 in
theorem gX11_makeSuite_X11_isPart : GoodIn wsX11_makeSuite (wsV RX11 90 RX11 yX11_isPart wsX11_isPart) := goodIn_app (goodIn_of _ (by decide +kernel)) ggX11_makeSuite_X11_isPart
set_option maxRecDepth 20000 in
theorem ggX11_makeSuite_X11_productAt : GoodIn wsX11_makeSuite wsX11_productAt := goodIn_r _ [11, 1, 12, 13, 14, 15, 16, 17, 18, 19, 20, 21] (by decide +kernel) (by decide +kernel)
set_option maxRecDepth 20000 in
theorem gX11_makeSuite_X11_productAt : GoodIn wsX11_makeSuite (wsV RX11 44 RX11 yX11_productAt wsX11_productAt) := goodIn_app (goodIn_of _ (by decide +kernel)) ggX11_makeSuite_X11_productAt
theorem dX11_makeSuite_0 : decode cX11_makeSuite 0 = .ok (.iconst 0, 1) := by decide +kernel
theorem dX11_makeSuite_1 : decode cX11_makeSuite 1 = .ok (.istore_n 3, 1) := by decide +kernel
theorem dX11_makeSuite_2 : decode cX11_makeSuite 2 = .ok (.iconst 0, 1) := by decide +kernel
theorem dX11_makeSuite_3 : decode cX11_makeSuite 3 = .ok (.istore 4, 2) := by decide +kernel
theorem dX11_makeSuite_5 : decode cX11_makeSuite 5 = .ok (.iconst 0, 1) := by decide +kernel
theorem dX11_makeSuite_6 : decode cX11_makeSuite 6 = .ok (.istore 5, 2) := by decide +kernel
theorem dX11_makeSuite_8 : decode cX11_makeSuite 8 = .ok (.iload 5, 2) := by decide +kernel
theorem dX11_makeSuite_10 : decode cX11_makeSuite 10 = .ok (.aload_n 0, 1) := by decide +kernel
theorem dX11_makeSuite_11 : decode cX11_makeSuite 11 = .ok (.getfield 13, 3) := by decide +kernel
theorem dX11_makeSuite_14 : decode cX11_makeSuite 14 = .ok (.iconst 0, 1) := by decide +kernel
theorem dX11_makeSuite_15 : decode cX11_makeSuite 15 = .ok (.iaload, 1) := by decide +kernel
theorem dX11_makeSuite_16 : decode cX11_makeSuite 16 = .ok (.if_icmp .ge 66, 3) := by decide +kernel
theorem dX11_makeSuite_19 : decode cX11_makeSuite 19 = .ok (.aload_n 0, 1) := by decide +kernel
theorem dX11_makeSuite_20 : decode cX11_makeSuite 20 = .ok (.iload_n 2, 1) := by decide +kernel
theorem dX11_makeSuite_21 : decode cX11_makeSuite 21 = .ok (.iload 5, 2) := by decide +kernel
theorem dX11_makeSuite_23 : decode cX11_makeSuite 23 = .ok (.invokevirtual 90, 3) := by decide +kernel
theorem dX11_makeSuite_26 : decode cX11_makeSuite 26 = .ok (.ifCond .eq 18, 3) := by decide +kernel
theorem dX11_makeSuite_29 : decode cX11_makeSuite 29 = .ok (.aload_n 0, 1) := by decide +kernel
theorem dX11_makeSuite_30 : decode cX11_makeSuite 30 = .ok (.getfield 19, 3) := by decide +kernel
theorem dX11_makeSuite_33 : decode cX11_makeSuite 33 = .ok (.bipush 10, 2) := by decide +kernel
theorem dX11_makeSuite_35 : decode cX11_makeSuite 35 = .ok (.iload_n 1, 1) := by decide +kernel
theorem dX11_makeSuite_36 : decode cX11_makeSuite 36 = .ok (.imul, 1) := by decide +kernel
theorem dX11_makeSuite_37 : decode cX11_makeSuite 37 = .ok (.iload 5, 2) := by decide +kernel
theorem dX11_makeSuite_39 : decode cX11_makeSuite 39 = .ok (.iadd, 1) := by decide +kernel
theorem dX11_makeSuite_40 : decode cX11_makeSuite 40 = .ok (.iaload, 1) := by decide +kernel
theorem dX11_makeSuite_41 : decode cX11_makeSuite 41 = .ok (.goto 4, 3) := by decide +kernel
theorem dX11_makeSuite_44 : decode cX11_makeSuite 44 = .ok (.iconst 0, 1) := by decide +kernel
theorem dX11_makeSuite_45 : decode cX11_makeSuite 45 = .ok (.istore 6, 2) := by decide +kernel
theorem dX11_makeSuite_47 : decode cX11_makeSuite 47 = .ok (.iload_n 3, 1) := by decide +kernel
theorem dX11_makeSuite_48 : decode cX11_makeSuite 48 = .ok (.iload 6, 2) := by decide +kernel
theorem dX11_makeSuite_50 : decode cX11_makeSuite 50 = .ok (.ifCond .le 7, 3) := by decide +kernel
theorem dX11_makeSuite_53 : decode cX11_makeSuite 53 = .ok (.iconst 1, 1) := by decide +kernel
theorem dX11_makeSuite_54 : decode cX11_makeSuite 54 = .ok (.goto 4, 3) := by decide +kernel
theorem dX11_makeSuite_57 : decode cX11_makeSuite 57 = .ok (.iconst 0, 1) := by decide +kernel
theorem dX11_makeSuite_58 : decode cX11_makeSuite 58 = .ok (.iadd, 1) := by decide +kernel
theorem dX11_makeSuite_59 : decode cX11_makeSuite 59 = .ok (.istore_n 3, 1) := by decide +kernel
theorem dX11_makeSuite_60 : decode cX11_makeSuite 60 = .ok (.iload 6, 2) := by decide +kernel
theorem dX11_makeSuite_62 : decode cX11_makeSuite 62 = .ok (.iload 4, 2) := by decide +kernel
theorem dX11_makeSuite_64 : decode cX11_makeSuite 64 = .ok (.if_icmp .le 8, 3) := by decide +kernel
theorem dX11_makeSuite_67 : decode cX11_makeSuite 67 = .ok (.iload 6, 2) := by decide +kernel
theorem dX11_makeSuite_69 : decode cX11_makeSuite 69 = .ok (.goto 5, 3) := by decide +kernel
theorem dX11_makeSuite_72 : decode cX11_makeSuite 72 = .ok (.iload 4, 2) := by decide +kernel
theorem dX11_makeSuite_74 : decode cX11_makeSuite 74 = .ok (.istore 4, 2) := by decide +kernel
theorem dX11_makeSuite_76 : decode cX11_makeSuite 76 = .ok (.iinc 5 1, 3) := by decide +kernel
theorem dX11_makeSuite_79 : decode cX11_makeSuite 79 = .ok (.goto (-71), 3) := by decide +kernel
theorem dX11_makeSuite_82 : decode cX11_makeSuite 82 = .ok (.iload_n 3, 1) := by decide +kernel
theorem dX11_makeSuite_83 : decode cX11_makeSuite 83 = .ok (.aload_n 0, 1) := by decide +kernel
theorem dX11_makeSuite_84 : decode cX11_makeSuite 84 = .ok (.iload_n 2, 1) := by decide +kernel
theorem dX11_makeSuite_85 : decode cX11_makeSuite 85 = .ok (.iconst 2, 1) := by decide +kernel
theorem dX11_makeSuite_86 : decode cX11_makeSuite 86 = .ok (.invokevirtual 44, 3) := by decide +kernel
theorem dX11_makeSuite_89 : decode cX11_makeSuite 89 = .ok (.if_icmp .ge 4, 3) := by decide +kernel
theorem dX11_makeSuite_92 : decode cX11_makeSuite 92 = .ok (.return_, 1) := by decide +kernel
theorem dX11_makeSuite_93 : decode cX11_makeSuite 93 = .ok (.bipush 10, 2) := by decide +kernel
theorem dX11_makeSuite_95 : decode cX11_makeSuite 95 = .ok (.iload_n 1, 1) := by decide +kernel
theorem dX11_makeSuite_96 : decode cX11_makeSuite 96 = .ok (.imul, 1) := by decide +kernel
theorem dX11_makeSuite_97 : decode cX11_makeSuite 97 = .ok (.iload_n 2, 1) := by decide +kernel
theorem dX11_makeSuite_98 : decode cX11_makeSuite 98 = .ok (.iadd, 1) := by decide +kernel
theorem dX11_makeSuite_99 : decode cX11_makeSuite 99 = .ok (.istore 5, 2) := by decide +kernel
theorem dX11_makeSuite_101 : decode cX11_makeSuite 101 = .ok (.aload_n 0, 1) := by decide +kernel
theorem dX11_makeSuite_102 : decode cX11_makeSuite 102 = .ok (.getfield 19, 3) := by decide +kernel
theorem dX11_makeSuite_105 : decode cX11_makeSuite 105 = .ok (.iload 5, 2) := by decide +kernel
theorem dX11_makeSuite_107 : decode cX11_makeSuite 107 = .ok (.iload 4, 2) := by decide +kernel
theorem dX11_makeSuite_109 : decode cX11_makeSuite 109 = .ok (.aload_n 0, 1) := by decide +kernel
theorem dX11_makeSuite_110 : decode cX11_makeSuite 110 = .ok (.getfield 19, 3) := by decide +kernel
theorem dX11_makeSuite_113 : decode cX11_makeSuite 113 = .ok (.iload 5, 2) := by decide +kernel
theorem dX11_makeSuite_115 : decode cX11_makeSuite 115 = .ok (.iaload, 1) := by decide +kernel
theorem dX11_makeSuite_116 : decode cX11_makeSuite 116 = .ok (.if_icmp .le 8, 3) := by decide +kernel
theorem dX11_makeSuite_119 : decode cX11_makeSuite 119 = .ok (.iload 4, 2) := by decide +kernel
theorem dX11_makeSuite_121 : decode cX11_makeSuite 121 = .ok (.goto 10, 3) := by decide +kernel
theorem dX11_makeSuite_124 : decode cX11_makeSuite 124 = .ok (.aload_n 0, 1) := by decide +kernel
theorem dX11_makeSuite_125 : decode cX11_makeSuite 125 = .ok (.getfield 19, 3) := by decide +kernel
theorem dX11_makeSuite_128 : decode cX11_makeSuite 128 = .ok (.iload 5, 2) := by decide +kernel
theorem dX11_makeSuite_130 : decode cX11_makeSuite 130 = .ok (.iaload, 1) := by decide +kernel
theorem dX11_makeSuite_131 : decode cX11_makeSuite 131 = .ok (.iastore, 1) := by decide +kernel
theorem dX11_makeSuite_132 : decode cX11_makeSuite 132 = .ok (.iconst 0, 1) := by decide +kernel
theorem dX11_makeSuite_133 : decode cX11_makeSuite 133 = .ok (.istore 6, 2) := by decide +kernel
theorem dX11_makeSuite_135 : decode cX11_makeSuite 135 = .ok (.iload 6, 2) := by decide +kernel
theorem dX11_makeSuite_137 : decode cX11_makeSuite 137 = .ok (.aload_n 0, 1) := by decide +kernel
theorem dX11_makeSuite_138 : decode cX11_makeSuite 138 = .ok (.getfield 13, 3) := by decide +kernel
theorem dX11_makeSuite_141 : decode cX11_makeSuite 141 = .ok (.iconst 0, 1) := by decide +kernel
theorem dX11_makeSuite_142 : decode cX11_makeSuite 142 = .ok (.iaload, 1) := by decide +kernel
theorem dX11_makeSuite_143 : decode cX11_makeSuite 143 = .ok (.if_icmp .ge 42, 3) := by decide +kernel
theorem dX11_makeSuite_146 : decode cX11_makeSuite 146 = .ok (.aload_n 0, 1) := by decide +kernel
theorem dX11_makeSuite_147 : decode cX11_makeSuite 147 = .ok (.iload_n 2, 1) := by decide +kernel
theorem dX11_makeSuite_148 : decode cX11_makeSuite 148 = .ok (.iload 6, 2) := by decide +kernel
theorem dX11_makeSuite_150 : decode cX11_makeSuite 150 = .ok (.invokevirtual 90, 3) := by decide +kernel
theorem dX11_makeSuite_153 : decode cX11_makeSuite 153 = .ok (.ifCond .eq 26, 3) := by decide +kernel
theorem dX11_makeSuite_156 : decode cX11_makeSuite 156 = .ok (.aload_n 0, 1) := by decide +kernel
theorem dX11_makeSuite_157 : decode cX11_makeSuite 157 = .ok (.iload_n 2, 1) := by decide +kernel
theorem dX11_makeSuite_158 : decode cX11_makeSuite 158 = .ok (.iconst 0, 1) := by decide +kernel
theorem dX11_makeSuite_159 : decode cX11_makeSuite 159 = .ok (.invokevirtual 44, 3) := by decide +kernel
theorem dX11_makeSuite_162 : decode cX11_makeSuite 162 = .ok (.iconst 1, 1) := by decide +kernel
theorem dX11_makeSuite_163 : decode cX11_makeSuite 163 = .ok (.if_icmp .ne 16, 3) := by decide +kernel
theorem dX11_makeSuite_166 : decode cX11_makeSuite 166 = .ok (.aload_n 0, 1) := by decide +kernel
theorem dX11_makeSuite_167 : decode cX11_makeSuite 167 = .ok (.getfield 19, 3) := by decide +kernel
theorem dX11_makeSuite_170 : decode cX11_makeSuite 170 = .ok (.bipush 10, 2) := by decide +kernel
theorem dX11_makeSuite_172 : decode cX11_makeSuite 172 = .ok (.iload_n 1, 1) := by decide +kernel
theorem dX11_makeSuite_173 : decode cX11_makeSuite 173 = .ok (.imul, 1) := by decide +kernel
theorem dX11_makeSuite_174 : decode cX11_makeSuite 174 = .ok (.iload 6, 2) := by decide +kernel
theorem dX11_makeSuite_176 : decode cX11_makeSuite 176 = .ok (.iadd, 1) := by decide +kernel
theorem dX11_makeSuite_177 : decode cX11_makeSuite 177 = .ok (.iconst 0, 1) := by decide +kernel
theorem dX11_makeSuite_178 : decode cX11_makeSuite 178 = .ok (.iastore, 1) := by decide +kernel
theorem dX11_makeSuite_179 : decode cX11_makeSuite 179 = .ok (.iinc 6 1, 3) := by decide +kernel
theorem dX11_makeSuite_182 : decode cX11_makeSuite 182 = .ok (.goto (-47), 3) := by decide +kernel
theorem dX11_makeSuite_185 : decode cX11_makeSuite 185 = .ok (.return_, 1) := by decide +kernel
set_option maxRecDepth 20000 in
theorem ggX11_has_X11_isHost : GoodIn wsX11_has wsX11_isHost := goodIn_r _ [6, 7, 57, 58, 59, 60, 61, 62, 63, 64, 65, 66] (by decide +kernel) (by decide +kernel)
set_option maxRecDepth 20000 in
theorem gX11_has_X11_isHost : GoodIn wsX11_has (wsV RX11 71 RX11 yX11_isHost wsX11_isHost) := goodIn_app (goodIn_of _ (by decide +kernel)) ggX11_has_X11_isHost
set_option maxRecDepth 20000 in
theorem ggX11_has_X11_isProduct : GoodIn wsX11_has wsX11_isProduct := goodIn_r _ [11, 7, 57, 58, 59, 60, 61, 62, 63, 64, 65, 66] (by decide +kernel) (by decide +kernel)
set_option maxRecDepth 20000 in
theorem gX11_has_X11_isProduct : GoodIn wsX11_has (wsV RX11 40 RX11 yX11_isProduct wsX11_isProduct) := goodIn_app (goodIn_of _ (by decide +kernel)) ggX11_has_X11_isProduct
set_option maxRecDepth 20000 in
theorem ggX11_has_X11_finding : GoodIn wsX11_has wsX11_finding := goodIn_r _ [15, 16, 57, 58, 59, 60, 61, 62, 63, 64, 65, 66] (by decide +kernel) (by decide +kernel)
set_option maxRecDepth 20000 in
theorem gX11_has_X11_finding : GoodIn wsX11_has (wsV RX11 33 RX11 yX11_finding wsX11_finding) := goodIn_app (goodIn_of _ (by decide +kernel)) ggX11_has_X11_finding
set_option maxRecDepth 20000 in
theorem ggX11_has_X11_tellHad : GoodIn wsX11_has wsX11_tellHad := goodIn_r _ [20, 1, 7, 21, 22, 23, 5, 24, 25, 26, 27, 28, 29, 30, 31, 32, 33, 34, 35, 36, 37, 38, 39, 40, 41, 42, 43, 44, 45, 46, 47, 48, 49, 50, 51, 52, 53, 54, 55, 56, 57, 58, 59, 60, 61, 62, 63, 64, 65, 66] (by decide +kernel) (by decide +kernel)
set_option maxRecDepth 20000 in
theorem gX11_has_X11_tellHad : GoodIn wsX11_has (wsV RX11 93 RX11 yX11_tellHad wsX11_tellHad) := goodIn_app (goodIn_of _ (by decide +kernel)) ggX11_has_X11_tellHad
theorem dX11_has_0 : decode cX11_has 0 = .ok (.aload_n 0, 1) := by decide +kernel
theorem dX11_has_1 : decode cX11_has 1 = .ok (.iload_n 1, 1) := by decide +kernel
theorem dX11_has_2 : decode cX11_has 2 = .ok (.invokevirtual 71, 3) := by decide +kernel
theorem dX11_has_5 : decode cX11_has 5 = .ok (.ifCond .eq 11, 3) := by decide +kernel
theorem dX11_has_8 : decode cX11_has 8 = .ok (.aload_n 0, 1) := by decide +kernel
theorem dX11_has_9 : decode cX11_has 9 = .ok (.iload_n 2, 1) := by decide +kernel
theorem dX11_has_10 : decode cX11_has 10 = .ok (.invokevirtual 40, 3) := by decide +kernel
theorem dX11_has_13 : decode cX11_has 13 = .ok (.ifCond .ne 9, 3) := by decide +kernel
theorem dX11_has_16 : decode cX11_has 16 = .ok (.aload_n 0, 1) := by decide +kernel
theorem dX11_has_17 : decode cX11_has 17 = .ok (.iconst (-1), 1) := by decide +kernel
theorem dX11_has_18 : decode cX11_has 18 = .ok (.invokevirtual 33, 3) := by decide +kernel
theorem dX11_has_21 : decode cX11_has 21 = .ok (.ireturn, 1) := by decide +kernel
theorem dX11_has_22 : decode cX11_has 22 = .ok (.aload_n 0, 1) := by decide +kernel
theorem dX11_has_23 : decode cX11_has 23 = .ok (.invokevirtual 93, 3) := by decide +kernel
theorem dX11_has_26 : decode cX11_has 26 = .ok (.aload_n 0, 1) := by decide +kernel
theorem dX11_has_27 : decode cX11_has 27 = .ok (.getfield 19, 3) := by decide +kernel
theorem dX11_has_30 : decode cX11_has 30 = .ok (.bipush 10, 2) := by decide +kernel
theorem dX11_has_32 : decode cX11_has 32 = .ok (.iload_n 1, 1) := by decide +kernel
theorem dX11_has_33 : decode cX11_has 33 = .ok (.imul, 1) := by decide +kernel
theorem dX11_has_34 : decode cX11_has 34 = .ok (.iload_n 2, 1) := by decide +kernel
theorem dX11_has_35 : decode cX11_has 35 = .ok (.iadd, 1) := by decide +kernel
theorem dX11_has_36 : decode cX11_has 36 = .ok (.iaload, 1) := by decide +kernel
theorem dX11_has_37 : decode cX11_has 37 = .ok (.istore_n 3, 1) := by decide +kernel
theorem dX11_has_38 : decode cX11_has 38 = .ok (.iload_n 3, 1) := by decide +kernel
theorem dX11_has_39 : decode cX11_has 39 = .ok (.ifCond .ne 12, 3) := by decide +kernel
theorem dX11_has_42 : decode cX11_has 42 = .ok (.aload_n 0, 1) := by decide +kernel
theorem dX11_has_43 : decode cX11_has 43 = .ok (.bipush (-2), 2) := by decide +kernel
theorem dX11_has_45 : decode cX11_has 45 = .ok (.invokevirtual 33, 3) := by decide +kernel
theorem dX11_has_48 : decode cX11_has 48 = .ok (.goto 4, 3) := by decide +kernel
theorem dX11_has_51 : decode cX11_has 51 = .ok (.iload_n 3, 1) := by decide +kernel
theorem dX11_has_52 : decode cX11_has 52 = .ok (.ireturn, 1) := by decide +kernel
set_option maxRecDepth 20000 in
theorem ggX11_measureOf_X11_hostAt : GoodIn wsX11_measureOf wsX11_hostAt := goodIn_r _ [7, 1, 20, 21, 22, 23, 24, 25, 26, 27, 28, 29] (by decide +kernel) (by decide +kernel)
set_option maxRecDepth 20000 in
theorem gX11_measureOf_X11_hostAt : GoodIn wsX11_measureOf (wsV RX11 74 RX11 yX11_hostAt wsX11_hostAt) := goodIn_app (goodIn_of _ (by decide +kernel)) ggX11_measureOf_X11_hostAt
set_option maxRecDepth 20000 in
theorem ggX11_measureOf_X11_mostUses : GoodIn wsX11_measureOf wsX11_mostUses := goodIn_r _ [11, 12, 13, 14, 6, 15, 1, 16, 17, 18, 19, 20, 21, 22, 23, 24, 25, 26, 27, 28, 29] (by decide +kernel) (by decide +kernel)
set_option maxRecDepth 20000 in
theorem gX11_measureOf_X11_mostUses : GoodIn wsX11_measureOf (wsV RX11 96 RX11 yX11_mostUses wsX11_mostUses) := goodIn_app (goodIn_of _ (by decide +kernel)) ggX11_measureOf_X11_mostUses
theorem dX11_measureOf_0 : decode cX11_measureOf 0 = .ok (.iconst 0, 1) := by decide +kernel
theorem dX11_measureOf_1 : decode cX11_measureOf 1 = .ok (.istore_n 3, 1) := by decide +kernel
theorem dX11_measureOf_2 : decode cX11_measureOf 2 = .ok (.iconst 0, 1) := by decide +kernel
theorem dX11_measureOf_3 : decode cX11_measureOf 3 = .ok (.istore 4, 2) := by decide +kernel
theorem dX11_measureOf_5 : decode cX11_measureOf 5 = .ok (.iconst 0, 1) := by decide +kernel
theorem dX11_measureOf_6 : decode cX11_measureOf 6 = .ok (.istore 5, 2) := by decide +kernel
theorem dX11_measureOf_8 : decode cX11_measureOf 8 = .ok (.iconst 0, 1) := by decide +kernel
theorem dX11_measureOf_9 : decode cX11_measureOf 9 = .ok (.istore 6, 2) := by decide +kernel
theorem dX11_measureOf_11 : decode cX11_measureOf 11 = .ok (.iload 6, 2) := by decide +kernel
theorem dX11_measureOf_13 : decode cX11_measureOf 13 = .ok (.aload_n 0, 1) := by decide +kernel
theorem dX11_measureOf_14 : decode cX11_measureOf 14 = .ok (.getfield 13, 3) := by decide +kernel
theorem dX11_measureOf_17 : decode cX11_measureOf 17 = .ok (.iconst 2, 1) := by decide +kernel
theorem dX11_measureOf_18 : decode cX11_measureOf 18 = .ok (.iaload, 1) := by decide +kernel
theorem dX11_measureOf_19 : decode cX11_measureOf 19 = .ok (.if_icmp .ge 59, 3) := by decide +kernel
theorem dX11_measureOf_22 : decode cX11_measureOf 22 = .ok (.aload_n 0, 1) := by decide +kernel
theorem dX11_measureOf_23 : decode cX11_measureOf 23 = .ok (.getfield 19, 3) := by decide +kernel
theorem dX11_measureOf_26 : decode cX11_measureOf 26 = .ok (.bipush 10, 2) := by decide +kernel
theorem dX11_measureOf_28 : decode cX11_measureOf 28 = .ok (.iload 6, 2) := by decide +kernel
theorem dX11_measureOf_30 : decode cX11_measureOf 30 = .ok (.imul, 1) := by decide +kernel
theorem dX11_measureOf_31 : decode cX11_measureOf 31 = .ok (.iload_n 1, 1) := by decide +kernel
theorem dX11_measureOf_32 : decode cX11_measureOf 32 = .ok (.iadd, 1) := by decide +kernel
theorem dX11_measureOf_33 : decode cX11_measureOf 33 = .ok (.iaload, 1) := by decide +kernel
theorem dX11_measureOf_34 : decode cX11_measureOf 34 = .ok (.ifCond .le 38, 3) := by decide +kernel
theorem dX11_measureOf_37 : decode cX11_measureOf 37 = .ok (.iinc 3 1, 3) := by decide +kernel
theorem dX11_measureOf_40 : decode cX11_measureOf 40 = .ok (.iload 4, 2) := by decide +kernel
theorem dX11_measureOf_42 : decode cX11_measureOf 42 = .ok (.aload_n 0, 1) := by decide +kernel
theorem dX11_measureOf_43 : decode cX11_measureOf 43 = .ok (.iload 6, 2) := by decide +kernel
theorem dX11_measureOf_45 : decode cX11_measureOf 45 = .ok (.iconst 0, 1) := by decide +kernel
theorem dX11_measureOf_46 : decode cX11_measureOf 46 = .ok (.invokevirtual 74, 3) := by decide +kernel
theorem dX11_measureOf_49 : decode cX11_measureOf 49 = .ok (.bipush 7, 2) := by decide +kernel
theorem dX11_measureOf_51 : decode cX11_measureOf 51 = .ok (.iadd, 1) := by decide +kernel
theorem dX11_measureOf_52 : decode cX11_measureOf 52 = .ok (.bipush 8, 2) := by decide +kernel
theorem dX11_measureOf_54 : decode cX11_measureOf 54 = .ok (.idiv, 1) := by decide +kernel
theorem dX11_measureOf_55 : decode cX11_measureOf 55 = .ok (.iadd, 1) := by decide +kernel
theorem dX11_measureOf_56 : decode cX11_measureOf 56 = .ok (.istore 4, 2) := by decide +kernel
theorem dX11_measureOf_58 : decode cX11_measureOf 58 = .ok (.iload 5, 2) := by decide +kernel
theorem dX11_measureOf_60 : decode cX11_measureOf 60 = .ok (.iconst 1, 1) := by decide +kernel
theorem dX11_measureOf_61 : decode cX11_measureOf 61 = .ok (.aload_n 0, 1) := by decide +kernel
theorem dX11_measureOf_62 : decode cX11_measureOf 62 = .ok (.iload 6, 2) := by decide +kernel
theorem dX11_measureOf_64 : decode cX11_measureOf 64 = .ok (.iconst 1, 1) := by decide +kernel
theorem dX11_measureOf_65 : decode cX11_measureOf 65 = .ok (.invokevirtual 74, 3) := by decide +kernel
theorem dX11_measureOf_68 : decode cX11_measureOf 68 = .ok (.ishl, 1) := by decide +kernel
theorem dX11_measureOf_69 : decode cX11_measureOf 69 = .ok (.ior, 1) := by decide +kernel
theorem dX11_measureOf_70 : decode cX11_measureOf 70 = .ok (.istore 5, 2) := by decide +kernel
theorem dX11_measureOf_72 : decode cX11_measureOf 72 = .ok (.iinc 6 1, 3) := by decide +kernel
theorem dX11_measureOf_75 : decode cX11_measureOf 75 = .ok (.goto (-64), 3) := by decide +kernel
theorem dX11_measureOf_78 : decode cX11_measureOf 78 = .ok (.iload_n 2, 1) := by decide +kernel
theorem dX11_measureOf_79 : decode cX11_measureOf 79 = .ok (.iconst 1, 1) := by decide +kernel
theorem dX11_measureOf_80 : decode cX11_measureOf 80 = .ok (.if_icmp .ne 37, 3) := by decide +kernel
theorem dX11_measureOf_83 : decode cX11_measureOf 83 = .ok (.iconst 0, 1) := by decide +kernel
theorem dX11_measureOf_84 : decode cX11_measureOf 84 = .ok (.istore 6, 2) := by decide +kernel
theorem dX11_measureOf_86 : decode cX11_measureOf 86 = .ok (.iconst 0, 1) := by decide +kernel
theorem dX11_measureOf_87 : decode cX11_measureOf 87 = .ok (.istore 7, 2) := by decide +kernel
theorem dX11_measureOf_89 : decode cX11_measureOf 89 = .ok (.iload 7, 2) := by decide +kernel
theorem dX11_measureOf_91 : decode cX11_measureOf 91 = .ok (.bipush 10, 2) := by decide +kernel
theorem dX11_measureOf_93 : decode cX11_measureOf 93 = .ok (.if_icmp .ge 21, 3) := by decide +kernel
theorem dX11_measureOf_96 : decode cX11_measureOf 96 = .ok (.iload 6, 2) := by decide +kernel
theorem dX11_measureOf_98 : decode cX11_measureOf 98 = .ok (.iload 5, 2) := by decide +kernel
theorem dX11_measureOf_100 : decode cX11_measureOf 100 = .ok (.iload 7, 2) := by decide +kernel
theorem dX11_measureOf_102 : decode cX11_measureOf 102 = .ok (.ishr, 1) := by decide +kernel
theorem dX11_measureOf_103 : decode cX11_measureOf 103 = .ok (.iconst 1, 1) := by decide +kernel
theorem dX11_measureOf_104 : decode cX11_measureOf 104 = .ok (.iand, 1) := by decide +kernel
theorem dX11_measureOf_105 : decode cX11_measureOf 105 = .ok (.iadd, 1) := by decide +kernel
theorem dX11_measureOf_106 : decode cX11_measureOf 106 = .ok (.istore 6, 2) := by decide +kernel
theorem dX11_measureOf_108 : decode cX11_measureOf 108 = .ok (.iinc 7 1, 3) := by decide +kernel
theorem dX11_measureOf_111 : decode cX11_measureOf 111 = .ok (.goto (-22), 3) := by decide +kernel
theorem dX11_measureOf_114 : decode cX11_measureOf 114 = .ok (.iload 6, 2) := by decide +kernel
theorem dX11_measureOf_116 : decode cX11_measureOf 116 = .ok (.ireturn, 1) := by decide +kernel
theorem dX11_measureOf_117 : decode cX11_measureOf 117 = .ok (.iload_n 2, 1) := by decide +kernel
theorem dX11_measureOf_118 : decode cX11_measureOf 118 = .ok (.ifCond .ne 7, 3) := by decide +kernel
theorem dX11_measureOf_121 : decode cX11_measureOf 121 = .ok (.iload_n 3, 1) := by decide +kernel
theorem dX11_measureOf_122 : decode cX11_measureOf 122 = .ok (.goto 18, 3) := by decide +kernel
theorem dX11_measureOf_125 : decode cX11_measureOf 125 = .ok (.iload_n 2, 1) := by decide +kernel
theorem dX11_measureOf_126 : decode cX11_measureOf 126 = .ok (.iconst 2, 1) := by decide +kernel
theorem dX11_measureOf_127 : decode cX11_measureOf 127 = .ok (.if_icmp .ne 8, 3) := by decide +kernel
theorem dX11_measureOf_130 : decode cX11_measureOf 130 = .ok (.iload 4, 2) := by decide +kernel
theorem dX11_measureOf_132 : decode cX11_measureOf 132 = .ok (.goto 8, 3) := by decide +kernel
theorem dX11_measureOf_135 : decode cX11_measureOf 135 = .ok (.aload_n 0, 1) := by decide +kernel
theorem dX11_measureOf_136 : decode cX11_measureOf 136 = .ok (.iload_n 1, 1) := by decide +kernel
theorem dX11_measureOf_137 : decode cX11_measureOf 137 = .ok (.invokevirtual 96, 3) := by decide +kernel
theorem dX11_measureOf_140 : decode cX11_measureOf 140 = .ok (.ireturn, 1) := by decide +kernel
set_option maxRecDepth 20000 in
theorem ggX11_measure_X11_isProduct : GoodIn wsX11_measure wsX11_isProduct := goodIn_r _ [5, 6, 76, 77, 78, 79, 80, 81, 82, 83, 84, 85] (by decide +kernel) (by decide +kernel)
set_option maxRecDepth 20000 in
theorem gX11_measure_X11_isProduct : GoodIn wsX11_measure (wsV RX11 40 RX11 yX11_isProduct wsX11_isProduct) := goodIn_app (goodIn_of _ (by decide +kernel)) ggX11_measure_X11_isProduct
set_option maxRecDepth 20000 in
theorem ggX11_measure_X11_isIn : GoodIn wsX11_measure wsX11_isIn := goodIn_r _ [9] (by decide +kernel) (by decide +kernel)
set_option maxRecDepth 20000 in
theorem gX11_measure_X11_isIn : GoodIn wsX11_measure (va_wsS RX11 29 yX11_isIn wsX11_isIn) := goodIn_app (goodIn_of _ (by decide +kernel)) ggX11_measure_X11_isIn
set_option maxRecDepth 20000 in
theorem ggX11_measure_X11_finding : GoodIn wsX11_measure wsX11_finding := goodIn_r _ [13, 14, 76, 77, 78, 79, 80, 81, 82, 83, 84, 85] (by decide +kernel) (by decide +kernel)
set_option maxRecDepth 20000 in
theorem gX11_measure_X11_finding : GoodIn wsX11_measure (wsV RX11 33 RX11 yX11_finding wsX11_finding) := goodIn_app (goodIn_of _ (by decide +kernel)) ggX11_measure_X11_finding
set_option maxRecDepth 20000 in
theorem ggX11_measure_X11_tellHad : GoodIn wsX11_measure wsX11_tellHad := goodIn_r _ [18, 19, 6, 20, 21, 22, 4, 23, 24, 25, 26, 27, 28, 29, 30, 31, 32, 33, 34, 35, 36, 37, 38, 39, 40, 41, 42, 43, 44, 45, 46, 47, 48, 49, 50, 51, 52, 53, 54, 55, 76, 77, 78, 79, 80, 81, 82, 83, 84, 85] (by decide +kernel) (by decide +kernel)
set_option maxRecDepth 20000 in
theorem gX11_measure_X11_tellHad : GoodIn wsX11_measure (wsV RX11 93 RX11 yX11_tellHad wsX11_tellHad) := goodIn_app (goodIn_of _ (by decide +kernel)) ggX11_measure_X11_tellHad
set_option maxRecDepth 20000 in
theorem ggX11_measure_X11_measureOf : GoodIn wsX11_measure wsX11_measureOf := goodIn_r _ [59, 6, 19, 60, 61, 62, 4, 63, 64, 65, 66, 67, 68, 69, 70, 71, 72, 73, 74, 75, 76, 77, 78, 79, 80, 81, 82, 83, 84, 85] (by decide +kernel) (by decide +kernel)
set_option maxRecDepth 20000 in
theorem gX11_measure_X11_measureOf : GoodIn wsX11_measure (wsV RX11 99 RX11 yX11_measureOf wsX11_measureOf) := goodIn_app (goodIn_of _ (by decide +kernel)) ggX11_measure_X11_measureOf
theorem dX11_measure_0 : decode cX11_measure 0 = .ok (.aload_n 0, 1) := by decide +kernel
theorem dX11_measure_1 : decode cX11_measure 1 = .ok (.iload_n 1, 1) := by decide +kernel
theorem dX11_measure_2 : decode cX11_measure 2 = .ok (.invokevirtual 40, 3) := by decide +kernel
theorem dX11_measure_5 : decode cX11_measure 5 = .ok (.ifCond .eq 12, 3) := by decide +kernel
theorem dX11_measure_8 : decode cX11_measure 8 = .ok (.iload_n 2, 1) := by decide +kernel
theorem dX11_measure_9 : decode cX11_measure 9 = .ok (.iconst 0, 1) := by decide +kernel
theorem dX11_measure_10 : decode cX11_measure 10 = .ok (.iconst 3, 1) := by decide +kernel
theorem dX11_measure_11 : decode cX11_measure 11 = .ok (.invokestatic 29, 3) := by decide +kernel
theorem dX11_measure_14 : decode cX11_measure 14 = .ok (.ifCond .ne 9, 3) := by decide +kernel
theorem dX11_measure_17 : decode cX11_measure 17 = .ok (.aload_n 0, 1) := by decide +kernel
theorem dX11_measure_18 : decode cX11_measure 18 = .ok (.iconst (-1), 1) := by decide +kernel
theorem dX11_measure_19 : decode cX11_measure 19 = .ok (.invokevirtual 33, 3) := by decide +kernel
theorem dX11_measure_22 : decode cX11_measure 22 = .ok (.ireturn, 1) := by decide +kernel
theorem dX11_measure_23 : decode cX11_measure 23 = .ok (.aload_n 0, 1) := by decide +kernel
theorem dX11_measure_24 : decode cX11_measure 24 = .ok (.invokevirtual 93, 3) := by decide +kernel
theorem dX11_measure_27 : decode cX11_measure 27 = .ok (.aload_n 0, 1) := by decide +kernel
theorem dX11_measure_28 : decode cX11_measure 28 = .ok (.iload_n 1, 1) := by decide +kernel
theorem dX11_measure_29 : decode cX11_measure 29 = .ok (.iload_n 2, 1) := by decide +kernel
theorem dX11_measure_30 : decode cX11_measure 30 = .ok (.invokevirtual 99, 3) := by decide +kernel
theorem dX11_measure_33 : decode cX11_measure 33 = .ok (.ireturn, 1) := by decide +kernel
set_option maxRecDepth 20000 in
theorem ggX11_all_X11_isIn : GoodIn wsX11_all wsX11_isIn := goodIn_r _ [5] (by decide +kernel) (by decide +kernel)
set_option maxRecDepth 20000 in
theorem gX11_all_X11_isIn : GoodIn wsX11_all (va_wsS RX11 29 yX11_isIn wsX11_isIn) := goodIn_app (goodIn_of _ (by decide +kernel)) ggX11_all_X11_isIn
set_option maxRecDepth 20000 in
theorem ggX11_all_X11_finding : GoodIn wsX11_all wsX11_finding := goodIn_r _ [9, 10, 72, 73, 74, 75, 76, 77, 78, 79, 80, 81] (by decide +kernel) (by decide +kernel)
set_option maxRecDepth 20000 in
theorem gX11_all_X11_finding : GoodIn wsX11_all (wsV RX11 33 RX11 yX11_finding wsX11_finding) := goodIn_app (goodIn_of _ (by decide +kernel)) ggX11_all_X11_finding
set_option maxRecDepth 20000 in
theorem ggX11_all_X11_tellHad : GoodIn wsX11_all wsX11_tellHad := goodIn_r _ [14, 15, 1, 16, 17, 18, 4, 19, 20, 21, 22, 23, 24, 25, 26, 27, 28, 29, 30, 31, 32, 33, 34, 35, 36, 37, 38, 39, 40, 41, 42, 43, 44, 45, 46, 47, 48, 49, 50, 51, 72, 73, 74, 75, 76, 77, 78, 79, 80, 81] (by decide +kernel) (by decide +kernel)
set_option maxRecDepth 20000 in
theorem gX11_all_X11_tellHad : GoodIn wsX11_all (wsV RX11 93 RX11 yX11_tellHad wsX11_tellHad) := goodIn_app (goodIn_of _ (by decide +kernel)) ggX11_all_X11_tellHad
set_option maxRecDepth 20000 in
theorem ggX11_all_X11_measureOf : GoodIn wsX11_all wsX11_measureOf := goodIn_r _ [55, 1, 15, 56, 57, 58, 4, 59, 60, 61, 62, 63, 64, 65, 66, 67, 68, 69, 70, 71, 72, 73, 74, 75, 76, 77, 78, 79, 80, 81] (by decide +kernel) (by decide +kernel)
set_option maxRecDepth 20000 in
theorem gX11_all_X11_measureOf : GoodIn wsX11_all (wsV RX11 99 RX11 yX11_measureOf wsX11_measureOf) := goodIn_app (goodIn_of _ (by decide +kernel)) ggX11_all_X11_measureOf
theorem dX11_all_0 : decode cX11_all 0 = .ok (.iload_n 1, 1) := by decide +kernel
theorem dX11_all_1 : decode cX11_all 1 = .ok (.iconst 0, 1) := by decide +kernel
theorem dX11_all_2 : decode cX11_all 2 = .ok (.iconst 3, 1) := by decide +kernel
theorem dX11_all_3 : decode cX11_all 3 = .ok (.invokestatic 29, 3) := by decide +kernel
theorem dX11_all_6 : decode cX11_all 6 = .ok (.ifCond .ne 9, 3) := by decide +kernel
theorem dX11_all_9 : decode cX11_all 9 = .ok (.aload_n 0, 1) := by decide +kernel
theorem dX11_all_10 : decode cX11_all 10 = .ok (.iconst (-1), 1) := by decide +kernel
theorem dX11_all_11 : decode cX11_all 11 = .ok (.invokevirtual 33, 3) := by decide +kernel
theorem dX11_all_14 : decode cX11_all 14 = .ok (.ireturn, 1) := by decide +kernel
theorem dX11_all_15 : decode cX11_all 15 = .ok (.aload_n 0, 1) := by decide +kernel
theorem dX11_all_16 : decode cX11_all 16 = .ok (.invokevirtual 93, 3) := by decide +kernel
theorem dX11_all_19 : decode cX11_all 19 = .ok (.iconst 0, 1) := by decide +kernel
theorem dX11_all_20 : decode cX11_all 20 = .ok (.istore_n 2, 1) := by decide +kernel
theorem dX11_all_21 : decode cX11_all 21 = .ok (.iconst 0, 1) := by decide +kernel
theorem dX11_all_22 : decode cX11_all 22 = .ok (.istore_n 3, 1) := by decide +kernel
theorem dX11_all_23 : decode cX11_all 23 = .ok (.iload_n 3, 1) := by decide +kernel
theorem dX11_all_24 : decode cX11_all 24 = .ok (.aload_n 0, 1) := by decide +kernel
theorem dX11_all_25 : decode cX11_all 25 = .ok (.getfield 13, 3) := by decide +kernel
theorem dX11_all_28 : decode cX11_all 28 = .ok (.iconst 0, 1) := by decide +kernel
theorem dX11_all_29 : decode cX11_all 29 = .ok (.iaload, 1) := by decide +kernel
theorem dX11_all_30 : decode cX11_all 30 = .ok (.if_icmp .ge 18, 3) := by decide +kernel
theorem dX11_all_33 : decode cX11_all 33 = .ok (.iload_n 2, 1) := by decide +kernel
theorem dX11_all_34 : decode cX11_all 34 = .ok (.aload_n 0, 1) := by decide +kernel
theorem dX11_all_35 : decode cX11_all 35 = .ok (.iload_n 3, 1) := by decide +kernel
theorem dX11_all_36 : decode cX11_all 36 = .ok (.iload_n 1, 1) := by decide +kernel
theorem dX11_all_37 : decode cX11_all 37 = .ok (.invokevirtual 99, 3) := by decide +kernel
theorem dX11_all_40 : decode cX11_all 40 = .ok (.iadd, 1) := by decide +kernel
theorem dX11_all_41 : decode cX11_all 41 = .ok (.istore_n 2, 1) := by decide +kernel
theorem dX11_all_42 : decode cX11_all 42 = .ok (.iinc 3 1, 3) := by decide +kernel
theorem dX11_all_45 : decode cX11_all 45 = .ok (.goto (-22), 3) := by decide +kernel
theorem dX11_all_48 : decode cX11_all 48 = .ok (.iload_n 2, 1) := by decide +kernel
theorem dX11_all_49 : decode cX11_all 49 = .ok (.ireturn, 1) := by decide +kernel
set_option maxRecDepth 20000 in
theorem ggX11_use_X11_isIn : GoodIn wsX11_use wsX11_isIn := goodIn_r _ [5] (by decide +kernel) (by decide +kernel)
set_option maxRecDepth 20000 in
theorem gX11_use_X11_isIn : GoodIn wsX11_use (va_wsS RX11 29 yX11_isIn wsX11_isIn) := goodIn_app (goodIn_of _ (by decide +kernel)) ggX11_use_X11_isIn
set_option maxRecDepth 20000 in
theorem ggX11_use_X11_isProduct : GoodIn wsX11_use wsX11_isProduct := goodIn_r _ [9, 1, 15, 16, 17, 18, 19, 20, 21, 22, 23, 24] (by decide +kernel) (by decide +kernel)
set_option maxRecDepth 20000 in
theorem gX11_use_X11_isProduct : GoodIn wsX11_use (wsV RX11 40 RX11 yX11_isProduct wsX11_isProduct) := goodIn_app (goodIn_of _ (by decide +kernel)) ggX11_use_X11_isProduct
set_option maxRecDepth 20000 in
theorem ggX11_use_X11_finding : GoodIn wsX11_use wsX11_finding := goodIn_r _ [13, 14, 15, 16, 17, 18, 19, 20, 21, 22, 23, 24] (by decide +kernel) (by decide +kernel)
set_option maxRecDepth 20000 in
theorem gX11_use_X11_finding : GoodIn wsX11_use (wsV RX11 33 RX11 yX11_finding wsX11_finding) := goodIn_app (goodIn_of _ (by decide +kernel)) ggX11_use_X11_finding
theorem dX11_use_0 : decode cX11_use 0 = .ok (.iload_n 1, 1) := by decide +kernel
theorem dX11_use_1 : decode cX11_use 1 = .ok (.iconst 0, 1) := by decide +kernel
theorem dX11_use_2 : decode cX11_use 2 = .ok (.bipush 9, 2) := by decide +kernel
theorem dX11_use_4 : decode cX11_use 4 = .ok (.invokestatic 29, 3) := by decide +kernel
theorem dX11_use_7 : decode cX11_use 7 = .ok (.ifCond .eq 40, 3) := by decide +kernel
theorem dX11_use_10 : decode cX11_use 10 = .ok (.aload_n 0, 1) := by decide +kernel
theorem dX11_use_11 : decode cX11_use 11 = .ok (.iload_n 2, 1) := by decide +kernel
theorem dX11_use_12 : decode cX11_use 12 = .ok (.invokevirtual 40, 3) := by decide +kernel
theorem dX11_use_15 : decode cX11_use 15 = .ok (.ifCond .eq 32, 3) := by decide +kernel
theorem dX11_use_18 : decode cX11_use 18 = .ok (.iload_n 3, 1) := by decide +kernel
theorem dX11_use_19 : decode cX11_use 19 = .ok (.iconst 0, 1) := by decide +kernel
theorem dX11_use_20 : decode cX11_use 20 = .ok (.sipush 999, 3) := by decide +kernel
theorem dX11_use_23 : decode cX11_use 23 = .ok (.invokestatic 29, 3) := by decide +kernel
theorem dX11_use_26 : decode cX11_use 26 = .ok (.ifCond .eq 21, 3) := by decide +kernel
theorem dX11_use_29 : decode cX11_use 29 = .ok (.iload 4, 2) := by decide +kernel
theorem dX11_use_31 : decode cX11_use 31 = .ok (.iconst 0, 1) := by decide +kernel
theorem dX11_use_32 : decode cX11_use 32 = .ok (.sipush 999, 3) := by decide +kernel
theorem dX11_use_35 : decode cX11_use 35 = .ok (.invokestatic 29, 3) := by decide +kernel
theorem dX11_use_38 : decode cX11_use 38 = .ok (.ifCond .eq 9, 3) := by decide +kernel
theorem dX11_use_41 : decode cX11_use 41 = .ok (.iload_n 3, 1) := by decide +kernel
theorem dX11_use_42 : decode cX11_use 42 = .ok (.iload 4, 2) := by decide +kernel
theorem dX11_use_44 : decode cX11_use 44 = .ok (.if_icmp .lt 9, 3) := by decide +kernel
theorem dX11_use_47 : decode cX11_use 47 = .ok (.aload_n 0, 1) := by decide +kernel
theorem dX11_use_48 : decode cX11_use 48 = .ok (.iconst (-1), 1) := by decide +kernel
theorem dX11_use_49 : decode cX11_use 49 = .ok (.invokevirtual 33, 3) := by decide +kernel
theorem dX11_use_52 : decode cX11_use 52 = .ok (.ireturn, 1) := by decide +kernel
theorem dX11_use_53 : decode cX11_use 53 = .ok (.aload_n 0, 1) := by decide +kernel
theorem dX11_use_54 : decode cX11_use 54 = .ok (.getfield 13, 3) := by decide +kernel
theorem dX11_use_57 : decode cX11_use 57 = .ok (.iconst 4, 1) := by decide +kernel
theorem dX11_use_58 : decode cX11_use 58 = .ok (.iaload, 1) := by decide +kernel
theorem dX11_use_59 : decode cX11_use 59 = .ok (.istore 5, 2) := by decide +kernel
theorem dX11_use_61 : decode cX11_use 61 = .ok (.iload 5, 2) := by decide +kernel
theorem dX11_use_63 : decode cX11_use 63 = .ok (.bipush 30, 2) := by decide +kernel
theorem dX11_use_65 : decode cX11_use 65 = .ok (.if_icmp .ne 10, 3) := by decide +kernel
theorem dX11_use_68 : decode cX11_use 68 = .ok (.aload_n 0, 1) := by decide +kernel
theorem dX11_use_69 : decode cX11_use 69 = .ok (.bipush (-3), 2) := by decide +kernel
theorem dX11_use_71 : decode cX11_use 71 = .ok (.invokevirtual 33, 3) := by decide +kernel
theorem dX11_use_74 : decode cX11_use 74 = .ok (.ireturn, 1) := by decide +kernel
theorem dX11_use_75 : decode cX11_use 75 = .ok (.sipush 934, 3) := by decide +kernel
theorem dX11_use_78 : decode cX11_use 78 = .ok (.iconst 4, 1) := by decide +kernel
theorem dX11_use_79 : decode cX11_use 79 = .ok (.iload 5, 2) := by decide +kernel
theorem dX11_use_81 : decode cX11_use 81 = .ok (.imul, 1) := by decide +kernel
theorem dX11_use_82 : decode cX11_use 82 = .ok (.iadd, 1) := by decide +kernel
theorem dX11_use_83 : decode cX11_use 83 = .ok (.istore 6, 2) := by decide +kernel
theorem dX11_use_85 : decode cX11_use 85 = .ok (.aload_n 0, 1) := by decide +kernel
theorem dX11_use_86 : decode cX11_use 86 = .ok (.getfield 13, 3) := by decide +kernel
theorem dX11_use_89 : decode cX11_use 89 = .ok (.iload 6, 2) := by decide +kernel
theorem dX11_use_91 : decode cX11_use 91 = .ok (.iload_n 1, 1) := by decide +kernel
theorem dX11_use_92 : decode cX11_use 92 = .ok (.iastore, 1) := by decide +kernel
theorem dX11_use_93 : decode cX11_use 93 = .ok (.aload_n 0, 1) := by decide +kernel
theorem dX11_use_94 : decode cX11_use 94 = .ok (.getfield 13, 3) := by decide +kernel
theorem dX11_use_97 : decode cX11_use 97 = .ok (.iload 6, 2) := by decide +kernel
theorem dX11_use_99 : decode cX11_use 99 = .ok (.iconst 1, 1) := by decide +kernel
theorem dX11_use_100 : decode cX11_use 100 = .ok (.iadd, 1) := by decide +kernel
theorem dX11_use_101 : decode cX11_use 101 = .ok (.iload_n 2, 1) := by decide +kernel
theorem dX11_use_102 : decode cX11_use 102 = .ok (.iastore, 1) := by decide +kernel
theorem dX11_use_103 : decode cX11_use 103 = .ok (.aload_n 0, 1) := by decide +kernel
theorem dX11_use_104 : decode cX11_use 104 = .ok (.getfield 13, 3) := by decide +kernel
theorem dX11_use_107 : decode cX11_use 107 = .ok (.iload 6, 2) := by decide +kernel
theorem dX11_use_109 : decode cX11_use 109 = .ok (.iconst 2, 1) := by decide +kernel
theorem dX11_use_110 : decode cX11_use 110 = .ok (.iadd, 1) := by decide +kernel
theorem dX11_use_111 : decode cX11_use 111 = .ok (.iload_n 3, 1) := by decide +kernel
theorem dX11_use_112 : decode cX11_use 112 = .ok (.iastore, 1) := by decide +kernel
theorem dX11_use_113 : decode cX11_use 113 = .ok (.aload_n 0, 1) := by decide +kernel
theorem dX11_use_114 : decode cX11_use 114 = .ok (.getfield 13, 3) := by decide +kernel
theorem dX11_use_117 : decode cX11_use 117 = .ok (.iload 6, 2) := by decide +kernel
theorem dX11_use_119 : decode cX11_use 119 = .ok (.iconst 3, 1) := by decide +kernel
theorem dX11_use_120 : decode cX11_use 120 = .ok (.iadd, 1) := by decide +kernel
theorem dX11_use_121 : decode cX11_use 121 = .ok (.iload 4, 2) := by decide +kernel
theorem dX11_use_123 : decode cX11_use 123 = .ok (.iastore, 1) := by decide +kernel
theorem dX11_use_124 : decode cX11_use 124 = .ok (.aload_n 0, 1) := by decide +kernel
theorem dX11_use_125 : decode cX11_use 125 = .ok (.getfield 13, 3) := by decide +kernel
theorem dX11_use_128 : decode cX11_use 128 = .ok (.iconst 4, 1) := by decide +kernel
theorem dX11_use_129 : decode cX11_use 129 = .ok (.dup2, 1) := by decide +kernel
theorem dX11_use_130 : decode cX11_use 130 = .ok (.iaload, 1) := by decide +kernel
theorem dX11_use_131 : decode cX11_use 131 = .ok (.iconst 1, 1) := by decide +kernel
theorem dX11_use_132 : decode cX11_use 132 = .ok (.iadd, 1) := by decide +kernel
theorem dX11_use_133 : decode cX11_use 133 = .ok (.iastore, 1) := by decide +kernel
theorem dX11_use_134 : decode cX11_use 134 = .ok (.iload 5, 2) := by decide +kernel
theorem dX11_use_136 : decode cX11_use 136 = .ok (.ireturn, 1) := by decide +kernel
set_option maxRecDepth 20000 in
theorem ggX11_usesAt_X11_useAt : GoodIn wsX11_usesAt wsX11_useAt := goodIn_r _ [6, 1, 7, 8, 9, 10, 11, 12, 13, 14, 15, 16] (by decide +kernel) (by decide +kernel)
set_option maxRecDepth 20000 in
theorem gX11_usesAt_X11_useAt : GoodIn wsX11_usesAt (wsV RX11 102 RX11 yX11_useAt wsX11_useAt) := goodIn_app (goodIn_of _ (by decide +kernel)) ggX11_usesAt_X11_useAt
theorem dX11_usesAt_0 : decode cX11_usesAt 0 = .ok (.iconst 0, 1) := by decide +kernel
theorem dX11_usesAt_1 : decode cX11_usesAt 1 = .ok (.istore_n 3, 1) := by decide +kernel
theorem dX11_usesAt_2 : decode cX11_usesAt 2 = .ok (.iconst 0, 1) := by decide +kernel
theorem dX11_usesAt_3 : decode cX11_usesAt 3 = .ok (.istore 4, 2) := by decide +kernel
theorem dX11_usesAt_5 : decode cX11_usesAt 5 = .ok (.iload 4, 2) := by decide +kernel
theorem dX11_usesAt_7 : decode cX11_usesAt 7 = .ok (.aload_n 0, 1) := by decide +kernel
theorem dX11_usesAt_8 : decode cX11_usesAt 8 = .ok (.getfield 13, 3) := by decide +kernel
theorem dX11_usesAt_11 : decode cX11_usesAt 11 = .ok (.iconst 4, 1) := by decide +kernel
theorem dX11_usesAt_12 : decode cX11_usesAt 12 = .ok (.iaload, 1) := by decide +kernel
theorem dX11_usesAt_13 : decode cX11_usesAt 13 = .ok (.if_icmp .ge 50, 3) := by decide +kernel
theorem dX11_usesAt_16 : decode cX11_usesAt 16 = .ok (.iload_n 3, 1) := by decide +kernel
theorem dX11_usesAt_17 : decode cX11_usesAt 17 = .ok (.aload_n 0, 1) := by decide +kernel
theorem dX11_usesAt_18 : decode cX11_usesAt 18 = .ok (.iload 4, 2) := by decide +kernel
theorem dX11_usesAt_20 : decode cX11_usesAt 20 = .ok (.iconst 1, 1) := by decide +kernel
theorem dX11_usesAt_21 : decode cX11_usesAt 21 = .ok (.invokevirtual 102, 3) := by decide +kernel
theorem dX11_usesAt_24 : decode cX11_usesAt 24 = .ok (.iload_n 1, 1) := by decide +kernel
theorem dX11_usesAt_25 : decode cX11_usesAt 25 = .ok (.if_icmp .ne 29, 3) := by decide +kernel
theorem dX11_usesAt_28 : decode cX11_usesAt 28 = .ok (.aload_n 0, 1) := by decide +kernel
theorem dX11_usesAt_29 : decode cX11_usesAt 29 = .ok (.iload 4, 2) := by decide +kernel
theorem dX11_usesAt_31 : decode cX11_usesAt 31 = .ok (.iconst 2, 1) := by decide +kernel
theorem dX11_usesAt_32 : decode cX11_usesAt 32 = .ok (.invokevirtual 102, 3) := by decide +kernel
theorem dX11_usesAt_35 : decode cX11_usesAt 35 = .ok (.iload_n 2, 1) := by decide +kernel
theorem dX11_usesAt_36 : decode cX11_usesAt 36 = .ok (.if_icmp .gt 18, 3) := by decide +kernel
theorem dX11_usesAt_39 : decode cX11_usesAt 39 = .ok (.iload_n 2, 1) := by decide +kernel
theorem dX11_usesAt_40 : decode cX11_usesAt 40 = .ok (.aload_n 0, 1) := by decide +kernel
theorem dX11_usesAt_41 : decode cX11_usesAt 41 = .ok (.iload 4, 2) := by decide +kernel
theorem dX11_usesAt_43 : decode cX11_usesAt 43 = .ok (.iconst 3, 1) := by decide +kernel
theorem dX11_usesAt_44 : decode cX11_usesAt 44 = .ok (.invokevirtual 102, 3) := by decide +kernel
theorem dX11_usesAt_47 : decode cX11_usesAt 47 = .ok (.if_icmp .ge 7, 3) := by decide +kernel
theorem dX11_usesAt_50 : decode cX11_usesAt 50 = .ok (.iconst 1, 1) := by decide +kernel
theorem dX11_usesAt_51 : decode cX11_usesAt 51 = .ok (.goto 4, 3) := by decide +kernel
theorem dX11_usesAt_54 : decode cX11_usesAt 54 = .ok (.iconst 0, 1) := by decide +kernel
theorem dX11_usesAt_55 : decode cX11_usesAt 55 = .ok (.iadd, 1) := by decide +kernel
theorem dX11_usesAt_56 : decode cX11_usesAt 56 = .ok (.istore_n 3, 1) := by decide +kernel
theorem dX11_usesAt_57 : decode cX11_usesAt 57 = .ok (.iinc 4 1, 3) := by decide +kernel
theorem dX11_usesAt_60 : decode cX11_usesAt 60 = .ok (.goto (-55), 3) := by decide +kernel
theorem dX11_usesAt_63 : decode cX11_usesAt 63 = .ok (.iload_n 3, 1) := by decide +kernel
theorem dX11_usesAt_64 : decode cX11_usesAt 64 = .ok (.ireturn, 1) := by decide +kernel
set_option maxRecDepth 20000 in
theorem ggX11_mostUses_X11_usesAt : GoodIn wsX11_mostUses wsX11_usesAt := goodIn_r _ [5, 6, 7, 8, 9, 4, 10, 11, 12, 13, 14, 15, 16, 17, 18, 19, 20] (by decide +kernel) (by decide +kernel)
set_option maxRecDepth 20000 in
theorem gX11_mostUses_X11_usesAt : GoodIn wsX11_mostUses (wsV RX11 105 RX11 yX11_usesAt wsX11_usesAt) := goodIn_app (goodIn_of _ (by decide +kernel)) ggX11_mostUses_X11_usesAt
theorem dX11_mostUses_0 : decode cX11_mostUses 0 = .ok (.iconst 0, 1) := by decide +kernel
theorem dX11_mostUses_1 : decode cX11_mostUses 1 = .ok (.istore_n 2, 1) := by decide +kernel
theorem dX11_mostUses_2 : decode cX11_mostUses 2 = .ok (.iconst 0, 1) := by decide +kernel
theorem dX11_mostUses_3 : decode cX11_mostUses 3 = .ok (.istore_n 3, 1) := by decide +kernel
theorem dX11_mostUses_4 : decode cX11_mostUses 4 = .ok (.iload_n 3, 1) := by decide +kernel
theorem dX11_mostUses_5 : decode cX11_mostUses 5 = .ok (.sipush 1000, 3) := by decide +kernel
theorem dX11_mostUses_8 : decode cX11_mostUses 8 = .ok (.if_icmp .ge 30, 3) := by decide +kernel
theorem dX11_mostUses_11 : decode cX11_mostUses 11 = .ok (.aload_n 0, 1) := by decide +kernel
theorem dX11_mostUses_12 : decode cX11_mostUses 12 = .ok (.iload_n 1, 1) := by decide +kernel
theorem dX11_mostUses_13 : decode cX11_mostUses 13 = .ok (.iload_n 3, 1) := by decide +kernel
theorem dX11_mostUses_14 : decode cX11_mostUses 14 = .ok (.invokevirtual 105, 3) := by decide +kernel
theorem dX11_mostUses_17 : decode cX11_mostUses 17 = .ok (.istore 4, 2) := by decide +kernel
theorem dX11_mostUses_19 : decode cX11_mostUses 19 = .ok (.iload 4, 2) := by decide +kernel
theorem dX11_mostUses_21 : decode cX11_mostUses 21 = .ok (.iload_n 2, 1) := by decide +kernel
theorem dX11_mostUses_22 : decode cX11_mostUses 22 = .ok (.if_icmp .le 8, 3) := by decide +kernel
theorem dX11_mostUses_25 : decode cX11_mostUses 25 = .ok (.iload 4, 2) := by decide +kernel
theorem dX11_mostUses_27 : decode cX11_mostUses 27 = .ok (.goto 4, 3) := by decide +kernel
theorem dX11_mostUses_30 : decode cX11_mostUses 30 = .ok (.iload_n 2, 1) := by decide +kernel
theorem dX11_mostUses_31 : decode cX11_mostUses 31 = .ok (.istore_n 2, 1) := by decide +kernel
theorem dX11_mostUses_32 : decode cX11_mostUses 32 = .ok (.iinc 3 1, 3) := by decide +kernel
theorem dX11_mostUses_35 : decode cX11_mostUses 35 = .ok (.goto (-31), 3) := by decide +kernel
theorem dX11_mostUses_38 : decode cX11_mostUses 38 = .ok (.iload_n 2, 1) := by decide +kernel
theorem dX11_mostUses_39 : decode cX11_mostUses 39 = .ok (.ireturn, 1) := by decide +kernel
set_option maxRecDepth 20000 in
theorem ggX11_at_X11_isProduct : GoodIn wsX11_at wsX11_isProduct := goodIn_r _ [5, 6, 23, 24, 25, 26, 27, 28, 29, 30, 31, 32] (by decide +kernel) (by decide +kernel)
set_option maxRecDepth 20000 in
theorem gX11_at_X11_isProduct : GoodIn wsX11_at (wsV RX11 40 RX11 yX11_isProduct wsX11_isProduct) := goodIn_app (goodIn_of _ (by decide +kernel)) ggX11_at_X11_isProduct
set_option maxRecDepth 20000 in
theorem ggX11_at_X11_isIn : GoodIn wsX11_at wsX11_isIn := goodIn_r _ [9] (by decide +kernel) (by decide +kernel)
set_option maxRecDepth 20000 in
theorem gX11_at_X11_isIn : GoodIn wsX11_at (va_wsS RX11 29 yX11_isIn wsX11_isIn) := goodIn_app (goodIn_of _ (by decide +kernel)) ggX11_at_X11_isIn
set_option maxRecDepth 20000 in
theorem ggX11_at_X11_usesAt : GoodIn wsX11_at wsX11_usesAt := goodIn_r _ [13, 6, 14, 15, 16, 4, 17, 23, 24, 25, 26, 27, 28, 29, 30, 31, 32] (by decide +kernel) (by decide +kernel)
set_option maxRecDepth 20000 in
theorem gX11_at_X11_usesAt : GoodIn wsX11_at (wsV RX11 105 RX11 yX11_usesAt wsX11_usesAt) := goodIn_app (goodIn_of _ (by decide +kernel)) ggX11_at_X11_usesAt
set_option maxRecDepth 20000 in
theorem ggX11_at_X11_finding : GoodIn wsX11_at wsX11_finding := goodIn_r _ [21, 22, 23, 24, 25, 26, 27, 28, 29, 30, 31, 32] (by decide +kernel) (by decide +kernel)
set_option maxRecDepth 20000 in
theorem gX11_at_X11_finding : GoodIn wsX11_at (wsV RX11 33 RX11 yX11_finding wsX11_finding) := goodIn_app (goodIn_of _ (by decide +kernel)) ggX11_at_X11_finding
theorem dX11_at_0 : decode cX11_at 0 = .ok (.aload_n 0, 1) := by decide +kernel
theorem dX11_at_1 : decode cX11_at 1 = .ok (.iload_n 1, 1) := by decide +kernel
theorem dX11_at_2 : decode cX11_at 2 = .ok (.invokevirtual 40, 3) := by decide +kernel
theorem dX11_at_5 : decode cX11_at 5 = .ok (.ifCond .eq 23, 3) := by decide +kernel
theorem dX11_at_8 : decode cX11_at 8 = .ok (.iload_n 2, 1) := by decide +kernel
theorem dX11_at_9 : decode cX11_at 9 = .ok (.iconst 0, 1) := by decide +kernel
theorem dX11_at_10 : decode cX11_at 10 = .ok (.sipush 999, 3) := by decide +kernel
theorem dX11_at_13 : decode cX11_at 13 = .ok (.invokestatic 29, 3) := by decide +kernel
theorem dX11_at_16 : decode cX11_at 16 = .ok (.ifCond .eq 12, 3) := by decide +kernel
theorem dX11_at_19 : decode cX11_at 19 = .ok (.aload_n 0, 1) := by decide +kernel
theorem dX11_at_20 : decode cX11_at 20 = .ok (.iload_n 1, 1) := by decide +kernel
theorem dX11_at_21 : decode cX11_at 21 = .ok (.iload_n 2, 1) := by decide +kernel
theorem dX11_at_22 : decode cX11_at 22 = .ok (.invokevirtual 105, 3) := by decide +kernel
theorem dX11_at_25 : decode cX11_at 25 = .ok (.goto 8, 3) := by decide +kernel
theorem dX11_at_28 : decode cX11_at 28 = .ok (.aload_n 0, 1) := by decide +kernel
theorem dX11_at_29 : decode cX11_at 29 = .ok (.iconst (-1), 1) := by decide +kernel
theorem dX11_at_30 : decode cX11_at 30 = .ok (.invokevirtual 33, 3) := by decide +kernel
theorem dX11_at_33 : decode cX11_at 33 = .ok (.ireturn, 1) := by decide +kernel
set_option maxRecDepth 20000 in
theorem ggX11_peak_X11_isProduct : GoodIn wsX11_peak wsX11_isProduct := goodIn_r _ [5, 6, 24, 25, 26, 27, 28, 29, 30, 31, 32, 33] (by decide +kernel) (by decide +kernel)
set_option maxRecDepth 20000 in
theorem gX11_peak_X11_isProduct : GoodIn wsX11_peak (wsV RX11 40 RX11 yX11_isProduct wsX11_isProduct) := goodIn_app (goodIn_of _ (by decide +kernel)) ggX11_peak_X11_isProduct
set_option maxRecDepth 20000 in
theorem ggX11_peak_X11_finding : GoodIn wsX11_peak wsX11_finding := goodIn_r _ [10, 11, 24, 25, 26, 27, 28, 29, 30, 31, 32, 33] (by decide +kernel) (by decide +kernel)
set_option maxRecDepth 20000 in
theorem gX11_peak_X11_finding : GoodIn wsX11_peak (wsV RX11 33 RX11 yX11_finding wsX11_finding) := goodIn_app (goodIn_of _ (by decide +kernel)) ggX11_peak_X11_finding
set_option maxRecDepth 20000 in
theorem ggX11_peak_X11_mostUses : GoodIn wsX11_peak wsX11_mostUses := goodIn_r _ [15, 16, 17, 18, 4, 19, 6, 20, 21, 22, 23, 24, 25, 26, 27, 28, 29, 30, 31, 32, 33] (by decide +kernel) (by decide +kernel)
set_option maxRecDepth 20000 in
theorem gX11_peak_X11_mostUses : GoodIn wsX11_peak (wsV RX11 96 RX11 yX11_mostUses wsX11_mostUses) := goodIn_app (goodIn_of _ (by decide +kernel)) ggX11_peak_X11_mostUses
set_option maxRecDepth 20000 in
theorem ggX11_peak_X11_usesAt : GoodIn wsX11_peak wsX11_usesAt := goodIn_r _ [19, 6, 20, 21, 22, 4, 23, 24, 25, 26, 27, 28, 29, 30, 31, 32, 33] (by decide +kernel) (by decide +kernel)
set_option maxRecDepth 20000 in
theorem gX11_peak_X11_usesAt : GoodIn wsX11_peak (wsV RX11 105 RX11 yX11_usesAt wsX11_usesAt) := goodIn_app (goodIn_of _ (by decide +kernel)) ggX11_peak_X11_usesAt
theorem dX11_peak_0 : decode cX11_peak 0 = .ok (.aload_n 0, 1) := by decide +kernel
theorem dX11_peak_1 : decode cX11_peak 1 = .ok (.iload_n 1, 1) := by decide +kernel
theorem dX11_peak_2 : decode cX11_peak 2 = .ok (.invokevirtual 40, 3) := by decide +kernel
theorem dX11_peak_5 : decode cX11_peak 5 = .ok (.ifCond .ne 9, 3) := by decide +kernel
theorem dX11_peak_8 : decode cX11_peak 8 = .ok (.aload_n 0, 1) := by decide +kernel
theorem dX11_peak_9 : decode cX11_peak 9 = .ok (.iconst (-1), 1) := by decide +kernel
theorem dX11_peak_10 : decode cX11_peak 10 = .ok (.invokevirtual 33, 3) := by decide +kernel
theorem dX11_peak_13 : decode cX11_peak 13 = .ok (.ireturn, 1) := by decide +kernel
theorem dX11_peak_14 : decode cX11_peak 14 = .ok (.aload_n 0, 1) := by decide +kernel
theorem dX11_peak_15 : decode cX11_peak 15 = .ok (.iload_n 1, 1) := by decide +kernel
theorem dX11_peak_16 : decode cX11_peak 16 = .ok (.invokevirtual 96, 3) := by decide +kernel
theorem dX11_peak_19 : decode cX11_peak 19 = .ok (.istore_n 2, 1) := by decide +kernel
theorem dX11_peak_20 : decode cX11_peak 20 = .ok (.iload_n 2, 1) := by decide +kernel
theorem dX11_peak_21 : decode cX11_peak 21 = .ok (.ifCond .ne 10, 3) := by decide +kernel
theorem dX11_peak_24 : decode cX11_peak 24 = .ok (.aload_n 0, 1) := by decide +kernel
theorem dX11_peak_25 : decode cX11_peak 25 = .ok (.bipush (-2), 2) := by decide +kernel
theorem dX11_peak_27 : decode cX11_peak 27 = .ok (.invokevirtual 33, 3) := by decide +kernel
theorem dX11_peak_30 : decode cX11_peak 30 = .ok (.ireturn, 1) := by decide +kernel
theorem dX11_peak_31 : decode cX11_peak 31 = .ok (.iconst 0, 1) := by decide +kernel
theorem dX11_peak_32 : decode cX11_peak 32 = .ok (.istore_n 3, 1) := by decide +kernel
theorem dX11_peak_33 : decode cX11_peak 33 = .ok (.aload_n 0, 1) := by decide +kernel
theorem dX11_peak_34 : decode cX11_peak 34 = .ok (.iload_n 1, 1) := by decide +kernel
theorem dX11_peak_35 : decode cX11_peak 35 = .ok (.iload_n 3, 1) := by decide +kernel
theorem dX11_peak_36 : decode cX11_peak 36 = .ok (.invokevirtual 105, 3) := by decide +kernel
theorem dX11_peak_39 : decode cX11_peak 39 = .ok (.iload_n 2, 1) := by decide +kernel
theorem dX11_peak_40 : decode cX11_peak 40 = .ok (.if_icmp .eq 9, 3) := by decide +kernel
theorem dX11_peak_43 : decode cX11_peak 43 = .ok (.iinc 3 1, 3) := by decide +kernel
theorem dX11_peak_46 : decode cX11_peak 46 = .ok (.goto (-13), 3) := by decide +kernel
theorem dX11_peak_49 : decode cX11_peak 49 = .ok (.iload_n 3, 1) := by decide +kernel
theorem dX11_peak_50 : decode cX11_peak 50 = .ok (.ireturn, 1) := by decide +kernel
set_option maxRecDepth 20000 in
theorem ggX11_right_X11_isProduct : GoodIn wsX11_right wsX11_isProduct := goodIn_r _ [6, 1, 15, 16, 17, 18, 19, 20, 21, 22, 23, 24] (by decide +kernel) (by decide +kernel)
set_option maxRecDepth 20000 in
theorem gX11_right_X11_isProduct : GoodIn wsX11_right (wsV RX11 40 RX11 yX11_isProduct wsX11_isProduct) := goodIn_app (goodIn_of _ (by decide +kernel)) ggX11_right_X11_isProduct
set_option maxRecDepth 20000 in
theorem ggX11_right_X11_isIn : GoodIn wsX11_right wsX11_isIn := goodIn_r _ [9] (by decide +kernel) (by decide +kernel)
set_option maxRecDepth 20000 in
theorem gX11_right_X11_isIn : GoodIn wsX11_right (va_wsS RX11 29 yX11_isIn wsX11_isIn) := goodIn_app (goodIn_of _ (by decide +kernel)) ggX11_right_X11_isIn
set_option maxRecDepth 20000 in
theorem ggX11_right_X11_finding : GoodIn wsX11_right wsX11_finding := goodIn_r _ [13, 14, 15, 16, 17, 18, 19, 20, 21, 22, 23, 24] (by decide +kernel) (by decide +kernel)
set_option maxRecDepth 20000 in
theorem gX11_right_X11_finding : GoodIn wsX11_right (wsV RX11 33 RX11 yX11_finding wsX11_finding) := goodIn_app (goodIn_of _ (by decide +kernel)) ggX11_right_X11_finding
theorem dX11_right_0 : decode cX11_right 0 = .ok (.aload_n 0, 1) := by decide +kernel
theorem dX11_right_1 : decode cX11_right 1 = .ok (.iload_n 1, 1) := by decide +kernel
theorem dX11_right_2 : decode cX11_right 2 = .ok (.invokevirtual 40, 3) := by decide +kernel
theorem dX11_right_5 : decode cX11_right 5 = .ok (.ifCond .eq 66, 3) := by decide +kernel
theorem dX11_right_8 : decode cX11_right 8 = .ok (.iload_n 2, 1) := by decide +kernel
theorem dX11_right_9 : decode cX11_right 9 = .ok (.iconst 1, 1) := by decide +kernel
theorem dX11_right_10 : decode cX11_right 10 = .ok (.bipush 9, 2) := by decide +kernel
theorem dX11_right_12 : decode cX11_right 12 = .ok (.invokestatic 29, 3) := by decide +kernel
theorem dX11_right_15 : decode cX11_right 15 = .ok (.ifCond .eq 56, 3) := by decide +kernel
theorem dX11_right_18 : decode cX11_right 18 = .ok (.iload_n 3, 1) := by decide +kernel
theorem dX11_right_19 : decode cX11_right 19 = .ok (.iconst 0, 1) := by decide +kernel
theorem dX11_right_20 : decode cX11_right 20 = .ok (.bipush 40, 2) := by decide +kernel
theorem dX11_right_22 : decode cX11_right 22 = .ok (.invokestatic 29, 3) := by decide +kernel
theorem dX11_right_25 : decode cX11_right 25 = .ok (.ifCond .eq 46, 3) := by decide +kernel
theorem dX11_right_28 : decode cX11_right 28 = .ok (.iload 4, 2) := by decide +kernel
theorem dX11_right_30 : decode cX11_right 30 = .ok (.iconst 0, 1) := by decide +kernel
theorem dX11_right_31 : decode cX11_right 31 = .ok (.sipush 1000, 3) := by decide +kernel
theorem dX11_right_34 : decode cX11_right 34 = .ok (.invokestatic 29, 3) := by decide +kernel
theorem dX11_right_37 : decode cX11_right 37 = .ok (.ifCond .eq 34, 3) := by decide +kernel
theorem dX11_right_40 : decode cX11_right 40 = .ok (.iload 5, 2) := by decide +kernel
theorem dX11_right_42 : decode cX11_right 42 = .ok (.iconst 0, 1) := by decide +kernel
theorem dX11_right_43 : decode cX11_right 43 = .ok (.sipush 9999, 3) := by decide +kernel
theorem dX11_right_46 : decode cX11_right 46 = .ok (.invokestatic 29, 3) := by decide +kernel
theorem dX11_right_49 : decode cX11_right 49 = .ok (.ifCond .eq 22, 3) := by decide +kernel
theorem dX11_right_52 : decode cX11_right 52 = .ok (.iload 6, 2) := by decide +kernel
theorem dX11_right_54 : decode cX11_right 54 = .ok (.iconst 0, 1) := by decide +kernel
theorem dX11_right_55 : decode cX11_right 55 = .ok (.sipush 9999, 3) := by decide +kernel
theorem dX11_right_58 : decode cX11_right 58 = .ok (.invokestatic 29, 3) := by decide +kernel
theorem dX11_right_61 : decode cX11_right 61 = .ok (.ifCond .eq 10, 3) := by decide +kernel
theorem dX11_right_64 : decode cX11_right 64 = .ok (.iload 5, 2) := by decide +kernel
theorem dX11_right_66 : decode cX11_right 66 = .ok (.iload 6, 2) := by decide +kernel
theorem dX11_right_68 : decode cX11_right 68 = .ok (.if_icmp .le 9, 3) := by decide +kernel
theorem dX11_right_71 : decode cX11_right 71 = .ok (.aload_n 0, 1) := by decide +kernel
theorem dX11_right_72 : decode cX11_right 72 = .ok (.iconst (-1), 1) := by decide +kernel
theorem dX11_right_73 : decode cX11_right 73 = .ok (.invokevirtual 33, 3) := by decide +kernel
theorem dX11_right_76 : decode cX11_right 76 = .ok (.ireturn, 1) := by decide +kernel
theorem dX11_right_77 : decode cX11_right 77 = .ok (.aload_n 0, 1) := by decide +kernel
theorem dX11_right_78 : decode cX11_right 78 = .ok (.getfield 13, 3) := by decide +kernel
theorem dX11_right_81 : decode cX11_right 81 = .ok (.iconst 5, 1) := by decide +kernel
theorem dX11_right_82 : decode cX11_right 82 = .ok (.iaload, 1) := by decide +kernel
theorem dX11_right_83 : decode cX11_right 83 = .ok (.istore 7, 2) := by decide +kernel
theorem dX11_right_85 : decode cX11_right 85 = .ok (.iload 7, 2) := by decide +kernel
theorem dX11_right_87 : decode cX11_right 87 = .ok (.bipush 10, 2) := by decide +kernel
theorem dX11_right_89 : decode cX11_right 89 = .ok (.if_icmp .ne 10, 3) := by decide +kernel
theorem dX11_right_92 : decode cX11_right 92 = .ok (.aload_n 0, 1) := by decide +kernel
theorem dX11_right_93 : decode cX11_right 93 = .ok (.bipush (-3), 2) := by decide +kernel
theorem dX11_right_95 : decode cX11_right 95 = .ok (.invokevirtual 33, 3) := by decide +kernel
theorem dX11_right_98 : decode cX11_right 98 = .ok (.ireturn, 1) := by decide +kernel
theorem dX11_right_99 : decode cX11_right 99 = .ok (.sipush 1054, 3) := by decide +kernel
theorem dX11_right_102 : decode cX11_right 102 = .ok (.bipush 6, 2) := by decide +kernel
theorem dX11_right_104 : decode cX11_right 104 = .ok (.iload 7, 2) := by decide +kernel
theorem dX11_right_106 : decode cX11_right 106 = .ok (.imul, 1) := by decide +kernel
theorem dX11_right_107 : decode cX11_right 107 = .ok (.iadd, 1) := by decide +kernel
theorem dX11_right_108 : decode cX11_right 108 = .ok (.istore 8, 2) := by decide +kernel
theorem dX11_right_110 : decode cX11_right 110 = .ok (.aload_n 0, 1) := by decide +kernel
theorem dX11_right_111 : decode cX11_right 111 = .ok (.getfield 13, 3) := by decide +kernel
theorem dX11_right_114 : decode cX11_right 114 = .ok (.iload 8, 2) := by decide +kernel
theorem dX11_right_116 : decode cX11_right 116 = .ok (.iload_n 1, 1) := by decide +kernel
theorem dX11_right_117 : decode cX11_right 117 = .ok (.iastore, 1) := by decide +kernel
theorem dX11_right_118 : decode cX11_right 118 = .ok (.aload_n 0, 1) := by decide +kernel
theorem dX11_right_119 : decode cX11_right 119 = .ok (.getfield 13, 3) := by decide +kernel
theorem dX11_right_122 : decode cX11_right 122 = .ok (.iload 8, 2) := by decide +kernel
theorem dX11_right_124 : decode cX11_right 124 = .ok (.iconst 1, 1) := by decide +kernel
theorem dX11_right_125 : decode cX11_right 125 = .ok (.iadd, 1) := by decide +kernel
theorem dX11_right_126 : decode cX11_right 126 = .ok (.iload_n 2, 1) := by decide +kernel
theorem dX11_right_127 : decode cX11_right 127 = .ok (.iastore, 1) := by decide +kernel
theorem dX11_right_128 : decode cX11_right 128 = .ok (.aload_n 0, 1) := by decide +kernel
theorem dX11_right_129 : decode cX11_right 129 = .ok (.getfield 13, 3) := by decide +kernel
theorem dX11_right_132 : decode cX11_right 132 = .ok (.iload 8, 2) := by decide +kernel
theorem dX11_right_134 : decode cX11_right 134 = .ok (.iconst 2, 1) := by decide +kernel
theorem dX11_right_135 : decode cX11_right 135 = .ok (.iadd, 1) := by decide +kernel
theorem dX11_right_136 : decode cX11_right 136 = .ok (.iload_n 3, 1) := by decide +kernel
theorem dX11_right_137 : decode cX11_right 137 = .ok (.iastore, 1) := by decide +kernel
theorem dX11_right_138 : decode cX11_right 138 = .ok (.aload_n 0, 1) := by decide +kernel
theorem dX11_right_139 : decode cX11_right 139 = .ok (.getfield 13, 3) := by decide +kernel
theorem dX11_right_142 : decode cX11_right 142 = .ok (.iload 8, 2) := by decide +kernel
theorem dX11_right_144 : decode cX11_right 144 = .ok (.iconst 3, 1) := by decide +kernel
theorem dX11_right_145 : decode cX11_right 145 = .ok (.iadd, 1) := by decide +kernel
theorem dX11_right_146 : decode cX11_right 146 = .ok (.iload 4, 2) := by decide +kernel
theorem dX11_right_148 : decode cX11_right 148 = .ok (.iastore, 1) := by decide +kernel
theorem dX11_right_149 : decode cX11_right 149 = .ok (.aload_n 0, 1) := by decide +kernel
theorem dX11_right_150 : decode cX11_right 150 = .ok (.getfield 13, 3) := by decide +kernel
theorem dX11_right_153 : decode cX11_right 153 = .ok (.iload 8, 2) := by decide +kernel
theorem dX11_right_155 : decode cX11_right 155 = .ok (.iconst 4, 1) := by decide +kernel
theorem dX11_right_156 : decode cX11_right 156 = .ok (.iadd, 1) := by decide +kernel
theorem dX11_right_157 : decode cX11_right 157 = .ok (.iload 5, 2) := by decide +kernel
theorem dX11_right_159 : decode cX11_right 159 = .ok (.iastore, 1) := by decide +kernel
theorem dX11_right_160 : decode cX11_right 160 = .ok (.aload_n 0, 1) := by decide +kernel
theorem dX11_right_161 : decode cX11_right 161 = .ok (.getfield 13, 3) := by decide +kernel
theorem dX11_right_164 : decode cX11_right 164 = .ok (.iload 8, 2) := by decide +kernel
theorem dX11_right_166 : decode cX11_right 166 = .ok (.iconst 5, 1) := by decide +kernel
theorem dX11_right_167 : decode cX11_right 167 = .ok (.iadd, 1) := by decide +kernel
theorem dX11_right_168 : decode cX11_right 168 = .ok (.iload 6, 2) := by decide +kernel
theorem dX11_right_170 : decode cX11_right 170 = .ok (.iastore, 1) := by decide +kernel
theorem dX11_right_171 : decode cX11_right 171 = .ok (.aload_n 0, 1) := by decide +kernel
theorem dX11_right_172 : decode cX11_right 172 = .ok (.getfield 13, 3) := by decide +kernel
theorem dX11_right_175 : decode cX11_right 175 = .ok (.iconst 5, 1) := by decide +kernel
theorem dX11_right_176 : decode cX11_right 176 = .ok (.dup2, 1) := by decide +kernel
theorem dX11_right_177 : decode cX11_right 177 = .ok (.iaload, 1) := by decide +kernel
theorem dX11_right_178 : decode cX11_right 178 = .ok (.iconst 1, 1) := by decide +kernel
theorem dX11_right_179 : decode cX11_right 179 = .ok (.iadd, 1) := by decide +kernel
theorem dX11_right_180 : decode cX11_right 180 = .ok (.iastore, 1) := by decide +kernel
theorem dX11_right_181 : decode cX11_right 181 = .ok (.iload 7, 2) := by decide +kernel
theorem dX11_right_183 : decode cX11_right 183 = .ok (.ireturn, 1) := by decide +kernel
set_option maxRecDepth 20000 in
theorem ggX11_amount_X11_isRight : GoodIn wsX11_amount wsX11_isRight := goodIn_r _ [6, 1, 19, 20, 21, 22, 23, 24, 25, 26, 27, 28] (by decide +kernel) (by decide +kernel)
set_option maxRecDepth 20000 in
theorem gX11_amount_X11_isRight : GoodIn wsX11_amount (wsV RX11 108 RX11 yX11_isRight wsX11_isRight) := goodIn_app (goodIn_of _ (by decide +kernel)) ggX11_amount_X11_isRight
set_option maxRecDepth 20000 in
theorem ggX11_amount_X11_isIn : GoodIn wsX11_amount wsX11_isIn := goodIn_r _ [9] (by decide +kernel) (by decide +kernel)
set_option maxRecDepth 20000 in
theorem gX11_amount_X11_isIn : GoodIn wsX11_amount (va_wsS RX11 29 yX11_isIn wsX11_isIn) := goodIn_app (goodIn_of _ (by decide +kernel)) ggX11_amount_X11_isIn
set_option maxRecDepth 20000 in
theorem ggX11_amount_X11_finding : GoodIn wsX11_amount wsX11_finding := goodIn_r _ [13, 14, 19, 20, 21, 22, 23, 24, 25, 26, 27, 28] (by decide +kernel) (by decide +kernel)
set_option maxRecDepth 20000 in
theorem gX11_amount_X11_finding : GoodIn wsX11_amount (wsV RX11 33 RX11 yX11_finding wsX11_finding) := goodIn_app (goodIn_of _ (by decide +kernel)) ggX11_amount_X11_finding
set_option maxRecDepth 20000 in
theorem ggX11_amount_X11_rightAt : GoodIn wsX11_amount wsX11_rightAt := goodIn_r _ [18, 1, 19, 20, 21, 22, 23, 24, 25, 26, 27, 28] (by decide +kernel) (by decide +kernel)
set_option maxRecDepth 20000 in
theorem gX11_amount_X11_rightAt : GoodIn wsX11_amount (wsV RX11 111 RX11 yX11_rightAt wsX11_rightAt) := goodIn_app (goodIn_of _ (by decide +kernel)) ggX11_amount_X11_rightAt
theorem dX11_amount_0 : decode cX11_amount 0 = .ok (.aload_n 0, 1) := by decide +kernel
theorem dX11_amount_1 : decode cX11_amount 1 = .ok (.iload_n 1, 1) := by decide +kernel
theorem dX11_amount_2 : decode cX11_amount 2 = .ok (.invokevirtual 108, 3) := by decide +kernel
theorem dX11_amount_5 : decode cX11_amount 5 = .ok (.ifCond .eq 13, 3) := by decide +kernel
theorem dX11_amount_8 : decode cX11_amount 8 = .ok (.iload_n 2, 1) := by decide +kernel
theorem dX11_amount_9 : decode cX11_amount 9 = .ok (.iconst 0, 1) := by decide +kernel
theorem dX11_amount_10 : decode cX11_amount 10 = .ok (.bipush 40, 2) := by decide +kernel
theorem dX11_amount_12 : decode cX11_amount 12 = .ok (.invokestatic 29, 3) := by decide +kernel
theorem dX11_amount_15 : decode cX11_amount 15 = .ok (.ifCond .ne 9, 3) := by decide +kernel
theorem dX11_amount_18 : decode cX11_amount 18 = .ok (.aload_n 0, 1) := by decide +kernel
theorem dX11_amount_19 : decode cX11_amount 19 = .ok (.iconst (-1), 1) := by decide +kernel
theorem dX11_amount_20 : decode cX11_amount 20 = .ok (.invokevirtual 33, 3) := by decide +kernel
theorem dX11_amount_23 : decode cX11_amount 23 = .ok (.ireturn, 1) := by decide +kernel
theorem dX11_amount_24 : decode cX11_amount 24 = .ok (.aload_n 0, 1) := by decide +kernel
theorem dX11_amount_25 : decode cX11_amount 25 = .ok (.iload_n 1, 1) := by decide +kernel
theorem dX11_amount_26 : decode cX11_amount 26 = .ok (.iconst 2, 1) := by decide +kernel
theorem dX11_amount_27 : decode cX11_amount 27 = .ok (.invokevirtual 111, 3) := by decide +kernel
theorem dX11_amount_30 : decode cX11_amount 30 = .ok (.istore_n 3, 1) := by decide +kernel
theorem dX11_amount_31 : decode cX11_amount 31 = .ok (.aload_n 0, 1) := by decide +kernel
theorem dX11_amount_32 : decode cX11_amount 32 = .ok (.getfield 13, 3) := by decide +kernel
theorem dX11_amount_35 : decode cX11_amount 35 = .ok (.sipush 1054, 3) := by decide +kernel
theorem dX11_amount_38 : decode cX11_amount 38 = .ok (.bipush 6, 2) := by decide +kernel
theorem dX11_amount_40 : decode cX11_amount 40 = .ok (.iload_n 1, 1) := by decide +kernel
theorem dX11_amount_41 : decode cX11_amount 41 = .ok (.imul, 1) := by decide +kernel
theorem dX11_amount_42 : decode cX11_amount 42 = .ok (.iadd, 1) := by decide +kernel
theorem dX11_amount_43 : decode cX11_amount 43 = .ok (.iconst 2, 1) := by decide +kernel
theorem dX11_amount_44 : decode cX11_amount 44 = .ok (.iadd, 1) := by decide +kernel
theorem dX11_amount_45 : decode cX11_amount 45 = .ok (.iload_n 2, 1) := by decide +kernel
theorem dX11_amount_46 : decode cX11_amount 46 = .ok (.iastore, 1) := by decide +kernel
theorem dX11_amount_47 : decode cX11_amount 47 = .ok (.iload_n 3, 1) := by decide +kernel
theorem dX11_amount_48 : decode cX11_amount 48 = .ok (.ireturn, 1) := by decide +kernel
set_option maxRecDepth 20000 in
theorem ggX11_isOn_X11_rightAt : GoodIn wsX11_isOn wsX11_rightAt := goodIn_r _ [5, 6, 7, 8, 9, 10, 11, 12, 13, 14, 15, 16] (by decide +kernel) (by decide +kernel)
set_option maxRecDepth 20000 in
theorem gX11_isOn_X11_rightAt : GoodIn wsX11_isOn (wsV RX11 111 RX11 yX11_rightAt wsX11_rightAt) := goodIn_app (goodIn_of _ (by decide +kernel)) ggX11_isOn_X11_rightAt
theorem dX11_isOn_0 : decode cX11_isOn 0 = .ok (.aload_n 0, 1) := by decide +kernel
theorem dX11_isOn_1 : decode cX11_isOn 1 = .ok (.iload_n 1, 1) := by decide +kernel
theorem dX11_isOn_2 : decode cX11_isOn 2 = .ok (.iconst 4, 1) := by decide +kernel
theorem dX11_isOn_3 : decode cX11_isOn 3 = .ok (.invokevirtual 111, 3) := by decide +kernel
theorem dX11_isOn_6 : decode cX11_isOn 6 = .ok (.iload_n 2, 1) := by decide +kernel
theorem dX11_isOn_7 : decode cX11_isOn 7 = .ok (.if_icmp .gt 17, 3) := by decide +kernel
theorem dX11_isOn_10 : decode cX11_isOn 10 = .ok (.iload_n 2, 1) := by decide +kernel
theorem dX11_isOn_11 : decode cX11_isOn 11 = .ok (.aload_n 0, 1) := by decide +kernel
theorem dX11_isOn_12 : decode cX11_isOn 12 = .ok (.iload_n 1, 1) := by decide +kernel
theorem dX11_isOn_13 : decode cX11_isOn 13 = .ok (.iconst 5, 1) := by decide +kernel
theorem dX11_isOn_14 : decode cX11_isOn 14 = .ok (.invokevirtual 111, 3) := by decide +kernel
theorem dX11_isOn_17 : decode cX11_isOn 17 = .ok (.if_icmp .gt 7, 3) := by decide +kernel
theorem dX11_isOn_20 : decode cX11_isOn 20 = .ok (.iconst 1, 1) := by decide +kernel
theorem dX11_isOn_21 : decode cX11_isOn 21 = .ok (.goto 4, 3) := by decide +kernel
theorem dX11_isOn_24 : decode cX11_isOn 24 = .ok (.iconst 0, 1) := by decide +kernel
theorem dX11_isOn_25 : decode cX11_isOn 25 = .ok (.ireturn, 1) := by decide +kernel
set_option maxRecDepth 20000 in
theorem ggX11_may_X11_isRight : GoodIn wsX11_may wsX11_isRight := goodIn_r _ [7, 2, 65, 66, 67, 68, 69, 70, 71, 72, 73, 74] (by decide +kernel) (by decide +kernel)
set_option maxRecDepth 20000 in
theorem gX11_may_X11_isRight : GoodIn wsX11_may (wsV RX11 108 RX11 yX11_isRight wsX11_isRight) := goodIn_app (goodIn_of _ (by decide +kernel)) ggX11_may_X11_isRight
set_option maxRecDepth 20000 in
theorem ggX11_may_X11_isHost : GoodIn wsX11_may wsX11_isHost := goodIn_r _ [11, 2, 65, 66, 67, 68, 69, 70, 71, 72, 73, 74] (by decide +kernel) (by decide +kernel)
set_option maxRecDepth 20000 in
theorem gX11_may_X11_isHost : GoodIn wsX11_may (wsV RX11 71 RX11 yX11_isHost wsX11_isHost) := goodIn_app (goodIn_of _ (by decide +kernel)) ggX11_may_X11_isHost
set_option maxRecDepth 20000 in
theorem ggX11_may_X11_finding : GoodIn wsX11_may wsX11_finding := goodIn_r _ [15, 16, 65, 66, 67, 68, 69, 70, 71, 72, 73, 74] (by decide +kernel) (by decide +kernel)
set_option maxRecDepth 20000 in
theorem gX11_may_X11_finding : GoodIn wsX11_may (wsV RX11 33 RX11 yX11_finding wsX11_finding) := goodIn_app (goodIn_of _ (by decide +kernel)) ggX11_may_X11_finding
set_option maxRecDepth 20000 in
theorem ggX11_may_X11_tellHad : GoodIn wsX11_may wsX11_tellHad := goodIn_r _ [20, 1, 2, 21, 22, 23, 6, 24, 25, 26, 27, 28, 29, 30, 31, 32, 33, 34, 35, 36, 37, 38, 39, 40, 41, 42, 43, 44, 45, 46, 47, 48, 49, 50, 51, 52, 53, 54, 55, 56, 65, 66, 67, 68, 69, 70, 71, 72, 73, 74] (by decide +kernel) (by decide +kernel)
set_option maxRecDepth 20000 in
theorem gX11_may_X11_tellHad : GoodIn wsX11_may (wsV RX11 93 RX11 yX11_tellHad wsX11_tellHad) := goodIn_app (goodIn_of _ (by decide +kernel)) ggX11_may_X11_tellHad
set_option maxRecDepth 20000 in
theorem ggX11_may_X11_rightAt : GoodIn wsX11_may wsX11_rightAt := goodIn_r _ [60, 2, 65, 66, 67, 68, 69, 70, 71, 72, 73, 74] (by decide +kernel) (by decide +kernel)
set_option maxRecDepth 20000 in
theorem gX11_may_X11_rightAt : GoodIn wsX11_may (wsV RX11 111 RX11 yX11_rightAt wsX11_rightAt) := goodIn_app (goodIn_of _ (by decide +kernel)) ggX11_may_X11_rightAt
set_option maxRecDepth 20000 in
theorem ggX11_may_X11_productAt : GoodIn wsX11_may wsX11_productAt := goodIn_r _ [48, 2, 65, 66, 67, 68, 69, 70, 71, 72, 73, 74] (by decide +kernel) (by decide +kernel)
set_option maxRecDepth 20000 in
theorem gX11_may_X11_productAt : GoodIn wsX11_may (wsV RX11 44 RX11 yX11_productAt wsX11_productAt) := goodIn_app (goodIn_of _ (by decide +kernel)) ggX11_may_X11_productAt
set_option maxRecDepth 20000 in
theorem ggX11_may_X11_isOn : GoodIn wsX11_may wsX11_isOn := goodIn_r _ [64, 57, 58, 59, 6, 60, 2, 65, 66, 67, 68, 69, 70, 71, 72, 73, 74] (by decide +kernel) (by decide +kernel)
set_option maxRecDepth 20000 in
theorem gX11_may_X11_isOn : GoodIn wsX11_may (wsV RX11 114 RX11 yX11_isOn wsX11_isOn) := goodIn_app (goodIn_of _ (by decide +kernel)) ggX11_may_X11_isOn
theorem dX11_may_0 : decode cX11_may 0 = .ok (.aload_n 0, 1) := by decide +kernel
theorem dX11_may_1 : decode cX11_may 1 = .ok (.iload_n 1, 1) := by decide +kernel
theorem dX11_may_2 : decode cX11_may 2 = .ok (.invokevirtual 108, 3) := by decide +kernel
theorem dX11_may_5 : decode cX11_may 5 = .ok (.ifCond .eq 11, 3) := by decide +kernel
theorem dX11_may_8 : decode cX11_may 8 = .ok (.aload_n 0, 1) := by decide +kernel
theorem dX11_may_9 : decode cX11_may 9 = .ok (.iload_n 2, 1) := by decide +kernel
theorem dX11_may_10 : decode cX11_may 10 = .ok (.invokevirtual 71, 3) := by decide +kernel
theorem dX11_may_13 : decode cX11_may 13 = .ok (.ifCond .ne 9, 3) := by decide +kernel
theorem dX11_may_16 : decode cX11_may 16 = .ok (.aload_n 0, 1) := by decide +kernel
theorem dX11_may_17 : decode cX11_may 17 = .ok (.iconst (-1), 1) := by decide +kernel
theorem dX11_may_18 : decode cX11_may 18 = .ok (.invokevirtual 33, 3) := by decide +kernel
theorem dX11_may_21 : decode cX11_may 21 = .ok (.ireturn, 1) := by decide +kernel
theorem dX11_may_22 : decode cX11_may 22 = .ok (.aload_n 0, 1) := by decide +kernel
theorem dX11_may_23 : decode cX11_may 23 = .ok (.invokevirtual 93, 3) := by decide +kernel
theorem dX11_may_26 : decode cX11_may 26 = .ok (.aload_n 0, 1) := by decide +kernel
theorem dX11_may_27 : decode cX11_may 27 = .ok (.iload_n 1, 1) := by decide +kernel
theorem dX11_may_28 : decode cX11_may 28 = .ok (.iconst 0, 1) := by decide +kernel
theorem dX11_may_29 : decode cX11_may 29 = .ok (.invokevirtual 111, 3) := by decide +kernel
theorem dX11_may_32 : decode cX11_may 32 = .ok (.istore_n 3, 1) := by decide +kernel
theorem dX11_may_33 : decode cX11_may 33 = .ok (.aload_n 0, 1) := by decide +kernel
theorem dX11_may_34 : decode cX11_may 34 = .ok (.getfield 19, 3) := by decide +kernel
theorem dX11_may_37 : decode cX11_may 37 = .ok (.bipush 10, 2) := by decide +kernel
theorem dX11_may_39 : decode cX11_may 39 = .ok (.iload_n 2, 1) := by decide +kernel
theorem dX11_may_40 : decode cX11_may 40 = .ok (.imul, 1) := by decide +kernel
theorem dX11_may_41 : decode cX11_may 41 = .ok (.iload_n 3, 1) := by decide +kernel
theorem dX11_may_42 : decode cX11_may 42 = .ok (.iadd, 1) := by decide +kernel
theorem dX11_may_43 : decode cX11_may 43 = .ok (.iaload, 1) := by decide +kernel
theorem dX11_may_44 : decode cX11_may 44 = .ok (.istore 4, 2) := by decide +kernel
theorem dX11_may_46 : decode cX11_may 46 = .ok (.iload 4, 2) := by decide +kernel
theorem dX11_may_48 : decode cX11_may 48 = .ok (.ifCond .eq 13, 3) := by decide +kernel
theorem dX11_may_51 : decode cX11_may 51 = .ok (.aload_n 0, 1) := by decide +kernel
theorem dX11_may_52 : decode cX11_may 52 = .ok (.iload_n 3, 1) := by decide +kernel
theorem dX11_may_53 : decode cX11_may 53 = .ok (.iconst 0, 1) := by decide +kernel
theorem dX11_may_54 : decode cX11_may 54 = .ok (.invokevirtual 44, 3) := by decide +kernel
theorem dX11_may_57 : decode cX11_may 57 = .ok (.iconst 2, 1) := by decide +kernel
theorem dX11_may_58 : decode cX11_may 58 = .ok (.if_icmp .ne 10, 3) := by decide +kernel
theorem dX11_may_61 : decode cX11_may 61 = .ok (.aload_n 0, 1) := by decide +kernel
theorem dX11_may_62 : decode cX11_may 62 = .ok (.bipush (-2), 2) := by decide +kernel
theorem dX11_may_64 : decode cX11_may 64 = .ok (.invokevirtual 33, 3) := by decide +kernel
theorem dX11_may_67 : decode cX11_may 67 = .ok (.ireturn, 1) := by decide +kernel
theorem dX11_may_68 : decode cX11_may 68 = .ok (.iload 4, 2) := by decide +kernel
theorem dX11_may_70 : decode cX11_may 70 = .ok (.aload_n 0, 1) := by decide +kernel
theorem dX11_may_71 : decode cX11_may 71 = .ok (.iload_n 1, 1) := by decide +kernel
theorem dX11_may_72 : decode cX11_may 72 = .ok (.iconst 1, 1) := by decide +kernel
theorem dX11_may_73 : decode cX11_may 73 = .ok (.invokevirtual 111, 3) := by decide +kernel
theorem dX11_may_76 : decode cX11_may 76 = .ok (.if_icmp .gt 22, 3) := by decide +kernel
theorem dX11_may_79 : decode cX11_may 79 = .ok (.aload_n 0, 1) := by decide +kernel
theorem dX11_may_80 : decode cX11_may 80 = .ok (.iload_n 1, 1) := by decide +kernel
theorem dX11_may_81 : decode cX11_may 81 = .ok (.aload_n 0, 1) := by decide +kernel
theorem dX11_may_82 : decode cX11_may 82 = .ok (.getfield 13, 3) := by decide +kernel
theorem dX11_may_85 : decode cX11_may 85 = .ok (.bipush 6, 2) := by decide +kernel
theorem dX11_may_87 : decode cX11_may 87 = .ok (.iaload, 1) := by decide +kernel
theorem dX11_may_88 : decode cX11_may 88 = .ok (.invokevirtual 114, 3) := by decide +kernel
theorem dX11_may_91 : decode cX11_may 91 = .ok (.ifCond .eq 7, 3) := by decide +kernel
theorem dX11_may_94 : decode cX11_may 94 = .ok (.iconst 1, 1) := by decide +kernel
theorem dX11_may_95 : decode cX11_may 95 = .ok (.goto 4, 3) := by decide +kernel
theorem dX11_may_98 : decode cX11_may 98 = .ok (.iconst 0, 1) := by decide +kernel
theorem dX11_may_99 : decode cX11_may 99 = .ok (.ireturn, 1) := by decide +kernel
set_option maxRecDepth 20000 in
theorem ggX11_needsUpTo_X11_productAt : GoodIn wsX11_needsUpTo wsX11_productAt := goodIn_r _ [7, 1, 8, 9, 10, 11, 12, 13, 14, 15, 16, 17] (by decide +kernel) (by decide +kernel)
set_option maxRecDepth 20000 in
theorem gX11_needsUpTo_X11_productAt : GoodIn wsX11_needsUpTo (wsV RX11 44 RX11 yX11_productAt wsX11_productAt) := goodIn_app (goodIn_of _ (by decide +kernel)) ggX11_needsUpTo_X11_productAt
theorem dX11_needsUpTo_0 : decode cX11_needsUpTo 0 = .ok (.iconst 0, 1) := by decide +kernel
theorem dX11_needsUpTo_1 : decode cX11_needsUpTo 1 = .ok (.istore 4, 2) := by decide +kernel
theorem dX11_needsUpTo_3 : decode cX11_needsUpTo 3 = .ok (.iconst 0, 1) := by decide +kernel
theorem dX11_needsUpTo_4 : decode cX11_needsUpTo 4 = .ok (.istore 5, 2) := by decide +kernel
theorem dX11_needsUpTo_6 : decode cX11_needsUpTo 6 = .ok (.iload 5, 2) := by decide +kernel
theorem dX11_needsUpTo_8 : decode cX11_needsUpTo 8 = .ok (.aload_n 0, 1) := by decide +kernel
theorem dX11_needsUpTo_9 : decode cX11_needsUpTo 9 = .ok (.getfield 13, 3) := by decide +kernel
theorem dX11_needsUpTo_12 : decode cX11_needsUpTo 12 = .ok (.iconst 2, 1) := by decide +kernel
theorem dX11_needsUpTo_13 : decode cX11_needsUpTo 13 = .ok (.iaload, 1) := by decide +kernel
theorem dX11_needsUpTo_14 : decode cX11_needsUpTo 14 = .ok (.if_icmp .ge 60, 3) := by decide +kernel
theorem dX11_needsUpTo_17 : decode cX11_needsUpTo 17 = .ok (.aload_n 0, 1) := by decide +kernel
theorem dX11_needsUpTo_18 : decode cX11_needsUpTo 18 = .ok (.getfield 19, 3) := by decide +kernel
theorem dX11_needsUpTo_21 : decode cX11_needsUpTo 21 = .ok (.bipush 10, 2) := by decide +kernel
theorem dX11_needsUpTo_23 : decode cX11_needsUpTo 23 = .ok (.iload 5, 2) := by decide +kernel
theorem dX11_needsUpTo_25 : decode cX11_needsUpTo 25 = .ok (.imul, 1) := by decide +kernel
theorem dX11_needsUpTo_26 : decode cX11_needsUpTo 26 = .ok (.iload_n 1, 1) := by decide +kernel
theorem dX11_needsUpTo_27 : decode cX11_needsUpTo 27 = .ok (.iadd, 1) := by decide +kernel
theorem dX11_needsUpTo_28 : decode cX11_needsUpTo 28 = .ok (.iaload, 1) := by decide +kernel
theorem dX11_needsUpTo_29 : decode cX11_needsUpTo 29 = .ok (.istore 6, 2) := by decide +kernel
theorem dX11_needsUpTo_31 : decode cX11_needsUpTo 31 = .ok (.iload 4, 2) := by decide +kernel
theorem dX11_needsUpTo_33 : decode cX11_needsUpTo 33 = .ok (.iload 5, 2) := by decide +kernel
theorem dX11_needsUpTo_35 : decode cX11_needsUpTo 35 = .ok (.iload_n 3, 1) := by decide +kernel
theorem dX11_needsUpTo_36 : decode cX11_needsUpTo 36 = .ok (.if_icmp .eq 28, 3) := by decide +kernel
theorem dX11_needsUpTo_39 : decode cX11_needsUpTo 39 = .ok (.iload 6, 2) := by decide +kernel
theorem dX11_needsUpTo_41 : decode cX11_needsUpTo 41 = .ok (.ifCond .le 23, 3) := by decide +kernel
theorem dX11_needsUpTo_44 : decode cX11_needsUpTo 44 = .ok (.iload 6, 2) := by decide +kernel
theorem dX11_needsUpTo_46 : decode cX11_needsUpTo 46 = .ok (.iload_n 2, 1) := by decide +kernel
theorem dX11_needsUpTo_47 : decode cX11_needsUpTo 47 = .ok (.if_icmp .gt 17, 3) := by decide +kernel
theorem dX11_needsUpTo_50 : decode cX11_needsUpTo 50 = .ok (.aload_n 0, 1) := by decide +kernel
theorem dX11_needsUpTo_51 : decode cX11_needsUpTo 51 = .ok (.iload_n 1, 1) := by decide +kernel
theorem dX11_needsUpTo_52 : decode cX11_needsUpTo 52 = .ok (.iconst 0, 1) := by decide +kernel
theorem dX11_needsUpTo_53 : decode cX11_needsUpTo 53 = .ok (.invokevirtual 44, 3) := by decide +kernel
theorem dX11_needsUpTo_56 : decode cX11_needsUpTo 56 = .ok (.iconst 2, 1) := by decide +kernel
theorem dX11_needsUpTo_57 : decode cX11_needsUpTo 57 = .ok (.if_icmp .eq 7, 3) := by decide +kernel
theorem dX11_needsUpTo_60 : decode cX11_needsUpTo 60 = .ok (.iconst 1, 1) := by decide +kernel
theorem dX11_needsUpTo_61 : decode cX11_needsUpTo 61 = .ok (.goto 4, 3) := by decide +kernel
theorem dX11_needsUpTo_64 : decode cX11_needsUpTo 64 = .ok (.iconst 0, 1) := by decide +kernel
theorem dX11_needsUpTo_65 : decode cX11_needsUpTo 65 = .ok (.iadd, 1) := by decide +kernel
theorem dX11_needsUpTo_66 : decode cX11_needsUpTo 66 = .ok (.istore 4, 2) := by decide +kernel
theorem dX11_needsUpTo_68 : decode cX11_needsUpTo 68 = .ok (.iinc 5 1, 3) := by decide +kernel
theorem dX11_needsUpTo_71 : decode cX11_needsUpTo 71 = .ok (.goto (-65), 3) := by decide +kernel
theorem dX11_needsUpTo_74 : decode cX11_needsUpTo 74 = .ok (.iload 4, 2) := by decide +kernel
theorem dX11_needsUpTo_76 : decode cX11_needsUpTo 76 = .ok (.ireturn, 1) := by decide +kernel
set_option maxRecDepth 20000 in
theorem ggX11_needs_X11_tellHad : GoodIn wsX11_needs wsX11_tellHad := goodIn_r _ [6, 7, 1, 8, 9, 10, 5, 11, 12, 13, 14, 15, 16, 17, 18, 19, 20, 21, 22, 23, 24, 25, 26, 27, 28, 29, 30, 31, 32, 33, 34, 35, 36, 37, 38, 39, 40, 41, 42, 43, 48, 49, 50, 51, 52, 53, 54, 55, 56, 57] (by decide +kernel) (by decide +kernel)
set_option maxRecDepth 20000 in
theorem gX11_needs_X11_tellHad : GoodIn wsX11_needs (wsV RX11 93 RX11 yX11_tellHad wsX11_tellHad) := goodIn_app (goodIn_of _ (by decide +kernel)) ggX11_needs_X11_tellHad
set_option maxRecDepth 20000 in
theorem ggX11_needs_X11_needsUpTo : GoodIn wsX11_needs wsX11_needsUpTo := goodIn_r _ [47, 1, 7, 32, 33, 34, 5, 35, 48, 49, 50, 51, 52, 53, 54, 55, 56, 57] (by decide +kernel) (by decide +kernel)
set_option maxRecDepth 20000 in
theorem gX11_needs_X11_needsUpTo : GoodIn wsX11_needs (wsV RX11 117 RX11 yX11_needsUpTo wsX11_needsUpTo) := goodIn_app (goodIn_of _ (by decide +kernel)) ggX11_needs_X11_needsUpTo
theorem dX11_needs_0 : decode cX11_needs 0 = .ok (.aload_n 0, 1) := by decide +kernel
theorem dX11_needs_1 : decode cX11_needs 1 = .ok (.invokevirtual 93, 3) := by decide +kernel
theorem dX11_needs_4 : decode cX11_needs 4 = .ok (.iconst 0, 1) := by decide +kernel
theorem dX11_needs_5 : decode cX11_needs 5 = .ok (.istore_n 1, 1) := by decide +kernel
theorem dX11_needs_6 : decode cX11_needs 6 = .ok (.iconst 0, 1) := by decide +kernel
theorem dX11_needs_7 : decode cX11_needs 7 = .ok (.istore_n 2, 1) := by decide +kernel
theorem dX11_needs_8 : decode cX11_needs 8 = .ok (.iload_n 2, 1) := by decide +kernel
theorem dX11_needs_9 : decode cX11_needs 9 = .ok (.aload_n 0, 1) := by decide +kernel
theorem dX11_needs_10 : decode cX11_needs 10 = .ok (.getfield 13, 3) := by decide +kernel
theorem dX11_needs_13 : decode cX11_needs 13 = .ok (.iconst 0, 1) := by decide +kernel
theorem dX11_needs_14 : decode cX11_needs 14 = .ok (.iaload, 1) := by decide +kernel
theorem dX11_needs_15 : decode cX11_needs 15 = .ok (.if_icmp .ge 20, 3) := by decide +kernel
theorem dX11_needs_18 : decode cX11_needs 18 = .ok (.iload_n 1, 1) := by decide +kernel
theorem dX11_needs_19 : decode cX11_needs 19 = .ok (.aload_n 0, 1) := by decide +kernel
theorem dX11_needs_20 : decode cX11_needs 20 = .ok (.iload_n 2, 1) := by decide +kernel
theorem dX11_needs_21 : decode cX11_needs 21 = .ok (.bipush 9, 2) := by decide +kernel
theorem dX11_needs_23 : decode cX11_needs 23 = .ok (.iconst (-1), 1) := by decide +kernel
theorem dX11_needs_24 : decode cX11_needs 24 = .ok (.invokevirtual 117, 3) := by decide +kernel
theorem dX11_needs_27 : decode cX11_needs 27 = .ok (.iadd, 1) := by decide +kernel
theorem dX11_needs_28 : decode cX11_needs 28 = .ok (.istore_n 1, 1) := by decide +kernel
theorem dX11_needs_29 : decode cX11_needs 29 = .ok (.iinc 2 1, 3) := by decide +kernel
theorem dX11_needs_32 : decode cX11_needs 32 = .ok (.goto (-24), 3) := by decide +kernel
theorem dX11_needs_35 : decode cX11_needs 35 = .ok (.iload_n 1, 1) := by decide +kernel
theorem dX11_needs_36 : decode cX11_needs 36 = .ok (.ireturn, 1) := by decide +kernel
set_option maxRecDepth 20000 in
theorem ggX11_canTake_X11_rightAt : GoodIn wsX11_canTake wsX11_rightAt := goodIn_r _ [7, 2, 17, 18, 19, 20, 21, 22, 23, 24, 25, 26] (by decide +kernel) (by decide +kernel)
set_option maxRecDepth 20000 in
theorem gX11_canTake_X11_rightAt : GoodIn wsX11_canTake (wsV RX11 111 RX11 yX11_rightAt wsX11_rightAt) := goodIn_app (goodIn_of _ (by decide +kernel)) ggX11_canTake_X11_rightAt
set_option maxRecDepth 20000 in
theorem ggX11_canTake_X11_needsUpTo : GoodIn wsX11_canTake wsX11_needsUpTo := goodIn_r _ [11, 2, 12, 13, 14, 15, 6, 16, 17, 18, 19, 20, 21, 22, 23, 24, 25, 26] (by decide +kernel) (by decide +kernel)
set_option maxRecDepth 20000 in
theorem gX11_canTake_X11_needsUpTo : GoodIn wsX11_canTake (wsV RX11 117 RX11 yX11_needsUpTo wsX11_needsUpTo) := goodIn_app (goodIn_of _ (by decide +kernel)) ggX11_canTake_X11_needsUpTo
theorem dX11_canTake_0 : decode cX11_canTake 0 = .ok (.aload_n 0, 1) := by decide +kernel
theorem dX11_canTake_1 : decode cX11_canTake 1 = .ok (.getfield 22, 3) := by decide +kernel
theorem dX11_canTake_4 : decode cX11_canTake 4 = .ok (.iload_n 1, 1) := by decide +kernel
theorem dX11_canTake_5 : decode cX11_canTake 5 = .ok (.iaload, 1) := by decide +kernel
theorem dX11_canTake_6 : decode cX11_canTake 6 = .ok (.aload_n 0, 1) := by decide +kernel
theorem dX11_canTake_7 : decode cX11_canTake 7 = .ok (.iload_n 1, 1) := by decide +kernel
theorem dX11_canTake_8 : decode cX11_canTake 8 = .ok (.iconst 2, 1) := by decide +kernel
theorem dX11_canTake_9 : decode cX11_canTake 9 = .ok (.invokevirtual 111, 3) := by decide +kernel
theorem dX11_canTake_12 : decode cX11_canTake 12 = .ok (.if_icmp .ge 7, 3) := by decide +kernel
theorem dX11_canTake_15 : decode cX11_canTake 15 = .ok (.iconst 1, 1) := by decide +kernel
theorem dX11_canTake_16 : decode cX11_canTake 16 = .ok (.goto 4, 3) := by decide +kernel
theorem dX11_canTake_19 : decode cX11_canTake 19 = .ok (.iconst 0, 1) := by decide +kernel
theorem dX11_canTake_20 : decode cX11_canTake 20 = .ok (.istore 4, 2) := by decide +kernel
theorem dX11_canTake_22 : decode cX11_canTake 22 = .ok (.aload_n 0, 1) := by decide +kernel
theorem dX11_canTake_23 : decode cX11_canTake 23 = .ok (.iload_n 1, 1) := by decide +kernel
theorem dX11_canTake_24 : decode cX11_canTake 24 = .ok (.iconst 1, 1) := by decide +kernel
theorem dX11_canTake_25 : decode cX11_canTake 25 = .ok (.invokevirtual 111, 3) := by decide +kernel
theorem dX11_canTake_28 : decode cX11_canTake 28 = .ok (.istore 5, 2) := by decide +kernel
theorem dX11_canTake_30 : decode cX11_canTake 30 = .ok (.iload 5, 2) := by decide +kernel
theorem dX11_canTake_32 : decode cX11_canTake 32 = .ok (.bipush 9, 2) := by decide +kernel
theorem dX11_canTake_34 : decode cX11_canTake 34 = .ok (.if_icmp .gt 96, 3) := by decide +kernel
theorem dX11_canTake_37 : decode cX11_canTake 37 = .ok (.iload 4, 2) := by decide +kernel
theorem dX11_canTake_39 : decode cX11_canTake 39 = .ok (.ifCond .eq 91, 3) := by decide +kernel
theorem dX11_canTake_42 : decode cX11_canTake 42 = .ok (.iconst 1, 1) := by decide +kernel
theorem dX11_canTake_43 : decode cX11_canTake 43 = .ok (.istore 6, 2) := by decide +kernel
theorem dX11_canTake_45 : decode cX11_canTake 45 = .ok (.iconst 0, 1) := by decide +kernel
theorem dX11_canTake_46 : decode cX11_canTake 46 = .ok (.istore 7, 2) := by decide +kernel
theorem dX11_canTake_48 : decode cX11_canTake 48 = .ok (.iload 7, 2) := by decide +kernel
theorem dX11_canTake_50 : decode cX11_canTake 50 = .ok (.aload_n 0, 1) := by decide +kernel
theorem dX11_canTake_51 : decode cX11_canTake 51 = .ok (.getfield 13, 3) := by decide +kernel
theorem dX11_canTake_54 : decode cX11_canTake 54 = .ok (.iconst 5, 1) := by decide +kernel
theorem dX11_canTake_55 : decode cX11_canTake 55 = .ok (.iaload, 1) := by decide +kernel
theorem dX11_canTake_56 : decode cX11_canTake 56 = .ok (.if_icmp .ge 48, 3) := by decide +kernel
theorem dX11_canTake_59 : decode cX11_canTake 59 = .ok (.iload 6, 2) := by decide +kernel
theorem dX11_canTake_61 : decode cX11_canTake 61 = .ok (.aload_n 0, 1) := by decide +kernel
theorem dX11_canTake_62 : decode cX11_canTake 62 = .ok (.iload 7, 2) := by decide +kernel
theorem dX11_canTake_64 : decode cX11_canTake 64 = .ok (.iconst 0, 1) := by decide +kernel
theorem dX11_canTake_65 : decode cX11_canTake 65 = .ok (.invokevirtual 111, 3) := by decide +kernel
theorem dX11_canTake_68 : decode cX11_canTake 68 = .ok (.iload_n 2, 1) := by decide +kernel
theorem dX11_canTake_69 : decode cX11_canTake 69 = .ok (.if_icmp .ne 25, 3) := by decide +kernel
theorem dX11_canTake_72 : decode cX11_canTake 72 = .ok (.aload_n 0, 1) := by decide +kernel
theorem dX11_canTake_73 : decode cX11_canTake 73 = .ok (.iload 7, 2) := by decide +kernel
theorem dX11_canTake_75 : decode cX11_canTake 75 = .ok (.iconst 1, 1) := by decide +kernel
theorem dX11_canTake_76 : decode cX11_canTake 76 = .ok (.invokevirtual 111, 3) := by decide +kernel
theorem dX11_canTake_79 : decode cX11_canTake 79 = .ok (.iload 5, 2) := by decide +kernel
theorem dX11_canTake_81 : decode cX11_canTake 81 = .ok (.if_icmp .gt 13, 3) := by decide +kernel
theorem dX11_canTake_84 : decode cX11_canTake 84 = .ok (.aload_n 0, 1) := by decide +kernel
theorem dX11_canTake_85 : decode cX11_canTake 85 = .ok (.getfield 22, 3) := by decide +kernel
theorem dX11_canTake_88 : decode cX11_canTake 88 = .ok (.iload 7, 2) := by decide +kernel
theorem dX11_canTake_90 : decode cX11_canTake 90 = .ok (.iaload, 1) := by decide +kernel
theorem dX11_canTake_91 : decode cX11_canTake 91 = .ok (.goto 4, 3) := by decide +kernel
theorem dX11_canTake_94 : decode cX11_canTake 94 = .ok (.iconst 0, 1) := by decide +kernel
theorem dX11_canTake_95 : decode cX11_canTake 95 = .ok (.iadd, 1) := by decide +kernel
theorem dX11_canTake_96 : decode cX11_canTake 96 = .ok (.istore 6, 2) := by decide +kernel
theorem dX11_canTake_98 : decode cX11_canTake 98 = .ok (.iinc 7 1, 3) := by decide +kernel
theorem dX11_canTake_101 : decode cX11_canTake 101 = .ok (.goto (-53), 3) := by decide +kernel
theorem dX11_canTake_104 : decode cX11_canTake 104 = .ok (.iload 6, 2) := by decide +kernel
theorem dX11_canTake_106 : decode cX11_canTake 106 = .ok (.aload_n 0, 1) := by decide +kernel
theorem dX11_canTake_107 : decode cX11_canTake 107 = .ok (.iload_n 2, 1) := by decide +kernel
theorem dX11_canTake_108 : decode cX11_canTake 108 = .ok (.iload 5, 2) := by decide +kernel
theorem dX11_canTake_110 : decode cX11_canTake 110 = .ok (.iload_n 3, 1) := by decide +kernel
theorem dX11_canTake_111 : decode cX11_canTake 111 = .ok (.invokevirtual 117, 3) := by decide +kernel
theorem dX11_canTake_114 : decode cX11_canTake 114 = .ok (.if_icmp .gt 7, 3) := by decide +kernel
theorem dX11_canTake_117 : decode cX11_canTake 117 = .ok (.iconst 1, 1) := by decide +kernel
theorem dX11_canTake_118 : decode cX11_canTake 118 = .ok (.goto 4, 3) := by decide +kernel
theorem dX11_canTake_121 : decode cX11_canTake 121 = .ok (.iconst 0, 1) := by decide +kernel
theorem dX11_canTake_122 : decode cX11_canTake 122 = .ok (.istore 4, 2) := by decide +kernel
theorem dX11_canTake_124 : decode cX11_canTake 124 = .ok (.iinc 5 1, 3) := by decide +kernel
theorem dX11_canTake_127 : decode cX11_canTake 127 = .ok (.goto (-97), 3) := by decide +kernel
theorem dX11_canTake_130 : decode cX11_canTake 130 = .ok (.iload 4, 2) := by decide +kernel
theorem dX11_canTake_132 : decode cX11_canTake 132 = .ok (.ireturn, 1) := by decide +kernel
set_option maxRecDepth 20000 in
theorem ggX11_match_X11_rightAt : GoodIn wsX11_match wsX11_rightAt := goodIn_r _ [9, 3, 27, 28, 29, 30, 31, 32, 33, 34, 35, 36] (by decide +kernel) (by decide +kernel)
set_option maxRecDepth 20000 in
theorem gX11_match_X11_rightAt : GoodIn wsX11_match (wsV RX11 111 RX11 yX11_rightAt wsX11_rightAt) := goodIn_app (goodIn_of _ (by decide +kernel)) ggX11_match_X11_rightAt
set_option maxRecDepth 20000 in
theorem ggX11_match_X11_isOn : GoodIn wsX11_match wsX11_isOn := goodIn_r _ [13, 5, 6, 7, 8, 9, 3, 27, 28, 29, 30, 31, 32, 33, 34, 35, 36] (by decide +kernel) (by decide +kernel)
set_option maxRecDepth 20000 in
theorem gX11_match_X11_isOn : GoodIn wsX11_match (wsV RX11 114 RX11 yX11_isOn wsX11_isOn) := goodIn_app (goodIn_of _ (by decide +kernel)) ggX11_match_X11_isOn
set_option maxRecDepth 20000 in
theorem ggX11_match_X11_canTake : GoodIn wsX11_match wsX11_canTake := goodIn_r _ [17, 1, 3, 5, 6, 7, 8, 9, 18, 19, 20, 21, 22, 23, 24, 25, 26, 27, 28, 29, 30, 31, 32, 33, 34, 35, 36] (by decide +kernel) (by decide +kernel)
set_option maxRecDepth 20000 in
theorem gX11_match_X11_canTake : GoodIn wsX11_match (wsV RX11 124 RX11 yX11_canTake wsX11_canTake) := goodIn_app (goodIn_of _ (by decide +kernel)) ggX11_match_X11_canTake
set_option maxRecDepth 20000 in
theorem ggX11_match_X11_needsUpTo : GoodIn wsX11_match wsX11_needsUpTo := goodIn_r _ [21, 3, 22, 23, 24, 25, 8, 26, 27, 28, 29, 30, 31, 32, 33, 34, 35, 36] (by decide +kernel) (by decide +kernel)
set_option maxRecDepth 20000 in
theorem gX11_match_X11_needsUpTo : GoodIn wsX11_match (wsV RX11 117 RX11 yX11_needsUpTo wsX11_needsUpTo) := goodIn_app (goodIn_of _ (by decide +kernel)) ggX11_match_X11_needsUpTo
theorem dX11_match_0 : decode cX11_match 0 = .ok (.iconst 0, 1) := by decide +kernel
theorem dX11_match_1 : decode cX11_match 1 = .ok (.istore 5, 2) := by decide +kernel
theorem dX11_match_3 : decode cX11_match 3 = .ok (.iload 5, 2) := by decide +kernel
theorem dX11_match_5 : decode cX11_match 5 = .ok (.bipush 10, 2) := by decide +kernel
theorem dX11_match_7 : decode cX11_match 7 = .ok (.if_icmp .ge 17, 3) := by decide +kernel
theorem dX11_match_10 : decode cX11_match 10 = .ok (.aload_n 0, 1) := by decide +kernel
theorem dX11_match_11 : decode cX11_match 11 = .ok (.getfield 22, 3) := by decide +kernel
theorem dX11_match_14 : decode cX11_match 14 = .ok (.iload 5, 2) := by decide +kernel
theorem dX11_match_16 : decode cX11_match 16 = .ok (.iconst 0, 1) := by decide +kernel
theorem dX11_match_17 : decode cX11_match 17 = .ok (.iastore, 1) := by decide +kernel
theorem dX11_match_18 : decode cX11_match 18 = .ok (.iinc 5 1, 3) := by decide +kernel
theorem dX11_match_21 : decode cX11_match 21 = .ok (.goto (-18), 3) := by decide +kernel
theorem dX11_match_24 : decode cX11_match 24 = .ok (.iconst 0, 1) := by decide +kernel
theorem dX11_match_25 : decode cX11_match 25 = .ok (.istore 5, 2) := by decide +kernel
theorem dX11_match_27 : decode cX11_match 27 = .ok (.aload_n 0, 1) := by decide +kernel
theorem dX11_match_28 : decode cX11_match 28 = .ok (.iconst 0, 1) := by decide +kernel
theorem dX11_match_29 : decode cX11_match 29 = .ok (.putfield 121, 3) := by decide +kernel
theorem dX11_match_32 : decode cX11_match 32 = .ok (.iconst (-1), 1) := by decide +kernel
theorem dX11_match_33 : decode cX11_match 33 = .ok (.istore 6, 2) := by decide +kernel
theorem dX11_match_35 : decode cX11_match 35 = .ok (.iconst 0, 1) := by decide +kernel
theorem dX11_match_36 : decode cX11_match 36 = .ok (.istore 7, 2) := by decide +kernel
theorem dX11_match_38 : decode cX11_match 38 = .ok (.iload 7, 2) := by decide +kernel
theorem dX11_match_40 : decode cX11_match 40 = .ok (.aload_n 0, 1) := by decide +kernel
theorem dX11_match_41 : decode cX11_match 41 = .ok (.getfield 13, 3) := by decide +kernel
theorem dX11_match_44 : decode cX11_match 44 = .ok (.iconst 5, 1) := by decide +kernel
theorem dX11_match_45 : decode cX11_match 45 = .ok (.iaload, 1) := by decide +kernel
theorem dX11_match_46 : decode cX11_match 46 = .ok (.if_icmp .ge 91, 3) := by decide +kernel
theorem dX11_match_49 : decode cX11_match 49 = .ok (.aload_n 0, 1) := by decide +kernel
theorem dX11_match_50 : decode cX11_match 50 = .ok (.iload 7, 2) := by decide +kernel
theorem dX11_match_52 : decode cX11_match 52 = .ok (.iconst 0, 1) := by decide +kernel
theorem dX11_match_53 : decode cX11_match 53 = .ok (.invokevirtual 111, 3) := by decide +kernel
theorem dX11_match_56 : decode cX11_match 56 = .ok (.iload_n 1, 1) := by decide +kernel
theorem dX11_match_57 : decode cX11_match 57 = .ok (.if_icmp .ne 35, 3) := by decide +kernel
theorem dX11_match_60 : decode cX11_match 60 = .ok (.iload 7, 2) := by decide +kernel
theorem dX11_match_62 : decode cX11_match 62 = .ok (.iload_n 3, 1) := by decide +kernel
theorem dX11_match_63 : decode cX11_match 63 = .ok (.if_icmp .eq 29, 3) := by decide +kernel
theorem dX11_match_66 : decode cX11_match 66 = .ok (.aload_n 0, 1) := by decide +kernel
theorem dX11_match_67 : decode cX11_match 67 = .ok (.iload 7, 2) := by decide +kernel
theorem dX11_match_69 : decode cX11_match 69 = .ok (.iload_n 2, 1) := by decide +kernel
theorem dX11_match_70 : decode cX11_match 70 = .ok (.invokevirtual 114, 3) := by decide +kernel
theorem dX11_match_73 : decode cX11_match 73 = .ok (.ifCond .eq 19, 3) := by decide +kernel
theorem dX11_match_76 : decode cX11_match 76 = .ok (.aload_n 0, 1) := by decide +kernel
theorem dX11_match_77 : decode cX11_match 77 = .ok (.iload 7, 2) := by decide +kernel
theorem dX11_match_79 : decode cX11_match 79 = .ok (.iload_n 1, 1) := by decide +kernel
theorem dX11_match_80 : decode cX11_match 80 = .ok (.iload 4, 2) := by decide +kernel
theorem dX11_match_82 : decode cX11_match 82 = .ok (.invokevirtual 124, 3) := by decide +kernel
theorem dX11_match_85 : decode cX11_match 85 = .ok (.ifCond .eq 7, 3) := by decide +kernel
theorem dX11_match_88 : decode cX11_match 88 = .ok (.iconst 1, 1) := by decide +kernel
theorem dX11_match_89 : decode cX11_match 89 = .ok (.goto 4, 3) := by decide +kernel
theorem dX11_match_92 : decode cX11_match 92 = .ok (.iconst 0, 1) := by decide +kernel
theorem dX11_match_93 : decode cX11_match 93 = .ok (.istore 8, 2) := by decide +kernel
theorem dX11_match_95 : decode cX11_match 95 = .ok (.iload 8, 2) := by decide +kernel
theorem dX11_match_97 : decode cX11_match 97 = .ok (.ifCond .eq 30, 3) := by decide +kernel
theorem dX11_match_100 : decode cX11_match 100 = .ok (.iload 6, 2) := by decide +kernel
theorem dX11_match_102 : decode cX11_match 102 = .ok (.ifCond .lt 20, 3) := by decide +kernel
theorem dX11_match_105 : decode cX11_match 105 = .ok (.aload_n 0, 1) := by decide +kernel
theorem dX11_match_106 : decode cX11_match 106 = .ok (.iload 7, 2) := by decide +kernel
theorem dX11_match_108 : decode cX11_match 108 = .ok (.iconst 3, 1) := by decide +kernel
theorem dX11_match_109 : decode cX11_match 109 = .ok (.invokevirtual 111, 3) := by decide +kernel
theorem dX11_match_112 : decode cX11_match 112 = .ok (.aload_n 0, 1) := by decide +kernel
theorem dX11_match_113 : decode cX11_match 113 = .ok (.iload 6, 2) := by decide +kernel
theorem dX11_match_115 : decode cX11_match 115 = .ok (.iconst 3, 1) := by decide +kernel
theorem dX11_match_116 : decode cX11_match 116 = .ok (.invokevirtual 111, 3) := by decide +kernel
theorem dX11_match_119 : decode cX11_match 119 = .ok (.if_icmp .ge 8, 3) := by decide +kernel
theorem dX11_match_122 : decode cX11_match 122 = .ok (.iload 7, 2) := by decide +kernel
theorem dX11_match_124 : decode cX11_match 124 = .ok (.goto 5, 3) := by decide +kernel
theorem dX11_match_127 : decode cX11_match 127 = .ok (.iload 6, 2) := by decide +kernel
theorem dX11_match_129 : decode cX11_match 129 = .ok (.istore 6, 2) := by decide +kernel
theorem dX11_match_131 : decode cX11_match 131 = .ok (.iinc 7 1, 3) := by decide +kernel
theorem dX11_match_134 : decode cX11_match 134 = .ok (.goto (-96), 3) := by decide +kernel
theorem dX11_match_137 : decode cX11_match 137 = .ok (.iload 6, 2) := by decide +kernel
theorem dX11_match_139 : decode cX11_match 139 = .ok (.ifCond .ge 6, 3) := by decide +kernel
theorem dX11_match_142 : decode cX11_match 142 = .ok (.goto 36, 3) := by decide +kernel
theorem dX11_match_145 : decode cX11_match 145 = .ok (.aload_n 0, 1) := by decide +kernel
theorem dX11_match_146 : decode cX11_match 146 = .ok (.getfield 22, 3) := by decide +kernel
theorem dX11_match_149 : decode cX11_match 149 = .ok (.iload 6, 2) := by decide +kernel
theorem dX11_match_151 : decode cX11_match 151 = .ok (.dup2, 1) := by decide +kernel
theorem dX11_match_152 : decode cX11_match 152 = .ok (.iaload, 1) := by decide +kernel
theorem dX11_match_153 : decode cX11_match 153 = .ok (.iconst 1, 1) := by decide +kernel
theorem dX11_match_154 : decode cX11_match 154 = .ok (.iadd, 1) := by decide +kernel
theorem dX11_match_155 : decode cX11_match 155 = .ok (.iastore, 1) := by decide +kernel
theorem dX11_match_156 : decode cX11_match 156 = .ok (.iinc 5 1, 3) := by decide +kernel
theorem dX11_match_159 : decode cX11_match 159 = .ok (.aload_n 0, 1) := by decide +kernel
theorem dX11_match_160 : decode cX11_match 160 = .ok (.dup, 1) := by decide +kernel
theorem dX11_match_161 : decode cX11_match 161 = .ok (.getfield 121, 3) := by decide +kernel
theorem dX11_match_164 : decode cX11_match 164 = .ok (.aload_n 0, 1) := by decide +kernel
theorem dX11_match_165 : decode cX11_match 165 = .ok (.iload 6, 2) := by decide +kernel
theorem dX11_match_167 : decode cX11_match 167 = .ok (.iconst 3, 1) := by decide +kernel
theorem dX11_match_168 : decode cX11_match 168 = .ok (.invokevirtual 111, 3) := by decide +kernel
theorem dX11_match_171 : decode cX11_match 171 = .ok (.iadd, 1) := by decide +kernel
theorem dX11_match_172 : decode cX11_match 172 = .ok (.putfield 121, 3) := by decide +kernel
theorem dX11_match_175 : decode cX11_match 175 = .ok (.goto (-143), 3) := by decide +kernel
theorem dX11_match_178 : decode cX11_match 178 = .ok (.aload_n 0, 1) := by decide +kernel
theorem dX11_match_179 : decode cX11_match 179 = .ok (.aload_n 0, 1) := by decide +kernel
theorem dX11_match_180 : decode cX11_match 180 = .ok (.iload_n 1, 1) := by decide +kernel
theorem dX11_match_181 : decode cX11_match 181 = .ok (.bipush 9, 2) := by decide +kernel
theorem dX11_match_183 : decode cX11_match 183 = .ok (.iload 4, 2) := by decide +kernel
theorem dX11_match_185 : decode cX11_match 185 = .ok (.invokevirtual 117, 3) := by decide +kernel
theorem dX11_match_188 : decode cX11_match 188 = .ok (.iload 5, 2) := by decide +kernel
theorem dX11_match_190 : decode cX11_match 190 = .ok (.isub, 1) := by decide +kernel
theorem dX11_match_191 : decode cX11_match 191 = .ok (.putfield 127, 3) := by decide +kernel
theorem dX11_match_194 : decode cX11_match 194 = .ok (.return_, 1) := by decide +kernel
set_option maxRecDepth 20000 in
theorem ggX11_lackOn_X11_match : GoodIn wsX11_lackOn wsX11_match := goodIn_r _ [7, 8, 9, 1, 2, 10, 11, 12, 6, 13, 14, 15, 16, 17, 18, 19, 20, 21, 22, 23, 24, 25, 26, 27, 28, 29, 30, 31, 32, 33, 34, 35, 36, 37, 38, 39, 40] (by decide +kernel) (by decide +kernel)
set_option maxRecDepth 20000 in
theorem gX11_lackOn_X11_match : GoodIn wsX11_lackOn (wsV RX11 130 RX11 yX11_match wsX11_match) := goodIn_app (goodIn_of _ (by decide +kernel)) ggX11_lackOn_X11_match
theorem dX11_lackOn_0 : decode cX11_lackOn 0 = .ok (.iconst 0, 1) := by decide +kernel
theorem dX11_lackOn_1 : decode cX11_lackOn 1 = .ok (.istore 4, 2) := by decide +kernel
theorem dX11_lackOn_3 : decode cX11_lackOn 3 = .ok (.iconst 0, 1) := by decide +kernel
theorem dX11_lackOn_4 : decode cX11_lackOn 4 = .ok (.istore 5, 2) := by decide +kernel
theorem dX11_lackOn_6 : decode cX11_lackOn 6 = .ok (.iload 5, 2) := by decide +kernel
theorem dX11_lackOn_8 : decode cX11_lackOn 8 = .ok (.aload_n 0, 1) := by decide +kernel
theorem dX11_lackOn_9 : decode cX11_lackOn 9 = .ok (.getfield 13, 3) := by decide +kernel
theorem dX11_lackOn_12 : decode cX11_lackOn 12 = .ok (.iconst 0, 1) := by decide +kernel
theorem dX11_lackOn_13 : decode cX11_lackOn 13 = .ok (.iaload, 1) := by decide +kernel
theorem dX11_lackOn_14 : decode cX11_lackOn 14 = .ok (.if_icmp .ge 27, 3) := by decide +kernel
theorem dX11_lackOn_17 : decode cX11_lackOn 17 = .ok (.aload_n 0, 1) := by decide +kernel
theorem dX11_lackOn_18 : decode cX11_lackOn 18 = .ok (.iload 5, 2) := by decide +kernel
theorem dX11_lackOn_20 : decode cX11_lackOn 20 = .ok (.iload_n 1, 1) := by decide +kernel
theorem dX11_lackOn_21 : decode cX11_lackOn 21 = .ok (.iload_n 2, 1) := by decide +kernel
theorem dX11_lackOn_22 : decode cX11_lackOn 22 = .ok (.iload_n 3, 1) := by decide +kernel
theorem dX11_lackOn_23 : decode cX11_lackOn 23 = .ok (.invokevirtual 130, 3) := by decide +kernel
theorem dX11_lackOn_26 : decode cX11_lackOn 26 = .ok (.iload 4, 2) := by decide +kernel
theorem dX11_lackOn_28 : decode cX11_lackOn 28 = .ok (.aload_n 0, 1) := by decide +kernel
theorem dX11_lackOn_29 : decode cX11_lackOn 29 = .ok (.getfield 127, 3) := by decide +kernel
theorem dX11_lackOn_32 : decode cX11_lackOn 32 = .ok (.iadd, 1) := by decide +kernel
theorem dX11_lackOn_33 : decode cX11_lackOn 33 = .ok (.istore 4, 2) := by decide +kernel
theorem dX11_lackOn_35 : decode cX11_lackOn 35 = .ok (.iinc 5 1, 3) := by decide +kernel
theorem dX11_lackOn_38 : decode cX11_lackOn 38 = .ok (.goto (-32), 3) := by decide +kernel
theorem dX11_lackOn_41 : decode cX11_lackOn 41 = .ok (.iload 4, 2) := by decide +kernel
theorem dX11_lackOn_43 : decode cX11_lackOn 43 = .ok (.ireturn, 1) := by decide +kernel
set_option maxRecDepth 20000 in
theorem ggX11_lack_X11_tellHad : GoodIn wsX11_lack wsX11_tellHad := goodIn_r _ [6, 7, 1, 8, 9, 10, 5, 11, 12, 13, 14, 15, 16, 17, 18, 19, 20, 21, 22, 23, 24, 25, 26, 27, 28, 29, 30, 31, 32, 33, 34, 35, 36, 37, 38, 39, 40, 41, 42, 43, 71, 72, 73, 74, 75, 76, 77, 78, 79, 80] (by decide +kernel) (by decide +kernel)
set_option maxRecDepth 20000 in
theorem gX11_lack_X11_tellHad : GoodIn wsX11_lack (wsV RX11 93 RX11 yX11_tellHad wsX11_tellHad) := goodIn_app (goodIn_of _ (by decide +kernel)) ggX11_lack_X11_tellHad
set_option maxRecDepth 20000 in
theorem ggX11_lack_X11_lackOn : GoodIn wsX11_lack wsX11_lackOn := goodIn_r _ [47, 1, 48, 49, 50, 51, 5, 52, 53, 54, 55, 56, 57, 58, 59, 60, 61, 62, 63, 64, 65, 66, 67, 68, 69, 70, 7, 32, 33, 34, 35, 71, 72, 73, 74, 75, 76, 77, 78, 79, 80] (by decide +kernel) (by decide +kernel)
set_option maxRecDepth 20000 in
theorem gX11_lack_X11_lackOn : GoodIn wsX11_lack (wsV RX11 133 RX11 yX11_lackOn wsX11_lackOn) := goodIn_app (goodIn_of _ (by decide +kernel)) ggX11_lack_X11_lackOn
theorem dX11_lack_0 : decode cX11_lack 0 = .ok (.aload_n 0, 1) := by decide +kernel
theorem dX11_lack_1 : decode cX11_lack 1 = .ok (.invokevirtual 93, 3) := by decide +kernel
theorem dX11_lack_4 : decode cX11_lack 4 = .ok (.aload_n 0, 1) := by decide +kernel
theorem dX11_lack_5 : decode cX11_lack 5 = .ok (.aload_n 0, 1) := by decide +kernel
theorem dX11_lack_6 : decode cX11_lack 6 = .ok (.getfield 13, 3) := by decide +kernel
theorem dX11_lack_9 : decode cX11_lack 9 = .ok (.bipush 6, 2) := by decide +kernel
theorem dX11_lack_11 : decode cX11_lack 11 = .ok (.iaload, 1) := by decide +kernel
theorem dX11_lack_12 : decode cX11_lack 12 = .ok (.iconst (-1), 1) := by decide +kernel
theorem dX11_lack_13 : decode cX11_lack 13 = .ok (.iconst (-1), 1) := by decide +kernel
theorem dX11_lack_14 : decode cX11_lack 14 = .ok (.invokevirtual 133, 3) := by decide +kernel
theorem dX11_lack_17 : decode cX11_lack 17 = .ok (.ireturn, 1) := by decide +kernel
set_option maxRecDepth 20000 in
theorem ggX11_cost_X11_tellHad : GoodIn wsX11_cost wsX11_tellHad := goodIn_r _ [7, 8, 1, 9, 10, 11, 6, 12, 13, 14, 15, 16, 17, 18, 19, 20, 21, 22, 23, 24, 25, 26, 27, 28, 29, 30, 31, 32, 33, 34, 35, 36, 37, 38, 39, 40, 41, 42, 43, 44, 67, 68, 69, 70, 71, 72, 73, 74, 75, 76] (by decide +kernel) (by decide +kernel)
set_option maxRecDepth 20000 in
theorem gX11_cost_X11_tellHad : GoodIn wsX11_cost (wsV RX11 93 RX11 yX11_tellHad wsX11_tellHad) := goodIn_app (goodIn_of _ (by decide +kernel)) ggX11_cost_X11_tellHad
set_option maxRecDepth 20000 in
theorem ggX11_cost_X11_match : GoodIn wsX11_cost wsX11_match := goodIn_r _ [48, 49, 2, 1, 50, 51, 52, 53, 6, 54, 55, 56, 57, 58, 59, 60, 61, 62, 63, 64, 65, 66, 8, 33, 34, 35, 36, 67, 68, 69, 70, 71, 72, 73, 74, 75, 76] (by decide +kernel) (by decide +kernel)
set_option maxRecDepth 20000 in
theorem gX11_cost_X11_match : GoodIn wsX11_cost (wsV RX11 130 RX11 yX11_match wsX11_match) := goodIn_app (goodIn_of _ (by decide +kernel)) ggX11_cost_X11_match
theorem dX11_cost_0 : decode cX11_cost 0 = .ok (.aload_n 0, 1) := by decide +kernel
theorem dX11_cost_1 : decode cX11_cost 1 = .ok (.invokevirtual 93, 3) := by decide +kernel
theorem dX11_cost_4 : decode cX11_cost 4 = .ok (.iconst 0, 1) := by decide +kernel
theorem dX11_cost_5 : decode cX11_cost 5 = .ok (.istore_n 1, 1) := by decide +kernel
theorem dX11_cost_6 : decode cX11_cost 6 = .ok (.iconst 0, 1) := by decide +kernel
theorem dX11_cost_7 : decode cX11_cost 7 = .ok (.istore_n 2, 1) := by decide +kernel
theorem dX11_cost_8 : decode cX11_cost 8 = .ok (.iload_n 2, 1) := by decide +kernel
theorem dX11_cost_9 : decode cX11_cost 9 = .ok (.aload_n 0, 1) := by decide +kernel
theorem dX11_cost_10 : decode cX11_cost 10 = .ok (.getfield 13, 3) := by decide +kernel
theorem dX11_cost_13 : decode cX11_cost 13 = .ok (.iconst 0, 1) := by decide +kernel
theorem dX11_cost_14 : decode cX11_cost 14 = .ok (.iaload, 1) := by decide +kernel
theorem dX11_cost_15 : decode cX11_cost 15 = .ok (.if_icmp .ge 30, 3) := by decide +kernel
theorem dX11_cost_18 : decode cX11_cost 18 = .ok (.aload_n 0, 1) := by decide +kernel
theorem dX11_cost_19 : decode cX11_cost 19 = .ok (.iload_n 2, 1) := by decide +kernel
theorem dX11_cost_20 : decode cX11_cost 20 = .ok (.aload_n 0, 1) := by decide +kernel
theorem dX11_cost_21 : decode cX11_cost 21 = .ok (.getfield 13, 3) := by decide +kernel
theorem dX11_cost_24 : decode cX11_cost 24 = .ok (.bipush 6, 2) := by decide +kernel
theorem dX11_cost_26 : decode cX11_cost 26 = .ok (.iaload, 1) := by decide +kernel
theorem dX11_cost_27 : decode cX11_cost 27 = .ok (.iconst (-1), 1) := by decide +kernel
theorem dX11_cost_28 : decode cX11_cost 28 = .ok (.iconst (-1), 1) := by decide +kernel
theorem dX11_cost_29 : decode cX11_cost 29 = .ok (.invokevirtual 130, 3) := by decide +kernel
theorem dX11_cost_32 : decode cX11_cost 32 = .ok (.iload_n 1, 1) := by decide +kernel
theorem dX11_cost_33 : decode cX11_cost 33 = .ok (.aload_n 0, 1) := by decide +kernel
theorem dX11_cost_34 : decode cX11_cost 34 = .ok (.getfield 121, 3) := by decide +kernel
theorem dX11_cost_37 : decode cX11_cost 37 = .ok (.iadd, 1) := by decide +kernel
theorem dX11_cost_38 : decode cX11_cost 38 = .ok (.istore_n 1, 1) := by decide +kernel
theorem dX11_cost_39 : decode cX11_cost 39 = .ok (.iinc 2 1, 3) := by decide +kernel
theorem dX11_cost_42 : decode cX11_cost 42 = .ok (.goto (-34), 3) := by decide +kernel
theorem dX11_cost_45 : decode cX11_cost 45 = .ok (.iload_n 1, 1) := by decide +kernel
theorem dX11_cost_46 : decode cX11_cost 46 = .ok (.ireturn, 1) := by decide +kernel
set_option maxRecDepth 20000 in
theorem ggX11_of_X11_isProduct : GoodIn wsX11_of wsX11_isProduct := goodIn_r _ [8, 1, 76, 77, 78, 79, 80, 81, 82, 83, 84, 85] (by decide +kernel) (by decide +kernel)
set_option maxRecDepth 20000 in
theorem gX11_of_X11_isProduct : GoodIn wsX11_of (wsV RX11 40 RX11 yX11_isProduct wsX11_isProduct) := goodIn_app (goodIn_of _ (by decide +kernel)) ggX11_of_X11_isProduct
set_option maxRecDepth 20000 in
theorem ggX11_of_X11_finding : GoodIn wsX11_of wsX11_finding := goodIn_r _ [12, 13, 76, 77, 78, 79, 80, 81, 82, 83, 84, 85] (by decide +kernel) (by decide +kernel)
set_option maxRecDepth 20000 in
theorem gX11_of_X11_finding : GoodIn wsX11_of (wsV RX11 33 RX11 yX11_finding wsX11_finding) := goodIn_app (goodIn_of _ (by decide +kernel)) ggX11_of_X11_finding
set_option maxRecDepth 20000 in
theorem ggX11_of_X11_tellHad : GoodIn wsX11_of wsX11_tellHad := goodIn_r _ [17, 18, 1, 19, 20, 21, 7, 22, 23, 24, 25, 26, 27, 28, 29, 30, 31, 32, 33, 34, 35, 36, 37, 38, 39, 40, 41, 42, 43, 44, 45, 46, 47, 48, 49, 50, 51, 52, 53, 54, 76, 77, 78, 79, 80, 81, 82, 83, 84, 85] (by decide +kernel) (by decide +kernel)
set_option maxRecDepth 20000 in
theorem gX11_of_X11_tellHad : GoodIn wsX11_of (wsV RX11 93 RX11 yX11_tellHad wsX11_tellHad) := goodIn_app (goodIn_of _ (by decide +kernel)) ggX11_of_X11_tellHad
set_option maxRecDepth 20000 in
theorem ggX11_of_X11_match : GoodIn wsX11_of wsX11_match := goodIn_r _ [58, 59, 2, 1, 3, 60, 61, 62, 7, 63, 64, 65, 66, 67, 68, 69, 70, 71, 72, 73, 74, 75, 18, 43, 44, 45, 46, 76, 77, 78, 79, 80, 81, 82, 83, 84, 85] (by decide +kernel) (by decide +kernel)
set_option maxRecDepth 20000 in
theorem gX11_of_X11_match : GoodIn wsX11_of (wsV RX11 130 RX11 yX11_match wsX11_match) := goodIn_app (goodIn_of _ (by decide +kernel)) ggX11_of_X11_match
theorem dX11_of_0 : decode cX11_of 0 = .ok (.aload_n 0, 1) := by decide +kernel
theorem dX11_of_1 : decode cX11_of 1 = .ok (.iload_n 1, 1) := by decide +kernel
theorem dX11_of_2 : decode cX11_of 2 = .ok (.invokevirtual 40, 3) := by decide +kernel
theorem dX11_of_5 : decode cX11_of 5 = .ok (.ifCond .ne 9, 3) := by decide +kernel
theorem dX11_of_8 : decode cX11_of 8 = .ok (.aload_n 0, 1) := by decide +kernel
theorem dX11_of_9 : decode cX11_of 9 = .ok (.iconst (-1), 1) := by decide +kernel
theorem dX11_of_10 : decode cX11_of 10 = .ok (.invokevirtual 33, 3) := by decide +kernel
theorem dX11_of_13 : decode cX11_of 13 = .ok (.ireturn, 1) := by decide +kernel
theorem dX11_of_14 : decode cX11_of 14 = .ok (.aload_n 0, 1) := by decide +kernel
theorem dX11_of_15 : decode cX11_of 15 = .ok (.invokevirtual 93, 3) := by decide +kernel
