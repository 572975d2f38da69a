set_option maxRecDepth 20000 in
theorem ggX0_init_X6_init : GoodIn wsX0_init wsX6_init := goodIn_r _ [30, 31, 2, 3, 32, 33, 34, 35, 71, 72, 73, 74] (by decide +kernel) (by decide +kernel)
set_option maxRecDepth 20000 in
theorem gX0_init_X6_init_n11 : GoodIn wsX0_init (wsX6_init) := ggX0_init_X6_init
set_option maxRecDepth 20000 in
theorem ggX0_init_X8_init : GoodIn wsX0_init wsX8_init := goodIn_r _ [37, 38, 2, 3, 39, 40, 32, 41, 42, 83, 84, 85, 86] (by decide +kernel) (by decide +kernel)
set_option maxRecDepth 20000 in
theorem gX0_init_X8_init_n20 : GoodIn wsX0_init (wsX8_init) := ggX0_init_X8_init
set_option maxRecDepth 20000 in
theorem ggX0_init_X3_init : GoodIn wsX0_init wsX3_init := goodIn_r _ [44, 45, 2, 3, 32, 46, 47, 87, 88, 89] (by decide +kernel) (by decide +kernel)
set_option maxRecDepth 20000 in
theorem gX0_init_X3_init_n27 : GoodIn wsX0_init (wsX3_init) := ggX0_init_X3_init
set_option maxRecDepth 20000 in
theorem ggX0_init_X1_init : GoodIn wsX0_init wsX1_init := goodIn_r _ [49, 50, 2, 3, 39, 51, 32, 52, 53, 54, 90, 91, 92, 93, 94] (by decide +kernel) (by decide +kernel)
set_option maxRecDepth 20000 in
theorem gX0_init_X1_init_n34 : GoodIn wsX0_init (wsX1_init) := ggX0_init_X1_init
set_option maxRecDepth 20000 in
theorem ggX0_init_X9_init : GoodIn wsX0_init wsX9_init := goodIn_r _ [56, 57, 2, 3, 32, 58, 59, 60, 61, 95, 96, 97, 98, 99] (by decide +kernel) (by decide +kernel)
set_option maxRecDepth 20000 in
theorem gX0_init_X9_init_n41 : GoodIn wsX0_init (wsX9_init) := ggX0_init_X9_init
set_option maxRecDepth 20000 in
theorem ggX0_init_X7_init : GoodIn wsX0_init wsX7_init := goodIn_r _ [63, 64, 2, 3, 32, 65, 66, 67, 68, 69, 70, 100, 101, 102, 103, 104, 105, 106] (by decide +kernel) (by decide +kernel)
set_option maxRecDepth 20000 in
theorem gX0_init_X7_init_n48 : GoodIn wsX0_init (wsX7_init) := ggX0_init_X7_init
theorem dX0_init_0 : decode cX0_init 0 = .ok (.aload_n 0, 1) := by decide +kernel
theorem dX0_init_1 : decode cX0_init 1 = .ok (.invokespecial 3, 3) := by decide +kernel
theorem dX0_init_4 : decode cX0_init 4 = .ok (.aload_n 0, 1) := by decide +kernel
theorem dX0_init_5 : decode cX0_init 5 = .ok (.new 9, 3) := by decide +kernel
theorem dX0_init_8 : decode cX0_init 8 = .ok (.dup, 1) := by decide +kernel
theorem dX0_init_9 : decode cX0_init 9 = .ok (.invokespecial 11, 3) := by decide +kernel
theorem dX0_init_12 : decode cX0_init 12 = .ok (.putfield 12, 3) := by decide +kernel
theorem dX0_init_15 : decode cX0_init 15 = .ok (.aload_n 0, 1) := by decide +kernel
theorem dX0_init_16 : decode cX0_init 16 = .ok (.new 18, 3) := by decide +kernel
theorem dX0_init_19 : decode cX0_init 19 = .ok (.dup, 1) := by decide +kernel
theorem dX0_init_20 : decode cX0_init 20 = .ok (.invokespecial 20, 3) := by decide +kernel
theorem dX0_init_23 : decode cX0_init 23 = .ok (.putfield 21, 3) := by decide +kernel
theorem dX0_init_26 : decode cX0_init 26 = .ok (.aload_n 0, 1) := by decide +kernel
theorem dX0_init_27 : decode cX0_init 27 = .ok (.new 25, 3) := by decide +kernel
theorem dX0_init_30 : decode cX0_init 30 = .ok (.dup, 1) := by decide +kernel
theorem dX0_init_31 : decode cX0_init 31 = .ok (.invokespecial 27, 3) := by decide +kernel
theorem dX0_init_34 : decode cX0_init 34 = .ok (.putfield 28, 3) := by decide +kernel
theorem dX0_init_37 : decode cX0_init 37 = .ok (.aload_n 0, 1) := by decide +kernel
theorem dX0_init_38 : decode cX0_init 38 = .ok (.new 32, 3) := by decide +kernel
theorem dX0_init_41 : decode cX0_init 41 = .ok (.dup, 1) := by decide +kernel
theorem dX0_init_42 : decode cX0_init 42 = .ok (.invokespecial 34, 3) := by decide +kernel
theorem dX0_init_45 : decode cX0_init 45 = .ok (.putfield 35, 3) := by decide +kernel
theorem dX0_init_48 : decode cX0_init 48 = .ok (.aload_n 0, 1) := by decide +kernel
theorem dX0_init_49 : decode cX0_init 49 = .ok (.new 39, 3) := by decide +kernel
theorem dX0_init_52 : decode cX0_init 52 = .ok (.dup, 1) := by decide +kernel
theorem dX0_init_53 : decode cX0_init 53 = .ok (.invokespecial 41, 3) := by decide +kernel
theorem dX0_init_56 : decode cX0_init 56 = .ok (.putfield 42, 3) := by decide +kernel
theorem dX0_init_59 : decode cX0_init 59 = .ok (.aload_n 0, 1) := by decide +kernel
theorem dX0_init_60 : decode cX0_init 60 = .ok (.new 46, 3) := by decide +kernel
theorem dX0_init_63 : decode cX0_init 63 = .ok (.dup, 1) := by decide +kernel
theorem dX0_init_64 : decode cX0_init 64 = .ok (.invokespecial 48, 3) := by decide +kernel
theorem dX0_init_67 : decode cX0_init 67 = .ok (.putfield 49, 3) := by decide +kernel
theorem dX0_init_70 : decode cX0_init 70 = .ok (.aload_n 0, 1) := by decide +kernel
theorem dX0_init_71 : decode cX0_init 71 = .ok (.bipush 30, 2) := by decide +kernel
theorem dX0_init_73 : decode cX0_init 73 = .ok (.putfield 53, 3) := by decide +kernel
theorem dX0_init_76 : decode cX0_init 76 = .ok (.return_, 1) := by decide +kernel
set_option maxRecDepth 20000 in
theorem ggX0_isFitting_X10_signAt : GoodIn wsX0_isFitting wsX10_signAt := goodIn_r _ [5] (by decide +kernel) (by decide +kernel)
set_option maxRecDepth 20000 in
theorem gX0_isFitting_X10_signAt_n64 : GoodIn wsX0_isFitting (wsX10_signAt) := ggX0_isFitting_X10_signAt
theorem dX0_isFitting_0 : decode cX0_isFitting 0 = .ok (.aload_n 0, 1) := by decide +kernel
theorem dX0_isFitting_1 : decode cX0_isFitting 1 = .ok (.getfield 21, 3) := by decide +kernel
theorem dX0_isFitting_4 : decode cX0_isFitting 4 = .ok (.getfield 57, 3) := by decide +kernel
theorem dX0_isFitting_7 : decode cX0_isFitting 7 = .ok (.iload_n 1, 1) := by decide +kernel
theorem dX0_isFitting_8 : decode cX0_isFitting 8 = .ok (.laload, 1) := by decide +kernel
theorem dX0_isFitting_9 : decode cX0_isFitting 9 = .ok (.lstore_n 3, 1) := by decide +kernel
theorem dX0_isFitting_10 : decode cX0_isFitting 10 = .ok (.aload_n 0, 1) := by decide +kernel
theorem dX0_isFitting_11 : decode cX0_isFitting 11 = .ok (.getfield 35, 3) := by decide +kernel
theorem dX0_isFitting_14 : decode cX0_isFitting 14 = .ok (.getfield 61, 3) := by decide +kernel
theorem dX0_isFitting_17 : decode cX0_isFitting 17 = .ok (.iload_n 2, 1) := by decide +kernel
theorem dX0_isFitting_18 : decode cX0_isFitting 18 = .ok (.laload, 1) := by decide +kernel
theorem dX0_isFitting_19 : decode cX0_isFitting 19 = .ok (.lstore 5, 2) := by decide +kernel
theorem dX0_isFitting_21 : decode cX0_isFitting 21 = .ok (.iconst 0, 1) := by decide +kernel
theorem dX0_isFitting_22 : decode cX0_isFitting 22 = .ok (.istore 7, 2) := by decide +kernel
theorem dX0_isFitting_24 : decode cX0_isFitting 24 = .ok (.iload 7, 2) := by decide +kernel
theorem dX0_isFitting_26 : decode cX0_isFitting 26 = .ok (.bipush 12, 2) := by decide +kernel
theorem dX0_isFitting_28 : decode cX0_isFitting 28 = .ok (.if_icmp .ge 74, 3) := by decide +kernel
theorem dX0_isFitting_31 : decode cX0_isFitting 31 = .ok (.lload_n 3, 1) := by decide +kernel
theorem dX0_isFitting_32 : decode cX0_isFitting 32 = .ok (.iload 7, 2) := by decide +kernel
theorem dX0_isFitting_34 : decode cX0_isFitting 34 = .ok (.invokestatic 64, 3) := by decide +kernel
theorem dX0_isFitting_37 : decode cX0_isFitting 37 = .ok (.istore 8, 2) := by decide +kernel
theorem dX0_isFitting_39 : decode cX0_isFitting 39 = .ok (.lload 5, 2) := by decide +kernel
theorem dX0_isFitting_41 : decode cX0_isFitting 41 = .ok (.iload 7, 2) := by decide +kernel
theorem dX0_isFitting_43 : decode cX0_isFitting 43 = .ok (.invokestatic 64, 3) := by decide +kernel
theorem dX0_isFitting_46 : decode cX0_isFitting 46 = .ok (.istore 9, 2) := by decide +kernel
theorem dX0_isFitting_48 : decode cX0_isFitting 48 = .ok (.iload 8, 2) := by decide +kernel
theorem dX0_isFitting_50 : decode cX0_isFitting 50 = .ok (.bipush 28, 2) := by decide +kernel
theorem dX0_isFitting_52 : decode cX0_isFitting 52 = .ok (.if_icmp .ne 5, 3) := by decide +kernel
theorem dX0_isFitting_55 : decode cX0_isFitting 55 = .ok (.iconst 1, 1) := by decide +kernel
theorem dX0_isFitting_56 : decode cX0_isFitting 56 = .ok (.ireturn, 1) := by decide +kernel
theorem dX0_isFitting_57 : decode cX0_isFitting 57 = .ok (.iload 8, 2) := by decide +kernel
theorem dX0_isFitting_59 : decode cX0_isFitting 59 = .ok (.ifCond .eq 8, 3) := by decide +kernel
theorem dX0_isFitting_62 : decode cX0_isFitting 62 = .ok (.iload 9, 2) := by decide +kernel
theorem dX0_isFitting_64 : decode cX0_isFitting 64 = .ok (.ifCond .ne 16, 3) := by decide +kernel
theorem dX0_isFitting_67 : decode cX0_isFitting 67 = .ok (.iload 8, 2) := by decide +kernel
theorem dX0_isFitting_69 : decode cX0_isFitting 69 = .ok (.iload 9, 2) := by decide +kernel
theorem dX0_isFitting_71 : decode cX0_isFitting 71 = .ok (.if_icmp .ne 7, 3) := by decide +kernel
theorem dX0_isFitting_74 : decode cX0_isFitting 74 = .ok (.iconst 1, 1) := by decide +kernel
theorem dX0_isFitting_75 : decode cX0_isFitting 75 = .ok (.goto 4, 3) := by decide +kernel
theorem dX0_isFitting_78 : decode cX0_isFitting 78 = .ok (.iconst 0, 1) := by decide +kernel
theorem dX0_isFitting_79 : decode cX0_isFitting 79 = .ok (.ireturn, 1) := by decide +kernel
theorem dX0_isFitting_80 : decode cX0_isFitting 80 = .ok (.iload 8, 2) := by decide +kernel
theorem dX0_isFitting_82 : decode cX0_isFitting 82 = .ok (.bipush 27, 2) := by decide +kernel
theorem dX0_isFitting_84 : decode cX0_isFitting 84 = .ok (.if_icmp .eq 12, 3) := by decide +kernel
theorem dX0_isFitting_87 : decode cX0_isFitting 87 = .ok (.iload 8, 2) := by decide +kernel
theorem dX0_isFitting_89 : decode cX0_isFitting 89 = .ok (.iload 9, 2) := by decide +kernel
theorem dX0_isFitting_91 : decode cX0_isFitting 91 = .ok (.if_icmp .eq 5, 3) := by decide +kernel
theorem dX0_isFitting_94 : decode cX0_isFitting 94 = .ok (.iconst 0, 1) := by decide +kernel
theorem dX0_isFitting_95 : decode cX0_isFitting 95 = .ok (.ireturn, 1) := by decide +kernel
theorem dX0_isFitting_96 : decode cX0_isFitting 96 = .ok (.iinc 7 1, 3) := by decide +kernel
theorem dX0_isFitting_99 : decode cX0_isFitting 99 = .ok (.goto (-75), 3) := by decide +kernel
theorem dX0_isFitting_102 : decode cX0_isFitting 102 = .ok (.iconst 1, 1) := by decide +kernel
theorem dX0_isFitting_103 : decode cX0_isFitting 103 = .ok (.ireturn, 1) := by decide +kernel
set_option maxRecDepth 20000 in
theorem ggX0_firstRuleOf_X0_isFitting : GoodIn wsX0_firstRuleOf wsX0_isFitting := goodIn_r _ [6, 1, 7, 8, 9, 10, 11, 12, 13, 14, 15, 16, 17, 18, 19, 20, 21, 22, 23, 24, 25, 26, 27] (by decide +kernel) (by decide +kernel)
set_option maxRecDepth 20000 in
theorem gX0_firstRuleOf_X0_isFitting : GoodIn wsX0_firstRuleOf (wsV RX0 75 RX0 yX0_isFitting wsX0_isFitting) := goodIn_app (goodIn_of _ (by decide +kernel)) ggX0_firstRuleOf_X0_isFitting
theorem dX0_firstRuleOf_0 : decode cX0_firstRuleOf 0 = .ok (.bipush (-6), 2) := by decide +kernel
theorem dX0_firstRuleOf_2 : decode cX0_firstRuleOf 2 = .ok (.istore_n 2, 1) := by decide +kernel
theorem dX0_firstRuleOf_3 : decode cX0_firstRuleOf 3 = .ok (.iconst 0, 1) := by decide +kernel
theorem dX0_firstRuleOf_4 : decode cX0_firstRuleOf 4 = .ok (.istore_n 3, 1) := by decide +kernel
theorem dX0_firstRuleOf_5 : decode cX0_firstRuleOf 5 = .ok (.iload_n 3, 1) := by decide +kernel
theorem dX0_firstRuleOf_6 : decode cX0_firstRuleOf 6 = .ok (.aload_n 0, 1) := by decide +kernel
theorem dX0_firstRuleOf_7 : decode cX0_firstRuleOf 7 = .ok (.getfield 21, 3) := by decide +kernel
theorem dX0_firstRuleOf_10 : decode cX0_firstRuleOf 10 = .ok (.getfield 68, 3) := by decide +kernel
theorem dX0_firstRuleOf_13 : decode cX0_firstRuleOf 13 = .ok (.if_icmp .ge 57, 3) := by decide +kernel
theorem dX0_firstRuleOf_16 : decode cX0_firstRuleOf 16 = .ok (.iload_n 2, 1) := by decide +kernel
theorem dX0_firstRuleOf_17 : decode cX0_firstRuleOf 17 = .ok (.ifCond .lt 24, 3) := by decide +kernel
theorem dX0_firstRuleOf_20 : decode cX0_firstRuleOf 20 = .ok (.aload_n 0, 1) := by decide +kernel
theorem dX0_firstRuleOf_21 : decode cX0_firstRuleOf 21 = .ok (.getfield 21, 3) := by decide +kernel
theorem dX0_firstRuleOf_24 : decode cX0_firstRuleOf 24 = .ok (.getfield 71, 3) := by decide +kernel
theorem dX0_firstRuleOf_27 : decode cX0_firstRuleOf 27 = .ok (.iload_n 3, 1) := by decide +kernel
theorem dX0_firstRuleOf_28 : decode cX0_firstRuleOf 28 = .ok (.iaload, 1) := by decide +kernel
theorem dX0_firstRuleOf_29 : decode cX0_firstRuleOf 29 = .ok (.aload_n 0, 1) := by decide +kernel
theorem dX0_firstRuleOf_30 : decode cX0_firstRuleOf 30 = .ok (.getfield 21, 3) := by decide +kernel
theorem dX0_firstRuleOf_33 : decode cX0_firstRuleOf 33 = .ok (.getfield 71, 3) := by decide +kernel
theorem dX0_firstRuleOf_36 : decode cX0_firstRuleOf 36 = .ok (.iload_n 2, 1) := by decide +kernel
theorem dX0_firstRuleOf_37 : decode cX0_firstRuleOf 37 = .ok (.iaload, 1) := by decide +kernel
theorem dX0_firstRuleOf_38 : decode cX0_firstRuleOf 38 = .ok (.if_icmp .ge 7, 3) := by decide +kernel
theorem dX0_firstRuleOf_41 : decode cX0_firstRuleOf 41 = .ok (.iconst 1, 1) := by decide +kernel
theorem dX0_firstRuleOf_42 : decode cX0_firstRuleOf 42 = .ok (.goto 4, 3) := by decide +kernel
theorem dX0_firstRuleOf_45 : decode cX0_firstRuleOf 45 = .ok (.iconst 0, 1) := by decide +kernel
theorem dX0_firstRuleOf_46 : decode cX0_firstRuleOf 46 = .ok (.istore 4, 2) := by decide +kernel
theorem dX0_firstRuleOf_48 : decode cX0_firstRuleOf 48 = .ok (.iload 4, 2) := by decide +kernel
theorem dX0_firstRuleOf_50 : decode cX0_firstRuleOf 50 = .ok (.ifCond .eq 14, 3) := by decide +kernel
theorem dX0_firstRuleOf_53 : decode cX0_firstRuleOf 53 = .ok (.aload_n 0, 1) := by decide +kernel
theorem dX0_firstRuleOf_54 : decode cX0_firstRuleOf 54 = .ok (.iload_n 3, 1) := by decide +kernel
theorem dX0_firstRuleOf_55 : decode cX0_firstRuleOf 55 = .ok (.iload_n 1, 1) := by decide +kernel
theorem dX0_firstRuleOf_56 : decode cX0_firstRuleOf 56 = .ok (.invokevirtual 75, 3) := by decide +kernel
theorem dX0_firstRuleOf_59 : decode cX0_firstRuleOf 59 = .ok (.ifCond .eq 5, 3) := by decide +kernel
theorem dX0_firstRuleOf_62 : decode cX0_firstRuleOf 62 = .ok (.iload_n 3, 1) := by decide +kernel
theorem dX0_firstRuleOf_63 : decode cX0_firstRuleOf 63 = .ok (.istore_n 2, 1) := by decide +kernel
theorem dX0_firstRuleOf_64 : decode cX0_firstRuleOf 64 = .ok (.iinc 3 1, 3) := by decide +kernel
theorem dX0_firstRuleOf_67 : decode cX0_firstRuleOf 67 = .ok (.goto (-62), 3) := by decide +kernel
theorem dX0_firstRuleOf_70 : decode cX0_firstRuleOf 70 = .ok (.iload_n 2, 1) := by decide +kernel
theorem dX0_firstRuleOf_71 : decode cX0_firstRuleOf 71 = .ok (.ireturn, 1) := by decide +kernel
set_option maxRecDepth 20000 in
theorem ggX0_goalOf_X0_firstRuleOf : GoodIn wsX0_goalOf wsX0_firstRuleOf := goodIn_r _ [6, 1, 7, 8, 9, 5, 10, 11, 12, 13, 14, 15, 16, 17, 18, 19, 20, 21, 22, 23, 24, 25, 26, 27, 28, 29, 30, 31] (by decide +kernel) (by decide +kernel)
set_option maxRecDepth 20000 in
theorem gX0_goalOf_X0_firstRuleOf : GoodIn wsX0_goalOf (wsV RX0 79 RX0 yX0_firstRuleOf wsX0_firstRuleOf) := goodIn_app (goodIn_of _ (by decide +kernel)) ggX0_goalOf_X0_firstRuleOf
set_option maxRecDepth 20000 in
theorem ggX0_goalOf_X0_isFitting : GoodIn wsX0_goalOf wsX0_isFitting := goodIn_r _ [10, 1, 11, 12, 13, 14, 15, 16, 17, 18, 19, 20, 21, 22, 23, 24, 25, 26, 27, 28, 29, 30, 31] (by decide +kernel) (by decide +kernel)
set_option maxRecDepth 20000 in
theorem gX0_goalOf_X0_isFitting : GoodIn wsX0_goalOf (wsV RX0 75 RX0 yX0_isFitting wsX0_isFitting) := goodIn_app (goodIn_of _ (by decide +kernel)) ggX0_goalOf_X0_isFitting
theorem dX0_goalOf_0 : decode cX0_goalOf 0 = .ok (.aload_n 0, 1) := by decide +kernel
theorem dX0_goalOf_1 : decode cX0_goalOf 1 = .ok (.iload_n 1, 1) := by decide +kernel
theorem dX0_goalOf_2 : decode cX0_goalOf 2 = .ok (.invokevirtual 79, 3) := by decide +kernel
theorem dX0_goalOf_5 : decode cX0_goalOf 5 = .ok (.istore_n 2, 1) := by decide +kernel
theorem dX0_goalOf_6 : decode cX0_goalOf 6 = .ok (.iload_n 2, 1) := by decide +kernel
theorem dX0_goalOf_7 : decode cX0_goalOf 7 = .ok (.ifCond .ge 6, 3) := by decide +kernel
theorem dX0_goalOf_10 : decode cX0_goalOf 10 = .ok (.bipush (-6), 2) := by decide +kernel
theorem dX0_goalOf_12 : decode cX0_goalOf 12 = .ok (.ireturn, 1) := by decide +kernel
theorem dX0_goalOf_13 : decode cX0_goalOf 13 = .ok (.iload_n 2, 1) := by decide +kernel
theorem dX0_goalOf_14 : decode cX0_goalOf 14 = .ok (.iconst 1, 1) := by decide +kernel
theorem dX0_goalOf_15 : decode cX0_goalOf 15 = .ok (.iadd, 1) := by decide +kernel
theorem dX0_goalOf_16 : decode cX0_goalOf 16 = .ok (.istore_n 3, 1) := by decide +kernel
theorem dX0_goalOf_17 : decode cX0_goalOf 17 = .ok (.iload_n 3, 1) := by decide +kernel
theorem dX0_goalOf_18 : decode cX0_goalOf 18 = .ok (.aload_n 0, 1) := by decide +kernel
theorem dX0_goalOf_19 : decode cX0_goalOf 19 = .ok (.getfield 21, 3) := by decide +kernel
theorem dX0_goalOf_22 : decode cX0_goalOf 22 = .ok (.getfield 68, 3) := by decide +kernel
theorem dX0_goalOf_25 : decode cX0_goalOf 25 = .ok (.if_icmp .ge 75, 3) := by decide +kernel
theorem dX0_goalOf_28 : decode cX0_goalOf 28 = .ok (.aload_n 0, 1) := by decide +kernel
theorem dX0_goalOf_29 : decode cX0_goalOf 29 = .ok (.getfield 21, 3) := by decide +kernel
theorem dX0_goalOf_32 : decode cX0_goalOf 32 = .ok (.getfield 71, 3) := by decide +kernel
theorem dX0_goalOf_35 : decode cX0_goalOf 35 = .ok (.iload_n 3, 1) := by decide +kernel
theorem dX0_goalOf_36 : decode cX0_goalOf 36 = .ok (.iaload, 1) := by decide +kernel
theorem dX0_goalOf_37 : decode cX0_goalOf 37 = .ok (.aload_n 0, 1) := by decide +kernel
theorem dX0_goalOf_38 : decode cX0_goalOf 38 = .ok (.getfield 21, 3) := by decide +kernel
theorem dX0_goalOf_41 : decode cX0_goalOf 41 = .ok (.getfield 71, 3) := by decide +kernel
theorem dX0_goalOf_44 : decode cX0_goalOf 44 = .ok (.iload_n 2, 1) := by decide +kernel
theorem dX0_goalOf_45 : decode cX0_goalOf 45 = .ok (.iaload, 1) := by decide +kernel
theorem dX0_goalOf_46 : decode cX0_goalOf 46 = .ok (.if_icmp .ne 28, 3) := by decide +kernel
theorem dX0_goalOf_49 : decode cX0_goalOf 49 = .ok (.aload_n 0, 1) := by decide +kernel
theorem dX0_goalOf_50 : decode cX0_goalOf 50 = .ok (.getfield 21, 3) := by decide +kernel
theorem dX0_goalOf_53 : decode cX0_goalOf 53 = .ok (.getfield 83, 3) := by decide +kernel
theorem dX0_goalOf_56 : decode cX0_goalOf 56 = .ok (.iload_n 3, 1) := by decide +kernel
theorem dX0_goalOf_57 : decode cX0_goalOf 57 = .ok (.iaload, 1) := by decide +kernel
theorem dX0_goalOf_58 : decode cX0_goalOf 58 = .ok (.aload_n 0, 1) := by decide +kernel
theorem dX0_goalOf_59 : decode cX0_goalOf 59 = .ok (.getfield 21, 3) := by decide +kernel
theorem dX0_goalOf_62 : decode cX0_goalOf 62 = .ok (.getfield 83, 3) := by decide +kernel
theorem dX0_goalOf_65 : decode cX0_goalOf 65 = .ok (.iload_n 2, 1) := by decide +kernel
theorem dX0_goalOf_66 : decode cX0_goalOf 66 = .ok (.iaload, 1) := by decide +kernel
theorem dX0_goalOf_67 : decode cX0_goalOf 67 = .ok (.if_icmp .eq 7, 3) := by decide +kernel
theorem dX0_goalOf_70 : decode cX0_goalOf 70 = .ok (.iconst 1, 1) := by decide +kernel
theorem dX0_goalOf_71 : decode cX0_goalOf 71 = .ok (.goto 4, 3) := by decide +kernel
theorem dX0_goalOf_74 : decode cX0_goalOf 74 = .ok (.iconst 0, 1) := by decide +kernel
theorem dX0_goalOf_75 : decode cX0_goalOf 75 = .ok (.istore 4, 2) := by decide +kernel
theorem dX0_goalOf_77 : decode cX0_goalOf 77 = .ok (.iload 4, 2) := by decide +kernel
theorem dX0_goalOf_79 : decode cX0_goalOf 79 = .ok (.ifCond .eq 15, 3) := by decide +kernel
theorem dX0_goalOf_82 : decode cX0_goalOf 82 = .ok (.aload_n 0, 1) := by decide +kernel
theorem dX0_goalOf_83 : decode cX0_goalOf 83 = .ok (.iload_n 3, 1) := by decide +kernel
theorem dX0_goalOf_84 : decode cX0_goalOf 84 = .ok (.iload_n 1, 1) := by decide +kernel
theorem dX0_goalOf_85 : decode cX0_goalOf 85 = .ok (.invokevirtual 75, 3) := by decide +kernel
theorem dX0_goalOf_88 : decode cX0_goalOf 88 = .ok (.ifCond .eq 6, 3) := by decide +kernel
theorem dX0_goalOf_91 : decode cX0_goalOf 91 = .ok (.bipush (-5), 2) := by decide +kernel
theorem dX0_goalOf_93 : decode cX0_goalOf 93 = .ok (.ireturn, 1) := by decide +kernel
theorem dX0_goalOf_94 : decode cX0_goalOf 94 = .ok (.iinc 3 1, 3) := by decide +kernel
theorem dX0_goalOf_97 : decode cX0_goalOf 97 = .ok (.goto (-80), 3) := by decide +kernel
theorem dX0_goalOf_100 : decode cX0_goalOf 100 = .ok (.aload_n 0, 1) := by decide +kernel
theorem dX0_goalOf_101 : decode cX0_goalOf 101 = .ok (.getfield 21, 3) := by decide +kernel
theorem dX0_goalOf_104 : decode cX0_goalOf 104 = .ok (.getfield 83, 3) := by decide +kernel
theorem dX0_goalOf_107 : decode cX0_goalOf 107 = .ok (.iload_n 2, 1) := by decide +kernel
theorem dX0_goalOf_108 : decode cX0_goalOf 108 = .ok (.iaload, 1) := by decide +kernel
theorem dX0_goalOf_109 : decode cX0_goalOf 109 = .ok (.ireturn, 1) := by decide +kernel
set_option maxRecDepth 20000 in
theorem ggX0_isInTime_X10_isWithin : GoodIn wsX0_isInTime wsX10_isWithin := goodIn_r _ [6] (by decide +kernel) (by decide +kernel)
set_option maxRecDepth 20000 in
theorem gX0_isInTime_X10_isWithin_n91 : GoodIn wsX0_isInTime (wsX10_isWithin) := ggX0_isInTime_X10_isWithin
theorem dX0_isInTime_0 : decode cX0_isInTime 0 = .ok (.aload_n 0, 1) := by decide +kernel
theorem dX0_isInTime_1 : decode cX0_isInTime 1 = .ok (.getfield 35, 3) := by decide +kernel
theorem dX0_isInTime_4 : decode cX0_isInTime 4 = .ok (.getfield 85, 3) := by decide +kernel
theorem dX0_isInTime_7 : decode cX0_isInTime 7 = .ok (.iload_n 1, 1) := by decide +kernel
theorem dX0_isInTime_8 : decode cX0_isInTime 8 = .ok (.iaload, 1) := by decide +kernel
theorem dX0_isInTime_9 : decode cX0_isInTime 9 = .ok (.aload_n 0, 1) := by decide +kernel
theorem dX0_isInTime_10 : decode cX0_isInTime 10 = .ok (.getfield 88, 3) := by decide +kernel
theorem dX0_isInTime_13 : decode cX0_isInTime 13 = .ok (.aload_n 0, 1) := by decide +kernel
theorem dX0_isInTime_14 : decode cX0_isInTime 14 = .ok (.getfield 53, 3) := by decide +kernel
theorem dX0_isInTime_17 : decode cX0_isInTime 17 = .ok (.isub, 1) := by decide +kernel
theorem dX0_isInTime_18 : decode cX0_isInTime 18 = .ok (.aload_n 0, 1) := by decide +kernel
theorem dX0_isInTime_19 : decode cX0_isInTime 19 = .ok (.getfield 88, 3) := by decide +kernel
theorem dX0_isInTime_22 : decode cX0_isInTime 22 = .ok (.invokestatic 91, 3) := by decide +kernel
theorem dX0_isInTime_25 : decode cX0_isInTime 25 = .ok (.ireturn, 1) := by decide +kernel
set_option maxRecDepth 20000 in
theorem ggX0_isCounted_X0_isInTime : GoodIn wsX0_isCounted wsX0_isInTime := goodIn_r _ [5, 6, 7, 8, 9, 10, 11, 27, 28, 29, 30, 31, 32, 33, 34, 35, 36, 37, 38, 39] (by decide +kernel) (by decide +kernel)
set_option maxRecDepth 20000 in
theorem gX0_isCounted_X0_isInTime : GoodIn wsX0_isCounted (wsV RX0 95 RX0 yX0_isInTime wsX0_isInTime) := goodIn_app (goodIn_of _ (by decide +kernel)) ggX0_isCounted_X0_isInTime
set_option maxRecDepth 20000 in
theorem ggX0_isCounted_X0_goalOf : GoodIn wsX0_isCounted wsX0_goalOf := goodIn_r _ [15, 16, 17, 18, 19, 4, 20, 21, 22, 23, 24, 6, 25, 10, 26, 27, 28, 29, 30, 31, 32, 33, 34, 40, 41, 42, 43, 35, 36, 37, 38, 39] (by decide +kernel) (by decide +kernel)
set_option maxRecDepth 20000 in
theorem gX0_isCounted_X0_goalOf : GoodIn wsX0_isCounted (wsV RX0 99 RX0 yX0_goalOf wsX0_goalOf) := goodIn_app (goodIn_of _ (by decide +kernel)) ggX0_isCounted_X0_goalOf
theorem dX0_isCounted_0 : decode cX0_isCounted 0 = .ok (.aload_n 0, 1) := by decide +kernel
theorem dX0_isCounted_1 : decode cX0_isCounted 1 = .ok (.iload_n 1, 1) := by decide +kernel
theorem dX0_isCounted_2 : decode cX0_isCounted 2 = .ok (.invokevirtual 95, 3) := by decide +kernel
theorem dX0_isCounted_5 : decode cX0_isCounted 5 = .ok (.ifCond .eq 15, 3) := by decide +kernel
theorem dX0_isCounted_8 : decode cX0_isCounted 8 = .ok (.aload_n 0, 1) := by decide +kernel
theorem dX0_isCounted_9 : decode cX0_isCounted 9 = .ok (.iload_n 1, 1) := by decide +kernel
theorem dX0_isCounted_10 : decode cX0_isCounted 10 = .ok (.invokevirtual 99, 3) := by decide +kernel
theorem dX0_isCounted_13 : decode cX0_isCounted 13 = .ok (.ifCond .lt 7, 3) := by decide +kernel
theorem dX0_isCounted_16 : decode cX0_isCounted 16 = .ok (.iconst 1, 1) := by decide +kernel
theorem dX0_isCounted_17 : decode cX0_isCounted 17 = .ok (.goto 4, 3) := by decide +kernel
theorem dX0_isCounted_20 : decode cX0_isCounted 20 = .ok (.iconst 0, 1) := by decide +kernel
theorem dX0_isCounted_21 : decode cX0_isCounted 21 = .ok (.ireturn, 1) := by decide +kernel
set_option maxRecDepth 20000 in
theorem ggX0_isOfSort_X0_goalOf : GoodIn wsX0_isOfSort wsX0_goalOf := goodIn_r _ [5, 6, 7, 8, 9, 4, 10, 11, 12, 13, 14, 15, 16, 17, 18, 31, 32, 33, 34, 35, 36, 37, 38, 39, 40, 41, 42, 43, 44, 45, 46, 47] (by decide +kernel) (by decide +kernel)
set_option maxRecDepth 20000 in
theorem gX0_isOfSort_X0_goalOf : GoodIn wsX0_isOfSort (wsV RX0 99 RX0 yX0_goalOf wsX0_goalOf) := goodIn_app (goodIn_of _ (by decide +kernel)) ggX0_isOfSort_X0_goalOf
set_option maxRecDepth 20000 in
theorem ggX0_isOfSort_X0_isCounted : GoodIn wsX0_isOfSort wsX0_isCounted := goodIn_r _ [22, 23, 24, 25, 4, 26, 15, 27, 28, 29, 17, 30, 1, 2, 3, 5, 6, 7, 8, 9, 10, 11, 12, 13, 14, 16, 18, 31, 32, 33, 34, 35, 36, 37, 38, 43, 44, 45, 46, 47, 39, 40, 41, 42] (by decide +kernel) (by decide +kernel)
set_option maxRecDepth 20000 in
theorem gX0_isOfSort_X0_isCounted : GoodIn wsX0_isOfSort (wsV RX0 102 RX0 yX0_isCounted wsX0_isCounted) := goodIn_app (goodIn_of _ (by decide +kernel)) ggX0_isOfSort_X0_isCounted
theorem dX0_isOfSort_0 : decode cX0_isOfSort 0 = .ok (.iload_n 2, 1) := by decide +kernel
theorem dX0_isOfSort_1 : decode cX0_isOfSort 1 = .ok (.tableswitch 73 0 2 #[27, 41, 57], 27) := by decide +kernel
theorem dX0_isOfSort_28 : decode cX0_isOfSort 28 = .ok (.aload_n 0, 1) := by decide +kernel
theorem dX0_isOfSort_29 : decode cX0_isOfSort 29 = .ok (.iload_n 1, 1) := by decide +kernel
theorem dX0_isOfSort_30 : decode cX0_isOfSort 30 = .ok (.invokevirtual 99, 3) := by decide +kernel
theorem dX0_isOfSort_33 : decode cX0_isOfSort 33 = .ok (.ifCond .lt 7, 3) := by decide +kernel
theorem dX0_isOfSort_36 : decode cX0_isOfSort 36 = .ok (.iconst 1, 1) := by decide +kernel
theorem dX0_isOfSort_37 : decode cX0_isOfSort 37 = .ok (.goto 4, 3) := by decide +kernel
theorem dX0_isOfSort_40 : decode cX0_isOfSort 40 = .ok (.iconst 0, 1) := by decide +kernel
theorem dX0_isOfSort_41 : decode cX0_isOfSort 41 = .ok (.ireturn, 1) := by decide +kernel
theorem dX0_isOfSort_42 : decode cX0_isOfSort 42 = .ok (.aload_n 0, 1) := by decide +kernel
theorem dX0_isOfSort_43 : decode cX0_isOfSort 43 = .ok (.iload_n 1, 1) := by decide +kernel
theorem dX0_isOfSort_44 : decode cX0_isOfSort 44 = .ok (.invokevirtual 99, 3) := by decide +kernel
theorem dX0_isOfSort_47 : decode cX0_isOfSort 47 = .ok (.bipush (-5), 2) := by decide +kernel
theorem dX0_isOfSort_49 : decode cX0_isOfSort 49 = .ok (.if_icmp .ne 7, 3) := by decide +kernel
theorem dX0_isOfSort_52 : decode cX0_isOfSort 52 = .ok (.iconst 1, 1) := by decide +kernel
theorem dX0_isOfSort_53 : decode cX0_isOfSort 53 = .ok (.goto 4, 3) := by decide +kernel
theorem dX0_isOfSort_56 : decode cX0_isOfSort 56 = .ok (.iconst 0, 1) := by decide +kernel
theorem dX0_isOfSort_57 : decode cX0_isOfSort 57 = .ok (.ireturn, 1) := by decide +kernel
theorem dX0_isOfSort_58 : decode cX0_isOfSort 58 = .ok (.aload_n 0, 1) := by decide +kernel
theorem dX0_isOfSort_59 : decode cX0_isOfSort 59 = .ok (.iload_n 1, 1) := by decide +kernel
theorem dX0_isOfSort_60 : decode cX0_isOfSort 60 = .ok (.invokevirtual 99, 3) := by decide +kernel
theorem dX0_isOfSort_63 : decode cX0_isOfSort 63 = .ok (.bipush (-6), 2) := by decide +kernel
theorem dX0_isOfSort_65 : decode cX0_isOfSort 65 = .ok (.if_icmp .ne 7, 3) := by decide +kernel
theorem dX0_isOfSort_68 : decode cX0_isOfSort 68 = .ok (.iconst 1, 1) := by decide +kernel
theorem dX0_isOfSort_69 : decode cX0_isOfSort 69 = .ok (.goto 4, 3) := by decide +kernel
theorem dX0_isOfSort_72 : decode cX0_isOfSort 72 = .ok (.iconst 0, 1) := by decide +kernel
theorem dX0_isOfSort_73 : decode cX0_isOfSort 73 = .ok (.ireturn, 1) := by decide +kernel
theorem dX0_isOfSort_74 : decode cX0_isOfSort 74 = .ok (.aload_n 0, 1) := by decide +kernel
theorem dX0_isOfSort_75 : decode cX0_isOfSort 75 = .ok (.iload_n 1, 1) := by decide +kernel
theorem dX0_isOfSort_76 : decode cX0_isOfSort 76 = .ok (.invokevirtual 102, 3) := by decide +kernel
theorem dX0_isOfSort_79 : decode cX0_isOfSort 79 = .ok (.ireturn, 1) := by decide +kernel
set_option maxRecDepth 20000 in
theorem ggX0_copyFrom_X6_copyFrom : GoodIn wsX0_copyFrom wsX6_copyFrom := goodIn_r _ [12, 13, 14, 15, 16, 17, 18, 19, 20, 78, 79, 80, 81] (by decide +kernel) (by decide +kernel)
set_option maxRecDepth 20000 in
theorem gX0_copyFrom_X6_copyFrom_n105 : GoodIn wsX0_copyFrom (wsX6_copyFrom) := ggX0_copyFrom_X6_copyFrom
set_option maxRecDepth 20000 in
theorem ggX0_copyFrom_X8_copyFrom : GoodIn wsX0_copyFrom wsX8_copyFrom := goodIn_r _ [24, 25, 26, 27, 16, 17, 18, 28, 29, 82, 83, 84, 85] (by decide +kernel) (by decide +kernel)
set_option maxRecDepth 20000 in
theorem gX0_copyFrom_X8_copyFrom_n109 : GoodIn wsX0_copyFrom (wsX8_copyFrom) := ggX0_copyFrom_X8_copyFrom
set_option maxRecDepth 20000 in
theorem ggX0_copyFrom_X3_copyFrom : GoodIn wsX0_copyFrom wsX3_copyFrom := goodIn_r _ [33, 34, 35, 36, 16, 17, 18, 37, 86, 87, 88] (by decide +kernel) (by decide +kernel)
set_option maxRecDepth 20000 in
theorem gX0_copyFrom_X3_copyFrom_n112 : GoodIn wsX0_copyFrom (wsX3_copyFrom) := ggX0_copyFrom_X3_copyFrom
set_option maxRecDepth 20000 in
theorem ggX0_copyFrom_X1_copyFrom : GoodIn wsX0_copyFrom wsX1_copyFrom := goodIn_r _ [41, 42, 43, 44, 16, 17, 18, 45, 46, 47, 89, 90, 91, 92, 93] (by decide +kernel) (by decide +kernel)
set_option maxRecDepth 20000 in
theorem gX0_copyFrom_X1_copyFrom_n115 : GoodIn wsX0_copyFrom (wsX1_copyFrom) := ggX0_copyFrom_X1_copyFrom
set_option maxRecDepth 20000 in
theorem ggX0_copyFrom_X9_copyFrom : GoodIn wsX0_copyFrom wsX9_copyFrom := goodIn_r _ [51, 52, 53, 54, 16, 17, 18, 55, 56, 57, 94, 95, 96, 97, 98] (by decide +kernel) (by decide +kernel)
set_option maxRecDepth 20000 in
theorem gX0_copyFrom_X9_copyFrom_n118 : GoodIn wsX0_copyFrom (wsX9_copyFrom) := ggX0_copyFrom_X9_copyFrom
set_option maxRecDepth 20000 in
theorem ggX0_copyFrom_X7_copyFrom : GoodIn wsX0_copyFrom wsX7_copyFrom := goodIn_r _ [61, 62, 63, 64, 16, 17, 18, 65, 66, 67, 68, 69, 99, 100, 101, 102, 103, 104, 105] (by decide +kernel) (by decide +kernel)
set_option maxRecDepth 20000 in
theorem gX0_copyFrom_X7_copyFrom_n121 : GoodIn wsX0_copyFrom (wsX7_copyFrom) := ggX0_copyFrom_X7_copyFrom
theorem dX0_copyFrom_0 : decode cX0_copyFrom 0 = .ok (.aload_n 0, 1) := by decide +kernel
theorem dX0_copyFrom_1 : decode cX0_copyFrom 1 = .ok (.getfield 12, 3) := by decide +kernel
theorem dX0_copyFrom_4 : decode cX0_copyFrom 4 = .ok (.aload_n 1, 1) := by decide +kernel
theorem dX0_copyFrom_5 : decode cX0_copyFrom 5 = .ok (.getfield 12, 3) := by decide +kernel
theorem dX0_copyFrom_8 : decode cX0_copyFrom 8 = .ok (.invokevirtual 105, 3) := by decide +kernel
theorem dX0_copyFrom_11 : decode cX0_copyFrom 11 = .ok (.aload_n 0, 1) := by decide +kernel
theorem dX0_copyFrom_12 : decode cX0_copyFrom 12 = .ok (.getfield 21, 3) := by decide +kernel
theorem dX0_copyFrom_15 : decode cX0_copyFrom 15 = .ok (.aload_n 1, 1) := by decide +kernel
theorem dX0_copyFrom_16 : decode cX0_copyFrom 16 = .ok (.getfield 21, 3) := by decide +kernel
theorem dX0_copyFrom_19 : decode cX0_copyFrom 19 = .ok (.invokevirtual 109, 3) := by decide +kernel
theorem dX0_copyFrom_22 : decode cX0_copyFrom 22 = .ok (.aload_n 0, 1) := by decide +kernel
theorem dX0_copyFrom_23 : decode cX0_copyFrom 23 = .ok (.getfield 28, 3) := by decide +kernel
theorem dX0_copyFrom_26 : decode cX0_copyFrom 26 = .ok (.aload_n 1, 1) := by decide +kernel
theorem dX0_copyFrom_27 : decode cX0_copyFrom 27 = .ok (.getfield 28, 3) := by decide +kernel
theorem dX0_copyFrom_30 : decode cX0_copyFrom 30 = .ok (.invokevirtual 112, 3) := by decide +kernel
theorem dX0_copyFrom_33 : decode cX0_copyFrom 33 = .ok (.aload_n 0, 1) := by decide +kernel
theorem dX0_copyFrom_34 : decode cX0_copyFrom 34 = .ok (.getfield 35, 3) := by decide +kernel
theorem dX0_copyFrom_37 : decode cX0_copyFrom 37 = .ok (.aload_n 1, 1) := by decide +kernel
theorem dX0_copyFrom_38 : decode cX0_copyFrom 38 = .ok (.getfield 35, 3) := by decide +kernel
theorem dX0_copyFrom_41 : decode cX0_copyFrom 41 = .ok (.invokevirtual 115, 3) := by decide +kernel
theorem dX0_copyFrom_44 : decode cX0_copyFrom 44 = .ok (.aload_n 0, 1) := by decide +kernel
theorem dX0_copyFrom_45 : decode cX0_copyFrom 45 = .ok (.getfield 42, 3) := by decide +kernel
theorem dX0_copyFrom_48 : decode cX0_copyFrom 48 = .ok (.aload_n 1, 1) := by decide +kernel
theorem dX0_copyFrom_49 : decode cX0_copyFrom 49 = .ok (.getfield 42, 3) := by decide +kernel
theorem dX0_copyFrom_52 : decode cX0_copyFrom 52 = .ok (.invokevirtual 118, 3) := by decide +kernel
theorem dX0_copyFrom_55 : decode cX0_copyFrom 55 = .ok (.aload_n 0, 1) := by decide +kernel
theorem dX0_copyFrom_56 : decode cX0_copyFrom 56 = .ok (.getfield 49, 3) := by decide +kernel
theorem dX0_copyFrom_59 : decode cX0_copyFrom 59 = .ok (.aload_n 1, 1) := by decide +kernel
theorem dX0_copyFrom_60 : decode cX0_copyFrom 60 = .ok (.getfield 49, 3) := by decide +kernel
theorem dX0_copyFrom_63 : decode cX0_copyFrom 63 = .ok (.invokevirtual 121, 3) := by decide +kernel
theorem dX0_copyFrom_66 : decode cX0_copyFrom 66 = .ok (.aload_n 0, 1) := by decide +kernel
theorem dX0_copyFrom_67 : decode cX0_copyFrom 67 = .ok (.aload_n 1, 1) := by decide +kernel
theorem dX0_copyFrom_68 : decode cX0_copyFrom 68 = .ok (.getfield 88, 3) := by decide +kernel
theorem dX0_copyFrom_71 : decode cX0_copyFrom 71 = .ok (.putfield 88, 3) := by decide +kernel
theorem dX0_copyFrom_74 : decode cX0_copyFrom 74 = .ok (.aload_n 0, 1) := by decide +kernel
theorem dX0_copyFrom_75 : decode cX0_copyFrom 75 = .ok (.aload_n 1, 1) := by decide +kernel
theorem dX0_copyFrom_76 : decode cX0_copyFrom 76 = .ok (.getfield 53, 3) := by decide +kernel
theorem dX0_copyFrom_79 : decode cX0_copyFrom 79 = .ok (.putfield 53, 3) := by decide +kernel
theorem dX0_copyFrom_82 : decode cX0_copyFrom 82 = .ok (.return_, 1) := by decide +kernel
theorem dX1_init_0 : decode cX1_init 0 = .ok (.aload_n 0, 1) := by decide +kernel
theorem dX1_init_1 : decode cX1_init 1 = .ok (.invokespecial 3, 3) := by decide +kernel
theorem dX1_init_4 : decode cX1_init 4 = .ok (.aload_n 0, 1) := by decide +kernel
theorem dX1_init_5 : decode cX1_init 5 = .ok (.bipush 40, 2) := by decide +kernel
theorem dX1_init_7 : decode cX1_init 7 = .ok (.newarray .long, 2) := by decide +kernel
theorem dX1_init_9 : decode cX1_init 9 = .ok (.putfield 9, 3) := by decide +kernel
theorem dX1_init_12 : decode cX1_init 12 = .ok (.aload_n 0, 1) := by decide +kernel
theorem dX1_init_13 : decode cX1_init 13 = .ok (.bipush 40, 2) := by decide +kernel
theorem dX1_init_15 : decode cX1_init 15 = .ok (.newarray .int, 2) := by decide +kernel
theorem dX1_init_17 : decode cX1_init 17 = .ok (.putfield 15, 3) := by decide +kernel
theorem dX1_init_20 : decode cX1_init 20 = .ok (.aload_n 0, 1) := by decide +kernel
theorem dX1_init_21 : decode cX1_init 21 = .ok (.bipush 40, 2) := by decide +kernel
theorem dX1_init_23 : decode cX1_init 23 = .ok (.newarray .int, 2) := by decide +kernel
theorem dX1_init_25 : decode cX1_init 25 = .ok (.putfield 19, 3) := by decide +kernel
theorem dX1_init_28 : decode cX1_init 28 = .ok (.aload_n 0, 1) := by decide +kernel
theorem dX1_init_29 : decode cX1_init 29 = .ok (.bipush 40, 2) := by decide +kernel
theorem dX1_init_31 : decode cX1_init 31 = .ok (.newarray .int, 2) := by decide +kernel
theorem dX1_init_33 : decode cX1_init 33 = .ok (.putfield 22, 3) := by decide +kernel
theorem dX1_init_36 : decode cX1_init 36 = .ok (.return_, 1) := by decide +kernel
theorem dX1_isOne_0 : decode cX1_isOne 0 = .ok (.iload_n 1, 1) := by decide +kernel
theorem dX1_isOne_1 : decode cX1_isOne 1 = .ok (.ifCond .lt 15, 3) := by decide +kernel
theorem dX1_isOne_4 : decode cX1_isOne 4 = .ok (.iload_n 1, 1) := by decide +kernel
theorem dX1_isOne_5 : decode cX1_isOne 5 = .ok (.aload_n 0, 1) := by decide +kernel
theorem dX1_isOne_6 : decode cX1_isOne 6 = .ok (.getfield 25, 3) := by decide +kernel
theorem dX1_isOne_9 : decode cX1_isOne 9 = .ok (.if_icmp .ge 7, 3) := by decide +kernel
theorem dX1_isOne_12 : decode cX1_isOne 12 = .ok (.iconst 1, 1) := by decide +kernel
theorem dX1_isOne_13 : decode cX1_isOne 13 = .ok (.goto 4, 3) := by decide +kernel
theorem dX1_isOne_16 : decode cX1_isOne 16 = .ok (.iconst 0, 1) := by decide +kernel
theorem dX1_isOne_17 : decode cX1_isOne 17 = .ok (.ireturn, 1) := by decide +kernel
theorem dX1_add_0 : decode cX1_add 0 = .ok (.aload_n 0, 1) := by decide +kernel
theorem dX1_add_1 : decode cX1_add 1 = .ok (.getfield 9, 3) := by decide +kernel
theorem dX1_add_4 : decode cX1_add 4 = .ok (.aload_n 0, 1) := by decide +kernel
theorem dX1_add_5 : decode cX1_add 5 = .ok (.getfield 25, 3) := by decide +kernel
theorem dX1_add_8 : decode cX1_add 8 = .ok (.lload_n 1, 1) := by decide +kernel
theorem dX1_add_9 : decode cX1_add 9 = .ok (.lastore, 1) := by decide +kernel
theorem dX1_add_10 : decode cX1_add 10 = .ok (.aload_n 0, 1) := by decide +kernel
theorem dX1_add_11 : decode cX1_add 11 = .ok (.getfield 15, 3) := by decide +kernel
theorem dX1_add_14 : decode cX1_add 14 = .ok (.aload_n 0, 1) := by decide +kernel
theorem dX1_add_15 : decode cX1_add 15 = .ok (.getfield 25, 3) := by decide +kernel
theorem dX1_add_18 : decode cX1_add 18 = .ok (.iload_n 3, 1) := by decide +kernel
theorem dX1_add_19 : decode cX1_add 19 = .ok (.iastore, 1) := by decide +kernel
theorem dX1_add_20 : decode cX1_add 20 = .ok (.aload_n 0, 1) := by decide +kernel
theorem dX1_add_21 : decode cX1_add 21 = .ok (.getfield 19, 3) := by decide +kernel
theorem dX1_add_24 : decode cX1_add 24 = .ok (.aload_n 0, 1) := by decide +kernel
theorem dX1_add_25 : decode cX1_add 25 = .ok (.getfield 25, 3) := by decide +kernel
theorem dX1_add_28 : decode cX1_add 28 = .ok (.iload 4, 2) := by decide +kernel
theorem dX1_add_30 : decode cX1_add 30 = .ok (.iastore, 1) := by decide +kernel
theorem dX1_add_31 : decode cX1_add 31 = .ok (.aload_n 0, 1) := by decide +kernel
theorem dX1_add_32 : decode cX1_add 32 = .ok (.getfield 22, 3) := by decide +kernel
theorem dX1_add_35 : decode cX1_add 35 = .ok (.aload_n 0, 1) := by decide +kernel
theorem dX1_add_36 : decode cX1_add 36 = .ok (.getfield 25, 3) := by decide +kernel
theorem dX1_add_39 : decode cX1_add 39 = .ok (.iload 5, 2) := by decide +kernel
theorem dX1_add_41 : decode cX1_add 41 = .ok (.iastore, 1) := by decide +kernel
theorem dX1_add_42 : decode cX1_add 42 = .ok (.aload_n 0, 1) := by decide +kernel
theorem dX1_add_43 : decode cX1_add 43 = .ok (.dup, 1) := by decide +kernel
theorem dX1_add_44 : decode cX1_add 44 = .ok (.getfield 25, 3) := by decide +kernel
theorem dX1_add_47 : decode cX1_add 47 = .ok (.iconst 1, 1) := by decide +kernel
theorem dX1_add_48 : decode cX1_add 48 = .ok (.iadd, 1) := by decide +kernel
theorem dX1_add_49 : decode cX1_add 49 = .ok (.putfield 25, 3) := by decide +kernel
theorem dX1_add_52 : decode cX1_add 52 = .ok (.aload_n 0, 1) := by decide +kernel
theorem dX1_add_53 : decode cX1_add 53 = .ok (.getfield 25, 3) := by decide +kernel
theorem dX1_add_56 : decode cX1_add 56 = .ok (.iconst 1, 1) := by decide +kernel
theorem dX1_add_57 : decode cX1_add 57 = .ok (.isub, 1) := by decide +kernel
theorem dX1_add_58 : decode cX1_add 58 = .ok (.ireturn, 1) := by decide +kernel
theorem dX1_remove_0 : decode cX1_remove 0 = .ok (.iload_n 1, 1) := by decide +kernel
theorem dX1_remove_1 : decode cX1_remove 1 = .ok (.istore_n 2, 1) := by decide +kernel
theorem dX1_remove_2 : decode cX1_remove 2 = .ok (.iload_n 2, 1) := by decide +kernel
theorem dX1_remove_3 : decode cX1_remove 3 = .ok (.iconst 1, 1) := by decide +kernel
theorem dX1_remove_4 : decode cX1_remove 4 = .ok (.iadd, 1) := by decide +kernel
theorem dX1_remove_5 : decode cX1_remove 5 = .ok (.aload_n 0, 1) := by decide +kernel
theorem dX1_remove_6 : decode cX1_remove 6 = .ok (.getfield 25, 3) := by decide +kernel
theorem dX1_remove_9 : decode cX1_remove 9 = .ok (.if_icmp .ge 65, 3) := by decide +kernel
theorem dX1_remove_12 : decode cX1_remove 12 = .ok (.aload_n 0, 1) := by decide +kernel
theorem dX1_remove_13 : decode cX1_remove 13 = .ok (.getfield 9, 3) := by decide +kernel
theorem dX1_remove_16 : decode cX1_remove 16 = .ok (.iload_n 2, 1) := by decide +kernel
theorem dX1_remove_17 : decode cX1_remove 17 = .ok (.aload_n 0, 1) := by decide +kernel
theorem dX1_remove_18 : decode cX1_remove 18 = .ok (.getfield 9, 3) := by decide +kernel
theorem dX1_remove_21 : decode cX1_remove 21 = .ok (.iload_n 2, 1) := by decide +kernel
theorem dX1_remove_22 : decode cX1_remove 22 = .ok (.iconst 1, 1) := by decide +kernel
theorem dX1_remove_23 : decode cX1_remove 23 = .ok (.iadd, 1) := by decide +kernel
theorem dX1_remove_24 : decode cX1_remove 24 = .ok (.laload, 1) := by decide +kernel
theorem dX1_remove_25 : decode cX1_remove 25 = .ok (.lastore, 1) := by decide +kernel
theorem dX1_remove_26 : decode cX1_remove 26 = .ok (.aload_n 0, 1) := by decide +kernel
theorem dX1_remove_27 : decode cX1_remove 27 = .ok (.getfield 15, 3) := by decide +kernel
theorem dX1_remove_30 : decode cX1_remove 30 = .ok (.iload_n 2, 1) := by decide +kernel
theorem dX1_remove_31 : decode cX1_remove 31 = .ok (.aload_n 0, 1) := by decide +kernel
theorem dX1_remove_32 : decode cX1_remove 32 = .ok (.getfield 15, 3) := by decide +kernel
theorem dX1_remove_35 : decode cX1_remove 35 = .ok (.iload_n 2, 1) := by decide +kernel
theorem dX1_remove_36 : decode cX1_remove 36 = .ok (.iconst 1, 1) := by decide +kernel
theorem dX1_remove_37 : decode cX1_remove 37 = .ok (.iadd, 1) := by decide +kernel
theorem dX1_remove_38 : decode cX1_remove 38 = .ok (.iaload, 1) := by decide +kernel
theorem dX1_remove_39 : decode cX1_remove 39 = .ok (.iastore, 1) := by decide +kernel
theorem dX1_remove_40 : decode cX1_remove 40 = .ok (.aload_n 0, 1) := by decide +kernel
theorem dX1_remove_41 : decode cX1_remove 41 = .ok (.getfield 19, 3) := by decide +kernel
theorem dX1_remove_44 : decode cX1_remove 44 = .ok (.iload_n 2, 1) := by decide +kernel
theorem dX1_remove_45 : decode cX1_remove 45 = .ok (.aload_n 0, 1) := by decide +kernel
theorem dX1_remove_46 : decode cX1_remove 46 = .ok (.getfield 19, 3) := by decide +kernel
theorem dX1_remove_49 : decode cX1_remove 49 = .ok (.iload_n 2, 1) := by decide +kernel
theorem dX1_remove_50 : decode cX1_remove 50 = .ok (.iconst 1, 1) := by decide +kernel
theorem dX1_remove_51 : decode cX1_remove 51 = .ok (.iadd, 1) := by decide +kernel
theorem dX1_remove_52 : decode cX1_remove 52 = .ok (.iaload, 1) := by decide +kernel
theorem dX1_remove_53 : decode cX1_remove 53 = .ok (.iastore, 1) := by decide +kernel
theorem dX1_remove_54 : decode cX1_remove 54 = .ok (.aload_n 0, 1) := by decide +kernel
theorem dX1_remove_55 : decode cX1_remove 55 = .ok (.getfield 22, 3) := by decide +kernel
theorem dX1_remove_58 : decode cX1_remove 58 = .ok (.iload_n 2, 1) := by decide +kernel
theorem dX1_remove_59 : decode cX1_remove 59 = .ok (.aload_n 0, 1) := by decide +kernel
theorem dX1_remove_60 : decode cX1_remove 60 = .ok (.getfield 22, 3) := by decide +kernel
theorem dX1_remove_63 : decode cX1_remove 63 = .ok (.iload_n 2, 1) := by decide +kernel
theorem dX1_remove_64 : decode cX1_remove 64 = .ok (.iconst 1, 1) := by decide +kernel
theorem dX1_remove_65 : decode cX1_remove 65 = .ok (.iadd, 1) := by decide +kernel
theorem dX1_remove_66 : decode cX1_remove 66 = .ok (.iaload, 1) := by decide +kernel
theorem dX1_remove_67 : decode cX1_remove 67 = .ok (.iastore, 1) := by decide +kernel
theorem dX1_remove_68 : decode cX1_remove 68 = .ok (.iinc 2 1, 3) := by decide +kernel
theorem dX1_remove_71 : decode cX1_remove 71 = .ok (.goto (-69), 3) := by decide +kernel
theorem dX1_remove_74 : decode cX1_remove 74 = .ok (.aload_n 0, 1) := by decide +kernel
theorem dX1_remove_75 : decode cX1_remove 75 = .ok (.dup, 1) := by decide +kernel
theorem dX1_remove_76 : decode cX1_remove 76 = .ok (.getfield 25, 3) := by decide +kernel
theorem dX1_remove_79 : decode cX1_remove 79 = .ok (.iconst 1, 1) := by decide +kernel
theorem dX1_remove_80 : decode cX1_remove 80 = .ok (.isub, 1) := by decide +kernel
theorem dX1_remove_81 : decode cX1_remove 81 = .ok (.putfield 25, 3) := by decide +kernel
theorem dX1_remove_84 : decode cX1_remove 84 = .ok (.return_, 1) := by decide +kernel
theorem dX1_copyFrom_0 : decode cX1_copyFrom 0 = .ok (.aload_n 0, 1) := by decide +kernel
theorem dX1_copyFrom_1 : decode cX1_copyFrom 1 = .ok (.aload_n 1, 1) := by decide +kernel
theorem dX1_copyFrom_2 : decode cX1_copyFrom 2 = .ok (.getfield 25, 3) := by decide +kernel
theorem dX1_copyFrom_5 : decode cX1_copyFrom 5 = .ok (.putfield 25, 3) := by decide +kernel
theorem dX1_copyFrom_8 : decode cX1_copyFrom 8 = .ok (.aload_n 1, 1) := by decide +kernel
theorem dX1_copyFrom_9 : decode cX1_copyFrom 9 = .ok (.getfield 9, 3) := by decide +kernel
theorem dX1_copyFrom_12 : decode cX1_copyFrom 12 = .ok (.iconst 0, 1) := by decide +kernel
theorem dX1_copyFrom_13 : decode cX1_copyFrom 13 = .ok (.aload_n 0, 1) := by decide +kernel
theorem dX1_copyFrom_14 : decode cX1_copyFrom 14 = .ok (.getfield 9, 3) := by decide +kernel
theorem dX1_copyFrom_17 : decode cX1_copyFrom 17 = .ok (.iconst 0, 1) := by decide +kernel
theorem dX1_copyFrom_18 : decode cX1_copyFrom 18 = .ok (.bipush 40, 2) := by decide +kernel
theorem dX1_copyFrom_20 : decode cX1_copyFrom 20 = .ok (.invokestatic 29, 3) := by decide +kernel
theorem dX1_copyFrom_23 : decode cX1_copyFrom 23 = .ok (.aload_n 1, 1) := by decide +kernel
theorem dX1_copyFrom_24 : decode cX1_copyFrom 24 = .ok (.getfield 15, 3) := by decide +kernel
theorem dX1_copyFrom_27 : decode cX1_copyFrom 27 = .ok (.iconst 0, 1) := by decide +kernel
theorem dX1_copyFrom_28 : decode cX1_copyFrom 28 = .ok (.aload_n 0, 1) := by decide +kernel
theorem dX1_copyFrom_29 : decode cX1_copyFrom 29 = .ok (.getfield 15, 3) := by decide +kernel
theorem dX1_copyFrom_32 : decode cX1_copyFrom 32 = .ok (.iconst 0, 1) := by decide +kernel
theorem dX1_copyFrom_33 : decode cX1_copyFrom 33 = .ok (.bipush 40, 2) := by decide +kernel
theorem dX1_copyFrom_35 : decode cX1_copyFrom 35 = .ok (.invokestatic 29, 3) := by decide +kernel
theorem dX1_copyFrom_38 : decode cX1_copyFrom 38 = .ok (.aload_n 1, 1) := by decide +kernel
theorem dX1_copyFrom_39 : decode cX1_copyFrom 39 = .ok (.getfield 19, 3) := by decide +kernel
theorem dX1_copyFrom_42 : decode cX1_copyFrom 42 = .ok (.iconst 0, 1) := by decide +kernel
theorem dX1_copyFrom_43 : decode cX1_copyFrom 43 = .ok (.aload_n 0, 1) := by decide +kernel
theorem dX1_copyFrom_44 : decode cX1_copyFrom 44 = .ok (.getfield 19, 3) := by decide +kernel
theorem dX1_copyFrom_47 : decode cX1_copyFrom 47 = .ok (.iconst 0, 1) := by decide +kernel
theorem dX1_copyFrom_48 : decode cX1_copyFrom 48 = .ok (.bipush 40, 2) := by decide +kernel
theorem dX1_copyFrom_50 : decode cX1_copyFrom 50 = .ok (.invokestatic 29, 3) := by decide +kernel
theorem dX1_copyFrom_53 : decode cX1_copyFrom 53 = .ok (.aload_n 1, 1) := by decide +kernel
theorem dX1_copyFrom_54 : decode cX1_copyFrom 54 = .ok (.getfield 22, 3) := by decide +kernel
theorem dX1_copyFrom_57 : decode cX1_copyFrom 57 = .ok (.iconst 0, 1) := by decide +kernel
theorem dX1_copyFrom_58 : decode cX1_copyFrom 58 = .ok (.aload_n 0, 1) := by decide +kernel
theorem dX1_copyFrom_59 : decode cX1_copyFrom 59 = .ok (.getfield 22, 3) := by decide +kernel
theorem dX1_copyFrom_62 : decode cX1_copyFrom 62 = .ok (.iconst 0, 1) := by decide +kernel
theorem dX1_copyFrom_63 : decode cX1_copyFrom 63 = .ok (.bipush 40, 2) := by decide +kernel
theorem dX1_copyFrom_65 : decode cX1_copyFrom 65 = .ok (.invokestatic 29, 3) := by decide +kernel
theorem dX1_copyFrom_68 : decode cX1_copyFrom 68 = .ok (.return_, 1) := by decide +kernel
theorem dX2_init_0 : decode cX2_init 0 = .ok (.aload_n 0, 1) := by decide +kernel
theorem dX2_init_1 : decode cX2_init 1 = .ok (.invokespecial 3, 3) := by decide +kernel
theorem dX2_init_4 : decode cX2_init 4 = .ok (.aload_n 0, 1) := by decide +kernel
theorem dX2_init_5 : decode cX2_init 5 = .ok (.bipush 80, 2) := by decide +kernel
theorem dX2_init_7 : decode cX2_init 7 = .ok (.newarray .int, 2) := by decide +kernel
theorem dX2_init_9 : decode cX2_init 9 = .ok (.putfield 9, 3) := by decide +kernel
theorem dX2_init_12 : decode cX2_init 12 = .ok (.return_, 1) := by decide +kernel
theorem dX2_cellOf_0 : decode cX2_cellOf 0 = .ok (.iload_n 0, 1) := by decide +kernel
theorem dX2_cellOf_1 : decode cX2_cellOf 1 = .ok (.bipush 10, 2) := by decide +kernel
theorem dX2_cellOf_3 : decode cX2_cellOf 3 = .ok (.imul, 1) := by decide +kernel
theorem dX2_cellOf_4 : decode cX2_cellOf 4 = .ok (.iload_n 1, 1) := by decide +kernel
theorem dX2_cellOf_5 : decode cX2_cellOf 5 = .ok (.iadd, 1) := by decide +kernel
theorem dX2_cellOf_6 : decode cX2_cellOf 6 = .ok (.ireturn, 1) := by decide +kernel
set_option maxRecDepth 20000 in
theorem ggX2_versionAt_X2_cellOf : GoodIn wsX2_versionAt wsX2_cellOf := goodIn_r _ [5] (by decide +kernel) (by decide +kernel)
set_option maxRecDepth 20000 in
theorem gX2_versionAt_X2_cellOf : GoodIn wsX2_versionAt (va_wsS RX2 15 yX2_cellOf wsX2_cellOf) := goodIn_app (goodIn_of _ (by decide +kernel)) ggX2_versionAt_X2_cellOf
theorem dX2_versionAt_0 : decode cX2_versionAt 0 = .ok (.aload_n 0, 1) := by decide +kernel
theorem dX2_versionAt_1 : decode cX2_versionAt 1 = .ok (.getfield 9, 3) := by decide +kernel
theorem dX2_versionAt_4 : decode cX2_versionAt 4 = .ok (.iload_n 1, 1) := by decide +kernel
theorem dX2_versionAt_5 : decode cX2_versionAt 5 = .ok (.iload_n 2, 1) := by decide +kernel
theorem dX2_versionAt_6 : decode cX2_versionAt 6 = .ok (.invokestatic 15, 3) := by decide +kernel
theorem dX2_versionAt_9 : decode cX2_versionAt 9 = .ok (.iaload, 1) := by decide +kernel
theorem dX2_versionAt_10 : decode cX2_versionAt 10 = .ok (.ireturn, 1) := by decide +kernel
set_option maxRecDepth 20000 in
theorem ggX2_raise_X2_cellOf : GoodIn wsX2_raise wsX2_cellOf := goodIn_r _ [9] (by decide +kernel) (by decide +kernel)
set_option maxRecDepth 20000 in
theorem gX2_raise_X2_cellOf : GoodIn wsX2_raise (va_wsS RX2 15 yX2_cellOf wsX2_cellOf) := goodIn_app (goodIn_of _ (by decide +kernel)) ggX2_raise_X2_cellOf
theorem dX2_raise_0 : decode cX2_raise 0 = .ok (.iload_n 1, 1) := by decide +kernel
theorem dX2_raise_1 : decode cX2_raise 1 = .ok (.iload_n 2, 1) := by decide +kernel
theorem dX2_raise_2 : decode cX2_raise 2 = .ok (.invokestatic 15, 3) := by decide +kernel
theorem dX2_raise_5 : decode cX2_raise 5 = .ok (.istore 4, 2) := by decide +kernel
theorem dX2_raise_7 : decode cX2_raise 7 = .ok (.aload_n 0, 1) := by decide +kernel
theorem dX2_raise_8 : decode cX2_raise 8 = .ok (.getfield 9, 3) := by decide +kernel
theorem dX2_raise_11 : decode cX2_raise 11 = .ok (.iload 4, 2) := by decide +kernel
theorem dX2_raise_13 : decode cX2_raise 13 = .ok (.aload_n 0, 1) := by decide +kernel
theorem dX2_raise_14 : decode cX2_raise 14 = .ok (.getfield 9, 3) := by decide +kernel
theorem dX2_raise_17 : decode cX2_raise 17 = .ok (.iload 4, 2) := by decide +kernel
theorem dX2_raise_19 : decode cX2_raise 19 = .ok (.iaload, 1) := by decide +kernel
theorem dX2_raise_20 : decode cX2_raise 20 = .ok (.iload_n 3, 1) := by decide +kernel
theorem dX2_raise_21 : decode cX2_raise 21 = .ok (.invokestatic 19, 3) := by decide +kernel
theorem dX2_raise_24 : decode cX2_raise 24 = .ok (.iastore, 1) := by decide +kernel
theorem dX2_raise_25 : decode cX2_raise 25 = .ok (.return_, 1) := by decide +kernel
set_option maxRecDepth 20000 in
theorem ggX2_fill_J7_fill_53178 : GoodIn wsX2_fill wsJ7_fill_53178 := goodIn_r _ [5] (by decide +kernel) (by decide +kernel)
set_option maxRecDepth 20000 in
theorem gX2_fill_J7_fill_53178 : GoodIn wsX2_fill (va_wsS RX2 24 yJ7_fill_53178 wsJ7_fill_53178) := goodIn_app (goodIn_of _ (by decide +kernel)) ggX2_fill_J7_fill_53178
set_option maxRecDepth 20000 in
theorem ggX2_fill_X0_isInTime : GoodIn wsX2_fill wsX0_isInTime := goodIn_r _ [9, 10, 11, 12, 13, 14, 15, 73, 74, 75, 76, 77, 78, 79, 80, 81, 82, 83, 84, 85] (by decide +kernel) (by decide +kernel)
set_option maxRecDepth 20000 in
theorem gX2_fill_X0_isInTime_n42 : GoodIn wsX2_fill (wsX0_isInTime) := ggX2_fill_X0_isInTime
set_option maxRecDepth 20000 in
theorem ggX2_fill_X0_goalOf : GoodIn wsX2_fill wsX0_goalOf := goodIn_r _ [18, 19, 20, 21, 22, 7, 23, 24, 25, 26, 27, 10, 28, 14, 29, 73, 74, 75, 76, 77, 78, 79, 80, 89, 90, 91, 92, 81, 82, 83, 84, 85] (by decide +kernel) (by decide +kernel)
set_option maxRecDepth 20000 in
theorem gX2_fill_X0_goalOf_n46 : GoodIn wsX2_fill (wsX0_goalOf) := ggX2_fill_X0_goalOf
set_option maxRecDepth 20000 in
theorem ggX2_fill_X2_raise : GoodIn wsX2_fill wsX2_raise := goodIn_r _ [34, 1, 35, 36, 37, 38, 39, 40, 33, 41, 72] (by decide +kernel) (by decide +kernel)
set_option maxRecDepth 20000 in
theorem gX2_fill_X2_raise : GoodIn wsX2_fill (wsV RX2 54 RX2 yX2_raise wsX2_raise) := goodIn_app (goodIn_of _ (by decide +kernel)) ggX2_fill_X2_raise
set_option maxRecDepth 20000 in
theorem ggX2_fill_X2_makeSuites : GoodIn wsX2_fill wsX2_makeSuites := goodIn_r _ [45, 46, 47, 48, 49, 50, 51, 14, 52, 53, 54, 55, 33, 56, 1, 57, 58, 59, 60, 61, 62, 63, 64, 39, 40, 41, 65, 66, 67, 68, 69, 70, 71, 30, 31, 32, 34, 35, 36, 37, 38, 93, 94, 95, 96, 72] (by decide +kernel) (by decide +kernel)
set_option maxRecDepth 20000 in
theorem gX2_fill_X2_makeSuites : GoodIn wsX2_fill (wsV RX2 68 RX2 yX2_makeSuites wsX2_makeSuites) := goodIn_app (goodIn_of _ (by decide +kernel)) ggX2_fill_X2_makeSuites
theorem dX2_fill_0 : decode cX2_fill 0 = .ok (.aload_n 0, 1) := by decide +kernel
theorem dX2_fill_1 : decode cX2_fill 1 = .ok (.getfield 9, 3) := by decide +kernel
theorem dX2_fill_4 : decode cX2_fill 4 = .ok (.iconst 0, 1) := by decide +kernel
theorem dX2_fill_5 : decode cX2_fill 5 = .ok (.invokestatic 24, 3) := by decide +kernel
theorem dX2_fill_8 : decode cX2_fill 8 = .ok (.iconst 0, 1) := by decide +kernel
theorem dX2_fill_9 : decode cX2_fill 9 = .ok (.istore_n 2, 1) := by decide +kernel
theorem dX2_fill_10 : decode cX2_fill 10 = .ok (.iload_n 2, 1) := by decide +kernel
theorem dX2_fill_11 : decode cX2_fill 11 = .ok (.aload_n 1, 1) := by decide +kernel
theorem dX2_fill_12 : decode cX2_fill 12 = .ok (.getfield 30, 3) := by decide +kernel
theorem dX2_fill_15 : decode cX2_fill 15 = .ok (.getfield 36, 3) := by decide +kernel
theorem dX2_fill_18 : decode cX2_fill 18 = .ok (.if_icmp .ge 55, 3) := by decide +kernel
theorem dX2_fill_21 : decode cX2_fill 21 = .ok (.aload_n 1, 1) := by decide +kernel
theorem dX2_fill_22 : decode cX2_fill 22 = .ok (.iload_n 2, 1) := by decide +kernel
theorem dX2_fill_23 : decode cX2_fill 23 = .ok (.invokevirtual 42, 3) := by decide +kernel
theorem dX2_fill_26 : decode cX2_fill 26 = .ok (.ifCond .eq 11, 3) := by decide +kernel
theorem dX2_fill_29 : decode cX2_fill 29 = .ok (.aload_n 1, 1) := by decide +kernel
theorem dX2_fill_30 : decode cX2_fill 30 = .ok (.iload_n 2, 1) := by decide +kernel
theorem dX2_fill_31 : decode cX2_fill 31 = .ok (.invokevirtual 46, 3) := by decide +kernel
theorem dX2_fill_34 : decode cX2_fill 34 = .ok (.goto 5, 3) := by decide +kernel
theorem dX2_fill_37 : decode cX2_fill 37 = .ok (.bipush (-2), 2) := by decide +kernel
theorem dX2_fill_39 : decode cX2_fill 39 = .ok (.istore_n 3, 1) := by decide +kernel
theorem dX2_fill_40 : decode cX2_fill 40 = .ok (.iload_n 3, 1) := by decide +kernel
theorem dX2_fill_41 : decode cX2_fill 41 = .ok (.ifCond .lt 26, 3) := by decide +kernel
theorem dX2_fill_44 : decode cX2_fill 44 = .ok (.aload_n 0, 1) := by decide +kernel
theorem dX2_fill_45 : decode cX2_fill 45 = .ok (.aload_n 1, 1) := by decide +kernel
theorem dX2_fill_46 : decode cX2_fill 46 = .ok (.getfield 30, 3) := by decide +kernel
theorem dX2_fill_49 : decode cX2_fill 49 = .ok (.getfield 50, 3) := by decide +kernel
theorem dX2_fill_52 : decode cX2_fill 52 = .ok (.iload_n 2, 1) := by decide +kernel
theorem dX2_fill_53 : decode cX2_fill 53 = .ok (.iaload, 1) := by decide +kernel
theorem dX2_fill_54 : decode cX2_fill 54 = .ok (.iload_n 3, 1) := by decide +kernel
theorem dX2_fill_55 : decode cX2_fill 55 = .ok (.aload_n 1, 1) := by decide +kernel
theorem dX2_fill_56 : decode cX2_fill 56 = .ok (.getfield 30, 3) := by decide +kernel
theorem dX2_fill_59 : decode cX2_fill 59 = .ok (.getfield 53, 3) := by decide +kernel
theorem dX2_fill_62 : decode cX2_fill 62 = .ok (.iload_n 2, 1) := by decide +kernel
theorem dX2_fill_63 : decode cX2_fill 63 = .ok (.iaload, 1) := by decide +kernel
theorem dX2_fill_64 : decode cX2_fill 64 = .ok (.invokevirtual 54, 3) := by decide +kernel
theorem dX2_fill_67 : decode cX2_fill 67 = .ok (.iinc 2 1, 3) := by decide +kernel
theorem dX2_fill_70 : decode cX2_fill 70 = .ok (.goto (-60), 3) := by decide +kernel
theorem dX2_fill_73 : decode cX2_fill 73 = .ok (.iconst 0, 1) := by decide +kernel
theorem dX2_fill_74 : decode cX2_fill 74 = .ok (.istore_n 2, 1) := by decide +kernel
theorem dX2_fill_75 : decode cX2_fill 75 = .ok (.iload_n 2, 1) := by decide +kernel
theorem dX2_fill_76 : decode cX2_fill 76 = .ok (.aload_n 1, 1) := by decide +kernel
theorem dX2_fill_77 : decode cX2_fill 77 = .ok (.getfield 58, 3) := by decide +kernel
theorem dX2_fill_80 : decode cX2_fill 80 = .ok (.getfield 61, 3) := by decide +kernel
theorem dX2_fill_83 : decode cX2_fill 83 = .ok (.if_icmp .ge 18, 3) := by decide +kernel
theorem dX2_fill_86 : decode cX2_fill 86 = .ok (.aload_n 0, 1) := by decide +kernel
theorem dX2_fill_87 : decode cX2_fill 87 = .ok (.aload_n 1, 1) := by decide +kernel
theorem dX2_fill_88 : decode cX2_fill 88 = .ok (.getfield 64, 3) := by decide +kernel
theorem dX2_fill_91 : decode cX2_fill 91 = .ok (.iload_n 2, 1) := by decide +kernel
theorem dX2_fill_92 : decode cX2_fill 92 = .ok (.invokevirtual 68, 3) := by decide +kernel
theorem dX2_fill_95 : decode cX2_fill 95 = .ok (.iinc 2 1, 3) := by decide +kernel
theorem dX2_fill_98 : decode cX2_fill 98 = .ok (.goto (-23), 3) := by decide +kernel
theorem dX2_fill_101 : decode cX2_fill 101 = .ok (.return_, 1) := by decide +kernel
set_option maxRecDepth 20000 in
theorem ggX2_makeSuites_X6_isSuite : GoodIn wsX2_makeSuites wsX6_isSuite := goodIn_r _ [4, 5, 6, 7, 8, 41, 42, 43, 44] (by decide +kernel) (by decide +kernel)
set_option maxRecDepth 20000 in
theorem gX2_makeSuites_X6_isSuite_n75 : GoodIn wsX2_makeSuites (wsX6_isSuite) := ggX2_makeSuites_X6_isSuite
set_option maxRecDepth 20000 in
theorem ggX2_makeSuites_X2_makeSuite : GoodIn wsX2_makeSuites wsX2_makeSuite := goodIn_r _ [13, 14, 15, 16, 17, 12, 18, 19, 20, 21, 22, 23, 24, 25, 26, 27, 28, 29, 30, 31, 32, 33, 34, 35, 36, 37, 38, 39, 40, 41, 42, 43, 44, 45] (by decide +kernel) (by decide +kernel)
set_option maxRecDepth 20000 in
theorem gX2_makeSuites_X2_makeSuite : GoodIn wsX2_makeSuites (wsV RX2 78 RX2 yX2_makeSuite wsX2_makeSuite) := goodIn_app (goodIn_of _ (by decide +kernel)) ggX2_makeSuites_X2_makeSuite
theorem dX2_makeSuites_0 : decode cX2_makeSuites 0 = .ok (.iconst 0, 1) := by decide +kernel
theorem dX2_makeSuites_1 : decode cX2_makeSuites 1 = .ok (.istore_n 3, 1) := by decide +kernel
theorem dX2_makeSuites_2 : decode cX2_makeSuites 2 = .ok (.iload_n 3, 1) := by decide +kernel
theorem dX2_makeSuites_3 : decode cX2_makeSuites 3 = .ok (.aload_n 1, 1) := by decide +kernel
theorem dX2_makeSuites_4 : decode cX2_makeSuites 4 = .ok (.getfield 72, 3) := by decide +kernel
theorem dX2_makeSuites_7 : decode cX2_makeSuites 7 = .ok (.if_icmp .ge 24, 3) := by decide +kernel
theorem dX2_makeSuites_10 : decode cX2_makeSuites 10 = .ok (.aload_n 1, 1) := by decide +kernel
theorem dX2_makeSuites_11 : decode cX2_makeSuites 11 = .ok (.iload_n 3, 1) := by decide +kernel
theorem dX2_makeSuites_12 : decode cX2_makeSuites 12 = .ok (.invokevirtual 75, 3) := by decide +kernel
theorem dX2_makeSuites_15 : decode cX2_makeSuites 15 = .ok (.ifCond .eq 10, 3) := by decide +kernel
theorem dX2_makeSuites_18 : decode cX2_makeSuites 18 = .ok (.aload_n 0, 1) := by decide +kernel
theorem dX2_makeSuites_19 : decode cX2_makeSuites 19 = .ok (.aload_n 1, 1) := by decide +kernel
theorem dX2_makeSuites_20 : decode cX2_makeSuites 20 = .ok (.iload_n 2, 1) := by decide +kernel
theorem dX2_makeSuites_21 : decode cX2_makeSuites 21 = .ok (.iload_n 3, 1) := by decide +kernel
theorem dX2_makeSuites_22 : decode cX2_makeSuites 22 = .ok (.invokevirtual 78, 3) := by decide +kernel
theorem dX2_makeSuites_25 : decode cX2_makeSuites 25 = .ok (.iinc 3 1, 3) := by decide +kernel
theorem dX2_makeSuites_28 : decode cX2_makeSuites 28 = .ok (.goto (-26), 3) := by decide +kernel
theorem dX2_makeSuites_31 : decode cX2_makeSuites 31 = .ok (.return_, 1) := by decide +kernel
set_option maxRecDepth 20000 in
theorem ggX2_makeSuite_X2_hadParts : GoodIn wsX2_makeSuite wsX2_hadParts := goodIn_r _ [6, 7, 8, 9, 5, 10, 1, 11, 12, 13, 29, 30, 31, 32, 33] (by decide +kernel) (by decide +kernel)
set_option maxRecDepth 20000 in
theorem gX2_makeSuite_X2_hadParts : GoodIn wsX2_makeSuite (wsV RX2 82 RX2 yX2_hadParts wsX2_hadParts) := goodIn_app (goodIn_of _ (by decide +kernel)) ggX2_makeSuite_X2_hadParts
set_option maxRecDepth 20000 in
theorem ggX2_makeSuite_J6_bitCount_0f7a4 : GoodIn wsX2_makeSuite wsJ6_bitCount_0f7a4 := goodIn_r _ [17, 18, 19, 20] (by decide +kernel) (by decide +kernel)
set_option maxRecDepth 20000 in
theorem gX2_makeSuite_J6_bitCount_0f7a4 : GoodIn wsX2_makeSuite (va_wsS RX2 86 yJ6_bitCount_0f7a4 wsJ6_bitCount_0f7a4) := goodIn_app (goodIn_of _ (by decide +kernel)) ggX2_makeSuite_J6_bitCount_0f7a4
set_option maxRecDepth 20000 in
theorem ggX2_makeSuite_X2_versionAt : GoodIn wsX2_makeSuite wsX2_versionAt := goodIn_r _ [10, 1, 11, 12, 5, 13, 33] (by decide +kernel) (by decide +kernel)
set_option maxRecDepth 20000 in
theorem gX2_makeSuite_X2_versionAt : GoodIn wsX2_makeSuite (wsV RX2 97 RX2 yX2_versionAt wsX2_versionAt) := goodIn_app (goodIn_of _ (by decide +kernel)) ggX2_makeSuite_X2_versionAt
set_option maxRecDepth 20000 in
theorem ggX2_makeSuite_X2_raise : GoodIn wsX2_makeSuite wsX2_raise := goodIn_r _ [24, 1, 25, 26, 27, 28, 11, 12, 5, 13, 33] (by decide +kernel) (by decide +kernel)
set_option maxRecDepth 20000 in
theorem gX2_makeSuite_X2_raise : GoodIn wsX2_makeSuite (wsV RX2 54 RX2 yX2_raise wsX2_raise) := goodIn_app (goodIn_of _ (by decide +kernel)) ggX2_makeSuite_X2_raise
set_option maxRecDepth 20000 in
theorem ggX2_makeSuite_X2_cellOf : GoodIn wsX2_makeSuite wsX2_cellOf := goodIn_r _ [13] (by decide +kernel) (by decide +kernel)
set_option maxRecDepth 20000 in
theorem gX2_makeSuite_X2_cellOf : GoodIn wsX2_makeSuite (va_wsS RX2 15 yX2_cellOf wsX2_cellOf) := goodIn_app (goodIn_of _ (by decide +kernel)) ggX2_makeSuite_X2_cellOf
theorem dX2_makeSuite_0 : decode cX2_makeSuite 0 = .ok (.aload_n 0, 1) := by decide +kernel
theorem dX2_makeSuite_1 : decode cX2_makeSuite 1 = .ok (.aload_n 1, 1) := by decide +kernel
theorem dX2_makeSuite_2 : decode cX2_makeSuite 2 = .ok (.iload_n 2, 1) := by decide +kernel
theorem dX2_makeSuite_3 : decode cX2_makeSuite 3 = .ok (.iload_n 3, 1) := by decide +kernel
theorem dX2_makeSuite_4 : decode cX2_makeSuite 4 = .ok (.invokevirtual 82, 3) := by decide +kernel
theorem dX2_makeSuite_7 : decode cX2_makeSuite 7 = .ok (.istore 4, 2) := by decide +kernel
theorem dX2_makeSuite_9 : decode cX2_makeSuite 9 = .ok (.iload 4, 2) := by decide +kernel
theorem dX2_makeSuite_11 : decode cX2_makeSuite 11 = .ok (.invokestatic 86, 3) := by decide +kernel
theorem dX2_makeSuite_14 : decode cX2_makeSuite 14 = .ok (.aload_n 1, 1) := by decide +kernel
theorem dX2_makeSuite_15 : decode cX2_makeSuite 15 = .ok (.getfield 91, 3) := by decide +kernel
theorem dX2_makeSuite_18 : decode cX2_makeSuite 18 = .ok (.iload_n 3, 1) := by decide +kernel
theorem dX2_makeSuite_19 : decode cX2_makeSuite 19 = .ok (.iaload, 1) := by decide +kernel
theorem dX2_makeSuite_20 : decode cX2_makeSuite 20 = .ok (.if_icmp .ge 4, 3) := by decide +kernel
theorem dX2_makeSuite_23 : decode cX2_makeSuite 23 = .ok (.return_, 1) := by decide +kernel
theorem dX2_makeSuite_24 : decode cX2_makeSuite 24 = .ok (.aload_n 1, 1) := by decide +kernel
theorem dX2_makeSuite_25 : decode cX2_makeSuite 25 = .ok (.getfield 94, 3) := by decide +kernel
theorem dX2_makeSuite_28 : decode cX2_makeSuite 28 = .ok (.iload_n 3, 1) := by decide +kernel
theorem dX2_makeSuite_29 : decode cX2_makeSuite 29 = .ok (.iaload, 1) := by decide +kernel
theorem dX2_makeSuite_30 : decode cX2_makeSuite 30 = .ok (.iconst 3, 1) := by decide +kernel
theorem dX2_makeSuite_31 : decode cX2_makeSuite 31 = .ok (.if_icmp .ne 7, 3) := by decide +kernel
theorem dX2_makeSuite_34 : decode cX2_makeSuite 34 = .ok (.iconst 1, 1) := by decide +kernel
theorem dX2_makeSuite_35 : decode cX2_makeSuite 35 = .ok (.goto 4, 3) := by decide +kernel
theorem dX2_makeSuite_38 : decode cX2_makeSuite 38 = .ok (.iconst 0, 1) := by decide +kernel
theorem dX2_makeSuite_39 : decode cX2_makeSuite 39 = .ok (.istore 5, 2) := by decide +kernel
theorem dX2_makeSuite_41 : decode cX2_makeSuite 41 = .ok (.iconst 0, 1) := by decide +kernel
theorem dX2_makeSuite_42 : decode cX2_makeSuite 42 = .ok (.istore 6, 2) := by decide +kernel
theorem dX2_makeSuite_44 : decode cX2_makeSuite 44 = .ok (.iload 6, 2) := by decide +kernel
theorem dX2_makeSuite_46 : decode cX2_makeSuite 46 = .ok (.aload_n 1, 1) := by decide +kernel
theorem dX2_makeSuite_47 : decode cX2_makeSuite 47 = .ok (.getfield 72, 3) := by decide +kernel
theorem dX2_makeSuite_50 : decode cX2_makeSuite 50 = .ok (.if_icmp .ge 50, 3) := by decide +kernel
theorem dX2_makeSuite_53 : decode cX2_makeSuite 53 = .ok (.iload 4, 2) := by decide +kernel
theorem dX2_makeSuite_55 : decode cX2_makeSuite 55 = .ok (.iload 6, 2) := by decide +kernel
theorem dX2_makeSuite_57 : decode cX2_makeSuite 57 = .ok (.ishr, 1) := by decide +kernel
theorem dX2_makeSuite_58 : decode cX2_makeSuite 58 = .ok (.iconst 1, 1) := by decide +kernel
theorem dX2_makeSuite_59 : decode cX2_makeSuite 59 = .ok (.iand, 1) := by decide +kernel
theorem dX2_makeSuite_60 : decode cX2_makeSuite 60 = .ok (.iconst 1, 1) := by decide +kernel
theorem dX2_makeSuite_61 : decode cX2_makeSuite 61 = .ok (.if_icmp .ne 33, 3) := by decide +kernel
theorem dX2_makeSuite_64 : decode cX2_makeSuite 64 = .ok (.aload_n 0, 1) := by decide +kernel
theorem dX2_makeSuite_65 : decode cX2_makeSuite 65 = .ok (.iload_n 2, 1) := by decide +kernel
theorem dX2_makeSuite_66 : decode cX2_makeSuite 66 = .ok (.iload_n 3, 1) := by decide +kernel
theorem dX2_makeSuite_67 : decode cX2_makeSuite 67 = .ok (.aload_n 0, 1) := by decide +kernel
theorem dX2_makeSuite_68 : decode cX2_makeSuite 68 = .ok (.iload_n 2, 1) := by decide +kernel
theorem dX2_makeSuite_69 : decode cX2_makeSuite 69 = .ok (.iload 6, 2) := by decide +kernel
theorem dX2_makeSuite_71 : decode cX2_makeSuite 71 = .ok (.invokevirtual 97, 3) := by decide +kernel
theorem dX2_makeSuite_74 : decode cX2_makeSuite 74 = .ok (.invokevirtual 54, 3) := by decide +kernel
theorem dX2_makeSuite_77 : decode cX2_makeSuite 77 = .ok (.iload 5, 2) := by decide +kernel
theorem dX2_makeSuite_79 : decode cX2_makeSuite 79 = .ok (.ifCond .ne 15, 3) := by decide +kernel
theorem dX2_makeSuite_82 : decode cX2_makeSuite 82 = .ok (.aload_n 0, 1) := by decide +kernel
theorem dX2_makeSuite_83 : decode cX2_makeSuite 83 = .ok (.getfield 9, 3) := by decide +kernel
theorem dX2_makeSuite_86 : decode cX2_makeSuite 86 = .ok (.iload_n 2, 1) := by decide +kernel
theorem dX2_makeSuite_87 : decode cX2_makeSuite 87 = .ok (.iload 6, 2) := by decide +kernel
theorem dX2_makeSuite_89 : decode cX2_makeSuite 89 = .ok (.invokestatic 15, 3) := by decide +kernel
theorem dX2_makeSuite_92 : decode cX2_makeSuite 92 = .ok (.iconst 0, 1) := by decide +kernel
theorem dX2_makeSuite_93 : decode cX2_makeSuite 93 = .ok (.iastore, 1) := by decide +kernel
theorem dX2_makeSuite_94 : decode cX2_makeSuite 94 = .ok (.iinc 6 1, 3) := by decide +kernel
theorem dX2_makeSuite_97 : decode cX2_makeSuite 97 = .ok (.goto (-53), 3) := by decide +kernel
theorem dX2_makeSuite_100 : decode cX2_makeSuite 100 = .ok (.return_, 1) := by decide +kernel
set_option maxRecDepth 20000 in
theorem ggX2_hadParts_X2_versionAt : GoodIn wsX2_hadParts wsX2_versionAt := goodIn_r _ [5, 6, 7, 8, 4, 9, 14] (by decide +kernel) (by decide +kernel)
set_option maxRecDepth 20000 in
theorem gX2_hadParts_X2_versionAt : GoodIn wsX2_hadParts (wsV RX2 97 RX2 yX2_versionAt wsX2_versionAt) := goodIn_app (goodIn_of _ (by decide +kernel)) ggX2_hadParts_X2_versionAt
theorem dX2_hadParts_0 : decode cX2_hadParts 0 = .ok (.iconst 0, 1) := by decide +kernel
theorem dX2_hadParts_1 : decode cX2_hadParts 1 = .ok (.istore 4, 2) := by decide +kernel
theorem dX2_hadParts_3 : decode cX2_hadParts 3 = .ok (.iconst 0, 1) := by decide +kernel
theorem dX2_hadParts_4 : decode cX2_hadParts 4 = .ok (.istore 5, 2) := by decide +kernel
theorem dX2_hadParts_6 : decode cX2_hadParts 6 = .ok (.iload 5, 2) := by decide +kernel
theorem dX2_hadParts_8 : decode cX2_hadParts 8 = .ok (.aload_n 1, 1) := by decide +kernel
theorem dX2_hadParts_9 : decode cX2_hadParts 9 = .ok (.getfield 72, 3) := by decide +kernel
theorem dX2_hadParts_12 : decode cX2_hadParts 12 = .ok (.if_icmp .ge 61, 3) := by decide +kernel
theorem dX2_hadParts_15 : decode cX2_hadParts 15 = .ok (.iload 5, 2) := by decide +kernel
theorem dX2_hadParts_17 : decode cX2_hadParts 17 = .ok (.iload_n 3, 1) := by decide +kernel
theorem dX2_hadParts_18 : decode cX2_hadParts 18 = .ok (.if_icmp .eq 22, 3) := by decide +kernel
theorem dX2_hadParts_21 : decode cX2_hadParts 21 = .ok (.aload_n 1, 1) := by decide +kernel
theorem dX2_hadParts_22 : decode cX2_hadParts 22 = .ok (.getfield 100, 3) := by decide +kernel
theorem dX2_hadParts_25 : decode cX2_hadParts 25 = .ok (.iload_n 3, 1) := by decide +kernel
theorem dX2_hadParts_26 : decode cX2_hadParts 26 = .ok (.iaload, 1) := by decide +kernel
theorem dX2_hadParts_27 : decode cX2_hadParts 27 = .ok (.iload 5, 2) := by decide +kernel
theorem dX2_hadParts_29 : decode cX2_hadParts 29 = .ok (.ishr, 1) := by decide +kernel
theorem dX2_hadParts_30 : decode cX2_hadParts 30 = .ok (.iconst 1, 1) := by decide +kernel
theorem dX2_hadParts_31 : decode cX2_hadParts 31 = .ok (.iand, 1) := by decide +kernel
theorem dX2_hadParts_32 : decode cX2_hadParts 32 = .ok (.iconst 1, 1) := by decide +kernel
theorem dX2_hadParts_33 : decode cX2_hadParts 33 = .ok (.if_icmp .ne 7, 3) := by decide +kernel
theorem dX2_hadParts_36 : decode cX2_hadParts 36 = .ok (.iconst 1, 1) := by decide +kernel
theorem dX2_hadParts_37 : decode cX2_hadParts 37 = .ok (.goto 4, 3) := by decide +kernel
theorem dX2_hadParts_40 : decode cX2_hadParts 40 = .ok (.iconst 0, 1) := by decide +kernel
theorem dX2_hadParts_41 : decode cX2_hadParts 41 = .ok (.istore 6, 2) := by decide +kernel
theorem dX2_hadParts_43 : decode cX2_hadParts 43 = .ok (.iload 6, 2) := by decide +kernel
theorem dX2_hadParts_45 : decode cX2_hadParts 45 = .ok (.ifCond .eq 22, 3) := by decide +kernel
theorem dX2_hadParts_48 : decode cX2_hadParts 48 = .ok (.aload_n 0, 1) := by decide +kernel
theorem dX2_hadParts_49 : decode cX2_hadParts 49 = .ok (.iload_n 2, 1) := by decide +kernel
theorem dX2_hadParts_50 : decode cX2_hadParts 50 = .ok (.iload 5, 2) := by decide +kernel
theorem dX2_hadParts_52 : decode cX2_hadParts 52 = .ok (.invokevirtual 97, 3) := by decide +kernel
theorem dX2_hadParts_55 : decode cX2_hadParts 55 = .ok (.ifCond .le 12, 3) := by decide +kernel
theorem dX2_hadParts_58 : decode cX2_hadParts 58 = .ok (.iload 4, 2) := by decide +kernel
theorem dX2_hadParts_60 : decode cX2_hadParts 60 = .ok (.iconst 1, 1) := by decide +kernel
theorem dX2_hadParts_61 : decode cX2_hadParts 61 = .ok (.iload 5, 2) := by decide +kernel
theorem dX2_hadParts_63 : decode cX2_hadParts 63 = .ok (.ishl, 1) := by decide +kernel
theorem dX2_hadParts_64 : decode cX2_hadParts 64 = .ok (.ior, 1) := by decide +kernel
theorem dX2_hadParts_65 : decode cX2_hadParts 65 = .ok (.istore 4, 2) := by decide +kernel
theorem dX2_hadParts_67 : decode cX2_hadParts 67 = .ok (.iinc 5 1, 3) := by decide +kernel
theorem dX2_hadParts_70 : decode cX2_hadParts 70 = .ok (.goto (-64), 3) := by decide +kernel
theorem dX2_hadParts_73 : decode cX2_hadParts 73 = .ok (.iload 4, 2) := by decide +kernel
theorem dX2_hadParts_75 : decode cX2_hadParts 75 = .ok (.ireturn, 1) := by decide +kernel
set_option maxRecDepth 20000 in
theorem ggX2_leaveOut_X2_cellOf : GoodIn wsX2_leaveOut wsX2_cellOf := goodIn_r _ [5] (by decide +kernel) (by decide +kernel)
set_option maxRecDepth 20000 in
theorem gX2_leaveOut_X2_cellOf : GoodIn wsX2_leaveOut (va_wsS RX2 15 yX2_cellOf wsX2_cellOf) := goodIn_app (goodIn_of _ (by decide +kernel)) ggX2_leaveOut_X2_cellOf
theorem dX2_leaveOut_0 : decode cX2_leaveOut 0 = .ok (.iconst 0, 1) := by decide +kernel
theorem dX2_leaveOut_1 : decode cX2_leaveOut 1 = .ok (.istore_n 2, 1) := by decide +kernel
theorem dX2_leaveOut_2 : decode cX2_leaveOut 2 = .ok (.iload_n 2, 1) := by decide +kernel
theorem dX2_leaveOut_3 : decode cX2_leaveOut 3 = .ok (.bipush 10, 2) := by decide +kernel
theorem dX2_leaveOut_5 : decode cX2_leaveOut 5 = .ok (.if_icmp .ge 20, 3) := by decide +kernel
theorem dX2_leaveOut_8 : decode cX2_leaveOut 8 = .ok (.aload_n 0, 1) := by decide +kernel
theorem dX2_leaveOut_9 : decode cX2_leaveOut 9 = .ok (.getfield 9, 3) := by decide +kernel
theorem dX2_leaveOut_12 : decode cX2_leaveOut 12 = .ok (.iload_n 1, 1) := by decide +kernel
theorem dX2_leaveOut_13 : decode cX2_leaveOut 13 = .ok (.iload_n 2, 1) := by decide +kernel
theorem dX2_leaveOut_14 : decode cX2_leaveOut 14 = .ok (.invokestatic 15, 3) := by decide +kernel
theorem dX2_leaveOut_17 : decode cX2_leaveOut 17 = .ok (.iconst 0, 1) := by decide +kernel
theorem dX2_leaveOut_18 : decode cX2_leaveOut 18 = .ok (.iastore, 1) := by decide +kernel
theorem dX2_leaveOut_19 : decode cX2_leaveOut 19 = .ok (.iinc 2 1, 3) := by decide +kernel
theorem dX2_leaveOut_22 : decode cX2_leaveOut 22 = .ok (.goto (-20), 3) := by decide +kernel
theorem dX2_leaveOut_25 : decode cX2_leaveOut 25 = .ok (.return_, 1) := by decide +kernel
set_option maxRecDepth 20000 in
theorem ggX2_howManyHosts_X2_versionAt : GoodIn wsX2_howManyHosts wsX2_versionAt := goodIn_r _ [5, 6, 7, 8, 4, 9, 13] (by decide +kernel) (by decide +kernel)
set_option maxRecDepth 20000 in
theorem gX2_howManyHosts_X2_versionAt : GoodIn wsX2_howManyHosts (wsV RX2 97 RX2 yX2_versionAt wsX2_versionAt) := goodIn_app (goodIn_of _ (by decide +kernel)) ggX2_howManyHosts_X2_versionAt
theorem dX2_howManyHosts_0 : decode cX2_howManyHosts 0 = .ok (.iconst 0, 1) := by decide +kernel
theorem dX2_howManyHosts_1 : decode cX2_howManyHosts 1 = .ok (.istore_n 3, 1) := by decide +kernel
theorem dX2_howManyHosts_2 : decode cX2_howManyHosts 2 = .ok (.iconst 0, 1) := by decide +kernel
theorem dX2_howManyHosts_3 : decode cX2_howManyHosts 3 = .ok (.istore 4, 2) := by decide +kernel
theorem dX2_howManyHosts_5 : decode cX2_howManyHosts 5 = .ok (.iload 4, 2) := by decide +kernel
theorem dX2_howManyHosts_7 : decode cX2_howManyHosts 7 = .ok (.aload_n 1, 1) := by decide +kernel
theorem dX2_howManyHosts_8 : decode cX2_howManyHosts 8 = .ok (.getfield 61, 3) := by decide +kernel
theorem dX2_howManyHosts_11 : decode cX2_howManyHosts 11 = .ok (.if_icmp .ge 22, 3) := by decide +kernel
theorem dX2_howManyHosts_14 : decode cX2_howManyHosts 14 = .ok (.aload_n 0, 1) := by decide +kernel
theorem dX2_howManyHosts_15 : decode cX2_howManyHosts 15 = .ok (.iload 4, 2) := by decide +kernel
theorem dX2_howManyHosts_17 : decode cX2_howManyHosts 17 = .ok (.iload_n 2, 1) := by decide +kernel
theorem dX2_howManyHosts_18 : decode cX2_howManyHosts 18 = .ok (.invokevirtual 97, 3) := by decide +kernel
theorem dX2_howManyHosts_21 : decode cX2_howManyHosts 21 = .ok (.ifCond .le 6, 3) := by decide +kernel
theorem dX2_howManyHosts_24 : decode cX2_howManyHosts 24 = .ok (.iinc 3 1, 3) := by decide +kernel
theorem dX2_howManyHosts_27 : decode cX2_howManyHosts 27 = .ok (.iinc 4 1, 3) := by decide +kernel
theorem dX2_howManyHosts_30 : decode cX2_howManyHosts 30 = .ok (.goto (-25), 3) := by decide +kernel
theorem dX2_howManyHosts_33 : decode cX2_howManyHosts 33 = .ok (.iload_n 3, 1) := by decide +kernel
theorem dX2_howManyHosts_34 : decode cX2_howManyHosts 34 = .ok (.ireturn, 1) := by decide +kernel
set_option maxRecDepth 20000 in
theorem ggX2_howManyPersons_X2_versionAt : GoodIn wsX2_howManyPersons wsX2_versionAt := goodIn_r _ [5, 6, 7, 8, 4, 9, 20] (by decide +kernel) (by decide +kernel)
set_option maxRecDepth 20000 in
theorem gX2_howManyPersons_X2_versionAt : GoodIn wsX2_howManyPersons (wsV RX2 97 RX2 yX2_versionAt wsX2_versionAt) := goodIn_app (goodIn_of _ (by decide +kernel)) ggX2_howManyPersons_X2_versionAt
set_option maxRecDepth 20000 in
theorem ggX2_howManyPersons_J6_bitCount_0f7a4 : GoodIn wsX2_howManyPersons wsJ6_bitCount_0f7a4 := goodIn_r _ [13, 14, 15, 16] (by decide +kernel) (by decide +kernel)
set_option maxRecDepth 20000 in
theorem gX2_howManyPersons_J6_bitCount_0f7a4 : GoodIn wsX2_howManyPersons (va_wsS RX2 86 yJ6_bitCount_0f7a4 wsJ6_bitCount_0f7a4) := goodIn_app (goodIn_of _ (by decide +kernel)) ggX2_howManyPersons_J6_bitCount_0f7a4
theorem dX2_howManyPersons_0 : decode cX2_howManyPersons 0 = .ok (.iconst 0, 1) := by decide +kernel
theorem dX2_howManyPersons_1 : decode cX2_howManyPersons 1 = .ok (.istore_n 3, 1) := by decide +kernel
theorem dX2_howManyPersons_2 : decode cX2_howManyPersons 2 = .ok (.iconst 0, 1) := by decide +kernel
theorem dX2_howManyPersons_3 : decode cX2_howManyPersons 3 = .ok (.istore 4, 2) := by decide +kernel
theorem dX2_howManyPersons_5 : decode cX2_howManyPersons 5 = .ok (.iload 4, 2) := by decide +kernel
theorem dX2_howManyPersons_7 : decode cX2_howManyPersons 7 = .ok (.aload_n 1, 1) := by decide +kernel
theorem dX2_howManyPersons_8 : decode cX2_howManyPersons 8 = .ok (.getfield 61, 3) := by decide +kernel
theorem dX2_howManyPersons_11 : decode cX2_howManyPersons 11 = .ok (.if_icmp .ge 31, 3) := by decide +kernel
theorem dX2_howManyPersons_14 : decode cX2_howManyPersons 14 = .ok (.aload_n 0, 1) := by decide +kernel
theorem dX2_howManyPersons_15 : decode cX2_howManyPersons 15 = .ok (.iload 4, 2) := by decide +kernel
theorem dX2_howManyPersons_17 : decode cX2_howManyPersons 17 = .ok (.iload_n 2, 1) := by decide +kernel
theorem dX2_howManyPersons_18 : decode cX2_howManyPersons 18 = .ok (.invokevirtual 97, 3) := by decide +kernel
theorem dX2_howManyPersons_21 : decode cX2_howManyPersons 21 = .ok (.ifCond .le 15, 3) := by decide +kernel
theorem dX2_howManyPersons_24 : decode cX2_howManyPersons 24 = .ok (.iload_n 3, 1) := by decide +kernel
theorem dX2_howManyPersons_25 : decode cX2_howManyPersons 25 = .ok (.iconst 1, 1) := by decide +kernel
theorem dX2_howManyPersons_26 : decode cX2_howManyPersons 26 = .ok (.aload_n 1, 1) := by decide +kernel
theorem dX2_howManyPersons_27 : decode cX2_howManyPersons 27 = .ok (.getfield 103, 3) := by decide +kernel
theorem dX2_howManyPersons_30 : decode cX2_howManyPersons 30 = .ok (.iload 4, 2) := by decide +kernel
theorem dX2_howManyPersons_32 : decode cX2_howManyPersons 32 = .ok (.iaload, 1) := by decide +kernel
theorem dX2_howManyPersons_33 : decode cX2_howManyPersons 33 = .ok (.ishl, 1) := by decide +kernel
theorem dX2_howManyPersons_34 : decode cX2_howManyPersons 34 = .ok (.ior, 1) := by decide +kernel
theorem dX2_howManyPersons_35 : decode cX2_howManyPersons 35 = .ok (.istore_n 3, 1) := by decide +kernel
theorem dX2_howManyPersons_36 : decode cX2_howManyPersons 36 = .ok (.iinc 4 1, 3) := by decide +kernel
theorem dX2_howManyPersons_39 : decode cX2_howManyPersons 39 = .ok (.goto (-34), 3) := by decide +kernel
theorem dX2_howManyPersons_42 : decode cX2_howManyPersons 42 = .ok (.iload_n 3, 1) := by decide +kernel
theorem dX2_howManyPersons_43 : decode cX2_howManyPersons 43 = .ok (.invokestatic 86, 3) := by decide +kernel
theorem dX2_howManyPersons_46 : decode cX2_howManyPersons 46 = .ok (.ireturn, 1) := by decide +kernel
set_option maxRecDepth 20000 in
theorem ggX2_coresByEight_X2_versionAt : GoodIn wsX2_coresByEight wsX2_versionAt := goodIn_r _ [5, 6, 7, 8, 4, 9, 13] (by decide +kernel) (by decide +kernel)
set_option maxRecDepth 20000 in
theorem gX2_coresByEight_X2_versionAt : GoodIn wsX2_coresByEight (wsV RX2 97 RX2 yX2_versionAt wsX2_versionAt) := goodIn_app (goodIn_of _ (by decide +kernel)) ggX2_coresByEight_X2_versionAt
theorem dX2_coresByEight_0 : decode cX2_coresByEight 0 = .ok (.iconst 0, 1) := by decide +kernel
theorem dX2_coresByEight_1 : decode cX2_coresByEight 1 = .ok (.istore_n 3, 1) := by decide +kernel
theorem dX2_coresByEight_2 : decode cX2_coresByEight 2 = .ok (.iconst 0, 1) := by decide +kernel
theorem dX2_coresByEight_3 : decode cX2_coresByEight 3 = .ok (.istore 4, 2) := by decide +kernel
theorem dX2_coresByEight_5 : decode cX2_coresByEight 5 = .ok (.iload 4, 2) := by decide +kernel
theorem dX2_coresByEight_7 : decode cX2_coresByEight 7 = .ok (.aload_n 1, 1) := by decide +kernel
theorem dX2_coresByEight_8 : decode cX2_coresByEight 8 = .ok (.getfield 61, 3) := by decide +kernel
theorem dX2_coresByEight_11 : decode cX2_coresByEight 11 = .ok (.if_icmp .ge 37, 3) := by decide +kernel
theorem dX2_coresByEight_14 : decode cX2_coresByEight 14 = .ok (.aload_n 0, 1) := by decide +kernel
theorem dX2_coresByEight_15 : decode cX2_coresByEight 15 = .ok (.iload 4, 2) := by decide +kernel
theorem dX2_coresByEight_17 : decode cX2_coresByEight 17 = .ok (.iload_n 2, 1) := by decide +kernel
theorem dX2_coresByEight_18 : decode cX2_coresByEight 18 = .ok (.invokevirtual 97, 3) := by decide +kernel
theorem dX2_coresByEight_21 : decode cX2_coresByEight 21 = .ok (.ifCond .le 21, 3) := by decide +kernel
theorem dX2_coresByEight_24 : decode cX2_coresByEight 24 = .ok (.iload_n 3, 1) := by decide +kernel
theorem dX2_coresByEight_25 : decode cX2_coresByEight 25 = .ok (.aload_n 1, 1) := by decide +kernel
theorem dX2_coresByEight_26 : decode cX2_coresByEight 26 = .ok (.getfield 106, 3) := by decide +kernel
theorem dX2_coresByEight_29 : decode cX2_coresByEight 29 = .ok (.iload 4, 2) := by decide +kernel
theorem dX2_coresByEight_31 : decode cX2_coresByEight 31 = .ok (.iaload, 1) := by decide +kernel
theorem dX2_coresByEight_32 : decode cX2_coresByEight 32 = .ok (.bipush 8, 2) := by decide +kernel
theorem dX2_coresByEight_34 : decode cX2_coresByEight 34 = .ok (.iadd, 1) := by decide +kernel
theorem dX2_coresByEight_35 : decode cX2_coresByEight 35 = .ok (.iconst 1, 1) := by decide +kernel
theorem dX2_coresByEight_36 : decode cX2_coresByEight 36 = .ok (.isub, 1) := by decide +kernel
theorem dX2_coresByEight_37 : decode cX2_coresByEight 37 = .ok (.bipush 8, 2) := by decide +kernel
theorem dX2_coresByEight_39 : decode cX2_coresByEight 39 = .ok (.idiv, 1) := by decide +kernel
theorem dX2_coresByEight_40 : decode cX2_coresByEight 40 = .ok (.iadd, 1) := by decide +kernel
theorem dX2_coresByEight_41 : decode cX2_coresByEight 41 = .ok (.istore_n 3, 1) := by decide +kernel
theorem dX2_coresByEight_42 : decode cX2_coresByEight 42 = .ok (.iinc 4 1, 3) := by decide +kernel
theorem dX2_coresByEight_45 : decode cX2_coresByEight 45 = .ok (.goto (-40), 3) := by decide +kernel
theorem dX2_coresByEight_48 : decode cX2_coresByEight 48 = .ok (.iload_n 3, 1) := by decide +kernel
theorem dX2_coresByEight_49 : decode cX2_coresByEight 49 = .ok (.ireturn, 1) := by decide +kernel
theorem dX3_init_0 : decode cX3_init 0 = .ok (.aload_n 0, 1) := by decide +kernel
theorem dX3_init_1 : decode cX3_init 1 = .ok (.invokespecial 3, 3) := by decide +kernel
theorem dX3_init_4 : decode cX3_init 4 = .ok (.aload_n 0, 1) := by decide +kernel
theorem dX3_init_5 : decode cX3_init 5 = .ok (.bipush 8, 2) := by decide +kernel
theorem dX3_init_7 : decode cX3_init 7 = .ok (.newarray .int, 2) := by decide +kernel
theorem dX3_init_9 : decode cX3_init 9 = .ok (.putfield 9, 3) := by decide +kernel
theorem dX3_init_12 : decode cX3_init 12 = .ok (.aload_n 0, 1) := by decide +kernel
theorem dX3_init_13 : decode cX3_init 13 = .ok (.bipush 8, 2) := by decide +kernel
theorem dX3_init_15 : decode cX3_init 15 = .ok (.newarray .int, 2) := by decide +kernel
theorem dX3_init_17 : decode cX3_init 17 = .ok (.putfield 15, 3) := by decide +kernel
theorem dX3_init_20 : decode cX3_init 20 = .ok (.return_, 1) := by decide +kernel
theorem dX3_isOne_0 : decode cX3_isOne 0 = .ok (.iload_n 1, 1) := by decide +kernel
theorem dX3_isOne_1 : decode cX3_isOne 1 = .ok (.ifCond .lt 15, 3) := by decide +kernel
theorem dX3_isOne_4 : decode cX3_isOne 4 = .ok (.iload_n 1, 1) := by decide +kernel
theorem dX3_isOne_5 : decode cX3_isOne 5 = .ok (.aload_n 0, 1) := by decide +kernel
theorem dX3_isOne_6 : decode cX3_isOne 6 = .ok (.getfield 18, 3) := by decide +kernel
theorem dX3_isOne_9 : decode cX3_isOne 9 = .ok (.if_icmp .ge 7, 3) := by decide +kernel
theorem dX3_isOne_12 : decode cX3_isOne 12 = .ok (.iconst 1, 1) := by decide +kernel
theorem dX3_isOne_13 : decode cX3_isOne 13 = .ok (.goto 4, 3) := by decide +kernel
theorem dX3_isOne_16 : decode cX3_isOne 16 = .ok (.iconst 0, 1) := by decide +kernel
theorem dX3_isOne_17 : decode cX3_isOne 17 = .ok (.ireturn, 1) := by decide +kernel
theorem dX3_add_0 : decode cX3_add 0 = .ok (.aload_n 0, 1) := by decide +kernel
theorem dX3_add_1 : decode cX3_add 1 = .ok (.getfield 9, 3) := by decide +kernel
theorem dX3_add_4 : decode cX3_add 4 = .ok (.aload_n 0, 1) := by decide +kernel
theorem dX3_add_5 : decode cX3_add 5 = .ok (.getfield 18, 3) := by decide +kernel
theorem dX3_add_8 : decode cX3_add 8 = .ok (.iload_n 1, 1) := by decide +kernel
theorem dX3_add_9 : decode cX3_add 9 = .ok (.iastore, 1) := by decide +kernel
theorem dX3_add_10 : decode cX3_add 10 = .ok (.aload_n 0, 1) := by decide +kernel
theorem dX3_add_11 : decode cX3_add 11 = .ok (.getfield 15, 3) := by decide +kernel
theorem dX3_add_14 : decode cX3_add 14 = .ok (.aload_n 0, 1) := by decide +kernel
theorem dX3_add_15 : decode cX3_add 15 = .ok (.getfield 18, 3) := by decide +kernel
theorem dX3_add_18 : decode cX3_add 18 = .ok (.iload_n 2, 1) := by decide +kernel
theorem dX3_add_19 : decode cX3_add 19 = .ok (.iastore, 1) := by decide +kernel
theorem dX3_add_20 : decode cX3_add 20 = .ok (.aload_n 0, 1) := by decide +kernel
theorem dX3_add_21 : decode cX3_add 21 = .ok (.dup, 1) := by decide +kernel
theorem dX3_add_22 : decode cX3_add 22 = .ok (.getfield 18, 3) := by decide +kernel
theorem dX3_add_25 : decode cX3_add 25 = .ok (.iconst 1, 1) := by decide +kernel
theorem dX3_add_26 : decode cX3_add 26 = .ok (.iadd, 1) := by decide +kernel
theorem dX3_add_27 : decode cX3_add 27 = .ok (.putfield 18, 3) := by decide +kernel
theorem dX3_add_30 : decode cX3_add 30 = .ok (.aload_n 0, 1) := by decide +kernel
theorem dX3_add_31 : decode cX3_add 31 = .ok (.getfield 18, 3) := by decide +kernel
theorem dX3_add_34 : decode cX3_add 34 = .ok (.iconst 1, 1) := by decide +kernel
theorem dX3_add_35 : decode cX3_add 35 = .ok (.isub, 1) := by decide +kernel
theorem dX3_add_36 : decode cX3_add 36 = .ok (.ireturn, 1) := by decide +kernel
theorem dX3_copyFrom_0 : decode cX3_copyFrom 0 = .ok (.aload_n 0, 1) := by decide +kernel
theorem dX3_copyFrom_1 : decode cX3_copyFrom 1 = .ok (.aload_n 1, 1) := by decide +kernel
theorem dX3_copyFrom_2 : decode cX3_copyFrom 2 = .ok (.getfield 18, 3) := by decide +kernel
theorem dX3_copyFrom_5 : decode cX3_copyFrom 5 = .ok (.putfield 18, 3) := by decide +kernel
theorem dX3_copyFrom_8 : decode cX3_copyFrom 8 = .ok (.aload_n 1, 1) := by decide +kernel
theorem dX3_copyFrom_9 : decode cX3_copyFrom 9 = .ok (.getfield 9, 3) := by decide +kernel
theorem dX3_copyFrom_12 : decode cX3_copyFrom 12 = .ok (.iconst 0, 1) := by decide +kernel
theorem dX3_copyFrom_13 : decode cX3_copyFrom 13 = .ok (.aload_n 0, 1) := by decide +kernel
theorem dX3_copyFrom_14 : decode cX3_copyFrom 14 = .ok (.getfield 9, 3) := by decide +kernel
theorem dX3_copyFrom_17 : decode cX3_copyFrom 17 = .ok (.iconst 0, 1) := by decide +kernel
theorem dX3_copyFrom_18 : decode cX3_copyFrom 18 = .ok (.bipush 8, 2) := by decide +kernel
theorem dX3_copyFrom_20 : decode cX3_copyFrom 20 = .ok (.invokestatic 22, 3) := by decide +kernel
theorem dX3_copyFrom_23 : decode cX3_copyFrom 23 = .ok (.aload_n 1, 1) := by decide +kernel
theorem dX3_copyFrom_24 : decode cX3_copyFrom 24 = .ok (.getfield 15, 3) := by decide +kernel
theorem dX3_copyFrom_27 : decode cX3_copyFrom 27 = .ok (.iconst 0, 1) := by decide +kernel
theorem dX3_copyFrom_28 : decode cX3_copyFrom 28 = .ok (.aload_n 0, 1) := by decide +kernel
theorem dX3_copyFrom_29 : decode cX3_copyFrom 29 = .ok (.getfield 15, 3) := by decide +kernel
theorem dX3_copyFrom_32 : decode cX3_copyFrom 32 = .ok (.iconst 0, 1) := by decide +kernel
theorem dX3_copyFrom_33 : decode cX3_copyFrom 33 = .ok (.bipush 8, 2) := by decide +kernel
theorem dX3_copyFrom_35 : decode cX3_copyFrom 35 = .ok (.invokestatic 22, 3) := by decide +kernel
theorem dX3_copyFrom_38 : decode cX3_copyFrom 38 = .ok (.return_, 1) := by decide +kernel
theorem dX4_init_0 : decode cX4_init 0 = .ok (.aload_n 0, 1) := by decide +kernel
theorem dX4_init_1 : decode cX4_init 1 = .ok (.invokespecial 3, 3) := by decide +kernel
theorem dX4_init_4 : decode cX4_init 4 = .ok (.return_, 1) := by decide +kernel
theorem dX4_add_0 : decode cX4_add 0 = .ok (.aload_n 0, 1) := by decide +kernel
theorem dX4_add_1 : decode cX4_add 1 = .ok (.dup, 1) := by decide +kernel
theorem dX4_add_2 : decode cX4_add 2 = .ok (.getfield 9, 3) := by decide +kernel
theorem dX4_add_5 : decode cX4_add 5 = .ok (.iload_n 1, 1) := by decide +kernel
theorem dX4_add_6 : decode cX4_add 6 = .ok (.i2l, 1) := by decide +kernel
theorem dX4_add_7 : decode cX4_add 7 = .ok (.iconst 5, 1) := by decide +kernel
theorem dX4_add_8 : decode cX4_add 8 = .ok (.aload_n 0, 1) := by decide +kernel
theorem dX4_add_9 : decode cX4_add 9 = .ok (.getfield 15, 3) := by decide +kernel
theorem dX4_add_12 : decode cX4_add 12 = .ok (.imul, 1) := by decide +kernel
theorem dX4_add_13 : decode cX4_add 13 = .ok (.lshl, 1) := by decide +kernel
theorem dX4_add_14 : decode cX4_add 14 = .ok (.lor, 1) := by decide +kernel
theorem dX4_add_15 : decode cX4_add 15 = .ok (.putfield 9, 3) := by decide +kernel
theorem dX4_add_18 : decode cX4_add 18 = .ok (.aload_n 0, 1) := by decide +kernel
theorem dX4_add_19 : decode cX4_add 19 = .ok (.dup, 1) := by decide +kernel
theorem dX4_add_20 : decode cX4_add 20 = .ok (.getfield 15, 3) := by decide +kernel
theorem dX4_add_23 : decode cX4_add 23 = .ok (.iconst 1, 1) := by decide +kernel
theorem dX4_add_24 : decode cX4_add 24 = .ok (.iadd, 1) := by decide +kernel
theorem dX4_add_25 : decode cX4_add 25 = .ok (.putfield 15, 3) := by decide +kernel
theorem dX4_add_28 : decode cX4_add 28 = .ok (.return_, 1) := by decide +kernel
theorem dX4_take_0 : decode cX4_take 0 = .ok (.aload_n 0, 1) := by decide +kernel
theorem dX4_take_1 : decode cX4_take 1 = .ok (.getfield 9, 3) := by decide +kernel
theorem dX4_take_4 : decode cX4_take 4 = .ok (.lstore_n 1, 1) := by decide +kernel
theorem dX4_take_5 : decode cX4_take 5 = .ok (.aload_n 0, 1) := by decide +kernel
theorem dX4_take_6 : decode cX4_take 6 = .ok (.lconst 0, 1) := by decide +kernel
theorem dX4_take_7 : decode cX4_take 7 = .ok (.putfield 9, 3) := by decide +kernel
theorem dX4_take_10 : decode cX4_take 10 = .ok (.aload_n 0, 1) := by decide +kernel
theorem dX4_take_11 : decode cX4_take 11 = .ok (.iconst 0, 1) := by decide +kernel
theorem dX4_take_12 : decode cX4_take 12 = .ok (.putfield 15, 3) := by decide +kernel
theorem dX4_take_15 : decode cX4_take 15 = .ok (.lload_n 1, 1) := by decide +kernel
theorem dX4_take_16 : decode cX4_take 16 = .ok (.lreturn, 1) := by decide +kernel
set_option maxRecDepth 20000 in
theorem ggX4_areName_X10_signAt : GoodIn wsX4_areName wsX10_signAt := goodIn_r _ [5] (by decide +kernel) (by decide +kernel)
set_option maxRecDepth 20000 in
theorem gX4_areName_X10_signAt_n19 : GoodIn wsX4_areName (wsX10_signAt) := ggX4_areName_X10_signAt
theorem dX4_areName_0 : decode cX4_areName 0 = .ok (.iconst 0, 1) := by decide +kernel
theorem dX4_areName_1 : decode cX4_areName 1 = .ok (.istore_n 1, 1) := by decide +kernel
theorem dX4_areName_2 : decode cX4_areName 2 = .ok (.iload_n 1, 1) := by decide +kernel
theorem dX4_areName_3 : decode cX4_areName 3 = .ok (.aload_n 0, 1) := by decide +kernel
theorem dX4_areName_4 : decode cX4_areName 4 = .ok (.getfield 15, 3) := by decide +kernel
theorem dX4_areName_7 : decode cX4_areName 7 = .ok (.if_icmp .ge 24, 3) := by decide +kernel
theorem dX4_areName_10 : decode cX4_areName 10 = .ok (.aload_n 0, 1) := by decide +kernel
theorem dX4_areName_11 : decode cX4_areName 11 = .ok (.getfield 9, 3) := by decide +kernel
theorem dX4_areName_14 : decode cX4_areName 14 = .ok (.iload_n 1, 1) := by decide +kernel
theorem dX4_areName_15 : decode cX4_areName 15 = .ok (.invokestatic 19, 3) := by decide +kernel
theorem dX4_areName_18 : decode cX4_areName 18 = .ok (.bipush 26, 2) := by decide +kernel
theorem dX4_areName_20 : decode cX4_areName 20 = .ok (.if_icmp .le 5, 3) := by decide +kernel
theorem dX4_areName_23 : decode cX4_areName 23 = .ok (.iconst 0, 1) := by decide +kernel
theorem dX4_areName_24 : decode cX4_areName 24 = .ok (.ireturn, 1) := by decide +kernel
theorem dX4_areName_25 : decode cX4_areName 25 = .ok (.iinc 1 1, 3) := by decide +kernel
theorem dX4_areName_28 : decode cX4_areName 28 = .ok (.goto (-26), 3) := by decide +kernel
theorem dX4_areName_31 : decode cX4_areName 31 = .ok (.iconst 1, 1) := by decide +kernel
theorem dX4_areName_32 : decode cX4_areName 32 = .ok (.ireturn, 1) := by decide +kernel
set_option maxRecDepth 20000 in
theorem ggX4_arePattern_X10_signAt : GoodIn wsX4_arePattern wsX10_signAt := goodIn_r _ [5] (by decide +kernel) (by decide +kernel)
set_option maxRecDepth 20000 in
theorem gX4_arePattern_X10_signAt_n19 : GoodIn wsX4_arePattern (wsX10_signAt) := ggX4_arePattern_X10_signAt
theorem dX4_arePattern_0 : decode cX4_arePattern 0 = .ok (.iconst 0, 1) := by decide +kernel
theorem dX4_arePattern_1 : decode cX4_arePattern 1 = .ok (.istore_n 1, 1) := by decide +kernel
theorem dX4_arePattern_2 : decode cX4_arePattern 2 = .ok (.iload_n 1, 1) := by decide +kernel
theorem dX4_arePattern_3 : decode cX4_arePattern 3 = .ok (.aload_n 0, 1) := by decide +kernel
theorem dX4_arePattern_4 : decode cX4_arePattern 4 = .ok (.getfield 15, 3) := by decide +kernel
theorem dX4_arePattern_7 : decode cX4_arePattern 7 = .ok (.iconst 1, 1) := by decide +kernel
theorem dX4_arePattern_8 : decode cX4_arePattern 8 = .ok (.isub, 1) := by decide +kernel
theorem dX4_arePattern_9 : decode cX4_arePattern 9 = .ok (.if_icmp .ge 24, 3) := by decide +kernel
theorem dX4_arePattern_12 : decode cX4_arePattern 12 = .ok (.aload_n 0, 1) := by decide +kernel
theorem dX4_arePattern_13 : decode cX4_arePattern 13 = .ok (.getfield 9, 3) := by decide +kernel
theorem dX4_arePattern_16 : decode cX4_arePattern 16 = .ok (.iload_n 1, 1) := by decide +kernel
theorem dX4_arePattern_17 : decode cX4_arePattern 17 = .ok (.invokestatic 19, 3) := by decide +kernel
theorem dX4_arePattern_20 : decode cX4_arePattern 20 = .ok (.bipush 28, 2) := by decide +kernel
theorem dX4_arePattern_22 : decode cX4_arePattern 22 = .ok (.if_icmp .ne 5, 3) := by decide +kernel
theorem dX4_arePattern_25 : decode cX4_arePattern 25 = .ok (.iconst 0, 1) := by decide +kernel
theorem dX4_arePattern_26 : decode cX4_arePattern 26 = .ok (.ireturn, 1) := by decide +kernel
theorem dX4_arePattern_27 : decode cX4_arePattern 27 = .ok (.iinc 1 1, 3) := by decide +kernel
theorem dX4_arePattern_30 : decode cX4_arePattern 30 = .ok (.goto (-28), 3) := by decide +kernel
theorem dX4_arePattern_33 : decode cX4_arePattern 33 = .ok (.iconst 1, 1) := by decide +kernel
theorem dX4_arePattern_34 : decode cX4_arePattern 34 = .ok (.ireturn, 1) := by decide +kernel
theorem dX5_init_0 : decode cX5_init 0 = .ok (.aload_n 0, 1) := by decide +kernel
theorem dX5_init_1 : decode cX5_init 1 = .ok (.invokespecial 3, 3) := by decide +kernel
theorem dX5_init_4 : decode cX5_init 4 = .ok (.aload_n 0, 1) := by decide +kernel
theorem dX5_init_5 : decode cX5_init 5 = .ok (.bipush 10, 2) := by decide +kernel
theorem dX5_init_7 : decode cX5_init 7 = .ok (.newarray .int, 2) := by decide +kernel
theorem dX5_init_9 : decode cX5_init 9 = .ok (.putfield 9, 3) := by decide +kernel
theorem dX5_init_12 : decode cX5_init 12 = .ok (.return_, 1) := by decide +kernel
set_option maxRecDepth 20000 in
theorem ggX5_begin_X10_isWithin : GoodIn wsX5_begin wsX10_isWithin := goodIn_r _ [6] (by decide +kernel) (by decide +kernel)
set_option maxRecDepth 20000 in
theorem gX5_begin_X10_isWithin_n33 : GoodIn wsX5_begin (wsX10_isWithin) := ggX5_begin_X10_isWithin
theorem dX5_begin_0 : decode cX5_begin 0 = .ok (.aload_n 0, 1) := by decide +kernel
theorem dX5_begin_1 : decode cX5_begin 1 = .ok (.iconst 0, 1) := by decide +kernel
theorem dX5_begin_2 : decode cX5_begin 2 = .ok (.putfield 15, 3) := by decide +kernel
theorem dX5_begin_5 : decode cX5_begin 5 = .ok (.aload_n 0, 1) := by decide +kernel
theorem dX5_begin_6 : decode cX5_begin 6 = .ok (.iconst 0, 1) := by decide +kernel
theorem dX5_begin_7 : decode cX5_begin 7 = .ok (.putfield 19, 3) := by decide +kernel
theorem dX5_begin_10 : decode cX5_begin 10 = .ok (.iconst 0, 1) := by decide +kernel
theorem dX5_begin_11 : decode cX5_begin 11 = .ok (.istore_n 3, 1) := by decide +kernel
theorem dX5_begin_12 : decode cX5_begin 12 = .ok (.iload_n 3, 1) := by decide +kernel
theorem dX5_begin_13 : decode cX5_begin 13 = .ok (.aload_n 1, 1) := by decide +kernel
theorem dX5_begin_14 : decode cX5_begin 14 = .ok (.getfield 22, 3) := by decide +kernel
theorem dX5_begin_17 : decode cX5_begin 17 = .ok (.if_icmp .ge 48, 3) := by decide +kernel
theorem dX5_begin_20 : decode cX5_begin 20 = .ok (.iload_n 2, 1) := by decide +kernel
theorem dX5_begin_21 : decode cX5_begin 21 = .ok (.aload_n 1, 1) := by decide +kernel
theorem dX5_begin_22 : decode cX5_begin 22 = .ok (.getfield 27, 3) := by decide +kernel
theorem dX5_begin_25 : decode cX5_begin 25 = .ok (.iload_n 3, 1) := by decide +kernel
theorem dX5_begin_26 : decode cX5_begin 26 = .ok (.iaload, 1) := by decide +kernel
theorem dX5_begin_27 : decode cX5_begin 27 = .ok (.aload_n 1, 1) := by decide +kernel
theorem dX5_begin_28 : decode cX5_begin 28 = .ok (.getfield 30, 3) := by decide +kernel
theorem dX5_begin_31 : decode cX5_begin 31 = .ok (.iload_n 3, 1) := by decide +kernel
theorem dX5_begin_32 : decode cX5_begin 32 = .ok (.iaload, 1) := by decide +kernel
theorem dX5_begin_33 : decode cX5_begin 33 = .ok (.invokestatic 33, 3) := by decide +kernel
theorem dX5_begin_36 : decode cX5_begin 36 = .ok (.istore 4, 2) := by decide +kernel
theorem dX5_begin_38 : decode cX5_begin 38 = .ok (.aload_n 0, 1) := by decide +kernel
theorem dX5_begin_39 : decode cX5_begin 39 = .ok (.getfield 9, 3) := by decide +kernel
theorem dX5_begin_42 : decode cX5_begin 42 = .ok (.iload_n 3, 1) := by decide +kernel
theorem dX5_begin_43 : decode cX5_begin 43 = .ok (.iload 4, 2) := by decide +kernel
theorem dX5_begin_45 : decode cX5_begin 45 = .ok (.ifCond .eq 12, 3) := by decide +kernel
theorem dX5_begin_48 : decode cX5_begin 48 = .ok (.aload_n 1, 1) := by decide +kernel
theorem dX5_begin_49 : decode cX5_begin 49 = .ok (.getfield 37, 3) := by decide +kernel
theorem dX5_begin_52 : decode cX5_begin 52 = .ok (.iload_n 3, 1) := by decide +kernel
theorem dX5_begin_53 : decode cX5_begin 53 = .ok (.iaload, 1) := by decide +kernel
theorem dX5_begin_54 : decode cX5_begin 54 = .ok (.goto 4, 3) := by decide +kernel
theorem dX5_begin_57 : decode cX5_begin 57 = .ok (.iconst 0, 1) := by decide +kernel
theorem dX5_begin_58 : decode cX5_begin 58 = .ok (.iastore, 1) := by decide +kernel
theorem dX5_begin_59 : decode cX5_begin 59 = .ok (.iinc 3 1, 3) := by decide +kernel
theorem dX5_begin_62 : decode cX5_begin 62 = .ok (.goto (-50), 3) := by decide +kernel
theorem dX5_begin_65 : decode cX5_begin 65 = .ok (.return_, 1) := by decide +kernel
theorem dX5_leaveOut_0 : decode cX5_leaveOut 0 = .ok (.aload_n 0, 1) := by decide +kernel
theorem dX5_leaveOut_1 : decode cX5_leaveOut 1 = .ok (.getfield 9, 3) := by decide +kernel
theorem dX5_leaveOut_4 : decode cX5_leaveOut 4 = .ok (.iload_n 1, 1) := by decide +kernel
theorem dX5_leaveOut_5 : decode cX5_leaveOut 5 = .ok (.iconst 0, 1) := by decide +kernel
theorem dX5_leaveOut_6 : decode cX5_leaveOut 6 = .ok (.iastore, 1) := by decide +kernel
theorem dX5_leaveOut_7 : decode cX5_leaveOut 7 = .ok (.return_, 1) := by decide +kernel
set_option maxRecDepth 20000 in
theorem ggX5_serveAll_X5_serveProduct : GoodIn wsX5_serveAll wsX5_serveProduct := goodIn_r _ [5, 6, 7, 8, 9, 10, 11, 12, 13, 14, 15, 16, 17, 18, 19, 20, 21, 4, 22, 23, 24, 25, 26, 27, 28, 29, 30, 31, 32, 33, 34, 35, 36, 37, 42, 43, 44, 38, 39, 40, 41, 45, 46, 47, 48, 49, 50, 51, 52, 53, 54, 55] (by decide +kernel) (by decide +kernel)
set_option maxRecDepth 20000 in
theorem gX5_serveAll_X5_serveProduct : GoodIn wsX5_serveAll (wsV RX5 49 RX5 yX5_serveProduct wsX5_serveProduct) := goodIn_app (goodIn_of _ (by decide +kernel)) ggX5_serveAll_X5_serveProduct
theorem dX5_serveAll_0 : decode cX5_serveAll 0 = .ok (.iconst 0, 1) := by decide +kernel
theorem dX5_serveAll_1 : decode cX5_serveAll 1 = .ok (.istore_n 3, 1) := by decide +kernel
theorem dX5_serveAll_2 : decode cX5_serveAll 2 = .ok (.iload_n 3, 1) := by decide +kernel
theorem dX5_serveAll_3 : decode cX5_serveAll 3 = .ok (.aload_n 1, 1) := by decide +kernel
theorem dX5_serveAll_4 : decode cX5_serveAll 4 = .ok (.getfield 40, 3) := by decide +kernel
theorem dX5_serveAll_7 : decode cX5_serveAll 7 = .ok (.getfield 46, 3) := by decide +kernel
theorem dX5_serveAll_10 : decode cX5_serveAll 10 = .ok (.if_icmp .ge 16, 3) := by decide +kernel
theorem dX5_serveAll_13 : decode cX5_serveAll 13 = .ok (.aload_n 0, 1) := by decide +kernel
theorem dX5_serveAll_14 : decode cX5_serveAll 14 = .ok (.aload_n 1, 1) := by decide +kernel
theorem dX5_serveAll_15 : decode cX5_serveAll 15 = .ok (.aload_n 2, 1) := by decide +kernel
theorem dX5_serveAll_16 : decode cX5_serveAll 16 = .ok (.iload_n 3, 1) := by decide +kernel
theorem dX5_serveAll_17 : decode cX5_serveAll 17 = .ok (.invokevirtual 49, 3) := by decide +kernel
theorem dX5_serveAll_20 : decode cX5_serveAll 20 = .ok (.iinc 3 1, 3) := by decide +kernel
theorem dX5_serveAll_23 : decode cX5_serveAll 23 = .ok (.goto (-21), 3) := by decide +kernel
theorem dX5_serveAll_26 : decode cX5_serveAll 26 = .ok (.return_, 1) := by decide +kernel
set_option maxRecDepth 20000 in
theorem ggX5_serveProduct_X6_isFree : GoodIn wsX5_serveProduct wsX6_isFree := goodIn_r _ [4, 5, 37, 38, 39, 40] (by decide +kernel) (by decide +kernel)
set_option maxRecDepth 20000 in
theorem gX5_serveProduct_X6_isFree_n53 : GoodIn wsX5_serveProduct (wsX6_isFree) := ggX5_serveProduct_X6_isFree
set_option maxRecDepth 20000 in
theorem ggX5_serveProduct_X2_versionAt : GoodIn wsX5_serveProduct wsX2_versionAt := goodIn_r _ [9, 10, 11, 12, 7, 13, 41] (by decide +kernel) (by decide +kernel)
set_option maxRecDepth 20000 in
theorem gX5_serveProduct_X2_versionAt_n64 : GoodIn wsX5_serveProduct (wsX2_versionAt) := ggX5_serveProduct_X2_versionAt
set_option maxRecDepth 20000 in
theorem ggX5_serveProduct_X5_serve : GoodIn wsX5_serveProduct wsX5_serve := goodIn_r _ [18, 19, 20, 21, 22, 23, 24, 17, 25, 42, 43, 44, 45, 46, 47, 48, 49, 50, 51] (by decide +kernel) (by decide +kernel)
set_option maxRecDepth 20000 in
theorem gX5_serveProduct_X5_serve : GoodIn wsX5_serveProduct (wsV RX5 74 RX5 yX5_serve wsX5_serve) := goodIn_app (goodIn_of _ (by decide +kernel)) ggX5_serveProduct_X5_serve
theorem dX5_serveProduct_0 : decode cX5_serveProduct 0 = .ok (.aload_n 1, 1) := by decide +kernel
theorem dX5_serveProduct_1 : decode cX5_serveProduct 1 = .ok (.getfield 40, 3) := by decide +kernel
theorem dX5_serveProduct_4 : decode cX5_serveProduct 4 = .ok (.iload_n 3, 1) := by decide +kernel
theorem dX5_serveProduct_5 : decode cX5_serveProduct 5 = .ok (.invokevirtual 53, 3) := by decide +kernel
theorem dX5_serveProduct_8 : decode cX5_serveProduct 8 = .ok (.ifCond .eq 4, 3) := by decide +kernel
theorem dX5_serveProduct_11 : decode cX5_serveProduct 11 = .ok (.return_, 1) := by decide +kernel
theorem dX5_serveProduct_12 : decode cX5_serveProduct 12 = .ok (.bipush 9, 2) := by decide +kernel
theorem dX5_serveProduct_14 : decode cX5_serveProduct 14 = .ok (.istore 4, 2) := by decide +kernel
theorem dX5_serveProduct_16 : decode cX5_serveProduct 16 = .ok (.iload 4, 2) := by decide +kernel
theorem dX5_serveProduct_18 : decode cX5_serveProduct 18 = .ok (.iconst 1, 1) := by decide +kernel
theorem dX5_serveProduct_19 : decode cX5_serveProduct 19 = .ok (.if_icmp .lt 53, 3) := by decide +kernel
theorem dX5_serveProduct_22 : decode cX5_serveProduct 22 = .ok (.iconst 0, 1) := by decide +kernel
theorem dX5_serveProduct_23 : decode cX5_serveProduct 23 = .ok (.istore 5, 2) := by decide +kernel
theorem dX5_serveProduct_25 : decode cX5_serveProduct 25 = .ok (.iload 5, 2) := by decide +kernel
theorem dX5_serveProduct_27 : decode cX5_serveProduct 27 = .ok (.aload_n 1, 1) := by decide +kernel
theorem dX5_serveProduct_28 : decode cX5_serveProduct 28 = .ok (.getfield 57, 3) := by decide +kernel
theorem dX5_serveProduct_31 : decode cX5_serveProduct 31 = .ok (.getfield 61, 3) := by decide +kernel
theorem dX5_serveProduct_34 : decode cX5_serveProduct 34 = .ok (.if_icmp .ge 32, 3) := by decide +kernel
theorem dX5_serveProduct_37 : decode cX5_serveProduct 37 = .ok (.aload_n 2, 1) := by decide +kernel
theorem dX5_serveProduct_38 : decode cX5_serveProduct 38 = .ok (.iload 5, 2) := by decide +kernel
theorem dX5_serveProduct_40 : decode cX5_serveProduct 40 = .ok (.iload_n 3, 1) := by decide +kernel
theorem dX5_serveProduct_41 : decode cX5_serveProduct 41 = .ok (.invokevirtual 64, 3) := by decide +kernel
theorem dX5_serveProduct_44 : decode cX5_serveProduct 44 = .ok (.iload 4, 2) := by decide +kernel
theorem dX5_serveProduct_46 : decode cX5_serveProduct 46 = .ok (.if_icmp .ne 14, 3) := by decide +kernel
theorem dX5_serveProduct_49 : decode cX5_serveProduct 49 = .ok (.aload_n 0, 1) := by decide +kernel
theorem dX5_serveProduct_50 : decode cX5_serveProduct 50 = .ok (.aload_n 1, 1) := by decide +kernel
theorem dX5_serveProduct_51 : decode cX5_serveProduct 51 = .ok (.getfield 70, 3) := by decide +kernel
theorem dX5_serveProduct_54 : decode cX5_serveProduct 54 = .ok (.iload_n 3, 1) := by decide +kernel
theorem dX5_serveProduct_55 : decode cX5_serveProduct 55 = .ok (.iload 4, 2) := by decide +kernel
theorem dX5_serveProduct_57 : decode cX5_serveProduct 57 = .ok (.invokevirtual 74, 3) := by decide +kernel
theorem dX5_serveProduct_60 : decode cX5_serveProduct 60 = .ok (.iinc 5 1, 3) := by decide +kernel
theorem dX5_serveProduct_63 : decode cX5_serveProduct 63 = .ok (.goto (-38), 3) := by decide +kernel
theorem dX5_serveProduct_66 : decode cX5_serveProduct 66 = .ok (.iinc 4 (-1), 3) := by decide +kernel
theorem dX5_serveProduct_69 : decode cX5_serveProduct 69 = .ok (.goto (-53), 3) := by decide +kernel
theorem dX5_serveProduct_72 : decode cX5_serveProduct 72 = .ok (.return_, 1) := by decide +kernel
set_option maxRecDepth 20000 in
theorem ggX5_serve_X5_cheapest : GoodIn wsX5_serve wsX5_cheapest := goodIn_r _ [8, 2, 12, 13, 14, 15, 16, 17, 18, 9, 10, 11] (by decide +kernel) (by decide +kernel)
set_option maxRecDepth 20000 in
theorem gX5_serve_X5_cheapest : GoodIn wsX5_serve (wsV RX5 78 RX5 yX5_cheapest wsX5_cheapest) := goodIn_app (goodIn_of _ (by decide +kernel)) ggX5_serve_X5_cheapest
theorem dX5_serve_0 : decode cX5_serve 0 = .ok (.aload_n 0, 1) := by decide +kernel
theorem dX5_serve_1 : decode cX5_serve 1 = .ok (.aload_n 1, 1) := by decide +kernel
theorem dX5_serve_2 : decode cX5_serve 2 = .ok (.iload_n 2, 1) := by decide +kernel
theorem dX5_serve_3 : decode cX5_serve 3 = .ok (.iload_n 3, 1) := by decide +kernel
theorem dX5_serve_4 : decode cX5_serve 4 = .ok (.invokevirtual 78, 3) := by decide +kernel
theorem dX5_serve_7 : decode cX5_serve 7 = .ok (.istore 4, 2) := by decide +kernel
theorem dX5_serve_9 : decode cX5_serve 9 = .ok (.iload 4, 2) := by decide +kernel
theorem dX5_serve_11 : decode cX5_serve 11 = .ok (.ifCond .ge 14, 3) := by decide +kernel
theorem dX5_serve_14 : decode cX5_serve 14 = .ok (.aload_n 0, 1) := by decide +kernel
theorem dX5_serve_15 : decode cX5_serve 15 = .ok (.dup, 1) := by decide +kernel
theorem dX5_serve_16 : decode cX5_serve 16 = .ok (.getfield 15, 3) := by decide +kernel
theorem dX5_serve_19 : decode cX5_serve 19 = .ok (.iconst 1, 1) := by decide +kernel
theorem dX5_serve_20 : decode cX5_serve 20 = .ok (.iadd, 1) := by decide +kernel
theorem dX5_serve_21 : decode cX5_serve 21 = .ok (.putfield 15, 3) := by decide +kernel
theorem dX5_serve_24 : decode cX5_serve 24 = .ok (.return_, 1) := by decide +kernel
theorem dX5_serve_25 : decode cX5_serve 25 = .ok (.aload_n 0, 1) := by decide +kernel
theorem dX5_serve_26 : decode cX5_serve 26 = .ok (.getfield 9, 3) := by decide +kernel
theorem dX5_serve_29 : decode cX5_serve 29 = .ok (.iload 4, 2) := by decide +kernel
theorem dX5_serve_31 : decode cX5_serve 31 = .ok (.dup2, 1) := by decide +kernel
theorem dX5_serve_32 : decode cX5_serve 32 = .ok (.iaload, 1) := by decide +kernel
theorem dX5_serve_33 : decode cX5_serve 33 = .ok (.iconst 1, 1) := by decide +kernel
theorem dX5_serve_34 : decode cX5_serve 34 = .ok (.isub, 1) := by decide +kernel
theorem dX5_serve_35 : decode cX5_serve 35 = .ok (.iastore, 1) := by decide +kernel
theorem dX5_serve_36 : decode cX5_serve 36 = .ok (.aload_n 0, 1) := by decide +kernel
theorem dX5_serve_37 : decode cX5_serve 37 = .ok (.dup, 1) := by decide +kernel
theorem dX5_serve_38 : decode cX5_serve 38 = .ok (.getfield 19, 3) := by decide +kernel
theorem dX5_serve_41 : decode cX5_serve 41 = .ok (.aload_n 1, 1) := by decide +kernel
theorem dX5_serve_42 : decode cX5_serve 42 = .ok (.getfield 82, 3) := by decide +kernel
theorem dX5_serve_45 : decode cX5_serve 45 = .ok (.iload 4, 2) := by decide +kernel
theorem dX5_serve_47 : decode cX5_serve 47 = .ok (.iaload, 1) := by decide +kernel
theorem dX5_serve_48 : decode cX5_serve 48 = .ok (.iadd, 1) := by decide +kernel
theorem dX5_serve_49 : decode cX5_serve 49 = .ok (.putfield 19, 3) := by decide +kernel
theorem dX5_serve_52 : decode cX5_serve 52 = .ok (.return_, 1) := by decide +kernel
theorem dX5_cheapest_0 : decode cX5_cheapest 0 = .ok (.bipush (-2), 2) := by decide +kernel
theorem dX5_cheapest_2 : decode cX5_cheapest 2 = .ok (.istore 4, 2) := by decide +kernel
theorem dX5_cheapest_4 : decode cX5_cheapest 4 = .ok (.iconst 0, 1) := by decide +kernel
theorem dX5_cheapest_5 : decode cX5_cheapest 5 = .ok (.istore 5, 2) := by decide +kernel
theorem dX5_cheapest_7 : decode cX5_cheapest 7 = .ok (.iload 5, 2) := by decide +kernel
theorem dX5_cheapest_9 : decode cX5_cheapest 9 = .ok (.aload_n 1, 1) := by decide +kernel
theorem dX5_cheapest_10 : decode cX5_cheapest 10 = .ok (.getfield 22, 3) := by decide +kernel
theorem dX5_cheapest_13 : decode cX5_cheapest 13 = .ok (.if_icmp .ge 79, 3) := by decide +kernel
theorem dX5_cheapest_16 : decode cX5_cheapest 16 = .ok (.aload_n 0, 1) := by decide +kernel
theorem dX5_cheapest_17 : decode cX5_cheapest 17 = .ok (.getfield 9, 3) := by decide +kernel
theorem dX5_cheapest_20 : decode cX5_cheapest 20 = .ok (.iload 5, 2) := by decide +kernel
theorem dX5_cheapest_22 : decode cX5_cheapest 22 = .ok (.iaload, 1) := by decide +kernel
theorem dX5_cheapest_23 : decode cX5_cheapest 23 = .ok (.ifCond .le 29, 3) := by decide +kernel
theorem dX5_cheapest_26 : decode cX5_cheapest 26 = .ok (.aload_n 1, 1) := by decide +kernel
theorem dX5_cheapest_27 : decode cX5_cheapest 27 = .ok (.getfield 85, 3) := by decide +kernel
theorem dX5_cheapest_30 : decode cX5_cheapest 30 = .ok (.iload 5, 2) := by decide +kernel
theorem dX5_cheapest_32 : decode cX5_cheapest 32 = .ok (.iaload, 1) := by decide +kernel
theorem dX5_cheapest_33 : decode cX5_cheapest 33 = .ok (.iload_n 2, 1) := by decide +kernel
theorem dX5_cheapest_34 : decode cX5_cheapest 34 = .ok (.if_icmp .ne 18, 3) := by decide +kernel
theorem dX5_cheapest_37 : decode cX5_cheapest 37 = .ok (.aload_n 1, 1) := by decide +kernel
theorem dX5_cheapest_38 : decode cX5_cheapest 38 = .ok (.getfield 87, 3) := by decide +kernel
theorem dX5_cheapest_41 : decode cX5_cheapest 41 = .ok (.iload 5, 2) := by decide +kernel
theorem dX5_cheapest_43 : decode cX5_cheapest 43 = .ok (.iaload, 1) := by decide +kernel
theorem dX5_cheapest_44 : decode cX5_cheapest 44 = .ok (.iload_n 3, 1) := by decide +kernel
theorem dX5_cheapest_45 : decode cX5_cheapest 45 = .ok (.if_icmp .lt 7, 3) := by decide +kernel
theorem dX5_cheapest_48 : decode cX5_cheapest 48 = .ok (.iconst 1, 1) := by decide +kernel
theorem dX5_cheapest_49 : decode cX5_cheapest 49 = .ok (.goto 4, 3) := by decide +kernel
theorem dX5_cheapest_52 : decode cX5_cheapest 52 = .ok (.iconst 0, 1) := by decide +kernel
theorem dX5_cheapest_53 : decode cX5_cheapest 53 = .ok (.istore 6, 2) := by decide +kernel
theorem dX5_cheapest_55 : decode cX5_cheapest 55 = .ok (.iload 6, 2) := by decide +kernel
theorem dX5_cheapest_57 : decode cX5_cheapest 57 = .ok (.ifCond .eq 29, 3) := by decide +kernel
theorem dX5_cheapest_60 : decode cX5_cheapest 60 = .ok (.iload 4, 2) := by decide +kernel
theorem dX5_cheapest_62 : decode cX5_cheapest 62 = .ok (.ifCond .lt 20, 3) := by decide +kernel
theorem dX5_cheapest_65 : decode cX5_cheapest 65 = .ok (.aload_n 1, 1) := by decide +kernel
theorem dX5_cheapest_66 : decode cX5_cheapest 66 = .ok (.getfield 82, 3) := by decide +kernel
theorem dX5_cheapest_69 : decode cX5_cheapest 69 = .ok (.iload 5, 2) := by decide +kernel
theorem dX5_cheapest_71 : decode cX5_cheapest 71 = .ok (.iaload, 1) := by decide +kernel
theorem dX5_cheapest_72 : decode cX5_cheapest 72 = .ok (.aload_n 1, 1) := by decide +kernel
theorem dX5_cheapest_73 : decode cX5_cheapest 73 = .ok (.getfield 82, 3) := by decide +kernel
theorem dX5_cheapest_76 : decode cX5_cheapest 76 = .ok (.iload 4, 2) := by decide +kernel
theorem dX5_cheapest_78 : decode cX5_cheapest 78 = .ok (.iaload, 1) := by decide +kernel
theorem dX5_cheapest_79 : decode cX5_cheapest 79 = .ok (.if_icmp .ge 7, 3) := by decide +kernel
theorem dX5_cheapest_82 : decode cX5_cheapest 82 = .ok (.iload 5, 2) := by decide +kernel
theorem dX5_cheapest_84 : decode cX5_cheapest 84 = .ok (.istore 4, 2) := by decide +kernel
theorem dX5_cheapest_86 : decode cX5_cheapest 86 = .ok (.iinc 5 1, 3) := by decide +kernel
theorem dX5_cheapest_89 : decode cX5_cheapest 89 = .ok (.goto (-82), 3) := by decide +kernel
theorem dX5_cheapest_92 : decode cX5_cheapest 92 = .ok (.iload 4, 2) := by decide +kernel
theorem dX5_cheapest_94 : decode cX5_cheapest 94 = .ok (.ireturn, 1) := by decide +kernel
theorem dX6_init_0 : decode cX6_init 0 = .ok (.aload_n 0, 1) := by decide +kernel
theorem dX6_init_1 : decode cX6_init 1 = .ok (.invokespecial 3, 3) := by decide +kernel
theorem dX6_init_4 : decode cX6_init 4 = .ok (.aload_n 0, 1) := by decide +kernel
theorem dX6_init_5 : decode cX6_init 5 = .ok (.bipush 10, 2) := by decide +kernel
theorem dX6_init_7 : decode cX6_init 7 = .ok (.newarray .int, 2) := by decide +kernel
theorem dX6_init_9 : decode cX6_init 9 = .ok (.putfield 9, 3) := by decide +kernel
theorem dX6_init_12 : decode cX6_init 12 = .ok (.aload_n 0, 1) := by decide +kernel
theorem dX6_init_13 : decode cX6_init 13 = .ok (.bipush 10, 2) := by decide +kernel
theorem dX6_init_15 : decode cX6_init 15 = .ok (.newarray .int, 2) := by decide +kernel
theorem dX6_init_17 : decode cX6_init 17 = .ok (.putfield 15, 3) := by decide +kernel
theorem dX6_init_20 : decode cX6_init 20 = .ok (.aload_n 0, 1) := by decide +kernel
theorem dX6_init_21 : decode cX6_init 21 = .ok (.bipush 10, 2) := by decide +kernel
theorem dX6_init_23 : decode cX6_init 23 = .ok (.newarray .int, 2) := by decide +kernel
theorem dX6_init_25 : decode cX6_init 25 = .ok (.putfield 18, 3) := by decide +kernel
theorem dX6_init_28 : decode cX6_init 28 = .ok (.return_, 1) := by decide +kernel
theorem dX6_isOne_0 : decode cX6_isOne 0 = .ok (.iload_n 1, 1) := by decide +kernel
theorem dX6_isOne_1 : decode cX6_isOne 1 = .ok (.ifCond .lt 15, 3) := by decide +kernel
theorem dX6_isOne_4 : decode cX6_isOne 4 = .ok (.iload_n 1, 1) := by decide +kernel
theorem dX6_isOne_5 : decode cX6_isOne 5 = .ok (.aload_n 0, 1) := by decide +kernel
theorem dX6_isOne_6 : decode cX6_isOne 6 = .ok (.getfield 21, 3) := by decide +kernel
theorem dX6_isOne_9 : decode cX6_isOne 9 = .ok (.if_icmp .ge 7, 3) := by decide +kernel
theorem dX6_isOne_12 : decode cX6_isOne 12 = .ok (.iconst 1, 1) := by decide +kernel
theorem dX6_isOne_13 : decode cX6_isOne 13 = .ok (.goto 4, 3) := by decide +kernel
theorem dX6_isOne_16 : decode cX6_isOne 16 = .ok (.iconst 0, 1) := by decide +kernel
theorem dX6_isOne_17 : decode cX6_isOne 17 = .ok (.ireturn, 1) := by decide +kernel
theorem dX6_isFree_0 : decode cX6_isFree 0 = .ok (.aload_n 0, 1) := by decide +kernel
theorem dX6_isFree_1 : decode cX6_isFree 1 = .ok (.getfield 9, 3) := by decide +kernel
theorem dX6_isFree_4 : decode cX6_isFree 4 = .ok (.iload_n 1, 1) := by decide +kernel
theorem dX6_isFree_5 : decode cX6_isFree 5 = .ok (.iaload, 1) := by decide +kernel
theorem dX6_isFree_6 : decode cX6_isFree 6 = .ok (.iconst 2, 1) := by decide +kernel
theorem dX6_isFree_7 : decode cX6_isFree 7 = .ok (.if_icmp .ne 7, 3) := by decide +kernel
theorem dX6_isFree_10 : decode cX6_isFree 10 = .ok (.iconst 1, 1) := by decide +kernel
theorem dX6_isFree_11 : decode cX6_isFree 11 = .ok (.goto 4, 3) := by decide +kernel
theorem dX6_isFree_14 : decode cX6_isFree 14 = .ok (.iconst 0, 1) := by decide +kernel
theorem dX6_isFree_15 : decode cX6_isFree 15 = .ok (.ireturn, 1) := by decide +kernel
set_option maxRecDepth 20000 in
theorem ggX6_isSuite_X10_isUnder : GoodIn wsX6_isSuite wsX10_isUnder := goodIn_r _ [4] (by decide +kernel) (by decide +kernel)
set_option maxRecDepth 20000 in
theorem gX6_isSuite_X10_isUnder_n25 : GoodIn wsX6_isSuite (wsX10_isUnder) := ggX6_isSuite_X10_isUnder
theorem dX6_isSuite_0 : decode cX6_isSuite 0 = .ok (.aload_n 0, 1) := by decide +kernel
theorem dX6_isSuite_1 : decode cX6_isSuite 1 = .ok (.getfield 9, 3) := by decide +kernel
theorem dX6_isSuite_4 : decode cX6_isSuite 4 = .ok (.iload_n 1, 1) := by decide +kernel
theorem dX6_isSuite_5 : decode cX6_isSuite 5 = .ok (.iaload, 1) := by decide +kernel
theorem dX6_isSuite_6 : decode cX6_isSuite 6 = .ok (.iconst 1, 1) := by decide +kernel
theorem dX6_isSuite_7 : decode cX6_isSuite 7 = .ok (.invokestatic 25, 3) := by decide +kernel
theorem dX6_isSuite_10 : decode cX6_isSuite 10 = .ok (.ireturn, 1) := by decide +kernel
theorem dX6_add_0 : decode cX6_add 0 = .ok (.aload_n 0, 1) := by decide +kernel
theorem dX6_add_1 : decode cX6_add 1 = .ok (.getfield 9, 3) := by decide +kernel
theorem dX6_add_4 : decode cX6_add 4 = .ok (.aload_n 0, 1) := by decide +kernel
theorem dX6_add_5 : decode cX6_add 5 = .ok (.getfield 21, 3) := by decide +kernel
theorem dX6_add_8 : decode cX6_add 8 = .ok (.iload_n 1, 1) := by decide +kernel
theorem dX6_add_9 : decode cX6_add 9 = .ok (.iastore, 1) := by decide +kernel
theorem dX6_add_10 : decode cX6_add 10 = .ok (.aload_n 0, 1) := by decide +kernel
theorem dX6_add_11 : decode cX6_add 11 = .ok (.getfield 15, 3) := by decide +kernel
theorem dX6_add_14 : decode cX6_add 14 = .ok (.aload_n 0, 1) := by decide +kernel
theorem dX6_add_15 : decode cX6_add 15 = .ok (.getfield 21, 3) := by decide +kernel
theorem dX6_add_18 : decode cX6_add 18 = .ok (.iload_n 2, 1) := by decide +kernel
theorem dX6_add_19 : decode cX6_add 19 = .ok (.iastore, 1) := by decide +kernel
theorem dX6_add_20 : decode cX6_add 20 = .ok (.aload_n 0, 1) := by decide +kernel
theorem dX6_add_21 : decode cX6_add 21 = .ok (.getfield 18, 3) := by decide +kernel
theorem dX6_add_24 : decode cX6_add 24 = .ok (.aload_n 0, 1) := by decide +kernel
theorem dX6_add_25 : decode cX6_add 25 = .ok (.getfield 21, 3) := by decide +kernel
theorem dX6_add_28 : decode cX6_add 28 = .ok (.iload_n 3, 1) := by decide +kernel
theorem dX6_add_29 : decode cX6_add 29 = .ok (.iastore, 1) := by decide +kernel
theorem dX6_add_30 : decode cX6_add 30 = .ok (.aload_n 0, 1) := by decide +kernel
theorem dX6_add_31 : decode cX6_add 31 = .ok (.dup, 1) := by decide +kernel
theorem dX6_add_32 : decode cX6_add 32 = .ok (.getfield 21, 3) := by decide +kernel
theorem dX6_add_35 : decode cX6_add 35 = .ok (.iconst 1, 1) := by decide +kernel
theorem dX6_add_36 : decode cX6_add 36 = .ok (.iadd, 1) := by decide +kernel
theorem dX6_add_37 : decode cX6_add 37 = .ok (.putfield 21, 3) := by decide +kernel
theorem dX6_add_40 : decode cX6_add 40 = .ok (.aload_n 0, 1) := by decide +kernel
theorem dX6_add_41 : decode cX6_add 41 = .ok (.getfield 21, 3) := by decide +kernel
theorem dX6_add_44 : decode cX6_add 44 = .ok (.iconst 1, 1) := by decide +kernel
theorem dX6_add_45 : decode cX6_add 45 = .ok (.isub, 1) := by decide +kernel
theorem dX6_add_46 : decode cX6_add 46 = .ok (.ireturn, 1) := by decide +kernel
theorem dX6_copyFrom_0 : decode cX6_copyFrom 0 = .ok (.aload_n 0, 1) := by decide +kernel
theorem dX6_copyFrom_1 : decode cX6_copyFrom 1 = .ok (.aload_n 1, 1) := by decide +kernel
theorem dX6_copyFrom_2 : decode cX6_copyFrom 2 = .ok (.getfield 21, 3) := by decide +kernel
theorem dX6_copyFrom_5 : decode cX6_copyFrom 5 = .ok (.putfield 21, 3) := by decide +kernel
theorem dX6_copyFrom_8 : decode cX6_copyFrom 8 = .ok (.aload_n 1, 1) := by decide +kernel
theorem dX6_copyFrom_9 : decode cX6_copyFrom 9 = .ok (.getfield 9, 3) := by decide +kernel
theorem dX6_copyFrom_12 : decode cX6_copyFrom 12 = .ok (.iconst 0, 1) := by decide +kernel
theorem dX6_copyFrom_13 : decode cX6_copyFrom 13 = .ok (.aload_n 0, 1) := by decide +kernel
theorem dX6_copyFrom_14 : decode cX6_copyFrom 14 = .ok (.getfield 9, 3) := by decide +kernel
theorem dX6_copyFrom_17 : decode cX6_copyFrom 17 = .ok (.iconst 0, 1) := by decide +kernel
theorem dX6_copyFrom_18 : decode cX6_copyFrom 18 = .ok (.bipush 10, 2) := by decide +kernel
theorem dX6_copyFrom_20 : decode cX6_copyFrom 20 = .ok (.invokestatic 29, 3) := by decide +kernel
theorem dX6_copyFrom_23 : decode cX6_copyFrom 23 = .ok (.aload_n 1, 1) := by decide +kernel
theorem dX6_copyFrom_24 : decode cX6_copyFrom 24 = .ok (.getfield 15, 3) := by decide +kernel
theorem dX6_copyFrom_27 : decode cX6_copyFrom 27 = .ok (.iconst 0, 1) := by decide +kernel
theorem dX6_copyFrom_28 : decode cX6_copyFrom 28 = .ok (.aload_n 0, 1) := by decide +kernel
theorem dX6_copyFrom_29 : decode cX6_copyFrom 29 = .ok (.getfield 15, 3) := by decide +kernel
theorem dX6_copyFrom_32 : decode cX6_copyFrom 32 = .ok (.iconst 0, 1) := by decide +kernel
theorem dX6_copyFrom_33 : decode cX6_copyFrom 33 = .ok (.bipush 10, 2) := by decide +kernel
theorem dX6_copyFrom_35 : decode cX6_copyFrom 35 = .ok (.invokestatic 29, 3) := by decide +kernel
theorem dX6_copyFrom_38 : decode cX6_copyFrom 38 = .ok (.aload_n 1, 1) := by decide +kernel
theorem dX6_copyFrom_39 : decode cX6_copyFrom 39 = .ok (.getfield 18, 3) := by decide +kernel
theorem dX6_copyFrom_42 : decode cX6_copyFrom 42 = .ok (.iconst 0, 1) := by decide +kernel
theorem dX6_copyFrom_43 : decode cX6_copyFrom 43 = .ok (.aload_n 0, 1) := by decide +kernel
theorem dX6_copyFrom_44 : decode cX6_copyFrom 44 = .ok (.getfield 18, 3) := by decide +kernel
theorem dX6_copyFrom_47 : decode cX6_copyFrom 47 = .ok (.iconst 0, 1) := by decide +kernel
theorem dX6_copyFrom_48 : decode cX6_copyFrom 48 = .ok (.bipush 10, 2) := by decide +kernel
theorem dX6_copyFrom_50 : decode cX6_copyFrom 50 = .ok (.invokestatic 29, 3) := by decide +kernel
theorem dX6_copyFrom_53 : decode cX6_copyFrom 53 = .ok (.return_, 1) := by decide +kernel
theorem dX7_init_0 : decode cX7_init 0 = .ok (.aload_n 0, 1) := by decide +kernel
theorem dX7_init_1 : decode cX7_init 1 = .ok (.invokespecial 3, 3) := by decide +kernel
theorem dX7_init_4 : decode cX7_init 4 = .ok (.aload_n 0, 1) := by decide +kernel
theorem dX7_init_5 : decode cX7_init 5 = .ok (.bipush 10, 2) := by decide +kernel
theorem dX7_init_7 : decode cX7_init 7 = .ok (.newarray .int, 2) := by decide +kernel
theorem dX7_init_9 : decode cX7_init 9 = .ok (.putfield 9, 3) := by decide +kernel
theorem dX7_init_12 : decode cX7_init 12 = .ok (.aload_n 0, 1) := by decide +kernel
theorem dX7_init_13 : decode cX7_init 13 = .ok (.bipush 10, 2) := by decide +kernel
theorem dX7_init_15 : decode cX7_init 15 = .ok (.newarray .int, 2) := by decide +kernel
theorem dX7_init_17 : decode cX7_init 17 = .ok (.putfield 15, 3) := by decide +kernel
theorem dX7_init_20 : decode cX7_init 20 = .ok (.aload_n 0, 1) := by decide +kernel
theorem dX7_init_21 : decode cX7_init 21 = .ok (.bipush 10, 2) := by decide +kernel
theorem dX7_init_23 : decode cX7_init 23 = .ok (.newarray .int, 2) := by decide +kernel
theorem dX7_init_25 : decode cX7_init 25 = .ok (.putfield 18, 3) := by decide +kernel
theorem dX7_init_28 : decode cX7_init 28 = .ok (.aload_n 0, 1) := by decide +kernel
theorem dX7_init_29 : decode cX7_init 29 = .ok (.bipush 10, 2) := by decide +kernel
theorem dX7_init_31 : decode cX7_init 31 = .ok (.newarray .int, 2) := by decide +kernel
theorem dX7_init_33 : decode cX7_init 33 = .ok (.putfield 21, 3) := by decide +kernel
theorem dX7_init_36 : decode cX7_init 36 = .ok (.aload_n 0, 1) := by decide +kernel
theorem dX7_init_37 : decode cX7_init 37 = .ok (.bipush 10, 2) := by decide +kernel
theorem dX7_init_39 : decode cX7_init 39 = .ok (.newarray .int, 2) := by decide +kernel
theorem dX7_init_41 : decode cX7_init 41 = .ok (.putfield 24, 3) := by decide +kernel
theorem dX7_init_44 : decode cX7_init 44 = .ok (.aload_n 0, 1) := by decide +kernel
theorem dX7_init_45 : decode cX7_init 45 = .ok (.bipush 10, 2) := by decide +kernel
theorem dX7_init_47 : decode cX7_init 47 = .ok (.newarray .int, 2) := by decide +kernel
theorem dX7_init_49 : decode cX7_init 49 = .ok (.putfield 27, 3) := by decide +kernel
theorem dX7_init_52 : decode cX7_init 52 = .ok (.return_, 1) := by decide +kernel
theorem dX7_isOne_0 : decode cX7_isOne 0 = .ok (.iload_n 1, 1) := by decide +kernel
theorem dX7_isOne_1 : decode cX7_isOne 1 = .ok (.ifCond .lt 15, 3) := by decide +kernel
theorem dX7_isOne_4 : decode cX7_isOne 4 = .ok (.iload_n 1, 1) := by decide +kernel
theorem dX7_isOne_5 : decode cX7_isOne 5 = .ok (.aload_n 0, 1) := by decide +kernel
theorem dX7_isOne_6 : decode cX7_isOne 6 = .ok (.getfield 30, 3) := by decide +kernel
theorem dX7_isOne_9 : decode cX7_isOne 9 = .ok (.if_icmp .ge 7, 3) := by decide +kernel
theorem dX7_isOne_12 : decode cX7_isOne 12 = .ok (.iconst 1, 1) := by decide +kernel
theorem dX7_isOne_13 : decode cX7_isOne 13 = .ok (.goto 4, 3) := by decide +kernel
theorem dX7_isOne_16 : decode cX7_isOne 16 = .ok (.iconst 0, 1) := by decide +kernel
theorem dX7_isOne_17 : decode cX7_isOne 17 = .ok (.ireturn, 1) := by decide +kernel
set_option maxRecDepth 20000 in
theorem ggX7_isServing_X10_isWithin : GoodIn wsX7_isServing wsX10_isWithin := goodIn_r _ [6] (by decide +kernel) (by decide +kernel)
set_option maxRecDepth 20000 in
theorem gX7_isServing_X10_isWithin_n34 : GoodIn wsX7_isServing (wsX10_isWithin) := ggX7_isServing_X10_isWithin
theorem dX7_isServing_0 : decode cX7_isServing 0 = .ok (.aload_n 0, 1) := by decide +kernel
theorem dX7_isServing_1 : decode cX7_isServing 1 = .ok (.getfield 15, 3) := by decide +kernel
theorem dX7_isServing_4 : decode cX7_isServing 4 = .ok (.iload_n 1, 1) := by decide +kernel
theorem dX7_isServing_5 : decode cX7_isServing 5 = .ok (.iaload, 1) := by decide +kernel
theorem dX7_isServing_6 : decode cX7_isServing 6 = .ok (.iload_n 2, 1) := by decide +kernel
theorem dX7_isServing_7 : decode cX7_isServing 7 = .ok (.if_icmp .lt 26, 3) := by decide +kernel
theorem dX7_isServing_10 : decode cX7_isServing 10 = .ok (.iload_n 3, 1) := by decide +kernel
theorem dX7_isServing_11 : decode cX7_isServing 11 = .ok (.aload_n 0, 1) := by decide +kernel
theorem dX7_isServing_12 : decode cX7_isServing 12 = .ok (.getfield 24, 3) := by decide +kernel
theorem dX7_isServing_15 : decode cX7_isServing 15 = .ok (.iload_n 1, 1) := by decide +kernel
theorem dX7_isServing_16 : decode cX7_isServing 16 = .ok (.iaload, 1) := by decide +kernel
theorem dX7_isServing_17 : decode cX7_isServing 17 = .ok (.aload_n 0, 1) := by decide +kernel
theorem dX7_isServing_18 : decode cX7_isServing 18 = .ok (.getfield 27, 3) := by decide +kernel
theorem dX7_isServing_21 : decode cX7_isServing 21 = .ok (.iload_n 1, 1) := by decide +kernel
theorem dX7_isServing_22 : decode cX7_isServing 22 = .ok (.iaload, 1) := by decide +kernel
theorem dX7_isServing_23 : decode cX7_isServing 23 = .ok (.invokestatic 34, 3) := by decide +kernel
theorem dX7_isServing_26 : decode cX7_isServing 26 = .ok (.ifCond .eq 7, 3) := by decide +kernel
theorem dX7_isServing_29 : decode cX7_isServing 29 = .ok (.iconst 1, 1) := by decide +kernel
theorem dX7_isServing_30 : decode cX7_isServing 30 = .ok (.goto 4, 3) := by decide +kernel
theorem dX7_isServing_33 : decode cX7_isServing 33 = .ok (.iconst 0, 1) := by decide +kernel
theorem dX7_isServing_34 : decode cX7_isServing 34 = .ok (.ireturn, 1) := by decide +kernel
theorem dX7_add_0 : decode cX7_add 0 = .ok (.aload_n 0, 1) := by decide +kernel
theorem dX7_add_1 : decode cX7_add 1 = .ok (.getfield 9, 3) := by decide +kernel
theorem dX7_add_4 : decode cX7_add 4 = .ok (.aload_n 0, 1) := by decide +kernel
theorem dX7_add_5 : decode cX7_add 5 = .ok (.getfield 30, 3) := by decide +kernel
theorem dX7_add_8 : decode cX7_add 8 = .ok (.iload_n 1, 1) := by decide +kernel
theorem dX7_add_9 : decode cX7_add 9 = .ok (.iastore, 1) := by decide +kernel
theorem dX7_add_10 : decode cX7_add 10 = .ok (.aload_n 0, 1) := by decide +kernel
theorem dX7_add_11 : decode cX7_add 11 = .ok (.getfield 15, 3) := by decide +kernel
theorem dX7_add_14 : decode cX7_add 14 = .ok (.aload_n 0, 1) := by decide +kernel
theorem dX7_add_15 : decode cX7_add 15 = .ok (.getfield 30, 3) := by decide +kernel
theorem dX7_add_18 : decode cX7_add 18 = .ok (.iload_n 2, 1) := by decide +kernel
theorem dX7_add_19 : decode cX7_add 19 = .ok (.iastore, 1) := by decide +kernel
theorem dX7_add_20 : decode cX7_add 20 = .ok (.aload_n 0, 1) := by decide +kernel
theorem dX7_add_21 : decode cX7_add 21 = .ok (.getfield 18, 3) := by decide +kernel
theorem dX7_add_24 : decode cX7_add 24 = .ok (.aload_n 0, 1) := by decide +kernel
theorem dX7_add_25 : decode cX7_add 25 = .ok (.getfield 30, 3) := by decide +kernel
theorem dX7_add_28 : decode cX7_add 28 = .ok (.iload_n 3, 1) := by decide +kernel
theorem dX7_add_29 : decode cX7_add 29 = .ok (.iastore, 1) := by decide +kernel
theorem dX7_add_30 : decode cX7_add 30 = .ok (.aload_n 0, 1) := by decide +kernel
theorem dX7_add_31 : decode cX7_add 31 = .ok (.getfield 21, 3) := by decide +kernel
theorem dX7_add_34 : decode cX7_add 34 = .ok (.aload_n 0, 1) := by decide +kernel
theorem dX7_add_35 : decode cX7_add 35 = .ok (.getfield 30, 3) := by decide +kernel
theorem dX7_add_38 : decode cX7_add 38 = .ok (.iload 4, 2) := by decide +kernel
theorem dX7_add_40 : decode cX7_add 40 = .ok (.iastore, 1) := by decide +kernel
theorem dX7_add_41 : decode cX7_add 41 = .ok (.aload_n 0, 1) := by decide +kernel
theorem dX7_add_42 : decode cX7_add 42 = .ok (.getfield 24, 3) := by decide +kernel
theorem dX7_add_45 : decode cX7_add 45 = .ok (.aload_n 0, 1) := by decide +kernel
theorem dX7_add_46 : decode cX7_add 46 = .ok (.getfield 30, 3) := by decide +kernel
theorem dX7_add_49 : decode cX7_add 49 = .ok (.iload 5, 2) := by decide +kernel
theorem dX7_add_51 : decode cX7_add 51 = .ok (.iastore, 1) := by decide +kernel
theorem dX7_add_52 : decode cX7_add 52 = .ok (.aload_n 0, 1) := by decide +kernel
theorem dX7_add_53 : decode cX7_add 53 = .ok (.getfield 27, 3) := by decide +kernel
theorem dX7_add_56 : decode cX7_add 56 = .ok (.aload_n 0, 1) := by decide +kernel
theorem dX7_add_57 : decode cX7_add 57 = .ok (.getfield 30, 3) := by decide +kernel
theorem dX7_add_60 : decode cX7_add 60 = .ok (.iload 6, 2) := by decide +kernel
theorem dX7_add_62 : decode cX7_add 62 = .ok (.iastore, 1) := by decide +kernel
theorem dX7_add_63 : decode cX7_add 63 = .ok (.aload_n 0, 1) := by decide +kernel
theorem dX7_add_64 : decode cX7_add 64 = .ok (.dup, 1) := by decide +kernel
theorem dX7_add_65 : decode cX7_add 65 = .ok (.getfield 30, 3) := by decide +kernel
theorem dX7_add_68 : decode cX7_add 68 = .ok (.iconst 1, 1) := by decide +kernel
theorem dX7_add_69 : decode cX7_add 69 = .ok (.iadd, 1) := by decide +kernel
theorem dX7_add_70 : decode cX7_add 70 = .ok (.putfield 30, 3) := by decide +kernel
theorem dX7_add_73 : decode cX7_add 73 = .ok (.aload_n 0, 1) := by decide +kernel
theorem dX7_add_74 : decode cX7_add 74 = .ok (.getfield 30, 3) := by decide +kernel
theorem dX7_add_77 : decode cX7_add 77 = .ok (.iconst 1, 1) := by decide +kernel
theorem dX7_add_78 : decode cX7_add 78 = .ok (.isub, 1) := by decide +kernel
theorem dX7_add_79 : decode cX7_add 79 = .ok (.ireturn, 1) := by decide +kernel
theorem dX7_copyFrom_0 : decode cX7_copyFrom 0 = .ok (.aload_n 0, 1) := by decide +kernel
theorem dX7_copyFrom_1 : decode cX7_copyFrom 1 = .ok (.aload_n 1, 1) := by decide +kernel
theorem dX7_copyFrom_2 : decode cX7_copyFrom 2 = .ok (.getfield 30, 3) := by decide +kernel
theorem dX7_copyFrom_5 : decode cX7_copyFrom 5 = .ok (.putfield 30, 3) := by decide +kernel
theorem dX7_copyFrom_8 : decode cX7_copyFrom 8 = .ok (.aload_n 1, 1) := by decide +kernel
theorem dX7_copyFrom_9 : decode cX7_copyFrom 9 = .ok (.getfield 9, 3) := by decide +kernel
theorem dX7_copyFrom_12 : decode cX7_copyFrom 12 = .ok (.iconst 0, 1) := by decide +kernel
theorem dX7_copyFrom_13 : decode cX7_copyFrom 13 = .ok (.aload_n 0, 1) := by decide +kernel
theorem dX7_copyFrom_14 : decode cX7_copyFrom 14 = .ok (.getfield 9, 3) := by decide +kernel
theorem dX7_copyFrom_17 : decode cX7_copyFrom 17 = .ok (.iconst 0, 1) := by decide +kernel
theorem dX7_copyFrom_18 : decode cX7_copyFrom 18 = .ok (.bipush 10, 2) := by decide +kernel
theorem dX7_copyFrom_20 : decode cX7_copyFrom 20 = .ok (.invokestatic 38, 3) := by decide +kernel
theorem dX7_copyFrom_23 : decode cX7_copyFrom 23 = .ok (.aload_n 1, 1) := by decide +kernel
theorem dX7_copyFrom_24 : decode cX7_copyFrom 24 = .ok (.getfield 15, 3) := by decide +kernel
theorem dX7_copyFrom_27 : decode cX7_copyFrom 27 = .ok (.iconst 0, 1) := by decide +kernel
theorem dX7_copyFrom_28 : decode cX7_copyFrom 28 = .ok (.aload_n 0, 1) := by decide +kernel
theorem dX7_copyFrom_29 : decode cX7_copyFrom 29 = .ok (.getfield 15, 3) := by decide +kernel
theorem dX7_copyFrom_32 : decode cX7_copyFrom 32 = .ok (.iconst 0, 1) := by decide +kernel
theorem dX7_copyFrom_33 : decode cX7_copyFrom 33 = .ok (.bipush 10, 2) := by decide +kernel
theorem dX7_copyFrom_35 : decode cX7_copyFrom 35 = .ok (.invokestatic 38, 3) := by decide +kernel
theorem dX7_copyFrom_38 : decode cX7_copyFrom 38 = .ok (.aload_n 1, 1) := by decide +kernel
theorem dX7_copyFrom_39 : decode cX7_copyFrom 39 = .ok (.getfield 18, 3) := by decide +kernel
theorem dX7_copyFrom_42 : decode cX7_copyFrom 42 = .ok (.iconst 0, 1) := by decide +kernel
theorem dX7_copyFrom_43 : decode cX7_copyFrom 43 = .ok (.aload_n 0, 1) := by decide +kernel
theorem dX7_copyFrom_44 : decode cX7_copyFrom 44 = .ok (.getfield 18, 3) := by decide +kernel
theorem dX7_copyFrom_47 : decode cX7_copyFrom 47 = .ok (.iconst 0, 1) := by decide +kernel
theorem dX7_copyFrom_48 : decode cX7_copyFrom 48 = .ok (.bipush 10, 2) := by decide +kernel
theorem dX7_copyFrom_50 : decode cX7_copyFrom 50 = .ok (.invokestatic 38, 3) := by decide +kernel
theorem dX7_copyFrom_53 : decode cX7_copyFrom 53 = .ok (.aload_n 1, 1) := by decide +kernel
theorem dX7_copyFrom_54 : decode cX7_copyFrom 54 = .ok (.getfield 21, 3) := by decide +kernel
theorem dX7_copyFrom_57 : decode cX7_copyFrom 57 = .ok (.iconst 0, 1) := by decide +kernel
theorem dX7_copyFrom_58 : decode cX7_copyFrom 58 = .ok (.aload_n 0, 1) := by decide +kernel
theorem dX7_copyFrom_59 : decode cX7_copyFrom 59 = .ok (.getfield 21, 3) := by decide +kernel
theorem dX7_copyFrom_62 : decode cX7_copyFrom 62 = .ok (.iconst 0, 1) := by decide +kernel
theorem dX7_copyFrom_63 : decode cX7_copyFrom 63 = .ok (.bipush 10, 2) := by decide +kernel
theorem dX7_copyFrom_65 : decode cX7_copyFrom 65 = .ok (.invokestatic 38, 3) := by decide +kernel
theorem dX7_copyFrom_68 : decode cX7_copyFrom 68 = .ok (.aload_n 1, 1) := by decide +kernel
theorem dX7_copyFrom_69 : decode cX7_copyFrom 69 = .ok (.getfield 24, 3) := by decide +kernel
theorem dX7_copyFrom_72 : decode cX7_copyFrom 72 = .ok (.iconst 0, 1) := by decide +kernel
theorem dX7_copyFrom_73 : decode cX7_copyFrom 73 = .ok (.aload_n 0, 1) := by decide +kernel
theorem dX7_copyFrom_74 : decode cX7_copyFrom 74 = .ok (.getfield 24, 3) := by decide +kernel
theorem dX7_copyFrom_77 : decode cX7_copyFrom 77 = .ok (.iconst 0, 1) := by decide +kernel
theorem dX7_copyFrom_78 : decode cX7_copyFrom 78 = .ok (.bipush 10, 2) := by decide +kernel
theorem dX7_copyFrom_80 : decode cX7_copyFrom 80 = .ok (.invokestatic 38, 3) := by decide +kernel
theorem dX7_copyFrom_83 : decode cX7_copyFrom 83 = .ok (.aload_n 1, 1) := by decide +kernel
theorem dX7_copyFrom_84 : decode cX7_copyFrom 84 = .ok (.getfield 27, 3) := by decide +kernel
theorem dX7_copyFrom_87 : decode cX7_copyFrom 87 = .ok (.iconst 0, 1) := by decide +kernel
theorem dX7_copyFrom_88 : decode cX7_copyFrom 88 = .ok (.aload_n 0, 1) := by decide +kernel
theorem dX7_copyFrom_89 : decode cX7_copyFrom 89 = .ok (.getfield 27, 3) := by decide +kernel
theorem dX7_copyFrom_92 : decode cX7_copyFrom 92 = .ok (.iconst 0, 1) := by decide +kernel
theorem dX7_copyFrom_93 : decode cX7_copyFrom 93 = .ok (.bipush 10, 2) := by decide +kernel
theorem dX7_copyFrom_95 : decode cX7_copyFrom 95 = .ok (.invokestatic 38, 3) := by decide +kernel
theorem dX7_copyFrom_98 : decode cX7_copyFrom 98 = .ok (.return_, 1) := by decide +kernel
theorem dX8_init_0 : decode cX8_init 0 = .ok (.aload_n 0, 1) := by decide +kernel
theorem dX8_init_1 : decode cX8_init 1 = .ok (.invokespecial 3, 3) := by decide +kernel
theorem dX8_init_4 : decode cX8_init 4 = .ok (.aload_n 0, 1) := by decide +kernel
theorem dX8_init_5 : decode cX8_init 5 = .ok (.bipush 16, 2) := by decide +kernel
theorem dX8_init_7 : decode cX8_init 7 = .ok (.newarray .long, 2) := by decide +kernel
theorem dX8_init_9 : decode cX8_init 9 = .ok (.putfield 9, 3) := by decide +kernel
theorem dX8_init_12 : decode cX8_init 12 = .ok (.aload_n 0, 1) := by decide +kernel
theorem dX8_init_13 : decode cX8_init 13 = .ok (.bipush 16, 2) := by decide +kernel
theorem dX8_init_15 : decode cX8_init 15 = .ok (.newarray .int, 2) := by decide +kernel
theorem dX8_init_17 : decode cX8_init 17 = .ok (.putfield 15, 3) := by decide +kernel
theorem dX8_init_20 : decode cX8_init 20 = .ok (.aload_n 0, 1) := by decide +kernel
theorem dX8_init_21 : decode cX8_init 21 = .ok (.bipush 16, 2) := by decide +kernel
theorem dX8_init_23 : decode cX8_init 23 = .ok (.newarray .int, 2) := by decide +kernel
theorem dX8_init_25 : decode cX8_init 25 = .ok (.putfield 19, 3) := by decide +kernel
theorem dX8_init_28 : decode cX8_init 28 = .ok (.return_, 1) := by decide +kernel
theorem dX8_isOne_0 : decode cX8_isOne 0 = .ok (.iload_n 1, 1) := by decide +kernel
theorem dX8_isOne_1 : decode cX8_isOne 1 = .ok (.ifCond .lt 15, 3) := by decide +kernel
theorem dX8_isOne_4 : decode cX8_isOne 4 = .ok (.iload_n 1, 1) := by decide +kernel
theorem dX8_isOne_5 : decode cX8_isOne 5 = .ok (.aload_n 0, 1) := by decide +kernel
theorem dX8_isOne_6 : decode cX8_isOne 6 = .ok (.getfield 22, 3) := by decide +kernel
theorem dX8_isOne_9 : decode cX8_isOne 9 = .ok (.if_icmp .ge 7, 3) := by decide +kernel
theorem dX8_isOne_12 : decode cX8_isOne 12 = .ok (.iconst 1, 1) := by decide +kernel
theorem dX8_isOne_13 : decode cX8_isOne 13 = .ok (.goto 4, 3) := by decide +kernel
theorem dX8_isOne_16 : decode cX8_isOne 16 = .ok (.iconst 0, 1) := by decide +kernel
theorem dX8_isOne_17 : decode cX8_isOne 17 = .ok (.ireturn, 1) := by decide +kernel
theorem dX8_add_0 : decode cX8_add 0 = .ok (.aload_n 0, 1) := by decide +kernel
theorem dX8_add_1 : decode cX8_add 1 = .ok (.getfield 9, 3) := by decide +kernel
theorem dX8_add_4 : decode cX8_add 4 = .ok (.aload_n 0, 1) := by decide +kernel
theorem dX8_add_5 : decode cX8_add 5 = .ok (.getfield 22, 3) := by decide +kernel
theorem dX8_add_8 : decode cX8_add 8 = .ok (.lload_n 1, 1) := by decide +kernel
theorem dX8_add_9 : decode cX8_add 9 = .ok (.lastore, 1) := by decide +kernel
theorem dX8_add_10 : decode cX8_add 10 = .ok (.aload_n 0, 1) := by decide +kernel
theorem dX8_add_11 : decode cX8_add 11 = .ok (.getfield 15, 3) := by decide +kernel
theorem dX8_add_14 : decode cX8_add 14 = .ok (.aload_n 0, 1) := by decide +kernel
theorem dX8_add_15 : decode cX8_add 15 = .ok (.getfield 22, 3) := by decide +kernel
theorem dX8_add_18 : decode cX8_add 18 = .ok (.iload_n 3, 1) := by decide +kernel
theorem dX8_add_19 : decode cX8_add 19 = .ok (.iastore, 1) := by decide +kernel
theorem dX8_add_20 : decode cX8_add 20 = .ok (.aload_n 0, 1) := by decide +kernel
theorem dX8_add_21 : decode cX8_add 21 = .ok (.getfield 19, 3) := by decide +kernel
theorem dX8_add_24 : decode cX8_add 24 = .ok (.aload_n 0, 1) := by decide +kernel
theorem dX8_add_25 : decode cX8_add 25 = .ok (.getfield 22, 3) := by decide +kernel
theorem dX8_add_28 : decode cX8_add 28 = .ok (.iload 4, 2) := by decide +kernel
theorem dX8_add_30 : decode cX8_add 30 = .ok (.iastore, 1) := by decide +kernel
theorem dX8_add_31 : decode cX8_add 31 = .ok (.aload_n 0, 1) := by decide +kernel
theorem dX8_add_32 : decode cX8_add 32 = .ok (.dup, 1) := by decide +kernel
theorem dX8_add_33 : decode cX8_add 33 = .ok (.getfield 22, 3) := by decide +kernel
theorem dX8_add_36 : decode cX8_add 36 = .ok (.iconst 1, 1) := by decide +kernel
theorem dX8_add_37 : decode cX8_add 37 = .ok (.iadd, 1) := by decide +kernel
theorem dX8_add_38 : decode cX8_add 38 = .ok (.putfield 22, 3) := by decide +kernel
theorem dX8_add_41 : decode cX8_add 41 = .ok (.aload_n 0, 1) := by decide +kernel
theorem dX8_add_42 : decode cX8_add 42 = .ok (.getfield 22, 3) := by decide +kernel
theorem dX8_add_45 : decode cX8_add 45 = .ok (.iconst 1, 1) := by decide +kernel
theorem dX8_add_46 : decode cX8_add 46 = .ok (.isub, 1) := by decide +kernel
theorem dX8_add_47 : decode cX8_add 47 = .ok (.ireturn, 1) := by decide +kernel
theorem dX8_remove_0 : decode cX8_remove 0 = .ok (.iload_n 1, 1) := by decide +kernel
theorem dX8_remove_1 : decode cX8_remove 1 = .ok (.istore_n 2, 1) := by decide +kernel
theorem dX8_remove_2 : decode cX8_remove 2 = .ok (.iload_n 2, 1) := by decide +kernel
theorem dX8_remove_3 : decode cX8_remove 3 = .ok (.iconst 1, 1) := by decide +kernel
theorem dX8_remove_4 : decode cX8_remove 4 = .ok (.iadd, 1) := by decide +kernel
theorem dX8_remove_5 : decode cX8_remove 5 = .ok (.aload_n 0, 1) := by decide +kernel
theorem dX8_remove_6 : decode cX8_remove 6 = .ok (.getfield 22, 3) := by decide +kernel
theorem dX8_remove_9 : decode cX8_remove 9 = .ok (.if_icmp .ge 51, 3) := by decide +kernel
theorem dX8_remove_12 : decode cX8_remove 12 = .ok (.aload_n 0, 1) := by decide +kernel
theorem dX8_remove_13 : decode cX8_remove 13 = .ok (.getfield 9, 3) := by decide +kernel
theorem dX8_remove_16 : decode cX8_remove 16 = .ok (.iload_n 2, 1) := by decide +kernel
theorem dX8_remove_17 : decode cX8_remove 17 = .ok (.aload_n 0, 1) := by decide +kernel
theorem dX8_remove_18 : decode cX8_remove 18 = .ok (.getfield 9, 3) := by decide +kernel
theorem dX8_remove_21 : decode cX8_remove 21 = .ok (.iload_n 2, 1) := by decide +kernel
theorem dX8_remove_22 : decode cX8_remove 22 = .ok (.iconst 1, 1) := by decide +kernel
theorem dX8_remove_23 : decode cX8_remove 23 = .ok (.iadd, 1) := by decide +kernel
theorem dX8_remove_24 : decode cX8_remove 24 = .ok (.laload, 1) := by decide +kernel
