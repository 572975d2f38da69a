theorem dX11_of_18 : decode cX11_of 18 = .ok (.aload_n 0, 1) := by decide +kernel
theorem dX11_of_19 : decode cX11_of 19 = .ok (.iload_n 1, 1) := by decide +kernel
theorem dX11_of_20 : decode cX11_of 20 = .ok (.aload_n 0, 1) := by decide +kernel
theorem dX11_of_21 : decode cX11_of 21 = .ok (.getfield 13, 3) := by decide +kernel
theorem dX11_of_24 : decode cX11_of 24 = .ok (.bipush 6, 2) := by decide +kernel
theorem dX11_of_26 : decode cX11_of 26 = .ok (.iaload, 1) := by decide +kernel
theorem dX11_of_27 : decode cX11_of 27 = .ok (.iconst (-1), 1) := by decide +kernel
theorem dX11_of_28 : decode cX11_of 28 = .ok (.iconst (-1), 1) := by decide +kernel
theorem dX11_of_29 : decode cX11_of 29 = .ok (.invokevirtual 130, 3) := by decide +kernel
theorem dX11_of_32 : decode cX11_of 32 = .ok (.iload_n 2, 1) := by decide +kernel
theorem dX11_of_33 : decode cX11_of 33 = .ok (.ifCond .eq 10, 3) := by decide +kernel
theorem dX11_of_36 : decode cX11_of 36 = .ok (.aload_n 0, 1) := by decide +kernel
theorem dX11_of_37 : decode cX11_of 37 = .ok (.getfield 121, 3) := by decide +kernel
theorem dX11_of_40 : decode cX11_of 40 = .ok (.goto 7, 3) := by decide +kernel
theorem dX11_of_43 : decode cX11_of 43 = .ok (.aload_n 0, 1) := by decide +kernel
theorem dX11_of_44 : decode cX11_of 44 = .ok (.getfield 127, 3) := by decide +kernel
theorem dX11_of_47 : decode cX11_of 47 = .ok (.ireturn, 1) := by decide +kernel
set_option maxRecDepth 20000 in
theorem ggX11_without_X11_isRight : GoodIn wsX11_without wsX11_isRight := goodIn_r _ [6, 1, 80, 81, 82, 83, 84, 85, 86, 87, 88, 89] (by decide +kernel) (by decide +kernel)
set_option maxRecDepth 20000 in
theorem gX11_without_X11_isRight : GoodIn wsX11_without (wsV RX11 108 RX11 yX11_isRight wsX11_isRight) := goodIn_app (goodIn_of _ (by decide +kernel)) ggX11_without_X11_isRight
set_option maxRecDepth 20000 in
theorem ggX11_without_X11_finding : GoodIn wsX11_without wsX11_finding := goodIn_r _ [10, 11, 80, 81, 82, 83, 84, 85, 86, 87, 88, 89] (by decide +kernel) (by decide +kernel)
set_option maxRecDepth 20000 in
theorem gX11_without_X11_finding : GoodIn wsX11_without (wsV RX11 33 RX11 yX11_finding wsX11_finding) := goodIn_app (goodIn_of _ (by decide +kernel)) ggX11_without_X11_finding
set_option maxRecDepth 20000 in
theorem ggX11_without_X11_tellHad : GoodIn wsX11_without wsX11_tellHad := goodIn_r _ [15, 16, 1, 17, 18, 19, 5, 20, 21, 22, 23, 24, 25, 26, 27, 28, 29, 30, 31, 32, 33, 34, 35, 36, 37, 38, 39, 40, 41, 42, 43, 44, 45, 46, 47, 48, 49, 50, 51, 52, 80, 81, 82, 83, 84, 85, 86, 87, 88, 89] (by decide +kernel) (by decide +kernel)
set_option maxRecDepth 20000 in
theorem gX11_without_X11_tellHad : GoodIn wsX11_without (wsV RX11 93 RX11 yX11_tellHad wsX11_tellHad) := goodIn_app (goodIn_of _ (by decide +kernel)) ggX11_without_X11_tellHad
set_option maxRecDepth 20000 in
theorem ggX11_without_X11_lackOn : GoodIn wsX11_without wsX11_lackOn := goodIn_r _ [56, 1, 57, 58, 59, 60, 5, 61, 62, 63, 64, 65, 66, 67, 68, 69, 70, 71, 72, 73, 74, 75, 76, 77, 78, 79, 16, 41, 42, 43, 44, 80, 81, 82, 83, 84, 85, 86, 87, 88, 89] (by decide +kernel) (by decide +kernel)
set_option maxRecDepth 20000 in
theorem gX11_without_X11_lackOn : GoodIn wsX11_without (wsV RX11 133 RX11 yX11_lackOn wsX11_lackOn) := goodIn_app (goodIn_of _ (by decide +kernel)) ggX11_without_X11_lackOn
theorem dX11_without_0 : decode cX11_without 0 = .ok (.aload_n 0, 1) := by decide +kernel
theorem dX11_without_1 : decode cX11_without 1 = .ok (.iload_n 1, 1) := by decide +kernel
theorem dX11_without_2 : decode cX11_without 2 = .ok (.invokevirtual 108, 3) := by decide +kernel
theorem dX11_without_5 : decode cX11_without 5 = .ok (.ifCond .ne 9, 3) := by decide +kernel
theorem dX11_without_8 : decode cX11_without 8 = .ok (.aload_n 0, 1) := by decide +kernel
theorem dX11_without_9 : decode cX11_without 9 = .ok (.iconst (-1), 1) := by decide +kernel
theorem dX11_without_10 : decode cX11_without 10 = .ok (.invokevirtual 33, 3) := by decide +kernel
theorem dX11_without_13 : decode cX11_without 13 = .ok (.ireturn, 1) := by decide +kernel
theorem dX11_without_14 : decode cX11_without 14 = .ok (.aload_n 0, 1) := by decide +kernel
theorem dX11_without_15 : decode cX11_without 15 = .ok (.invokevirtual 93, 3) := by decide +kernel
theorem dX11_without_18 : decode cX11_without 18 = .ok (.aload_n 0, 1) := by decide +kernel
theorem dX11_without_19 : decode cX11_without 19 = .ok (.aload_n 0, 1) := by decide +kernel
theorem dX11_without_20 : decode cX11_without 20 = .ok (.getfield 13, 3) := by decide +kernel
theorem dX11_without_23 : decode cX11_without 23 = .ok (.bipush 6, 2) := by decide +kernel
theorem dX11_without_25 : decode cX11_without 25 = .ok (.iaload, 1) := by decide +kernel
theorem dX11_without_26 : decode cX11_without 26 = .ok (.iload_n 1, 1) := by decide +kernel
theorem dX11_without_27 : decode cX11_without 27 = .ok (.iconst (-1), 1) := by decide +kernel
theorem dX11_without_28 : decode cX11_without 28 = .ok (.invokevirtual 133, 3) := by decide +kernel
theorem dX11_without_31 : decode cX11_without 31 = .ok (.ireturn, 1) := by decide +kernel
set_option maxRecDepth 20000 in
theorem ggX11_spared_X11_isHost : GoodIn wsX11_spared wsX11_isHost := goodIn_r _ [6, 1, 80, 81, 82, 83, 84, 85, 86, 87, 88, 89] (by decide +kernel) (by decide +kernel)
set_option maxRecDepth 20000 in
theorem gX11_spared_X11_isHost : GoodIn wsX11_spared (wsV RX11 71 RX11 yX11_isHost wsX11_isHost) := goodIn_app (goodIn_of _ (by decide +kernel)) ggX11_spared_X11_isHost
set_option maxRecDepth 20000 in
theorem ggX11_spared_X11_finding : GoodIn wsX11_spared wsX11_finding := goodIn_r _ [10, 11, 80, 81, 82, 83, 84, 85, 86, 87, 88, 89] (by decide +kernel) (by decide +kernel)
set_option maxRecDepth 20000 in
theorem gX11_spared_X11_finding : GoodIn wsX11_spared (wsV RX11 33 RX11 yX11_finding wsX11_finding) := goodIn_app (goodIn_of _ (by decide +kernel)) ggX11_spared_X11_finding
set_option maxRecDepth 20000 in
theorem ggX11_spared_X11_tellHad : GoodIn wsX11_spared wsX11_tellHad := goodIn_r _ [15, 16, 1, 17, 18, 19, 5, 20, 21, 22, 23, 24, 25, 26, 27, 28, 29, 30, 31, 32, 33, 34, 35, 36, 37, 38, 39, 40, 41, 42, 43, 44, 45, 46, 47, 48, 49, 50, 51, 52, 80, 81, 82, 83, 84, 85, 86, 87, 88, 89] (by decide +kernel) (by decide +kernel)
set_option maxRecDepth 20000 in
theorem gX11_spared_X11_tellHad : GoodIn wsX11_spared (wsV RX11 93 RX11 yX11_tellHad wsX11_tellHad) := goodIn_app (goodIn_of _ (by decide +kernel)) ggX11_spared_X11_tellHad
set_option maxRecDepth 20000 in
theorem ggX11_spared_X11_lackOn : GoodIn wsX11_spared wsX11_lackOn := goodIn_r _ [56, 1, 57, 58, 59, 60, 5, 61, 62, 63, 64, 65, 66, 67, 68, 69, 70, 71, 72, 73, 74, 75, 76, 77, 78, 79, 16, 41, 42, 43, 44, 80, 81, 82, 83, 84, 85, 86, 87, 88, 89] (by decide +kernel) (by decide +kernel)
set_option maxRecDepth 20000 in
theorem gX11_spared_X11_lackOn : GoodIn wsX11_spared (wsV RX11 133 RX11 yX11_lackOn wsX11_lackOn) := goodIn_app (goodIn_of _ (by decide +kernel)) ggX11_spared_X11_lackOn
theorem dX11_spared_0 : decode cX11_spared 0 = .ok (.aload_n 0, 1) := by decide +kernel
theorem dX11_spared_1 : decode cX11_spared 1 = .ok (.iload_n 1, 1) := by decide +kernel
theorem dX11_spared_2 : decode cX11_spared 2 = .ok (.invokevirtual 71, 3) := by decide +kernel
theorem dX11_spared_5 : decode cX11_spared 5 = .ok (.ifCond .ne 9, 3) := by decide +kernel
theorem dX11_spared_8 : decode cX11_spared 8 = .ok (.aload_n 0, 1) := by decide +kernel
theorem dX11_spared_9 : decode cX11_spared 9 = .ok (.iconst (-1), 1) := by decide +kernel
theorem dX11_spared_10 : decode cX11_spared 10 = .ok (.invokevirtual 33, 3) := by decide +kernel
theorem dX11_spared_13 : decode cX11_spared 13 = .ok (.ireturn, 1) := by decide +kernel
theorem dX11_spared_14 : decode cX11_spared 14 = .ok (.aload_n 0, 1) := by decide +kernel
theorem dX11_spared_15 : decode cX11_spared 15 = .ok (.invokevirtual 93, 3) := by decide +kernel
theorem dX11_spared_18 : decode cX11_spared 18 = .ok (.aload_n 0, 1) := by decide +kernel
theorem dX11_spared_19 : decode cX11_spared 19 = .ok (.aload_n 0, 1) := by decide +kernel
theorem dX11_spared_20 : decode cX11_spared 20 = .ok (.getfield 13, 3) := by decide +kernel
theorem dX11_spared_23 : decode cX11_spared 23 = .ok (.bipush 6, 2) := by decide +kernel
theorem dX11_spared_25 : decode cX11_spared 25 = .ok (.iaload, 1) := by decide +kernel
theorem dX11_spared_26 : decode cX11_spared 26 = .ok (.iconst (-1), 1) := by decide +kernel
theorem dX11_spared_27 : decode cX11_spared 27 = .ok (.iload_n 1, 1) := by decide +kernel
theorem dX11_spared_28 : decode cX11_spared 28 = .ok (.invokevirtual 133, 3) := by decide +kernel
theorem dX11_spared_31 : decode cX11_spared 31 = .ok (.ireturn, 1) := by decide +kernel
set_option maxRecDepth 20000 in
theorem ggX11_nextDay_X11_rightAt : GoodIn wsX11_nextDay wsX11_rightAt := goodIn_r _ [6, 1, 7, 8, 9, 10, 11, 12, 13, 14, 15, 16] (by decide +kernel) (by decide +kernel)
set_option maxRecDepth 20000 in
theorem gX11_nextDay_X11_rightAt : GoodIn wsX11_nextDay (wsV RX11 111 RX11 yX11_rightAt wsX11_rightAt) := goodIn_app (goodIn_of _ (by decide +kernel)) ggX11_nextDay_X11_rightAt
theorem dX11_nextDay_0 : decode cX11_nextDay 0 = .ok (.sipush 10000, 3) := by decide +kernel
theorem dX11_nextDay_3 : decode cX11_nextDay 3 = .ok (.istore_n 2, 1) := by decide +kernel
theorem dX11_nextDay_4 : decode cX11_nextDay 4 = .ok (.iconst 0, 1) := by decide +kernel
theorem dX11_nextDay_5 : decode cX11_nextDay 5 = .ok (.istore_n 3, 1) := by decide +kernel
theorem dX11_nextDay_6 : decode cX11_nextDay 6 = .ok (.iload_n 3, 1) := by decide +kernel
theorem dX11_nextDay_7 : decode cX11_nextDay 7 = .ok (.aload_n 0, 1) := by decide +kernel
theorem dX11_nextDay_8 : decode cX11_nextDay 8 = .ok (.getfield 13, 3) := by decide +kernel
theorem dX11_nextDay_11 : decode cX11_nextDay 11 = .ok (.iconst 5, 1) := by decide +kernel
theorem dX11_nextDay_12 : decode cX11_nextDay 12 = .ok (.iaload, 1) := by decide +kernel
theorem dX11_nextDay_13 : decode cX11_nextDay 13 = .ok (.if_icmp .ge 65, 3) := by decide +kernel
theorem dX11_nextDay_16 : decode cX11_nextDay 16 = .ok (.aload_n 0, 1) := by decide +kernel
theorem dX11_nextDay_17 : decode cX11_nextDay 17 = .ok (.iload_n 3, 1) := by decide +kernel
theorem dX11_nextDay_18 : decode cX11_nextDay 18 = .ok (.iconst 4, 1) := by decide +kernel
theorem dX11_nextDay_19 : decode cX11_nextDay 19 = .ok (.invokevirtual 111, 3) := by decide +kernel
theorem dX11_nextDay_22 : decode cX11_nextDay 22 = .ok (.istore 4, 2) := by decide +kernel
theorem dX11_nextDay_24 : decode cX11_nextDay 24 = .ok (.aload_n 0, 1) := by decide +kernel
theorem dX11_nextDay_25 : decode cX11_nextDay 25 = .ok (.iload_n 3, 1) := by decide +kernel
theorem dX11_nextDay_26 : decode cX11_nextDay 26 = .ok (.iconst 5, 1) := by decide +kernel
theorem dX11_nextDay_27 : decode cX11_nextDay 27 = .ok (.invokevirtual 111, 3) := by decide +kernel
theorem dX11_nextDay_30 : decode cX11_nextDay 30 = .ok (.iconst 1, 1) := by decide +kernel
theorem dX11_nextDay_31 : decode cX11_nextDay 31 = .ok (.iadd, 1) := by decide +kernel
theorem dX11_nextDay_32 : decode cX11_nextDay 32 = .ok (.istore 5, 2) := by decide +kernel
theorem dX11_nextDay_34 : decode cX11_nextDay 34 = .ok (.iload 4, 2) := by decide +kernel
theorem dX11_nextDay_36 : decode cX11_nextDay 36 = .ok (.iload_n 1, 1) := by decide +kernel
theorem dX11_nextDay_37 : decode cX11_nextDay 37 = .ok (.if_icmp .le 14, 3) := by decide +kernel
theorem dX11_nextDay_40 : decode cX11_nextDay 40 = .ok (.iload 4, 2) := by decide +kernel
theorem dX11_nextDay_42 : decode cX11_nextDay 42 = .ok (.iload_n 2, 1) := by decide +kernel
theorem dX11_nextDay_43 : decode cX11_nextDay 43 = .ok (.if_icmp .ge 8, 3) := by decide +kernel
theorem dX11_nextDay_46 : decode cX11_nextDay 46 = .ok (.iload 4, 2) := by decide +kernel
theorem dX11_nextDay_48 : decode cX11_nextDay 48 = .ok (.goto 4, 3) := by decide +kernel
theorem dX11_nextDay_51 : decode cX11_nextDay 51 = .ok (.iload_n 2, 1) := by decide +kernel
theorem dX11_nextDay_52 : decode cX11_nextDay 52 = .ok (.istore_n 2, 1) := by decide +kernel
theorem dX11_nextDay_53 : decode cX11_nextDay 53 = .ok (.iload 5, 2) := by decide +kernel
theorem dX11_nextDay_55 : decode cX11_nextDay 55 = .ok (.iload_n 1, 1) := by decide +kernel
theorem dX11_nextDay_56 : decode cX11_nextDay 56 = .ok (.if_icmp .le 14, 3) := by decide +kernel
theorem dX11_nextDay_59 : decode cX11_nextDay 59 = .ok (.iload 5, 2) := by decide +kernel
theorem dX11_nextDay_61 : decode cX11_nextDay 61 = .ok (.iload_n 2, 1) := by decide +kernel
theorem dX11_nextDay_62 : decode cX11_nextDay 62 = .ok (.if_icmp .ge 8, 3) := by decide +kernel
theorem dX11_nextDay_65 : decode cX11_nextDay 65 = .ok (.iload 5, 2) := by decide +kernel
theorem dX11_nextDay_67 : decode cX11_nextDay 67 = .ok (.goto 4, 3) := by decide +kernel
theorem dX11_nextDay_70 : decode cX11_nextDay 70 = .ok (.iload_n 2, 1) := by decide +kernel
theorem dX11_nextDay_71 : decode cX11_nextDay 71 = .ok (.istore_n 2, 1) := by decide +kernel
theorem dX11_nextDay_72 : decode cX11_nextDay 72 = .ok (.iinc 3 1, 3) := by decide +kernel
theorem dX11_nextDay_75 : decode cX11_nextDay 75 = .ok (.goto (-69), 3) := by decide +kernel
theorem dX11_nextDay_78 : decode cX11_nextDay 78 = .ok (.iload_n 2, 1) := by decide +kernel
theorem dX11_nextDay_79 : decode cX11_nextDay 79 = .ok (.ireturn, 1) := by decide +kernel
set_option maxRecDepth 20000 in
theorem ggX11_when_X11_isIn : GoodIn wsX11_when wsX11_isIn := goodIn_r _ [5] (by decide +kernel) (by decide +kernel)
set_option maxRecDepth 20000 in
theorem gX11_when_X11_isIn : GoodIn wsX11_when (va_wsS RX11 29 yX11_isIn wsX11_isIn) := goodIn_app (goodIn_of _ (by decide +kernel)) ggX11_when_X11_isIn
set_option maxRecDepth 20000 in
theorem ggX11_when_X11_finding : GoodIn wsX11_when wsX11_finding := goodIn_r _ [9, 10, 83, 84, 85, 86, 87, 88, 89, 90, 91, 92] (by decide +kernel) (by decide +kernel)
set_option maxRecDepth 20000 in
theorem gX11_when_X11_finding : GoodIn wsX11_when (wsV RX11 33 RX11 yX11_finding wsX11_finding) := goodIn_app (goodIn_of _ (by decide +kernel)) ggX11_when_X11_finding
set_option maxRecDepth 20000 in
theorem ggX11_when_X11_tellHad : GoodIn wsX11_when wsX11_tellHad := goodIn_r _ [14, 15, 1, 16, 17, 18, 4, 19, 20, 21, 22, 23, 24, 25, 26, 27, 28, 29, 30, 31, 32, 33, 34, 35, 36, 37, 38, 39, 40, 41, 42, 43, 44, 45, 46, 47, 48, 49, 50, 51, 83, 84, 85, 86, 87, 88, 89, 90, 91, 92] (by decide +kernel) (by decide +kernel)
set_option maxRecDepth 20000 in
theorem gX11_when_X11_tellHad : GoodIn wsX11_when (wsV RX11 93 RX11 yX11_tellHad wsX11_tellHad) := goodIn_app (goodIn_of _ (by decide +kernel)) ggX11_when_X11_tellHad
set_option maxRecDepth 20000 in
theorem ggX11_when_X11_lackOn : GoodIn wsX11_when wsX11_lackOn := goodIn_r _ [55, 1, 56, 57, 58, 59, 4, 60, 61, 62, 63, 64, 65, 66, 67, 68, 69, 70, 71, 72, 73, 74, 75, 76, 77, 78, 15, 40, 41, 42, 43, 83, 84, 85, 86, 87, 88, 89, 90, 91, 92] (by decide +kernel) (by decide +kernel)
set_option maxRecDepth 20000 in
theorem gX11_when_X11_lackOn : GoodIn wsX11_when (wsV RX11 133 RX11 yX11_lackOn wsX11_lackOn) := goodIn_app (goodIn_of _ (by decide +kernel)) ggX11_when_X11_lackOn
set_option maxRecDepth 20000 in
theorem ggX11_when_X11_nextDay : GoodIn wsX11_when wsX11_nextDay := goodIn_r _ [82, 1, 63, 64, 65, 4, 66, 83, 84, 85, 86, 87, 88, 89, 90, 91, 92] (by decide +kernel) (by decide +kernel)
set_option maxRecDepth 20000 in
theorem gX11_when_X11_nextDay : GoodIn wsX11_when (wsV RX11 136 RX11 yX11_nextDay wsX11_nextDay) := goodIn_app (goodIn_of _ (by decide +kernel)) ggX11_when_X11_nextDay
theorem dX11_when_0 : decode cX11_when 0 = .ok (.iload_n 1, 1) := by decide +kernel
theorem dX11_when_1 : decode cX11_when 1 = .ok (.iconst 0, 1) := by decide +kernel
theorem dX11_when_2 : decode cX11_when 2 = .ok (.bipush 80, 2) := by decide +kernel
theorem dX11_when_4 : decode cX11_when 4 = .ok (.invokestatic 29, 3) := by decide +kernel
theorem dX11_when_7 : decode cX11_when 7 = .ok (.ifCond .ne 9, 3) := by decide +kernel
theorem dX11_when_10 : decode cX11_when 10 = .ok (.aload_n 0, 1) := by decide +kernel
theorem dX11_when_11 : decode cX11_when 11 = .ok (.iconst (-1), 1) := by decide +kernel
theorem dX11_when_12 : decode cX11_when 12 = .ok (.invokevirtual 33, 3) := by decide +kernel
theorem dX11_when_15 : decode cX11_when 15 = .ok (.ireturn, 1) := by decide +kernel
theorem dX11_when_16 : decode cX11_when 16 = .ok (.aload_n 0, 1) := by decide +kernel
theorem dX11_when_17 : decode cX11_when 17 = .ok (.invokevirtual 93, 3) := by decide +kernel
theorem dX11_when_20 : decode cX11_when 20 = .ok (.aload_n 0, 1) := by decide +kernel
theorem dX11_when_21 : decode cX11_when 21 = .ok (.getfield 13, 3) := by decide +kernel
theorem dX11_when_24 : decode cX11_when 24 = .ok (.bipush 6, 2) := by decide +kernel
theorem dX11_when_26 : decode cX11_when 26 = .ok (.iaload, 1) := by decide +kernel
theorem dX11_when_27 : decode cX11_when 27 = .ok (.istore_n 2, 1) := by decide +kernel
theorem dX11_when_28 : decode cX11_when 28 = .ok (.iload_n 2, 1) := by decide +kernel
theorem dX11_when_29 : decode cX11_when 29 = .ok (.sipush 9999, 3) := by decide +kernel
theorem dX11_when_32 : decode cX11_when 32 = .ok (.if_icmp .gt 25, 3) := by decide +kernel
theorem dX11_when_35 : decode cX11_when 35 = .ok (.aload_n 0, 1) := by decide +kernel
theorem dX11_when_36 : decode cX11_when 36 = .ok (.iload_n 2, 1) := by decide +kernel
theorem dX11_when_37 : decode cX11_when 37 = .ok (.iconst (-1), 1) := by decide +kernel
theorem dX11_when_38 : decode cX11_when 38 = .ok (.iconst (-1), 1) := by decide +kernel
theorem dX11_when_39 : decode cX11_when 39 = .ok (.invokevirtual 133, 3) := by decide +kernel
theorem dX11_when_42 : decode cX11_when 42 = .ok (.iload_n 1, 1) := by decide +kernel
theorem dX11_when_43 : decode cX11_when 43 = .ok (.if_icmp .le 5, 3) := by decide +kernel
theorem dX11_when_46 : decode cX11_when 46 = .ok (.iload_n 2, 1) := by decide +kernel
theorem dX11_when_47 : decode cX11_when 47 = .ok (.ireturn, 1) := by decide +kernel
theorem dX11_when_48 : decode cX11_when 48 = .ok (.aload_n 0, 1) := by decide +kernel
theorem dX11_when_49 : decode cX11_when 49 = .ok (.iload_n 2, 1) := by decide +kernel
theorem dX11_when_50 : decode cX11_when 50 = .ok (.invokevirtual 136, 3) := by decide +kernel
theorem dX11_when_53 : decode cX11_when 53 = .ok (.istore_n 2, 1) := by decide +kernel
theorem dX11_when_54 : decode cX11_when 54 = .ok (.goto (-26), 3) := by decide +kernel
theorem dX11_when_57 : decode cX11_when 57 = .ok (.aload_n 0, 1) := by decide +kernel
theorem dX11_when_58 : decode cX11_when 58 = .ok (.bipush (-2), 2) := by decide +kernel
theorem dX11_when_60 : decode cX11_when 60 = .ok (.invokevirtual 33, 3) := by decide +kernel
theorem dX11_when_63 : decode cX11_when 63 = .ok (.ireturn, 1) := by decide +kernel
theorem dX11_keep_0 : decode cX11_keep 0 = .ok (.iconst 0, 1) := by decide +kernel
theorem dX11_keep_1 : decode cX11_keep 1 = .ok (.istore_n 1, 1) := by decide +kernel
theorem dX11_keep_2 : decode cX11_keep 2 = .ok (.iload_n 1, 1) := by decide +kernel
theorem dX11_keep_3 : decode cX11_keep 3 = .ok (.sipush 1114, 3) := by decide +kernel
theorem dX11_keep_6 : decode cX11_keep 6 = .ok (.if_icmp .ge 21, 3) := by decide +kernel
theorem dX11_keep_9 : decode cX11_keep 9 = .ok (.aload_n 0, 1) := by decide +kernel
theorem dX11_keep_10 : decode cX11_keep 10 = .ok (.getfield 16, 3) := by decide +kernel
theorem dX11_keep_13 : decode cX11_keep 13 = .ok (.iload_n 1, 1) := by decide +kernel
theorem dX11_keep_14 : decode cX11_keep 14 = .ok (.aload_n 0, 1) := by decide +kernel
theorem dX11_keep_15 : decode cX11_keep 15 = .ok (.getfield 13, 3) := by decide +kernel
theorem dX11_keep_18 : decode cX11_keep 18 = .ok (.iload_n 1, 1) := by decide +kernel
theorem dX11_keep_19 : decode cX11_keep 19 = .ok (.iaload, 1) := by decide +kernel
theorem dX11_keep_20 : decode cX11_keep 20 = .ok (.iastore, 1) := by decide +kernel
theorem dX11_keep_21 : decode cX11_keep 21 = .ok (.iinc 1 1, 3) := by decide +kernel
theorem dX11_keep_24 : decode cX11_keep 24 = .ok (.goto (-22), 3) := by decide +kernel
theorem dX11_keep_27 : decode cX11_keep 27 = .ok (.aload_n 0, 1) := by decide +kernel
theorem dX11_keep_28 : decode cX11_keep 28 = .ok (.iconst 1, 1) := by decide +kernel
theorem dX11_keep_29 : decode cX11_keep 29 = .ok (.putfield 139, 3) := by decide +kernel
theorem dX11_keep_32 : decode cX11_keep 32 = .ok (.aload_n 0, 1) := by decide +kernel
theorem dX11_keep_33 : decode cX11_keep 33 = .ok (.getfield 13, 3) := by decide +kernel
theorem dX11_keep_36 : decode cX11_keep 36 = .ok (.iconst 3, 1) := by decide +kernel
theorem dX11_keep_37 : decode cX11_keep 37 = .ok (.iaload, 1) := by decide +kernel
theorem dX11_keep_38 : decode cX11_keep 38 = .ok (.ireturn, 1) := by decide +kernel
set_option maxRecDepth 20000 in
theorem ggX11_back_X11_finding : GoodIn wsX11_back wsX11_finding := goodIn_r _ [8, 9, 10, 11, 12, 13, 14, 15, 16, 17, 18, 19] (by decide +kernel) (by decide +kernel)
set_option maxRecDepth 20000 in
theorem gX11_back_X11_finding : GoodIn wsX11_back (wsV RX11 33 RX11 yX11_finding wsX11_finding) := goodIn_app (goodIn_of _ (by decide +kernel)) ggX11_back_X11_finding
theorem dX11_back_0 : decode cX11_back 0 = .ok (.aload_n 0, 1) := by decide +kernel
theorem dX11_back_1 : decode cX11_back 1 = .ok (.getfield 139, 3) := by decide +kernel
theorem dX11_back_4 : decode cX11_back 4 = .ok (.ifCond .ne 10, 3) := by decide +kernel
theorem dX11_back_7 : decode cX11_back 7 = .ok (.aload_n 0, 1) := by decide +kernel
theorem dX11_back_8 : decode cX11_back 8 = .ok (.bipush (-2), 2) := by decide +kernel
theorem dX11_back_10 : decode cX11_back 10 = .ok (.invokevirtual 33, 3) := by decide +kernel
theorem dX11_back_13 : decode cX11_back 13 = .ok (.ireturn, 1) := by decide +kernel
theorem dX11_back_14 : decode cX11_back 14 = .ok (.iconst 0, 1) := by decide +kernel
theorem dX11_back_15 : decode cX11_back 15 = .ok (.istore_n 1, 1) := by decide +kernel
theorem dX11_back_16 : decode cX11_back 16 = .ok (.iload_n 1, 1) := by decide +kernel
theorem dX11_back_17 : decode cX11_back 17 = .ok (.sipush 1114, 3) := by decide +kernel
theorem dX11_back_20 : decode cX11_back 20 = .ok (.if_icmp .ge 21, 3) := by decide +kernel
theorem dX11_back_23 : decode cX11_back 23 = .ok (.aload_n 0, 1) := by decide +kernel
theorem dX11_back_24 : decode cX11_back 24 = .ok (.getfield 13, 3) := by decide +kernel
theorem dX11_back_27 : decode cX11_back 27 = .ok (.iload_n 1, 1) := by decide +kernel
theorem dX11_back_28 : decode cX11_back 28 = .ok (.aload_n 0, 1) := by decide +kernel
theorem dX11_back_29 : decode cX11_back 29 = .ok (.getfield 16, 3) := by decide +kernel
theorem dX11_back_32 : decode cX11_back 32 = .ok (.iload_n 1, 1) := by decide +kernel
theorem dX11_back_33 : decode cX11_back 33 = .ok (.iaload, 1) := by decide +kernel
theorem dX11_back_34 : decode cX11_back 34 = .ok (.iastore, 1) := by decide +kernel
theorem dX11_back_35 : decode cX11_back 35 = .ok (.iinc 1 1, 3) := by decide +kernel
theorem dX11_back_38 : decode cX11_back 38 = .ok (.goto (-22), 3) := by decide +kernel
theorem dX11_back_41 : decode cX11_back 41 = .ok (.aload_n 0, 1) := by decide +kernel
theorem dX11_back_42 : decode cX11_back 42 = .ok (.getfield 13, 3) := by decide +kernel
theorem dX11_back_45 : decode cX11_back 45 = .ok (.iconst 3, 1) := by decide +kernel
theorem dX11_back_46 : decode cX11_back 46 = .ok (.iaload, 1) := by decide +kernel
theorem dX11_back_47 : decode cX11_back 47 = .ok (.ireturn, 1) := by decide +kernel
set_option maxRecDepth 20000 in
theorem ggX11_told_X11_finding : GoodIn wsX11_told wsX11_finding := goodIn_r _ [8, 2, 9, 10, 11, 12, 13, 14, 15, 16, 17, 18] (by decide +kernel) (by decide +kernel)
set_option maxRecDepth 20000 in
theorem gX11_told_X11_finding : GoodIn wsX11_told (wsV RX11 33 RX11 yX11_finding wsX11_finding) := goodIn_app (goodIn_of _ (by decide +kernel)) ggX11_told_X11_finding
theorem dX11_told_0 : decode cX11_told 0 = .ok (.iload_n 1, 1) := by decide +kernel
theorem dX11_told_1 : decode cX11_told 1 = .ok (.tableswitch 88 0 6 #[43, 50, 57, 64, 71, 78, 83], 43) := by decide +kernel
theorem dX11_told_44 : decode cX11_told 44 = .ok (.aload_n 0, 1) := by decide +kernel
theorem dX11_told_45 : decode cX11_told 45 = .ok (.getfield 13, 3) := by decide +kernel
theorem dX11_told_48 : decode cX11_told 48 = .ok (.iconst 0, 1) := by decide +kernel
theorem dX11_told_49 : decode cX11_told 49 = .ok (.iaload, 1) := by decide +kernel
theorem dX11_told_50 : decode cX11_told 50 = .ok (.ireturn, 1) := by decide +kernel
theorem dX11_told_51 : decode cX11_told 51 = .ok (.aload_n 0, 1) := by decide +kernel
theorem dX11_told_52 : decode cX11_told 52 = .ok (.getfield 13, 3) := by decide +kernel
theorem dX11_told_55 : decode cX11_told 55 = .ok (.iconst 1, 1) := by decide +kernel
theorem dX11_told_56 : decode cX11_told 56 = .ok (.iaload, 1) := by decide +kernel
theorem dX11_told_57 : decode cX11_told 57 = .ok (.ireturn, 1) := by decide +kernel
theorem dX11_told_58 : decode cX11_told 58 = .ok (.aload_n 0, 1) := by decide +kernel
theorem dX11_told_59 : decode cX11_told 59 = .ok (.getfield 13, 3) := by decide +kernel
theorem dX11_told_62 : decode cX11_told 62 = .ok (.iconst 2, 1) := by decide +kernel
theorem dX11_told_63 : decode cX11_told 63 = .ok (.iaload, 1) := by decide +kernel
theorem dX11_told_64 : decode cX11_told 64 = .ok (.ireturn, 1) := by decide +kernel
theorem dX11_told_65 : decode cX11_told 65 = .ok (.aload_n 0, 1) := by decide +kernel
theorem dX11_told_66 : decode cX11_told 66 = .ok (.getfield 13, 3) := by decide +kernel
theorem dX11_told_69 : decode cX11_told 69 = .ok (.iconst 4, 1) := by decide +kernel
theorem dX11_told_70 : decode cX11_told 70 = .ok (.iaload, 1) := by decide +kernel
theorem dX11_told_71 : decode cX11_told 71 = .ok (.ireturn, 1) := by decide +kernel
theorem dX11_told_72 : decode cX11_told 72 = .ok (.aload_n 0, 1) := by decide +kernel
theorem dX11_told_73 : decode cX11_told 73 = .ok (.getfield 13, 3) := by decide +kernel
theorem dX11_told_76 : decode cX11_told 76 = .ok (.iconst 5, 1) := by decide +kernel
theorem dX11_told_77 : decode cX11_told 77 = .ok (.iaload, 1) := by decide +kernel
theorem dX11_told_78 : decode cX11_told 78 = .ok (.ireturn, 1) := by decide +kernel
theorem dX11_told_79 : decode cX11_told 79 = .ok (.aload_n 0, 1) := by decide +kernel
theorem dX11_told_80 : decode cX11_told 80 = .ok (.getfield 25, 3) := by decide +kernel
theorem dX11_told_83 : decode cX11_told 83 = .ok (.ireturn, 1) := by decide +kernel
theorem dX11_told_84 : decode cX11_told 84 = .ok (.aload_n 0, 1) := by decide +kernel
theorem dX11_told_85 : decode cX11_told 85 = .ok (.getfield 37, 3) := by decide +kernel
theorem dX11_told_88 : decode cX11_told 88 = .ok (.ireturn, 1) := by decide +kernel
theorem dX11_told_89 : decode cX11_told 89 = .ok (.aload_n 0, 1) := by decide +kernel
theorem dX11_told_90 : decode cX11_told 90 = .ok (.iconst (-1), 1) := by decide +kernel
theorem dX11_told_91 : decode cX11_told 91 = .ok (.invokevirtual 33, 3) := by decide +kernel
theorem dX11_told_94 : decode cX11_told 94 = .ok (.ireturn, 1) := by decide +kernel
theorem dJ6_bitCount_0f7a4_0 : decode cJ6_bitCount_0f7a4 0 = .ok (.iload_n 0, 1) := by decide +kernel
theorem dJ6_bitCount_0f7a4_1 : decode cJ6_bitCount_0f7a4 1 = .ok (.iload_n 0, 1) := by decide +kernel
theorem dJ6_bitCount_0f7a4_2 : decode cJ6_bitCount_0f7a4 2 = .ok (.iconst 1, 1) := by decide +kernel
theorem dJ6_bitCount_0f7a4_3 : decode cJ6_bitCount_0f7a4 3 = .ok (.iushr, 1) := by decide +kernel
theorem dJ6_bitCount_0f7a4_4 : decode cJ6_bitCount_0f7a4 4 = .ok (.ldc_w 265, 3) := by decide +kernel
theorem dJ6_bitCount_0f7a4_7 : decode cJ6_bitCount_0f7a4 7 = .ok (.iand, 1) := by decide +kernel
theorem dJ6_bitCount_0f7a4_8 : decode cJ6_bitCount_0f7a4 8 = .ok (.isub, 1) := by decide +kernel
theorem dJ6_bitCount_0f7a4_9 : decode cJ6_bitCount_0f7a4 9 = .ok (.istore_n 0, 1) := by decide +kernel
theorem dJ6_bitCount_0f7a4_10 : decode cJ6_bitCount_0f7a4 10 = .ok (.iload_n 0, 1) := by decide +kernel
theorem dJ6_bitCount_0f7a4_11 : decode cJ6_bitCount_0f7a4 11 = .ok (.ldc_w 266, 3) := by decide +kernel
theorem dJ6_bitCount_0f7a4_14 : decode cJ6_bitCount_0f7a4 14 = .ok (.iand, 1) := by decide +kernel
theorem dJ6_bitCount_0f7a4_15 : decode cJ6_bitCount_0f7a4 15 = .ok (.iload_n 0, 1) := by decide +kernel
theorem dJ6_bitCount_0f7a4_16 : decode cJ6_bitCount_0f7a4 16 = .ok (.iconst 2, 1) := by decide +kernel
theorem dJ6_bitCount_0f7a4_17 : decode cJ6_bitCount_0f7a4 17 = .ok (.iushr, 1) := by decide +kernel
theorem dJ6_bitCount_0f7a4_18 : decode cJ6_bitCount_0f7a4 18 = .ok (.ldc_w 266, 3) := by decide +kernel
theorem dJ6_bitCount_0f7a4_21 : decode cJ6_bitCount_0f7a4 21 = .ok (.iand, 1) := by decide +kernel
theorem dJ6_bitCount_0f7a4_22 : decode cJ6_bitCount_0f7a4 22 = .ok (.iadd, 1) := by decide +kernel
theorem dJ6_bitCount_0f7a4_23 : decode cJ6_bitCount_0f7a4 23 = .ok (.istore_n 0, 1) := by decide +kernel
theorem dJ6_bitCount_0f7a4_24 : decode cJ6_bitCount_0f7a4 24 = .ok (.iload_n 0, 1) := by decide +kernel
theorem dJ6_bitCount_0f7a4_25 : decode cJ6_bitCount_0f7a4 25 = .ok (.iload_n 0, 1) := by decide +kernel
theorem dJ6_bitCount_0f7a4_26 : decode cJ6_bitCount_0f7a4 26 = .ok (.iconst 4, 1) := by decide +kernel
theorem dJ6_bitCount_0f7a4_27 : decode cJ6_bitCount_0f7a4 27 = .ok (.iushr, 1) := by decide +kernel
theorem dJ6_bitCount_0f7a4_28 : decode cJ6_bitCount_0f7a4 28 = .ok (.iadd, 1) := by decide +kernel
theorem dJ6_bitCount_0f7a4_29 : decode cJ6_bitCount_0f7a4 29 = .ok (.ldc_w 267, 3) := by decide +kernel
theorem dJ6_bitCount_0f7a4_32 : decode cJ6_bitCount_0f7a4 32 = .ok (.iand, 1) := by decide +kernel
theorem dJ6_bitCount_0f7a4_33 : decode cJ6_bitCount_0f7a4 33 = .ok (.istore_n 0, 1) := by decide +kernel
theorem dJ6_bitCount_0f7a4_34 : decode cJ6_bitCount_0f7a4 34 = .ok (.iload_n 0, 1) := by decide +kernel
theorem dJ6_bitCount_0f7a4_35 : decode cJ6_bitCount_0f7a4 35 = .ok (.iload_n 0, 1) := by decide +kernel
theorem dJ6_bitCount_0f7a4_36 : decode cJ6_bitCount_0f7a4 36 = .ok (.bipush 8, 2) := by decide +kernel
theorem dJ6_bitCount_0f7a4_38 : decode cJ6_bitCount_0f7a4 38 = .ok (.iushr, 1) := by decide +kernel
theorem dJ6_bitCount_0f7a4_39 : decode cJ6_bitCount_0f7a4 39 = .ok (.iadd, 1) := by decide +kernel
theorem dJ6_bitCount_0f7a4_40 : decode cJ6_bitCount_0f7a4 40 = .ok (.istore_n 0, 1) := by decide +kernel
theorem dJ6_bitCount_0f7a4_41 : decode cJ6_bitCount_0f7a4 41 = .ok (.iload_n 0, 1) := by decide +kernel
theorem dJ6_bitCount_0f7a4_42 : decode cJ6_bitCount_0f7a4 42 = .ok (.iload_n 0, 1) := by decide +kernel
theorem dJ6_bitCount_0f7a4_43 : decode cJ6_bitCount_0f7a4 43 = .ok (.bipush 16, 2) := by decide +kernel
theorem dJ6_bitCount_0f7a4_45 : decode cJ6_bitCount_0f7a4 45 = .ok (.iushr, 1) := by decide +kernel
theorem dJ6_bitCount_0f7a4_46 : decode cJ6_bitCount_0f7a4 46 = .ok (.iadd, 1) := by decide +kernel
theorem dJ6_bitCount_0f7a4_47 : decode cJ6_bitCount_0f7a4 47 = .ok (.istore_n 0, 1) := by decide +kernel
theorem dJ6_bitCount_0f7a4_48 : decode cJ6_bitCount_0f7a4 48 = .ok (.iload_n 0, 1) := by decide +kernel
theorem dJ6_bitCount_0f7a4_49 : decode cJ6_bitCount_0f7a4 49 = .ok (.bipush 63, 2) := by decide +kernel
theorem dJ6_bitCount_0f7a4_51 : decode cJ6_bitCount_0f7a4 51 = .ok (.iand, 1) := by decide +kernel
theorem dJ6_bitCount_0f7a4_52 : decode cJ6_bitCount_0f7a4 52 = .ok (.ireturn, 1) := by decide +kernel
theorem dJ9_max_7cf53_0 : decode cJ9_max_7cf53 0 = .ok (.iload_n 0, 1) := by decide +kernel
theorem dJ9_max_7cf53_1 : decode cJ9_max_7cf53 1 = .ok (.iload_n 1, 1) := by decide +kernel
theorem dJ9_max_7cf53_2 : decode cJ9_max_7cf53 2 = .ok (.if_icmp .lt 7, 3) := by decide +kernel
theorem dJ9_max_7cf53_5 : decode cJ9_max_7cf53 5 = .ok (.iload_n 0, 1) := by decide +kernel
theorem dJ9_max_7cf53_6 : decode cJ9_max_7cf53 6 = .ok (.goto 4, 3) := by decide +kernel
theorem dJ9_max_7cf53_9 : decode cJ9_max_7cf53 9 = .ok (.iload_n 1, 1) := by decide +kernel
theorem dJ9_max_7cf53_10 : decode cJ9_max_7cf53 10 = .ok (.ireturn, 1) := by decide +kernel
theorem dJ7_fill_53178_0 : decode cJ7_fill_53178 0 = .ok (.iconst 0, 1) := by decide +kernel
theorem dJ7_fill_53178_1 : decode cJ7_fill_53178 1 = .ok (.istore_n 2, 1) := by decide +kernel
theorem dJ7_fill_53178_2 : decode cJ7_fill_53178 2 = .ok (.aload_n 0, 1) := by decide +kernel
theorem dJ7_fill_53178_3 : decode cJ7_fill_53178 3 = .ok (.arraylength, 1) := by decide +kernel
theorem dJ7_fill_53178_4 : decode cJ7_fill_53178 4 = .ok (.istore_n 3, 1) := by decide +kernel
theorem dJ7_fill_53178_5 : decode cJ7_fill_53178 5 = .ok (.iload_n 2, 1) := by decide +kernel
theorem dJ7_fill_53178_6 : decode cJ7_fill_53178 6 = .ok (.iload_n 3, 1) := by decide +kernel
theorem dJ7_fill_53178_7 : decode cJ7_fill_53178 7 = .ok (.if_icmp .ge 13, 3) := by decide +kernel
theorem dJ7_fill_53178_10 : decode cJ7_fill_53178 10 = .ok (.aload_n 0, 1) := by decide +kernel
theorem dJ7_fill_53178_11 : decode cJ7_fill_53178 11 = .ok (.iload_n 2, 1) := by decide +kernel
theorem dJ7_fill_53178_12 : decode cJ7_fill_53178 12 = .ok (.iload_n 1, 1) := by decide +kernel
theorem dJ7_fill_53178_13 : decode cJ7_fill_53178 13 = .ok (.iastore, 1) := by decide +kernel
theorem dJ7_fill_53178_14 : decode cJ7_fill_53178 14 = .ok (.iinc 2 1, 3) := by decide +kernel
theorem dJ7_fill_53178_17 : decode cJ7_fill_53178 17 = .ok (.goto (-12), 3) := by decide +kernel
theorem dJ7_fill_53178_20 : decode cJ7_fill_53178 20 = .ok (.return_, 1) := by decide +kernel
abbrev vwCl : List vw_C := [(RX0, TX0, 8), (RX1, TX1, 5), (RX2, TX2, 1), (RX3, TX3, 3), (RX4, TX4, 2), (RX5, TX5, 3), (RX6, TX6, 4), (RX7, TX7, 7), (RX8, TX8, 4), (RX9, TX9, 5), (RX10, TX10, 7), (RX11, TX11, 10)]
