theorem dX11_of_18 : decode cX11_of 18 = .ok (.aload_n 0, 1) := by decide +kernel
theorem dX11_of_19 : decode cX11_of 19 = .ok (.iload_n 1, 1) := by decide +kernel
theorem dX11_of_20 : decode cX11_of 20 = .ok (.aload_n 0, 1) := by decide +kernel
theorem dX11_of_21 : decode cX11_of 21 = .ok (.getfield 13, 3) := by decide +kernel
theorem dX11_of_24 : decode cX11_of 24 = .ok (.bipush 6, 2) := by decide +kernel
theorem dX11_of_26 : decode cX11_of 26 = .ok (.iaload, 1) := by decide +kernel
theorem dX11_of_27 : decode cX11_of 27 = .ok (.iconst (-1), 1) := by decide +kernel
theorem dX11_of_28 : decode cX11_of 28 = .ok (.iconst (-1), 1) := by decide +kernel
theorem dX11_of_29 : decode cX11_of 29 = .ok (.invokevirtual 130, 3) := by decide +kernel
theorem dX11_of_32 : decode cX11_of 32 = .ok (.iload_n 2, 1) := by decide +kernel
theorem dX11_of_33 : decode cX11_of 33 = .ok (.ifCond .eq 10, 3) := by decide +kernel
theorem dX11_of_36 : decode cX11_of 36 = .ok (.aload_n 0, 1) := by decide +kernel
theorem dX11_of_37 : decode cX11_of 37 = .ok (.getfield 121, 3) := by decide +kernel
theorem dX11_of_40 : decode cX11_of 40 = .ok (.goto 7, 3) := by decide +kernel
theorem dX11_of_43 : decode cX11_of 43 = .ok (.aload_n 0, 1) := by decide +kernel
theorem dX11_of_44 : decode cX11_of 44 = .ok (.getfield 127, 3) := by decide +kernel
theorem dX11_of_47 : decode cX11_of 47 = .ok (.ireturn, 1) := by decide +kernel
set_option maxRecDepth 20000 in
theorem ggX11_without_X11_isRight : GoodIn wsX11_without wsX11_isRight := goodIn_r _ [6, 1, 80, 81, 82, 83, 84, 85, 86, 87, 88, 89] (by decide +kernel) (by decide +kernel)
set_option maxRecDepth 20000 in
theorem gX11_without_X11_isRight : GoodIn wsX11_without (wsV RX11 108 RX11 yX11_isRight wsX11_isRight) := goodIn_app (goodIn_of _ (by decide +kernel)) ggX11_without_X11_isRight
set_option maxRecDepth 20000 in
theorem ggX11_without_X11_finding : GoodIn wsX11_without wsX11_finding := goodIn_r _ [10, 11, 80, 81, 82, 83, 84, 85, 86, 87, 88, 89] (by decide +kernel) (by decide +kernel)
set_option maxRecDepth 20000 in
theorem gX11_without_X11_finding : GoodIn wsX11_without (wsV RX11 33 RX11 yX11_finding wsX11_finding) := goodIn_app (goodIn_of _ (by decide +kernel)) ggX11_without_X11_finding
set_option maxRecDepth 20000 in
theorem ggX11_without_X11_tellHad : GoodIn wsX11_without wsX11_tellHad := goodIn_r _ [15, 16, 1, 17, 18, 19, 5, 20, 21, 22, 23, 24, 25, 26, 27, 28, 29, 30, 31, 32, 33, 34, 35, 36, 37, 38, 39, 40, 41, 42, 43, 44, 45, 46, 47, 48, 49, 50, 51, 52, 80, 81, 82, 83, 84, 85, 86, 87, 88, 89] (by decide +kernel) (by decide +kernel)
set_option maxRecDepth 20000 in
theorem gX11_without_X11_tellHad : GoodIn wsX11_without (wsV RX11 93 RX11 yX11_tellHad wsX11_tellHad) := goodIn_app (goodIn_of _ (by decide +kernel)) ggX11_without_X11_tellHad
set_option maxRecDepth 20000 in
theorem ggX11_without_X11_lackOn : GoodIn wsX11_without wsX11_lackOn := goodIn_r _ [56, 1, 57, 58, 59, 60, 5, 61, 62, 63, 64, 65, 66, 67, 68, 69, 70, 71, 72, 73, 74, 75, 76, 77, 78, 79, 16, 41, 42, 43, 44, 80, 81, 82, 83, 84, 85, 86, 87, 88, 89] (by decide +kernel) (by decide +kernel)
set_option maxRecDepth 20000 in
theorem gX11_without_X11_lackOn : GoodIn wsX11_without (wsV RX11 133 RX11 yX11_lackOn wsX11_lackOn) := goodIn_app (goodIn_of _ (by decide +kernel)) ggX11_without_X11_lackOn
theorem dX11_without_0 : decode cX11_without 0 = .ok (.aload_n 0, 1) := by decide +kernel
theorem dX11_without_1 : decode cX11_without 1 = .ok (.iload_n 1, 1) := by decide +kernel
theorem dX11_without_2 : decode cX11_without 2 = .ok (.invokevirtual 108, 3) := by decide +kernel
theorem dX11_without_5 : decode cX11_without 5 = .ok (.ifCond .ne 9, 3) := by decide +kernel
theorem dX11_without_8 : decode cX11_without 8 = .ok (.aload_n 0, 1) := by decide +kernel
theorem dX11_without_9 : decode cX11_without 9 = .ok (.iconst (-1), 1) := by decide +kernel
theorem dX11_without_10 : decode cX11_without 10 = .ok (.invokevirtual 33, 3) := by decide +kernel
theorem dX11_without_13 : decode cX11_without 13 = .ok (.ireturn, 1) := by decide +kernel
theorem dX11_without_14 : decode cX11_without 14 = .ok (.aload_n 0, 1) := by decide +kernel
theorem dX11_without_15 : decode cX11_without 15 = .ok (.invokevirtual 93, 3) := by decide +kernel
theorem dX11_without_18 : decode cX11_without 18 = .ok (.aload_n 0, 1) := by decide +kernel
theorem dX11_without_19 : decode cX11_without 19 = .ok (.aload_n 0, 1) := by decide +kernel
theorem dX11_without_20 : decode cX11_without 20 = .ok (.getfield 13, 3) := by decide +kernel
theorem dX11_without_23 : decode cX11_without 23 = .ok (.bipush 6, 2) := by decide +kernel
theorem dX11_without_25 : decode cX11_without 25 = .ok (.iaload, 1) := by decide +kernel
theorem dX11_without_26 : decode cX11_without 26 = .ok (.iload_n 1, 1) := by decide +kernel
theorem dX11_without_27 : decode cX11_without 27 = .ok (.iconst (-1), 1) := by decide +kernel
theorem dX11_without_28 : decode cX11_without 28 = .ok (.invokevirtual 133, 3) := by decide +kernel
theorem dX11_without_31 : decode cX11_without 31 = .ok (.ireturn, 1) := by decide +kernel
set_option maxRecDepth 20000 in
theorem ggX11_spared_X11_isHost : GoodIn wsX11_spared wsX11_isHost := goodIn_r _ [6, 1, 80, 81, 82, 83, 84, 85, 86, 87, 88, 89] (by decide +kernel) (by decide +kernel)
set_option maxRecDepth 20000 in
theorem gX11_spared_X11_isHost : GoodIn wsX11_spared (wsV RX11 71 RX11 yX11_isHost wsX11_isHost) := goodIn_app (goodIn_of _ (by decide +kernel)) ggX11_spared_X11_isHost
set_option maxRecDepth 20000 in
theorem ggX11_spared_X11_finding : GoodIn wsX11_spared wsX11_finding := goodIn_r _ [10, 11, 80, 81, 82, 83, 84, 85, 86, 87, 88, 89] (by decide +kernel) (by decide +kernel)
set_option maxRecDepth 20000 in
theorem gX11_spared_X11_finding : GoodIn wsX11_spared (wsV RX11 33 RX11 yX11_finding wsX11_finding) := goodIn_app (goodIn_of _ (by decide +kernel)) ggX11_spared_X11_finding
set_option maxRecDepth 20000 in
theorem ggX11_spared_X11_tellHad : GoodIn wsX11_spared wsX11_tellHad := goodIn_r _ [15, 16, 1, 17, 18, 19, 5, 20, 21, 22, 23, 24, 25, 26, 27, 28, 29, 30, 31, 32, 33, 34, 35, 36, 37, 38, 39, 40, 41, 42, 43, 44, 45, 46, 47, 48, 49, 50, 51, 52, 80, 81, 82, 83, 84, 85, 86, 87, 88, 89] (by decide +kernel) (by decide +kernel)
set_option maxRecDepth 20000 in
theorem gX11_spared_X11_tellHad : GoodIn wsX11_spared (wsV RX11 93 RX11 yX11_tellHad wsX11_tellHad) := goodIn_app (goodIn_of _ (by decide +kernel)) ggX11_spared_X11_tellHad
set_option maxRecDepth 20000 in
theorem ggX11_spared_X11_lackOn : GoodIn wsX11_spared wsX11_lackOn := goodIn_r _ [56, 1, 57, 58, 59, 60, 5, 61, 62, 63, 64, 65, 66, 67, 68, 69, 70, 71, 72, 73, 74, 75, 76, 77, 78, 79, 16, 41, 42, 43, 44, 80, 81, 82, 83, 84, 85, 86, 87, 88, 89] (by decide +kernel) (by decide +kernel)
set_option maxRecDepth 20000 in
theorem gX11_spared_X11_lackOn : GoodIn wsX11_spared (wsV RX11 133 RX11 yX11_lackOn wsX11_lackOn) := goodIn_app (goodIn_of _ (by decide +kernel)) ggX11_spared_X11_lackOn
theorem dX11_spared_0 : decode cX11_spared 0 = .ok (.aload_n 0, 1) := by decide +kernel
theorem dX11_spared_1 : decode cX11_spared 1 = .ok (.iload_n 1, 1) := by decide +kernel
theorem dX11_spared_2 : decode cX11_spared 2 = .ok (.invokevirtual 71, 3) := by decide +kernel
theorem dX11_spared_5 : decode cX11_spared 5 = .ok (.ifCond .ne 9, 3) := by decide +kernel
theorem dX11_spared_8 : decode cX11_spared 8 = .ok (.aload_n 0, 1) := by decide +kernel
theorem dX11_spared_9 : decode cX11_spared 9 = .ok (.iconst (-1), 1) := by decide +kernel
theorem dX11_spared_10 : decode cX11_spared 10 = .ok (.invokevirtual 33, 3) := by decide +kernel
theorem dX11_spared_13 : decode cX11_spared 13 = .ok (.ireturn, 1) := by decide +kernel
theorem dX11_spared_14 : decode cX11_spared 14 = .ok (.aload_n 0, 1) := by decide +kernel
theorem dX11_spared_15 : decode cX11_spared 15 = .ok (.invokevirtual 93, 3) := by decide +kernel
theorem dX11_spared_18 : decode cX11_spared 18 = .ok (.aload_n 0, 1) := by decide +kernel
theorem dX11_spared_19 : decode cX11_spared 19 = .ok (.aload_n 0, 1) := by decide +kernel
theorem dX11_spared_20 : decode cX11_spared 20 = .ok (.getfield 13, 3) := by decide +kernel
theorem dX11_spared_23 : decode cX11_spared 23 = .ok (.bipush 6, 2) := by decide +kernel
theorem dX11_spared_25 : decode cX11_spared 25 = .ok (.iaload, 1) := by decide +kernel
theorem dX11_spared_26 : decode cX11_spared 26 = .ok (.iconst (-1), 1) := by decide +kernel
theorem dX11_spared_27 : decode cX11_spared 27 = .ok (.iload_n 1, 1) := by decide +kernel
theorem dX11_spared_28 : decode cX11_spared 28 = .ok (.invokevirtual 133, 3) := by decide +kernel
theorem dX11_spared_31 : decode cX11_spared 31 = .ok (.ireturn, 1) := by decide +kernel
set_option maxRecDepth 20000 in
theorem ggX11_nextDay_X11_rightAt : GoodIn wsX11_nextDay wsX11_rightAt := goodIn_r _ [6, 1, 7, 8, 9, 10, 11, 12, 13, 14, 15, 16] (by decide +kernel) (by decide +kernel)
set_option maxRecDepth 20000 in
theorem gX11_nextDay_X11_rightAt : GoodIn wsX11_nextDay (wsV RX11 111 RX11 yX11_rightAt wsX11_rightAt) := goodIn_app (goodIn_of _ (by decide +kernel)) ggX11_nextDay_X11_rightAt
theorem dX11_nextDay_0 : decode cX11_nextDay 0 = .ok (.sipush 10000, 3) := by decide +kernel
theorem dX11_nextDay_3 : decode cX11_nextDay 3 = .ok (.istore_n 2, 1) := by decide +kernel
theorem dX11_nextDay_4 : decode cX11_nextDay 4 = .ok (.iconst 0, 1) := by decide +kernel
theorem dX11_nextDay_5 : decode cX11_nextDay 5 = .ok (.istore_n 3, 1) := by decide +kernel
theorem dX11_nextDay_6 : decode cX11_nextDay 6 = .ok (.iload_n 3, 1) := by decide +kernel
theorem dX11_nextDay_7 : decode cX11_nextDay 7 = .ok (.aload_n 0, 1) := by decide +kernel
theorem dX11_nextDay_8 : decode cX11_nextDay 8 = .ok (.getfield 13, 3) := by decide +kernel
theorem dX11_nextDay_11 : decode cX11_nextDay 11 = .ok (.iconst 5, 1) := by decide +kernel
theorem dX11_nextDay_12 : decode cX11_nextDay 12 = .ok (.iaload, 1) := by decide +kernel
theorem dX11_nextDay_13 : decode cX11_nextDay 13 = .ok (.if_icmp .ge 65, 3) := by decide +kernel
theorem dX11_nextDay_16 : decode cX11_nextDay 16 = .ok (.aload_n 0, 1) := by decide +kernel
theorem dX11_nextDay_17 : decode cX11_nextDay 17 = .ok (.iload_n 3, 1) := by decide +kernel
theorem dX11_nextDay_18 : decode cX11_nextDay 18 = .ok (.iconst 4, 1) := by decide +kernel
theorem dX11_nextDay_19 : decode cX11_nextDay 19 = .ok (.invokevirtual 111, 3) := by decide +kernel
theorem dX11_nextDay_22 : decode cX11_nextDay 22 = .ok (.istore 4, 2) := by decide +kernel
theorem dX11_nextDay_24 : decode cX11_nextDay 24 = .ok (.aload_n 0, 1) := by decide +kernel
theorem dX11_nextDay_25 : decode cX11_nextDay 25 = .ok (.iload_n 3, 1) := by decide +kernel
theorem dX11_nextDay_26 : decode cX11_nextDay 26 = .ok (.iconst 5, 1) := by decide +kernel
theorem dX11_nextDay_27 : decode cX11_nextDay 27 = .ok (.invokevirtual 111, 3) := by decide +kernel
theorem dX11_nextDay_30 : decode cX11_nextDay 30 = .ok (.iconst 1, 1) := by decide +kernel
theorem dX11_nextDay_31 : decode cX11_nextDay 31 = .ok (.iadd, 1) := by decide +kernel
theorem dX11_nextDay_32 : decode cX11_nextDay 32 = .ok (.istore 5, 2) := by decide +kernel
theorem dX11_nextDay_34 : decode cX11_nextDay 34 = .ok (.iload 4, 2) := by decide +kernel
theorem dX11_nextDay_36 : decode cX11_nextDay 36 = .ok (.iload_n 1, 1) := by decide +kernel
theorem dX11_nextDay_37 : decode cX11_nextDay 37 = .ok (.if_icmp .le 14, 3) := by decide +kernel
theorem dX11_nextDay_40 : decode cX11_nextDay 40 = .ok (.iload 4, 2) := by decide +kernel
theorem dX11_nextDay_42 : decode cX11_nextDay 42 = .ok (.iload_n 2, 1) := by decide +kernel
theorem dX11_nextDay_43 : decode cX11_nextDay 43 = .ok (.if_icmp .ge 8, 3) := by decide +kernel
theorem dX11_nextDay_46 : decode cX11_nextDay 46 = .ok (.iload 4, 2) := by decide +kernel
theorem dX11_nextDay_48 : decode cX11_nextDay 48 = .ok (.goto 4, 3) := by decide +kernel
theorem dX11_nextDay_51 : decode cX11_nextDay 51 = .ok (.iload_n 2, 1) := by decide +kernel
theorem dX11_nextDay_52 : decode cX11_nextDay 52 = .ok (.istore_n 2, 1) := by decide +kernel
theorem dX11_nextDay_53 : decode cX11_nextDay 53 = .ok (.iload 5, 2) := by decide +kernel
theorem dX11_nextDay_55 : decode cX11_nextDay 55 = .ok (.iload_n 1, 1) := by decide +kernel
theorem dX11_nextDay_56 : decode cX11_nextDay 56 = .ok (.if_icmp .le 14, 3) := by decide +kernel
theorem dX11_nextDay_59 : decode cX11_nextDay 59 = .ok (.iload 5, 2) := by decide +kernel
theorem dX11_nextDay_61 : decode cX11_nextDay 61 = .ok (.iload_n 2, 1) := by decide +kernel
theorem dX11_nextDay_62 : decode cX11_nextDay 62 = .ok (.if_icmp .ge 8, 3) := by decide +kernel
theorem dX11_nextDay_65 : decode cX11_nextDay 65 = .ok (.iload 5, 2) := by decide +kernel
theorem dX11_nextDay_67 : decode cX11_nextDay 67 = .ok (.goto 4, 3) := by decide +kernel
theorem dX11_nextDay_70 : decode cX11_nextDay 70 = .ok (.iload_n 2, 1) := by decide +kernel
theorem dX11_nextDay_71 : decode cX11_nextDay 71 = .ok (.istore_n 2, 1) := by decide +kernel
theorem dX11_nextDay_72 : decode cX11_nextDay 72 = .ok (.iinc 3 1, 3) := by decide +kernel
theorem dX11_nextDay_75 : decode cX11_nextDay 75 = .ok (.goto (-69), 3) := by decide +kernel
theorem dX11_nextDay_78 : decode cX11_nextDay 78 = .ok (.iload_n 2, 1) := by decide +kernel
theorem dX11_nextDay_79 : decode cX11_nextDay 79 = .ok (.ireturn, 1) := by decide +kernel
set_option maxRecDepth 20000 in
theorem ggX11_when_X11_isIn : GoodIn wsX11_when wsX11_isIn := goodIn_r _ [5] (by decide +kernel) (by decide +kernel)
set_option maxRecDepth 20000 in
theorem gX11_when_X11_isIn : GoodIn wsX11_when (va_wsS RX11 29 yX11_isIn wsX11_isIn) := goodIn_app (goodIn_of _ (by decide +kernel)) ggX11_when_X11_isIn
set_option maxRecDepth 20000 in
theorem ggX11_when_X11_finding : GoodIn wsX11_when wsX11_finding := goodIn_r _ [9, 10, 83, 84, 85, 86, 87, 88, 89, 90, 91, 92] (by decide +kernel) (by decide +kernel)
set_option maxRecDepth 20000 in
theorem gX11_when_X11_finding : GoodIn wsX11_when (wsV RX11 33 RX11 yX11_finding wsX11_finding) := goodIn_app (goodIn_of _ (by decide +kernel)) ggX11_when_X11_finding
set_option maxRecDepth 20000 in
theorem ggX11_when_X11_tellHad : GoodIn wsX11_when wsX11_tellHad := goodIn_r _ [14, 15, 1, 16, 17, 18, 4, 19, 20, 21, 22, 23, 24, 25, 26, 27, 28, 29, 30, 31, 32, 33, 34, 35, 36, 37, 38, 39, 40, 41, 42, 43, 44, 45, 46, 47, 48, 49, 50, 51, 83, 84, 85, 86, 87, 88, 89, 90, 91, 92] (by decide +kernel) (by decide +kernel)
set_option maxRecDepth 20000 in
theorem gX11_when_X11_tellHad : GoodIn wsX11_when (wsV RX11 93 RX11 yX11_tellHad wsX11_tellHad) := goodIn_app (goodIn_of _ (by decide +kernel)) ggX11_when_X11_tellHad
set_option maxRecDepth 20000 in
theorem ggX11_when_X11_lackOn : GoodIn wsX11_when wsX11_lackOn := goodIn_r _ [55, 1, 56, 57, 58, 59, 4, 60, 61, 62, 63, 64, 65, 66, 67, 68, 69, 70, 71, 72, 73, 74, 75, 76, 77, 78, 15, 40, 41, 42, 43, 83, 84, 85, 86, 87, 88, 89, 90, 91, 92] (by decide +kernel) (by decide +kernel)
set_option maxRecDepth 20000 in
theorem gX11_when_X11_lackOn : GoodIn wsX11_when (wsV RX11 133 RX11 yX11_lackOn wsX11_lackOn) := goodIn_app (goodIn_of _ (by decide +kernel)) ggX11_when_X11_lackOn
set_option maxRecDepth 20000 in
theorem ggX11_when_X11_nextDay : GoodIn wsX11_when wsX11_nextDay := goodIn_r _ [82, 1, 63, 64, 65, 4, 66, 83, 84, 85, 86, 87, 88, 89, 90, 91, 92] (by decide +kernel) (by decide +kernel)
set_option maxRecDepth 20000 in
theorem gX11_when_X11_nextDay : GoodIn wsX11_when (wsV RX11 136 RX11 yX11_nextDay wsX11_nextDay) := goodIn_app (goodIn_of _ (by decide +kernel)) ggX11_when_X11_nextDay
theorem dX11_when_0 : decode cX11_when 0 = .ok (.iload_n 1, 1) := by decide +kernel
theorem dX11_when_1 : decode cX11_when 1 = .ok (.iconst 0, 1) := by decide +kernel
theorem dX11_when_2 : decode cX11_when 2 = .ok (.bipush 80, 2) := by decide +kernel
theorem dX11_when_4 : decode cX11_when 4 = .ok (.invokestatic 29, 3) := by decide +kernel
theorem dX11_when_7 : decode cX11_when 7 = .ok (.ifCond .ne 9, 3) := by decide +kernel
theorem dX11_when_10 : decode cX11_when 10 = .ok (.aload_n 0, 1) := by decide +kernel
theorem dX11_when_11 : decode cX11_when 11 = .ok (.iconst (-1), 1) := by decide +kernel
theorem dX11_when_12 : decode cX11_when 12 = .ok (.invokevirtual 33, 3) := by decide +kernel
theorem dX11_when_15 : decode cX11_when 15 = .ok (.ireturn, 1) := by decide +kernel
theorem dX11_when_16 : decode cX11_when 16 = .ok (.aload_n 0, 1) := by decide +kernel
theorem dX11_when_17 : decode cX11_when 17 = .ok (.invokevirtual 93, 3) := by decide +kernel
theorem dX11_when_20 : decode cX11_when 20 = .ok (.aload_n 0, 1) := by decide +kernel
theorem dX11_when_21 : decode cX11_when 21 = .ok (.getfield 13, 3) := by decide +kernel
theorem dX11_when_24 : decode cX11_when 24 = .ok (.bipush 6, 2) := by decide +kernel
theorem dX11_when_26 : decode cX11_when 26 = .ok (.iaload, 1) := by decide +kernel
theorem dX11_when_27 : decode cX11_when 27 = .ok (.istore_n 2, 1) := by decide +kernel
theorem dX11_when_28 : decode cX11_when 28 = .ok (.iload_n 2, 1) := by decide +kernel
theorem dX11_when_29 : decode cX11_when 29 = .ok (.sipush 9999, 3) := by decide +kernel
theorem dX11_when_32 : decode cX11_when 32 = .ok (.if_icmp .gt 25, 3) := by decide +kernel
theorem dX11_when_35 : decode cX11_when 35 = .ok (.aload_n 0, 1) := by decide +kernel
theorem dX11_when_36 : decode cX11_when 36 = .ok (.iload_n 2, 1) := by decide +kernel
theorem dX11_when_37 : decode cX11_when 37 = .ok (.iconst (-1), 1) := by decide +kernel
theorem dX11_when_38 : decode cX11_when 38 = .ok (.iconst (-1), 1) := by decide +kernel
theorem dX11_when_39 : decode cX11_when 39 = .ok (.invokevirtual 133, 3) := by decide +kernel
theorem dX11_when_42 : decode cX11_when 42 = .ok (.iload_n 1, 1) := by decide +kernel
theorem dX11_when_43 : decode cX11_when 43 = .ok (.if_icmp .le 5, 3) := by decide +kernel
theorem dX11_when_46 : decode cX11_when 46 = .ok (.iload_n 2, 1) := by decide +kernel
theorem dX11_when_47 : decode cX11_when 47 = .ok (.ireturn, 1) := by decide +kernel
theorem dX11_when_48 : decode cX11_when 48 = .ok (.aload_n 0, 1) := by decide +kernel
theorem dX11_when_49 : decode cX11_when 49 = .ok (.iload_n 2, 1) := by decide +kernel
theorem dX11_when_50 : decode cX11_when 50 = .ok (.invokevirtual 136, 3) := by decide +kernel
theorem dX11_when_53 : decode cX11_when 53 = .ok (.istore_n 2, 1) := by decide +kernel
theorem dX11_when_54 : decode cX11_when 54 = .ok (.goto (-26), 3) := by decide +kernel
theorem dX11_when_57 : decode cX11_when 57 = .ok (.aload_n 0, 1) := by decide +kernel
theorem dX11_when_58 : decode cX11_when 58 = .ok (.bipush (-2), 2) := by decide +kernel
theorem dX11_when_60 : decode cX11_when 60 = .ok (.invokevirtual 33, 3) := by decide +kernel
theorem dX11_when_63 : decode cX11_when 63 = .ok (.ireturn, 1) := by decide +kernel
theorem dX11_keep_0 : decode cX11_keep 0 = .ok (.iconst 0, 1) := by decide +kernel
theorem dX11_keep_1 : decode cX11_keep 1 = .ok (.istore_n 1, 1) := by decide +kernel
theorem dX11_keep_2 : decode cX11_keep 2 = .ok (.iload_n 1, 1) := by decide +kernel
theorem dX11_keep_3 : decode cX11_keep 3 = .ok (.sipush 1114, 3) := by decide +kernel
theorem dX11_keep_6 : decode cX11_keep 6 = .ok (.if_icmp .ge 21, 3) := by decide +kernel
theorem dX11_keep_9 : decode cX11_keep 9 = .ok (.aload_n 0, 1) := by decide +kernel
theorem dX11_keep_10 : decode cX11_keep 10 = .ok (.getfield 16, 3) := by decide +kernel
theorem dX11_keep_13 : decode cX11_keep 13 = .ok (.iload_n 1, 1) := by decide +kernel
theorem dX11_keep_14 : decode cX11_keep 14 = .ok (.aload_n 0, 1) := by decide +kernel
theorem dX11_keep_15 : decode cX11_keep 15 = .ok (.getfield 13, 3) := by decide +kernel
theorem dX11_keep_18 : decode cX11_keep 18 = .ok (.iload_n 1, 1) := by decide +kernel
theorem dX11_keep_19 : decode cX11_keep 19 = .ok (.iaload, 1) := by decide +kernel
theorem dX11_keep_20 : decode cX11_keep 20 = .ok (.iastore, 1) := by decide +kernel
theorem dX11_keep_21 : decode cX11_keep 21 = .ok (.iinc 1 1, 3) := by decide +kernel
theorem dX11_keep_24 : decode cX11_keep 24 = .ok (.goto (-22), 3) := by decide +kernel
theorem dX11_keep_27 : decode cX11_keep 27 = .ok (.aload_n 0, 1) := by decide +kernel
theorem dX11_keep_28 : decode cX11_keep 28 = .ok (.iconst 1, 1) := by decide +kernel
theorem dX11_keep_29 : decode cX11_keep 29 = .ok (.putfield 139, 3) := by decide +kernel
theorem dX11_keep_32 : decode cX11_keep 32 = .ok (.aload_n 0, 1) := by decide +kernel
theorem dX11_keep_33 : decode cX11_keep 33 = .ok (.getfield 13, 3) := by decide +kernel
theorem dX11_keep_36 : decode cX11_keep 36 = .ok (.iconst 3, 1) := by decide +kernel
theorem dX11_keep_37 : decode cX11_keep 37 = .ok (.iaload, 1) := by decide +kernel
theorem dX11_keep_38 : decode cX11_keep 38 = .ok (.ireturn, 1) := by decide +kernel
set_option maxRecDepth 20000 in
theorem ggX11_back_X11_finding : GoodIn wsX11_back wsX11_finding := goodIn_r _ [8, 9, 10, 11, 12, 13, 14, 15, 16, 17, 18, 19] (by decide +kernel) (by decide +kernel)
set_option maxRecDepth 20000 in
theorem gX11_back_X11_finding : GoodIn wsX11_back (wsV RX11 33 RX11 yX11_finding wsX11_finding) := goodIn_app (goodIn_of _ (by decide +kernel)) ggX11_back_X11_finding
theorem dX11_back_0 : decode cX11_back 0 = .ok (.aload_n 0, 1) := by decide +kernel
theorem dX11_back_1 : decode cX11_back 1 = .ok (.getfield 139, 3) := by decide +kernel
theorem dX11_back_4 : decode cX11_back 4 = .ok (.ifCond .ne 10, 3) := by decide +kernel
theorem dX11_back_7 : decode cX11_back 7 = .ok (.aload_n 0, 1) := by decide +kernel
theorem dX11_back_8 : decode cX11_back 8 = .ok (.bipush (-2), 2) := by decide +kernel
theorem dX11_back_10 : decode cX11_back 10 = .ok (.invokevirtual 33, 3) := by decide +kernel
theorem dX11_back_13 : decode cX11_back 13 = .ok (.ireturn, 1) := by decide +kernel
theorem dX11_back_14 : decode cX11_back 14 = .ok (.iconst 0, 1) := by decide +kernel
theorem dX11_back_15 : decode cX11_back 15 = .ok (.istore_n 1, 1) := by decide +kernel
theorem dX11_back_16 : decode cX11_back 16 = .ok (.iload_n 1, 1) := by decide +kernel
theorem dX11_back_17 : decode cX11_back 17 = .ok (.sipush 1114, 3) := by decide +kernel
theorem dX11_back_20 : decode cX11_back 20 = .ok (.if_icmp .ge 21, 3) := by decide +kernel
theorem dX11_back_23 : decode cX11_back 23 = .ok (.aload_n 0, 1) := by decide +kernel
theorem dX11_back_24 : decode cX11_back 24 = .ok (.getfield 13, 3) := by decide +kernel
theorem dX11_back_27 : decode cX11_back 27 = .ok (.iload_n 1, 1) := by decide +kernel
theorem dX11_back_28 : decode cX11_back 28 = .ok (.aload_n 0, 1) := by decide +kernel
theorem dX11_back_29 : decode cX11_back 29 = .ok (.getfield 16, 3) := by decide +kernel
theorem dX11_back_32 : decode cX11_back 32 = .ok (.iload_n 1, 1) := by decide +kernel
theorem dX11_back_33 : decode cX11_back 33 = .ok (.iaload, 1) := by decide +kernel
theorem dX11_back_34 : decode cX11_back 34 = .ok (.iastore, 1) := by decide +kernel
theorem dX11_back_35 : decode cX11_back 35 = .ok (.iinc 1 1, 3) := by decide +kernel
theorem dX11_back_38 : decode cX11_back 38 = .ok (.goto (-22), 3) := by decide +kernel
theorem dX11_back_41 : decode cX11_back 41 = .ok (.aload_n 0, 1) := by decide +kernel
theorem dX11_back_42 : decode cX11_back 42 = .ok (.getfield 13, 3) := by decide +kernel
theorem dX11_back_45 : decode cX11_back 45 = .ok (.iconst 3, 1) := by decide +kernel
theorem dX11_back_46 : decode cX11_back 46 = .ok (.iaload, 1) := by decide +kernel
theorem dX11_back_47 : decode cX11_back 47 = .ok (.ireturn, 1) := by decide +kernel
set_option maxRecDepth 20000 in
theorem ggX11_told_X11_finding : GoodIn wsX11_told wsX11_finding := goodIn_r _ [8, 2, 9, 10, 11, 12, 13, 14, 15, 16, 17, 18] (by decide +kernel) (by decide +kernel)
set_option maxRecDepth 20000 in
theorem gX11_told_X11_finding : GoodIn wsX11_told (wsV RX11 33 RX11 yX11_finding wsX11_finding) := goodIn_app (goodIn_of _ (by decide +kernel)) ggX11_told_X11_finding
theorem dX11_told_0 : decode cX11_told 0 = .ok (.iload_n 1, 1) := by decide +kernel
theorem dX11_told_1 : decode cX11_told 1 = .ok (.tableswitch 88 0 6 #[43, 50, 57, 64, 71, 78, 83], 43) := by decide +kernel
theorem dX11_told_44 : decode cX11_told 44 = .ok (.aload_n 0, 1) := by decide +kernel
theorem dX11_told_45 : decode cX11_told 45 = .ok (.getfield 13, 3) := by decide +kernel
theorem dX11_told_48 : decode cX11_told 48 = .ok (.iconst 0, 1) := by decide +kernel
theorem dX11_told_49 : decode cX11_told 49 = .ok (.iaload, 1) := by decide +kernel
theorem dX11_told_50 : decode cX11_told 50 = .ok (.ireturn, 1) := by decide +kernel
theorem dX11_told_51 : decode cX11_told 51 = .ok (.aload_n 0, 1) := by decide +kernel
theorem dX11_told_52 : decode cX11_told 52 = .ok (.getfield 13, 3) := by decide +kernel
theorem dX11_told_55 : decode cX11_told 55 = .ok (.iconst 1, 1) := by decide +kernel
theorem dX11_told_56 : decode cX11_told 56 = .ok (.iaload, 1) := by decide +kernel
theorem dX11_told_57 : decode cX11_told 57 = .ok (.ireturn, 1) := by decide +kernel
theorem dX11_told_58 : decode cX11_told 58 = .ok (.aload_n 0, 1) := by decide +kernel
theorem dX11_told_59 : decode cX11_told 59 = .ok (.getfield 13, 3) := by decide +kernel
theorem dX11_told_62 : decode cX11_told 62 = .ok (.iconst 2, 1) := by decide +kernel
theorem dX11_told_63 : decode cX11_told 63 = .ok (.iaload, 1) := by decide +kernel
theorem dX11_told_64 : decode cX11_told 64 = .ok (.ireturn, 1) := by decide +kernel
theorem dX11_told_65 : decode cX11_told 65 = .ok (.aload_n 0, 1) := by decide +kernel
theorem dX11_told_66 : decode cX11_told 66 = .ok (.getfield 13, 3) := by decide +kernel
theorem dX11_told_69 : decode cX11_told 69 = .ok (.iconst 4, 1) := by decide +kernel
theorem dX11_told_70 : decode cX11_told 70 = .ok (.iaload, 1) := by decide +kernel
theorem dX11_told_71 : decode cX11_told 71 = .ok (.ireturn, 1) := by decide +kernel
theorem dX11_told_72 : decode cX11_told 72 = .ok (.aload_n 0, 1) := by decide +kernel
theorem dX11_told_73 : decode cX11_told 73 = .ok (.getfield 13, 3) := by decide +kernel
theorem dX11_told_76 : decode cX11_told 76 = .ok (.iconst 5, 1) := by decide +kernel
theorem dX11_told_77 : decode cX11_told 77 = .ok (.iaload, 1) := by decide +kernel
theorem dX11_told_78 : decode cX11_told 78 = .ok (.ireturn, 1) := by decide +kernel
theorem dX11_told_79 : decode cX11_told 79 = .ok (.aload_n 0, 1) := by decide +kernel
theorem dX11_told_80 : decode cX11_told 80 = .ok (.getfield 25, 3) := by decide +kernel
theorem dX11_told_83 : decode cX11_told 83 = .ok (.ireturn, 1) := by decide +kernel
theorem dX11_told_84 : decode cX11_told 84 = .ok (.aload_n 0, 1) := by decide +kernel
theorem dX11_told_85 : decode cX11_told 85 = .ok (.getfield 37, 3) := by decide +kernel
theorem dX11_told_88 : decode cX11_told 88 = .ok (.ireturn, 1) := by decide +kernel
theorem dX11_told_89 : decode cX11_told 89 = .ok (.aload_n 0, 1) := by decide +kernel
theorem dX11_told_90 : decode cX11_told 90 = .ok (.iconst (-1), 1) := by decide +kernel
theorem dX11_told_91 : decode cX11_told 91 = .ok (.invokevirtual 33, 3) := by decide +kernel
theorem dX11_told_94 : decode cX11_told 94 = .ok (.ireturn, 1) := by decide +kernel
theorem dJ6_bitCount_0f7a4_0 : decode cJ6_bitCount_0f7a4 0 = .ok (.iload_n 0, 1) := by decide +kernel
theorem dJ6_bitCount_0f7a4_1 : decode cJ6_bitCount_0f7a4 1 = .ok (.iload_n 0, 1) := by decide +kernel
theorem dJ6_bitCount_0f7a4_2 : decode cJ6_bitCount_0f7a4 2 = .ok (.iconst 1, 1) := by decide +kernel
theorem dJ6_bitCount_0f7a4_3 : decode cJ6_bitCount_0f7a4 3 = .ok (.iushr, 1) := by decide +kernel
theorem dJ6_bitCount_0f7a4_4 : decode cJ6_bitCount_0f7a4 4 = .ok (.ldc_w 265, 3) := by decide +kernel
theorem dJ6_bitCount_0f7a4_7 : decode cJ6_bitCount_0f7a4 7 = .ok (.iand, 1) := by decide +kernel
theorem dJ6_bitCount_0f7a4_8 : decode cJ6_bitCount_0f7a4 8 = .ok (.isub, 1) := by decide +kernel
theorem dJ6_bitCount_0f7a4_9 : decode cJ6_bitCount_0f7a4 9 = .ok (.istore_n 0, 1) := by decide +kernel
theorem dJ6_bitCount_0f7a4_10 : decode cJ6_bitCount_0f7a4 10 = .ok (.iload_n 0, 1) := by decide +kernel
theorem dJ6_bitCount_0f7a4_11 : decode cJ6_bitCount_0f7a4 11 = .ok (.ldc_w 266, 3) := by decide +kernel
theorem dJ6_bitCount_0f7a4_14 : decode cJ6_bitCount_0f7a4 14 = .ok (.iand, 1) := by decide +kernel
theorem dJ6_bitCount_0f7a4_15 : decode cJ6_bitCount_0f7a4 15 = .ok (.iload_n 0, 1) := by decide +kernel
theorem dJ6_bitCount_0f7a4_16 : decode cJ6_bitCount_0f7a4 16 = .ok (.iconst 2, 1) := by decide +kernel
theorem dJ6_bitCount_0f7a4_17 : decode cJ6_bitCount_0f7a4 17 = .ok (.iushr, 1) := by decide +kernel
theorem dJ6_bitCount_0f7a4_18 : decode cJ6_bitCount_0f7a4 18 = .ok (.ldc_w 266, 3) := by decide +kernel
theorem dJ6_bitCount_0f7a4_21 : decode cJ6_bitCount_0f7a4 21 = .ok (.iand, 1) := by decide +kernel
theorem dJ6_bitCount_0f7a4_22 : decode cJ6_bitCount_0f7a4 22 = .ok (.iadd, 1) := by decide +kernel
theorem dJ6_bitCount_0f7a4_23 : decode cJ6_bitCount_0f7a4 23 = .ok (.istore_n 0, 1) := by decide +kernel
theorem dJ6_bitCount_0f7a4_24 : decode cJ6_bitCount_0f7a4 24 = .ok (.iload_n 0, 1) := by decide +kernel
theorem dJ6_bitCount_0f7a4_25 : decode cJ6_bitCount_0f7a4 25 = .ok (.iload_n 0, 1) := by decide +kernel
theorem dJ6_bitCount_0f7a4_26 : decode cJ6_bitCount_0f7a4 26 = .ok (.iconst 4, 1) := by decide +kernel
theorem dJ6_bitCount_0f7a4_27 : decode cJ6_bitCount_0f7a4 27 = .ok (.iushr, 1) := by decide +kernel
theorem dJ6_bitCount_0f7a4_28 : decode cJ6_bitCount_0f7a4 28 = .ok (.iadd, 1) := by decide +kernel
theorem dJ6_bitCount_0f7a4_29 : decode cJ6_bitCount_0f7a4 29 = .ok (.ldc_w 267, 3) := by decide +kernel
theorem dJ6_bitCount_0f7a4_32 : decode cJ6_bitCount_0f7a4 32 = .ok (.iand, 1) := by decide +kernel
theorem dJ6_bitCount_0f7a4_33 : decode cJ6_bitCount_0f7a4 33 = .ok (.istore_n 0, 1) := by decide +kernel
theorem dJ6_bitCount_0f7a4_34 : decode cJ6_bitCount_0f7a4 34 = .ok (.iload_n 0, 1) := by decide +kernel
theorem dJ6_bitCount_0f7a4_35 : decode cJ6_bitCount_0f7a4 35 = .ok (.iload_n 0, 1) := by decide +kernel
theorem dJ6_bitCount_0f7a4_36 : decode cJ6_bitCount_0f7a4 36 = .ok (.bipush 8, 2) := by decide +kernel
theorem dJ6_bitCount_0f7a4_38 : decode cJ6_bitCount_0f7a4 38 = .ok (.iushr, 1) := by decide +kernel
theorem dJ6_bitCount_0f7a4_39 : decode cJ6_bitCount_0f7a4 39 = .ok (.iadd, 1) := by decide +kernel
theorem dJ6_bitCount_0f7a4_40 : decode cJ6_bitCount_0f7a4 40 = .ok (.istore_n 0, 1) := by decide +kernel
theorem dJ6_bitCount_0f7a4_41 : decode cJ6_bitCount_0f7a4 41 = .ok (.iload_n 0, 1) := by decide +kernel
theorem dJ6_bitCount_0f7a4_42 : decode cJ6_bitCount_0f7a4 42 = .ok (.iload_n 0, 1) := by decide +kernel
theorem dJ6_bitCount_0f7a4_43 : decode cJ6_bitCount_0f7a4 43 = .ok (.bipush 16, 2) := by decide +kernel
theorem dJ6_bitCount_0f7a4_45 : decode cJ6_bitCount_0f7a4 45 = .ok (.iushr, 1) := by decide +kernel
theorem dJ6_bitCount_0f7a4_46 : decode cJ6_bitCount_0f7a4 46 = .ok (.iadd, 1) := by decide +kernel
theorem dJ6_bitCount_0f7a4_47 : decode cJ6_bitCount_0f7a4 47 = .ok (.istore_n 0, 1) := by decide +kernel
theorem dJ6_bitCount_0f7a4_48 : decode cJ6_bitCount_0f7a4 48 = .ok (.iload_n 0, 1) := by decide +kernel
theorem dJ6_bitCount_0f7a4_49 : decode cJ6_bitCount_0f7a4 49 = .ok (.bipush 63, 2) := by decide +kernel
theorem dJ6_bitCount_0f7a4_51 : decode cJ6_bitCount_0f7a4 51 = .ok (.iand, 1) := by decide +kernel
theorem dJ6_bitCount_0f7a4_52 : decode cJ6_bitCount_0f7a4 52 = .ok (.ireturn, 1) := by decide +kernel
theorem dJ9_max_7cf53_0 : decode cJ9_max_7cf53 0 = .ok (.iload_n 0, 1) := by decide +kernel
theorem dJ9_max_7cf53_1 : decode cJ9_max_7cf53 1 = .ok (.iload_n 1, 1) := by decide +kernel
theorem dJ9_max_7cf53_2 : decode cJ9_max_7cf53 2 = .ok (.if_icmp .lt 7, 3) := by decide +kernel
theorem dJ9_max_7cf53_5 : decode cJ9_max_7cf53 5 = .ok (.iload_n 0, 1) := by decide +kernel
theorem dJ9_max_7cf53_6 : decode cJ9_max_7cf53 6 = .ok (.goto 4, 3) := by decide +kernel
theorem dJ9_max_7cf53_9 : decode cJ9_max_7cf53 9 = .ok (.iload_n 1, 1) := by decide +kernel
theorem dJ9_max_7cf53_10 : decode cJ9_max_7cf53 10 = .ok (.ireturn, 1) := by decide +kernel
theorem dJ7_fill_53178_0 : decode cJ7_fill_53178 0 = .ok (.iconst 0, 1) := by decide +kernel
theorem dJ7_fill_53178_1 : decode cJ7_fill_53178 1 = .ok (.istore_n 2, 1) := by decide +kernel
theorem dJ7_fill_53178_2 : decode cJ7_fill_53178 2 = .ok (.aload_n 0, 1) := by decide +kernel
theorem dJ7_fill_53178_3 : decode cJ7_fill_53178 3 = .ok (.arraylength, 1) := by decide +kernel
theorem dJ7_fill_53178_4 : decode cJ7_fill_53178 4 = .ok (.istore_n 3, 1) := by decide +kernel
theorem dJ7_fill_53178_5 : decode cJ7_fill_53178 5 = .ok (.iload_n 2, 1) := by decide +kernel
theorem dJ7_fill_53178_6 : decode cJ7_fill_53178 6 = .ok (.iload_n 3, 1) := by decide +kernel
theorem dJ7_fill_53178_7 : decode cJ7_fill_53178 7 = .ok (.if_icmp .ge 13, 3) := by decide +kernel
theorem dJ7_fill_53178_10 : decode cJ7_fill_53178 10 = .ok (.aload_n 0, 1) := by decide +kernel
theorem dJ7_fill_53178_11 : decode cJ7_fill_53178 11 = .ok (.iload_n 2, 1) := by decide +kernel
theorem dJ7_fill_53178_12 : decode cJ7_fill_53178 12 = .ok (.iload_n 1, 1) := by decide +kernel
theorem dJ7_fill_53178_13 : decode cJ7_fill_53178 13 = .ok (.iastore, 1) := by decide +kernel
theorem dJ7_fill_53178_14 : decode cJ7_fill_53178 14 = .ok (.iinc 2 1, 3) := by decide +kernel
theorem dJ7_fill_53178_17 : decode cJ7_fill_53178 17 = .ok (.goto (-12), 3) := by decide +kernel
theorem dJ7_fill_53178_20 : decode cJ7_fill_53178 20 = .ok (.return_, 1) := by decide +kernel
set_option maxRecDepth 20000 in
theorem ggL_law_X10_init : GoodIn wsL_law wsX10_init := goodIn_r _ [8, 9, 10, 11, 12, 13, 14, 15, 16, 17, 18, 19, 20, 21, 22, 23, 24, 25, 26, 27, 28, 29, 30, 31, 32, 33, 34, 35, 36, 37, 38, 39, 40, 41, 42, 43, 44, 45, 46, 47, 48, 49, 50, 51, 52, 53, 54, 55, 56, 57, 58, 59, 60, 61, 62, 63, 64, 65, 66, 67, 68, 69, 70, 71, 72, 73, 74, 75, 76, 77, 78, 79, 80, 81, 82, 83, 84, 85, 86, 87, 88, 89, 90, 91, 92, 93, 94, 95, 96, 97, 98, 99, 100, 101, 102, 103, 104, 105, 106, 107, 108, 109, 794, 795, 777, 778, 779, 780, 781, 782, 783, 796, 797, 798, 799, 800, 801, 802, 803, 804, 805, 806, 807, 808, 809, 810, 811, 812, 813, 814, 815, 816, 817, 818, 819, 820, 821, 822, 823, 824, 825, 826, 827, 828, 829, 830, 831, 832, 833, 834, 835] (by decide +kernel) (by decide +kernel)
set_option maxRecDepth 20000 in
theorem gL_law_X10_init : GoodIn wsL_law (wsX10_init) := ggL_law_X10_init
set_option maxRecDepth 20000 in
theorem ggL_law_X11_init : GoodIn wsL_law wsX11_init := goodIn_r _ [112, 113, 10, 11, 63, 114, 115, 116, 117, 118, 784, 785, 786, 787, 788, 789, 790, 791, 792, 793] (by decide +kernel) (by decide +kernel)
set_option maxRecDepth 20000 in
theorem gL_law_X11_init : GoodIn wsL_law (wsX11_init) := ggL_law_X11_init
set_option maxRecDepth 20000 in
theorem ggL_law_X10_letter : GoodIn wsL_law wsX10_letter := goodIn_r _ [122, 15, 123, 124, 2, 125, 126, 127, 128, 129, 130, 131, 14, 132, 133, 134, 135, 777, 778, 779, 780, 781, 782, 783, 794, 795] (by decide +kernel) (by decide +kernel)
set_option maxRecDepth 20000 in
theorem gL_law_X10_letter : GoodIn wsL_law (wsV RL 13 RX10 yX10_letter wsX10_letter) := goodIn_app (goodIn_of _ (by decide +kernel)) ggL_law_X10_letter
set_option maxRecDepth 20000 in
theorem ggL_law_X11_letter : GoodIn wsL_law wsX11_letter := goodIn_r _ [139, 140, 114, 141, 142, 5, 143, 144, 145, 146, 147, 148, 784, 785, 786, 787, 788, 789, 790, 791, 792, 793] (by decide +kernel) (by decide +kernel)
set_option maxRecDepth 20000 in
theorem gL_law_X11_letter : GoodIn wsL_law (wsV RL 17 RX11 yX11_letter wsX11_letter) := goodIn_app (goodIn_of _ (by decide +kernel)) ggL_law_X11_letter
set_option maxRecDepth 20000 in
theorem ggL_law_X10_product : GoodIn wsL_law wsX10_product := goodIn_r _ [152, 19, 153, 154, 2, 155, 123, 124, 125, 126, 127, 128, 129, 130, 156, 157, 158, 159, 37, 160, 161, 64, 162, 65, 66, 777, 778, 779, 780, 781, 782, 783, 796, 797, 798, 799, 800, 801, 802, 803, 808, 809, 810, 811] (by decide +kernel) (by decide +kernel)
set_option maxRecDepth 20000 in
theorem gL_law_X10_product : GoodIn wsL_law (wsV RL 18 RX10 yX10_product wsX10_product) := goodIn_app (goodIn_of _ (by decide +kernel)) ggL_law_X10_product
set_option maxRecDepth 20000 in
theorem ggL_law_X11_product : GoodIn wsL_law wsX11_product := goodIn_r _ [166, 115, 141, 142, 5, 143, 144, 145, 146, 147, 148, 784, 785, 786, 787, 788, 789, 790, 791, 792, 793] (by decide +kernel) (by decide +kernel)
set_option maxRecDepth 20000 in
theorem gL_law_X11_product : GoodIn wsL_law (wsV RL 22 RX11 yX11_product wsX11_product) := goodIn_app (goodIn_of _ (by decide +kernel)) ggL_law_X11_product
set_option maxRecDepth 20000 in
theorem ggL_law_X10_as : GoodIn wsL_law wsX10_as := goodIn_r _ [170, 19, 171, 37, 172, 173, 162, 153, 154, 2, 155, 123, 124, 125, 126, 127, 128, 129, 130, 156, 157, 158, 777, 778, 779, 780, 781, 782, 783, 796, 797, 798, 799, 800, 801, 802, 803, 808, 809, 810, 811] (by decide +kernel) (by decide +kernel)
set_option maxRecDepth 20000 in
theorem gL_law_X10_as : GoodIn wsL_law (wsV RL 23 RX10 yX10_as wsX10_as) := goodIn_app (goodIn_of _ (by decide +kernel)) ggL_law_X10_as
set_option maxRecDepth 20000 in
theorem ggL_law_X11_as : GoodIn wsL_law wsX11_as := goodIn_r _ [177, 178, 179, 180, 5, 181, 115, 141, 142, 143, 144, 145, 146, 147, 148, 182, 183, 184, 185, 784, 785, 786, 787, 788, 789, 790, 791, 792, 793] (by decide +kernel) (by decide +kernel)
set_option maxRecDepth 20000 in
theorem gL_law_X11_as : GoodIn wsL_law (wsV RL 27 RX11 yX11_as wsX11_as) := goodIn_app (goodIn_of _ (by decide +kernel)) ggL_law_X11_as
set_option maxRecDepth 20000 in
theorem ggL_law_X10_rule : GoodIn wsL_law wsX10_rule := goodIn_r _ [189, 19, 15, 171, 37, 172, 173, 162, 123, 124, 2, 125, 126, 127, 128, 129, 130, 190, 14, 191, 192, 135, 134, 193, 194, 195, 196, 197, 198, 41, 199, 200, 71, 201, 72, 73, 777, 778, 779, 780, 781, 782, 783, 796, 797, 798, 799, 800, 801, 802, 803, 812, 813, 814, 815, 808, 809, 810, 811, 794, 795] (by decide +kernel) (by decide +kernel)
set_option maxRecDepth 20000 in
theorem gL_law_X10_rule : GoodIn wsL_law (wsV RL 28 RX10 yX10_rule wsX10_rule) := goodIn_app (goodIn_of _ (by decide +kernel)) ggL_law_X10_rule
set_option maxRecDepth 20000 in
theorem ggL_law_X11_rule : GoodIn wsL_law wsX11_rule := goodIn_r _ [205, 115, 140, 114, 178, 179, 180, 5, 181, 141, 142, 143, 144, 145, 146, 147, 148, 206, 207, 208, 209, 784, 785, 786, 787, 788, 789, 790, 791, 792, 793] (by decide +kernel) (by decide +kernel)
set_option maxRecDepth 20000 in
theorem gL_law_X11_rule : GoodIn wsL_law (wsV RL 31 RX11 yX11_rule wsX11_rule) := goodIn_app (goodIn_of _ (by decide +kernel)) ggL_law_X11_rule
set_option maxRecDepth 20000 in
theorem ggL_law_X10_unrule : GoodIn wsL_law wsX10_unrule := goodIn_r _ [213, 19, 214, 41, 215, 216, 201, 126, 127, 128, 2, 129, 130, 217, 218, 219, 71, 72, 73, 777, 778, 779, 780, 781, 782, 783, 796, 797, 798, 799, 800, 801, 802, 803, 812, 813, 814, 815] (by decide +kernel) (by decide +kernel)
set_option maxRecDepth 20000 in
theorem gL_law_X10_unrule : GoodIn wsL_law (wsV RL 32 RX10 yX10_unrule wsX10_unrule) := goodIn_app (goodIn_of _ (by decide +kernel)) ggL_law_X10_unrule
set_option maxRecDepth 20000 in
theorem ggL_law_X11_unrule : GoodIn wsL_law wsX11_unrule := goodIn_r _ [223, 115, 224, 225, 226, 5, 227, 144, 145, 146, 147, 148, 228, 229, 230, 231, 784, 785, 786, 787, 788, 789, 790, 791, 792, 793] (by decide +kernel) (by decide +kernel)
set_option maxRecDepth 20000 in
theorem gL_law_X11_unrule : GoodIn wsL_law (wsV RL 35 RX11 yX11_unrule wsX11_unrule) := goodIn_app (goodIn_of _ (by decide +kernel)) ggL_law_X11_unrule
set_option maxRecDepth 20000 in
theorem ggL_law_X10_fits : GoodIn wsL_law wsX10_fits := goodIn_r _ [235, 19, 214, 41, 215, 216, 201, 236, 49, 237, 238, 239, 126, 127, 128, 2, 129, 130, 240, 18, 241, 242, 42, 50, 193, 194, 777, 778, 779, 780, 781, 782, 783, 796, 797, 798, 799, 800, 801, 802, 803, 812, 813, 814, 815, 819, 820, 821, 822, 823] (by decide +kernel) (by decide +kernel)
set_option maxRecDepth 20000 in
theorem gL_law_X10_fits : GoodIn wsL_law (wsV RL 36 RX10 yX10_fits wsX10_fits) := goodIn_app (goodIn_of _ (by decide +kernel)) ggL_law_X10_fits
set_option maxRecDepth 20000 in
theorem ggL_law_X11_fits : GoodIn wsL_law wsX11_fits := goodIn_r _ [246, 224, 225, 226, 5, 227, 115, 247, 248, 249, 250, 144, 145, 146, 147, 148, 251, 252, 253, 254, 255, 256, 257, 258, 259, 260, 261, 262, 784, 785, 786, 787, 788, 789, 790, 791, 792, 793] (by decide +kernel) (by decide +kernel)
set_option maxRecDepth 20000 in
theorem gL_law_X11_fits : GoodIn wsL_law (wsV RL 39 RX11 yX11_fits wsX11_fits) := goodIn_app (goodIn_of _ (by decide +kernel)) ggL_law_X11_fits
set_option maxRecDepth 20000 in
theorem ggL_law_X10_host : GoodIn wsL_law wsX10_host := goodIn_r _ [266, 19, 123, 124, 2, 125, 126, 127, 128, 129, 130, 267, 45, 268, 269, 77, 270, 78, 777, 778, 779, 780, 781, 782, 783, 796, 797, 798, 799, 800, 801, 802, 803, 816, 817, 818] (by decide +kernel) (by decide +kernel)
set_option maxRecDepth 20000 in
theorem gL_law_X10_host : GoodIn wsL_law (wsV RL 40 RX10 yX10_host wsX10_host) := goodIn_app (goodIn_of _ (by decide +kernel)) ggL_law_X10_host
set_option maxRecDepth 20000 in
theorem ggL_law_X11_host : GoodIn wsL_law wsX11_host := goodIn_r _ [274, 115, 141, 142, 5, 143, 144, 145, 146, 147, 148, 784, 785, 786, 787, 788, 789, 790, 791, 792, 793] (by decide +kernel) (by decide +kernel)
set_option maxRecDepth 20000 in
theorem gL_law_X11_host : GoodIn wsL_law (wsV RL 43 RX11 yX11_host wsX11_host) := goodIn_app (goodIn_of _ (by decide +kernel)) ggL_law_X11_host
set_option maxRecDepth 20000 in
theorem ggL_law_X10_moved : GoodIn wsL_law wsX10_moved := goodIn_r _ [278, 19, 279, 45, 280, 281, 270, 123, 124, 2, 125, 126, 127, 128, 129, 130, 777, 778, 779, 780, 781, 782, 783, 796, 797, 798, 799, 800, 801, 802, 803, 816, 817, 818] (by decide +kernel) (by decide +kernel)
set_option maxRecDepth 20000 in
theorem gL_law_X10_moved : GoodIn wsL_law (wsV RL 44 RX10 yX10_moved wsX10_moved) := goodIn_app (goodIn_of _ (by decide +kernel)) ggL_law_X10_moved
set_option maxRecDepth 20000 in
theorem ggL_law_X11_moved : GoodIn wsL_law wsX11_moved := goodIn_r _ [285, 115, 286, 287, 288, 5, 289, 141, 142, 143, 144, 145, 146, 147, 148, 290, 291, 292, 293, 784, 785, 786, 787, 788, 789, 790, 791, 792, 793] (by decide +kernel) (by decide +kernel)
set_option maxRecDepth 20000 in
theorem gL_law_X11_moved : GoodIn wsL_law (wsV RL 47 RX11 yX11_moved wsX11_moved) := goodIn_app (goodIn_of _ (by decide +kernel)) ggL_law_X11_moved
set_option maxRecDepth 20000 in
theorem ggL_law_X10_find : GoodIn wsL_law wsX10_find := goodIn_r _ [297, 19, 15, 279, 45, 280, 281, 270, 298, 299, 2, 300, 123, 124, 125, 301, 302, 303, 126, 127, 128, 129, 130, 304, 14, 305, 306, 135, 134, 193, 194, 195, 196, 197, 307, 49, 308, 309, 82, 239, 83, 84, 85, 777, 778, 779, 780, 781, 782, 783, 796, 797, 798, 799, 800, 801, 802, 803, 819, 820, 821, 822, 823, 816, 817, 818, 794, 795] (by decide +kernel) (by decide +kernel)
set_option maxRecDepth 20000 in
theorem gL_law_X10_find : GoodIn wsL_law (wsV RL 48 RX10 yX10_find wsX10_find) := goodIn_app (goodIn_of _ (by decide +kernel)) ggL_law_X10_find
set_option maxRecDepth 20000 in
theorem ggL_law_X11_find : GoodIn wsL_law wsX11_find := goodIn_r _ [313, 115, 140, 114, 286, 287, 288, 5, 289, 141, 142, 143, 144, 145, 146, 147, 148, 206, 207, 208, 209, 784, 785, 786, 787, 788, 789, 790, 791, 792, 793] (by decide +kernel) (by decide +kernel)
set_option maxRecDepth 20000 in
theorem gL_law_X11_find : GoodIn wsL_law (wsV RL 51 RX11 yX11_find wsX11_find) := goodIn_app (goodIn_of _ (by decide +kernel)) ggL_law_X11_find
set_option maxRecDepth 20000 in
theorem ggL_law_X10_goes : GoodIn wsL_law wsX10_goes := goodIn_r _ [317, 19, 236, 49, 237, 238, 239, 126, 127, 128, 2, 129, 130, 318, 18, 319, 320, 42, 321, 322, 323, 324, 325, 240, 241, 242, 50, 193, 194, 777, 778, 779, 780, 781, 782, 783, 796, 797, 798, 799, 800, 801, 802, 803, 819, 820, 821, 822, 823, 812, 813, 814, 815] (by decide +kernel) (by decide +kernel)
set_option maxRecDepth 20000 in
theorem gL_law_X10_goes : GoodIn wsL_law (wsV RL 52 RX10 yX10_goes wsX10_goes) := goodIn_app (goodIn_of _ (by decide +kernel)) ggL_law_X10_goes
set_option maxRecDepth 20000 in
theorem ggL_law_X11_goes : GoodIn wsL_law wsX11_goes := goodIn_r _ [329, 247, 248, 249, 5, 250, 115, 144, 145, 146, 147, 148, 330, 331, 332, 333, 334, 335, 336, 337, 251, 252, 253, 254, 255, 256, 257, 258, 259, 260, 261, 262, 784, 785, 786, 787, 788, 789, 790, 791, 792, 793] (by decide +kernel) (by decide +kernel)
set_option maxRecDepth 20000 in
theorem gL_law_X11_goes : GoodIn wsL_law (wsV RL 55 RX11 yX11_goes wsX11_goes) := goodIn_app (goodIn_of _ (by decide +kernel)) ggL_law_X11_goes
set_option maxRecDepth 20000 in
theorem ggL_law_X10_by : GoodIn wsL_law wsX10_by := goodIn_r _ [341, 19, 236, 49, 237, 238, 239, 126, 127, 128, 2, 129, 130, 322, 18, 323, 324, 42, 325, 240, 241, 242, 50, 193, 194, 777, 778, 779, 780, 781, 782, 783, 796, 797, 798, 799, 800, 801, 802, 803, 819, 820, 821, 822, 823, 812, 813, 814, 815] (by decide +kernel) (by decide +kernel)
set_option maxRecDepth 20000 in
theorem gL_law_X10_by : GoodIn wsL_law (wsV RL 56 RX10 yX10_by wsX10_by) := goodIn_app (goodIn_of _ (by decide +kernel)) ggL_law_X10_by
set_option maxRecDepth 20000 in
theorem ggL_law_X11_by : GoodIn wsL_law wsX11_by := goodIn_r _ [345, 247, 248, 249, 5, 250, 115, 144, 145, 146, 147, 148, 334, 335, 336, 337, 251, 252, 253, 254, 255, 256, 257, 258, 259, 260, 261, 262, 784, 785, 786, 787, 788, 789, 790, 791, 792, 793] (by decide +kernel) (by decide +kernel)
set_option maxRecDepth 20000 in
theorem gL_law_X11_by : GoodIn wsL_law (wsV RL 59 RX11 yX11_by wsX11_by) := goodIn_app (goodIn_of _ (by decide +kernel)) ggL_law_X11_by
set_option maxRecDepth 20000 in
theorem ggL_law_X10_counts : GoodIn wsL_law wsX10_counts := goodIn_r _ [349, 19, 236, 49, 237, 238, 239, 126, 127, 128, 2, 129, 130, 350, 18, 351, 352, 353, 354, 355, 356, 50, 357, 59, 124, 125, 358, 318, 319, 320, 42, 321, 322, 323, 324, 325, 240, 241, 242, 193, 194, 777, 778, 779, 780, 781, 782, 783, 796, 797, 798, 799, 800, 801, 802, 803, 819, 820, 821, 822, 823, 812, 813, 814, 815] (by decide +kernel) (by decide +kernel)
set_option maxRecDepth 20000 in
theorem gL_law_X10_counts : GoodIn wsL_law (wsV RL 60 RX10 yX10_counts wsX10_counts) := goodIn_app (goodIn_of _ (by decide +kernel)) ggL_law_X10_counts
set_option maxRecDepth 20000 in
theorem ggL_law_X11_counts : GoodIn wsL_law wsX11_counts := goodIn_r _ [362, 247, 248, 249, 5, 250, 115, 144, 145, 146, 147, 148, 363, 364, 365, 366, 259, 260, 261, 262, 330, 331, 332, 333, 334, 335, 336, 337, 251, 252, 253, 254, 255, 256, 257, 258, 784, 785, 786, 787, 788, 789, 790, 791, 792, 793] (by decide +kernel) (by decide +kernel)
set_option maxRecDepth 20000 in
theorem gL_law_X11_counts : GoodIn wsL_law (wsV RL 63 RX11 yX11_counts wsX11_counts) := goodIn_app (goodIn_of _ (by decide +kernel)) ggL_law_X11_counts
set_option maxRecDepth 20000 in
theorem ggL_law_X10_finds : GoodIn wsL_law wsX10_finds := goodIn_r _ [370, 19, 123, 124, 2, 125, 126, 127, 128, 129, 130, 371, 18, 372, 373, 358, 318, 319, 320, 42, 321, 322, 323, 324, 325, 240, 241, 242, 50, 193, 194, 374, 350, 351, 352, 353, 354, 355, 356, 357, 59, 777, 778, 779, 780, 781, 782, 783, 796, 797, 798, 799, 800, 801, 802, 803, 819, 820, 821, 822, 823, 812, 813, 814, 815] (by decide +kernel) (by decide +kernel)
set_option maxRecDepth 20000 in
theorem gL_law_X10_finds : GoodIn wsL_law (wsV RL 64 RX10 yX10_finds wsX10_finds) := goodIn_app (goodIn_of _ (by decide +kernel)) ggL_law_X10_finds
set_option maxRecDepth 20000 in
theorem ggL_law_X11_finds : GoodIn wsL_law wsX11_finds := goodIn_r _ [378, 115, 141, 142, 5, 143, 144, 145, 146, 147, 148, 330, 331, 332, 333, 334, 335, 336, 337, 251, 252, 253, 254, 255, 256, 257, 258, 259, 260, 261, 262, 363, 364, 365, 366, 784, 785, 786, 787, 788, 789, 790, 791, 792, 793] (by decide +kernel) (by decide +kernel)
set_option maxRecDepth 20000 in
theorem gL_law_X11_finds : GoodIn wsL_law (wsV RL 67 RX11 yX11_finds wsX11_finds) := goodIn_app (goodIn_of _ (by decide +kernel)) ggL_law_X11_finds
set_option maxRecDepth 20000 in
theorem ggL_law_X10_drop : GoodIn wsL_law wsX10_drop := goodIn_r _ [382, 19, 236, 49, 237, 238, 239, 126, 127, 128, 2, 129, 130, 383, 384, 385, 82, 83, 84, 85, 777, 778, 779, 780, 781, 782, 783, 796, 797, 798, 799, 800, 801, 802, 803, 819, 820, 821, 822, 823] (by decide +kernel) (by decide +kernel)
set_option maxRecDepth 20000 in
theorem gL_law_X10_drop : GoodIn wsL_law (wsV RL 68 RX10 yX10_drop wsX10_drop) := goodIn_app (goodIn_of _ (by decide +kernel)) ggL_law_X10_drop
set_option maxRecDepth 20000 in
theorem ggL_law_X11_drop : GoodIn wsL_law wsX11_drop := goodIn_r _ [389, 115, 247, 248, 249, 5, 250, 144, 145, 146, 147, 148, 228, 229, 230, 231, 784, 785, 786, 787, 788, 789, 790, 791, 792, 793] (by decide +kernel) (by decide +kernel)
set_option maxRecDepth 20000 in
theorem gL_law_X11_drop : GoodIn wsL_law (wsV RL 71 RX11 yX11_drop wsX11_drop) := goodIn_app (goodIn_of _ (by decide +kernel)) ggL_law_X11_drop
set_option maxRecDepth 20000 in
theorem ggL_law_X10_today : GoodIn wsL_law wsX10_today := goodIn_r _ [393, 19, 298, 299, 2, 300, 123, 124, 125, 126, 127, 128, 129, 130, 777, 778, 779, 780, 781, 782, 783, 796, 797, 798, 799, 800, 801, 802, 803] (by decide +kernel) (by decide +kernel)
set_option maxRecDepth 20000 in
theorem gL_law_X10_today : GoodIn wsL_law (wsV RL 72 RX10 yX10_today wsX10_today) := goodIn_app (goodIn_of _ (by decide +kernel)) ggL_law_X10_today
set_option maxRecDepth 20000 in
theorem ggL_law_X11_today : GoodIn wsL_law wsX11_today := goodIn_r _ [397, 115, 141, 142, 5, 143, 144, 145, 146, 147, 148, 784, 785, 786, 787, 788, 789, 790, 791, 792, 793] (by decide +kernel) (by decide +kernel)
set_option maxRecDepth 20000 in
theorem gL_law_X11_today : GoodIn wsL_law (wsV RL 75 RX11 yX11_today wsX11_today) := goodIn_app (goodIn_of _ (by decide +kernel)) ggL_law_X11_today
set_option maxRecDepth 20000 in
theorem ggL_law_X10_kept : GoodIn wsL_law wsX10_kept := goodIn_r _ [401, 19, 123, 124, 2, 125, 126, 127, 128, 129, 130, 777, 778, 779, 780, 781, 782, 783, 796, 797, 798, 799, 800, 801, 802, 803] (by decide +kernel) (by decide +kernel)
set_option maxRecDepth 20000 in
theorem gL_law_X10_kept : GoodIn wsL_law (wsV RL 76 RX10 yX10_kept wsX10_kept) := goodIn_app (goodIn_of _ (by decide +kernel)) ggL_law_X10_kept
set_option maxRecDepth 20000 in
theorem ggL_law_X11_kept : GoodIn wsL_law wsX11_kept := goodIn_r _ [405, 115, 141, 142, 5, 143, 144, 145, 146, 147, 148, 784, 785, 786, 787, 788, 789, 790, 791, 792, 793] (by decide +kernel) (by decide +kernel)
set_option maxRecDepth 20000 in
theorem gL_law_X11_kept : GoodIn wsL_law (wsV RL 79 RX11 yX11_kept wsX11_kept) := goodIn_app (goodIn_of _ (by decide +kernel)) ggL_law_X11_kept
set_option maxRecDepth 20000 in
theorem ggL_law_X10_has : GoodIn wsL_law wsX10_has := goodIn_r _ [409, 19, 24, 279, 45, 280, 281, 270, 171, 37, 172, 173, 162, 126, 127, 128, 2, 129, 130, 410, 23, 411, 412, 105, 413, 414, 415, 416, 354, 18, 355, 356, 50, 357, 59, 124, 125, 318, 319, 320, 42, 321, 322, 323, 324, 325, 240, 241, 242, 193, 194, 417, 418, 419, 420, 421, 422, 423, 424, 425, 426, 427, 428, 429, 430, 431, 432, 433, 434, 64, 157, 158, 435, 436, 437, 438, 439, 440, 441, 442, 443, 444, 445, 446, 447, 448, 449, 450, 451, 452, 453, 777, 778, 779, 780, 781, 782, 783, 796, 797, 798, 799, 800, 801, 802, 803, 816, 817, 818, 808, 809, 810, 811, 804, 819, 820, 821, 822, 823, 812, 813, 814, 815] (by decide +kernel) (by decide +kernel)
set_option maxRecDepth 20000 in
theorem gL_law_X10_has : GoodIn wsL_law (wsV RL 80 RX10 yX10_has wsX10_has) := goodIn_app (goodIn_of _ (by decide +kernel)) ggL_law_X10_has
set_option maxRecDepth 20000 in
theorem ggL_law_X11_has : GoodIn wsL_law wsX11_has := goodIn_r _ [457, 117, 286, 287, 288, 5, 289, 115, 178, 179, 180, 181, 144, 145, 146, 147, 148, 458, 459, 460, 461, 363, 364, 365, 366, 259, 260, 261, 262, 330, 331, 332, 333, 334, 335, 336, 337, 251, 252, 253, 254, 255, 256, 257, 258, 182, 183, 184, 185, 462, 463, 464, 465, 466, 467, 468, 469, 784, 785, 786, 787, 788, 789, 790, 791, 792, 793] (by decide +kernel) (by decide +kernel)
set_option maxRecDepth 20000 in
theorem gL_law_X11_has : GoodIn wsL_law (wsV RL 83 RX11 yX11_has wsX11_has) := goodIn_app (goodIn_of _ (by decide +kernel)) ggL_law_X11_has
set_option maxRecDepth 20000 in
theorem ggL_law_X10_measure : GoodIn wsL_law wsX10_measure := goodIn_r _ [473, 19, 24, 171, 37, 172, 173, 162, 474, 475, 2, 476, 123, 124, 125, 126, 127, 128, 129, 130, 410, 23, 411, 412, 105, 413, 414, 415, 416, 354, 18, 355, 356, 50, 357, 59, 318, 319, 320, 42, 321, 322, 323, 324, 325, 240, 241, 242, 193, 194, 417, 418, 419, 420, 421, 422, 423, 424, 425, 426, 427, 428, 429, 430, 431, 432, 433, 434, 64, 157, 158, 435, 436, 437, 438, 439, 440, 441, 442, 443, 444, 445, 446, 447, 448, 449, 450, 451, 452, 453, 477, 478, 479, 480, 481, 482, 483, 484, 485, 486, 487, 488, 489, 490, 53, 491, 492, 493, 494, 495, 496, 497, 90, 91, 498, 499, 500, 501, 92, 777, 778, 779, 780, 781, 782, 783, 796, 797, 798, 799, 800, 801, 802, 803, 808, 809, 810, 811, 804, 819, 820, 821, 822, 823, 816, 817, 818, 812, 813, 814, 815, 824, 825, 826, 827, 828] (by decide +kernel) (by decide +kernel)
set_option maxRecDepth 20000 in
theorem gL_law_X10_measure : GoodIn wsL_law (wsV RL 84 RX10 yX10_measure wsX10_measure) := goodIn_app (goodIn_of _ (by decide +kernel)) ggL_law_X10_measure
set_option maxRecDepth 20000 in
theorem ggL_law_X11_measure : GoodIn wsL_law wsX11_measure := goodIn_r _ [505, 178, 179, 180, 5, 181, 115, 141, 142, 143, 144, 145, 146, 147, 148, 458, 459, 460, 461, 117, 363, 364, 365, 366, 259, 260, 261, 262, 330, 331, 332, 333, 334, 335, 336, 337, 251, 252, 253, 254, 255, 256, 257, 258, 182, 183, 184, 185, 462, 463, 464, 465, 466, 467, 468, 469, 506, 507, 508, 509, 290, 291, 292, 293, 510, 511, 512, 513, 514, 515, 516, 517, 518, 519, 520, 521, 784, 785, 786, 787, 788, 789, 790, 791, 792, 793] (by decide +kernel) (by decide +kernel)
set_option maxRecDepth 20000 in
theorem gL_law_X11_measure : GoodIn wsL_law (wsV RL 87 RX11 yX11_measure wsX11_measure) := goodIn_app (goodIn_of _ (by decide +kernel)) ggL_law_X11_measure
set_option maxRecDepth 20000 in
theorem ggL_law_X10_all : GoodIn wsL_law wsX10_all := goodIn_r _ [525, 24, 19, 474, 475, 2, 476, 123, 124, 125, 126, 127, 128, 129, 130, 410, 23, 411, 412, 105, 413, 414, 415, 416, 354, 18, 355, 356, 50, 357, 59, 318, 319, 320, 42, 321, 322, 323, 324, 325, 240, 241, 242, 193, 194, 417, 418, 419, 420, 421, 422, 423, 424, 425, 426, 427, 428, 429, 430, 431, 432, 37, 433, 434, 64, 157, 158, 435, 436, 437, 438, 439, 440, 441, 442, 443, 444, 445, 446, 447, 448, 449, 450, 451, 452, 453, 477, 478, 479, 480, 481, 482, 483, 484, 485, 486, 487, 488, 489, 490, 53, 491, 492, 493, 494, 495, 496, 497, 90, 91, 498, 499, 500, 501, 92, 777, 778, 779, 780, 781, 782, 783, 796, 797, 798, 799, 800, 801, 802, 803, 808, 809, 810, 811, 804, 819, 820, 821, 822, 823, 816, 817, 818, 812, 813, 814, 815, 824, 825, 826, 827, 828] (by decide +kernel) (by decide +kernel)
set_option maxRecDepth 20000 in
theorem gL_law_X10_all : GoodIn wsL_law (wsV RL 88 RX10 yX10_all wsX10_all) := goodIn_app (goodIn_of _ (by decide +kernel)) ggL_law_X10_all
set_option maxRecDepth 20000 in
theorem ggL_law_X11_all : GoodIn wsL_law wsX11_all := goodIn_r _ [529, 115, 141, 142, 5, 143, 144, 145, 146, 147, 148, 458, 459, 460, 461, 117, 363, 364, 365, 366, 259, 260, 261, 262, 330, 331, 332, 333, 334, 335, 336, 337, 251, 252, 253, 254, 255, 256, 257, 258, 182, 183, 184, 185, 462, 463, 464, 465, 466, 467, 468, 469, 506, 507, 508, 509, 290, 291, 292, 293, 510, 511, 512, 513, 514, 515, 516, 517, 518, 519, 520, 521, 784, 785, 786, 787, 788, 789, 790, 791, 792, 793] (by decide +kernel) (by decide +kernel)
set_option maxRecDepth 20000 in
theorem gL_law_X11_all : GoodIn wsL_law (wsV RL 91 RX11 yX11_all wsX11_all) := goodIn_app (goodIn_of _ (by decide +kernel)) ggL_law_X11_all
set_option maxRecDepth 20000 in
theorem ggL_law_X10_use : GoodIn wsL_law wsX10_use := goodIn_r _ [533, 19, 534, 535, 2, 536, 123, 124, 125, 171, 37, 172, 173, 162, 126, 127, 128, 129, 130, 537, 53, 538, 539, 89, 497, 90, 91, 92, 777, 778, 779, 780, 781, 782, 783, 796, 797, 798, 799, 800, 801, 802, 803, 824, 825, 826, 827, 828, 808, 809, 810, 811] (by decide +kernel) (by decide +kernel)
set_option maxRecDepth 20000 in
theorem gL_law_X10_use : GoodIn wsL_law (wsV RL 92 RX10 yX10_use wsX10_use) := goodIn_app (goodIn_of _ (by decide +kernel)) ggL_law_X10_use
set_option maxRecDepth 20000 in
theorem ggL_law_X11_use : GoodIn wsL_law wsX11_use := goodIn_r _ [543, 115, 141, 142, 5, 143, 178, 179, 180, 181, 144, 145, 146, 147, 148, 784, 785, 786, 787, 788, 789, 790, 791, 792, 793] (by decide +kernel) (by decide +kernel)
set_option maxRecDepth 20000 in
theorem gL_law_X11_use : GoodIn wsL_law (wsV RL 96 RX11 yX11_use wsX11_use) := goodIn_app (goodIn_of _ (by decide +kernel)) ggL_law_X11_use
set_option maxRecDepth 20000 in
theorem ggL_law_X10_at : GoodIn wsL_law wsX10_at := goodIn_r _ [547, 19, 171, 37, 172, 173, 162, 534, 535, 2, 536, 123, 124, 125, 126, 127, 128, 129, 130, 499, 53, 500, 501, 497, 90, 91, 92, 777, 778, 779, 780, 781, 782, 783, 796, 797, 798, 799, 800, 801, 802, 803, 808, 809, 810, 811, 824, 825, 826, 827, 828] (by decide +kernel) (by decide +kernel)
set_option maxRecDepth 20000 in
theorem gL_law_X10_at : GoodIn wsL_law (wsV RL 97 RX10 yX10_at wsX10_at) := goodIn_app (goodIn_of _ (by decide +kernel)) ggL_law_X10_at
set_option maxRecDepth 20000 in
theorem ggL_law_X11_at : GoodIn wsL_law wsX11_at := goodIn_r _ [551, 178, 179, 180, 5, 181, 115, 141, 142, 143, 514, 515, 516, 517, 518, 519, 520, 521, 144, 145, 146, 147, 148, 784, 785, 786, 787, 788, 789, 790, 791, 792, 793] (by decide +kernel) (by decide +kernel)
set_option maxRecDepth 20000 in
theorem gL_law_X11_at : GoodIn wsL_law (wsV RL 100 RX11 yX11_at wsX11_at) := goodIn_app (goodIn_of _ (by decide +kernel)) ggL_law_X11_at
set_option maxRecDepth 20000 in
theorem ggL_law_X10_peak : GoodIn wsL_law wsX10_peak := goodIn_r _ [555, 19, 171, 37, 172, 173, 162, 126, 127, 128, 2, 129, 130, 494, 53, 495, 496, 497, 90, 91, 498, 499, 500, 501, 92, 777, 778, 779, 780, 781, 782, 783, 796, 797, 798, 799, 800, 801, 802, 803, 808, 809, 810, 811, 824, 825, 826, 827, 828] (by decide +kernel) (by decide +kernel)
set_option maxRecDepth 20000 in
theorem gL_law_X10_peak : GoodIn wsL_law (wsV RL 101 RX10 yX10_peak wsX10_peak) := goodIn_app (goodIn_of _ (by decide +kernel)) ggL_law_X10_peak
set_option maxRecDepth 20000 in
theorem ggL_law_X11_peak : GoodIn wsL_law wsX11_peak := goodIn_r _ [559, 178, 179, 180, 5, 181, 115, 144, 145, 146, 147, 148, 510, 511, 512, 513, 514, 515, 516, 517, 518, 519, 520, 521, 784, 785, 786, 787, 788, 789, 790, 791, 792, 793] (by decide +kernel) (by decide +kernel)
set_option maxRecDepth 20000 in
theorem gL_law_X11_peak : GoodIn wsL_law (wsV RL 104 RX11 yX11_peak wsX11_peak) := goodIn_app (goodIn_of _ (by decide +kernel)) ggL_law_X11_peak
set_option maxRecDepth 20000 in
theorem ggL_law_X10_right : GoodIn wsL_law wsX10_right := goodIn_r _ [563, 19, 298, 299, 2, 300, 123, 124, 125, 171, 37, 172, 173, 162, 301, 302, 303, 126, 127, 128, 129, 130, 564, 57, 565, 566, 96, 567, 97, 98, 99, 100, 101, 777, 778, 779, 780, 781, 782, 783, 796, 797, 798, 799, 800, 801, 802, 803, 829, 830, 831, 832, 833, 834, 835, 808, 809, 810, 811] (by decide +kernel) (by decide +kernel)
set_option maxRecDepth 20000 in
theorem gL_law_X10_right : GoodIn wsL_law (wsV RL 105 RX10 yX10_right wsX10_right) := goodIn_app (goodIn_of _ (by decide +kernel)) ggL_law_X10_right
set_option maxRecDepth 20000 in
theorem ggL_law_X11_right : GoodIn wsL_law wsX11_right := goodIn_r _ [571, 115, 178, 179, 180, 5, 181, 141, 142, 143, 144, 145, 146, 147, 148, 784, 785, 786, 787, 788, 789, 790, 791, 792, 793] (by decide +kernel) (by decide +kernel)
set_option maxRecDepth 20000 in
theorem gL_law_X11_right : GoodIn wsL_law (wsV RL 109 RX11 yX11_right wsX11_right) := goodIn_app (goodIn_of _ (by decide +kernel)) ggL_law_X11_right
set_option maxRecDepth 20000 in
theorem ggL_law_X10_amount : GoodIn wsL_law wsX10_amount := goodIn_r _ [575, 19, 576, 57, 577, 578, 567, 123, 124, 2, 125, 126, 127, 128, 129, 130, 777, 778, 779, 780, 781, 782, 783, 796, 797, 798, 799, 800, 801, 802, 803, 829, 830, 831, 832, 833, 834, 835] (by decide +kernel) (by decide +kernel)
set_option maxRecDepth 20000 in
theorem gL_law_X10_amount : GoodIn wsL_law (wsV RL 110 RX10 yX10_amount wsX10_amount) := goodIn_app (goodIn_of _ (by decide +kernel)) ggL_law_X10_amount
set_option maxRecDepth 20000 in
theorem ggL_law_X11_amount : GoodIn wsL_law wsX11_amount := goodIn_r _ [582, 115, 583, 584, 585, 5, 586, 141, 142, 143, 144, 145, 146, 147, 148, 587, 588, 589, 590, 784, 785, 786, 787, 788, 789, 790, 791, 792, 793] (by decide +kernel) (by decide +kernel)
set_option maxRecDepth 20000 in
theorem gL_law_X11_amount : GoodIn wsL_law (wsV RL 113 RX11 yX11_amount wsX11_amount) := goodIn_app (goodIn_of _ (by decide +kernel)) ggL_law_X11_amount
set_option maxRecDepth 20000 in
theorem ggL_law_X10_may : GoodIn wsL_law wsX10_may := goodIn_r _ [594, 19, 24, 576, 57, 577, 578, 567, 279, 45, 280, 281, 270, 126, 127, 128, 2, 129, 130, 410, 23, 411, 412, 105, 413, 414, 415, 416, 354, 18, 355, 356, 50, 357, 59, 124, 125, 318, 319, 320, 42, 321, 322, 323, 324, 325, 240, 241, 242, 193, 194, 417, 418, 419, 420, 421, 422, 423, 424, 425, 426, 427, 428, 429, 430, 431, 432, 37, 433, 434, 64, 157, 158, 435, 436, 437, 438, 439, 440, 441, 442, 443, 444, 445, 446, 447, 448, 449, 450, 451, 452, 453, 595, 596, 597, 598, 599, 600, 97, 100, 101, 777, 778, 779, 780, 781, 782, 783, 796, 797, 798, 799, 800, 801, 802, 803, 829, 830, 831, 832, 833, 834, 835, 816, 817, 818, 804, 819, 820, 821, 822, 823, 812, 813, 814, 815, 808, 809, 810, 811] (by decide +kernel) (by decide +kernel)
set_option maxRecDepth 20000 in
theorem gL_law_X10_may : GoodIn wsL_law (wsV RL 114 RX10 yX10_may wsX10_may) := goodIn_app (goodIn_of _ (by decide +kernel)) ggL_law_X10_may
set_option maxRecDepth 20000 in
theorem ggL_law_X11_may : GoodIn wsL_law wsX11_may := goodIn_r _ [604, 117, 115, 583, 584, 585, 5, 586, 286, 287, 288, 289, 144, 145, 146, 147, 148, 458, 459, 460, 461, 363, 364, 365, 366, 259, 260, 261, 262, 330, 331, 332, 333, 334, 335, 336, 337, 251, 252, 253, 254, 255, 256, 257, 258, 182, 183, 184, 185, 462, 463, 464, 465, 466, 467, 468, 469, 587, 588, 589, 590, 605, 606, 607, 608, 784, 785, 786, 787, 788, 789, 790, 791, 792, 793] (by decide +kernel) (by decide +kernel)
set_option maxRecDepth 20000 in
theorem gL_law_X11_may : GoodIn wsL_law (wsV RL 117 RX11 yX11_may wsX11_may) := goodIn_app (goodIn_of _ (by decide +kernel)) ggL_law_X11_may
set_option maxRecDepth 20000 in
theorem ggL_law_X10_needs : GoodIn wsL_law wsX10_needs := goodIn_r _ [612, 24, 19, 410, 23, 411, 412, 105, 413, 414, 415, 416, 354, 18, 355, 356, 50, 357, 59, 124, 2, 125, 318, 319, 320, 42, 321, 322, 323, 324, 325, 240, 241, 242, 193, 194, 417, 418, 419, 420, 421, 422, 423, 424, 425, 426, 427, 428, 429, 430, 431, 432, 37, 433, 434, 64, 157, 158, 435, 436, 437, 438, 439, 440, 441, 442, 443, 444, 445, 446, 447, 448, 449, 450, 451, 452, 453, 595, 596, 597, 477, 478, 479, 480, 481, 482, 483, 484, 485, 486, 487, 488, 489, 490, 53, 491, 492, 493, 494, 495, 496, 497, 90, 91, 498, 499, 500, 501, 92, 777, 778, 779, 780, 781, 782, 783, 796, 797, 798, 799, 800, 801, 802, 803, 808, 809, 810, 811, 804, 819, 820, 821, 822, 823, 816, 817, 818, 812, 813, 814, 815, 824, 825, 826, 827, 828] (by decide +kernel) (by decide +kernel)
set_option maxRecDepth 20000 in
theorem gL_law_X10_needs : GoodIn wsL_law (wsV RL 118 RX10 yX10_needs wsX10_needs) := goodIn_app (goodIn_of _ (by decide +kernel)) ggL_law_X10_needs
set_option maxRecDepth 20000 in
theorem ggL_law_X11_needs : GoodIn wsL_law wsX11_needs := goodIn_r _ [616, 115, 458, 459, 460, 5, 461, 117, 363, 364, 365, 366, 259, 260, 261, 262, 330, 331, 332, 333, 334, 335, 336, 337, 251, 252, 253, 254, 255, 256, 257, 258, 182, 183, 184, 185, 462, 463, 464, 465, 466, 467, 468, 469, 617, 618, 619, 620, 784, 785, 786, 787, 788, 789, 790, 791, 792, 793] (by decide +kernel) (by decide +kernel)
set_option maxRecDepth 20000 in
theorem gL_law_X11_needs : GoodIn wsL_law (wsV RL 122 RX11 yX11_needs wsX11_needs) := goodIn_app (goodIn_of _ (by decide +kernel)) ggL_law_X11_needs
set_option maxRecDepth 20000 in
theorem ggL_law_X10_lack : GoodIn wsL_law wsX10_lack := goodIn_r _ [624, 24, 19, 410, 23, 411, 412, 105, 413, 414, 415, 416, 354, 18, 355, 356, 50, 357, 59, 124, 2, 125, 318, 319, 320, 42, 321, 322, 323, 324, 325, 240, 241, 242, 193, 194, 417, 418, 419, 420, 421, 422, 423, 424, 425, 426, 427, 428, 429, 430, 431, 432, 37, 433, 434, 64, 157, 158, 435, 436, 437, 438, 439, 440, 441, 442, 443, 444, 445, 446, 447, 448, 449, 450, 451, 452, 453, 625, 626, 627, 628, 28, 629, 27, 630, 631, 632, 633, 109, 634, 635, 636, 637, 638, 639, 640, 595, 596, 597, 641, 642, 643, 644, 645, 646, 647, 648, 777, 778, 779, 780, 781, 782, 783, 796, 797, 798, 799, 800, 801, 802, 803, 804, 819, 820, 821, 822, 823, 816, 817, 818, 812, 813, 814, 815, 808, 809, 810, 811, 805, 806, 807, 829, 830, 831, 832, 833, 834, 835] (by decide +kernel) (by decide +kernel)
set_option maxRecDepth 20000 in
theorem gL_law_X10_lack : GoodIn wsL_law (wsV RL 123 RX10 yX10_lack wsX10_lack) := goodIn_app (goodIn_of _ (by decide +kernel)) ggL_law_X10_lack
set_option maxRecDepth 20000 in
theorem ggL_law_X11_lack : GoodIn wsL_law wsX11_lack := goodIn_r _ [652, 115, 458, 459, 460, 5, 461, 117, 363, 364, 365, 366, 259, 260, 261, 262, 330, 331, 332, 333, 334, 335, 336, 337, 251, 252, 253, 254, 255, 256, 257, 258, 182, 183, 184, 185, 462, 463, 464, 465, 466, 467, 468, 469, 653, 654, 655, 656, 657, 658, 659, 660, 661, 118, 662, 587, 588, 589, 590, 605, 606, 607, 608, 663, 664, 665, 666, 617, 618, 619, 620, 784, 785, 786, 787, 788, 789, 790, 791, 792, 793] (by decide +kernel) (by decide +kernel)
set_option maxRecDepth 20000 in
theorem gL_law_X11_lack : GoodIn wsL_law (wsV RL 126 RX11 yX11_lack wsX11_lack) := goodIn_app (goodIn_of _ (by decide +kernel)) ggL_law_X11_lack
set_option maxRecDepth 20000 in
theorem ggL_law_X10_cost : GoodIn wsL_law wsX10_cost := goodIn_r _ [670, 24, 19, 28, 410, 23, 411, 412, 105, 413, 414, 415, 416, 354, 18, 355, 356, 50, 357, 59, 124, 2, 125, 318, 319, 320, 42, 321, 322, 323, 324, 325, 240, 241, 242, 193, 194, 417, 418, 419, 420, 421, 422, 423, 424, 425, 426, 427, 428, 429, 430, 431, 432, 37, 433, 434, 64, 157, 158, 435, 436, 437, 438, 439, 440, 441, 442, 443, 444, 445, 446, 447, 448, 449, 450, 451, 452, 453, 629, 27, 630, 631, 632, 633, 109, 634, 635, 636, 637, 638, 639, 640, 595, 596, 597, 641, 642, 643, 644, 645, 646, 647, 648, 777, 778, 779, 780, 781, 782, 783, 796, 797, 798, 799, 800, 801, 802, 803, 805, 806, 807, 804, 819, 820, 821, 822, 823, 816, 817, 818, 812, 813, 814, 815, 808, 809, 810, 811, 829, 830, 831, 832, 833, 834, 835] (by decide +kernel) (by decide +kernel)
set_option maxRecDepth 20000 in
theorem gL_law_X10_cost : GoodIn wsL_law (wsV RL 127 RX10 yX10_cost wsX10_cost) := goodIn_app (goodIn_of _ (by decide +kernel)) ggL_law_X10_cost
set_option maxRecDepth 20000 in
theorem ggL_law_X11_cost : GoodIn wsL_law wsX11_cost := goodIn_r _ [674, 115, 662, 458, 459, 460, 5, 461, 117, 363, 364, 365, 366, 259, 260, 261, 262, 330, 331, 332, 333, 334, 335, 336, 337, 251, 252, 253, 254, 255, 256, 257, 258, 182, 183, 184, 185, 462, 463, 464, 465, 466, 467, 468, 469, 658, 659, 660, 661, 118, 657, 587, 588, 589, 590, 605, 606, 607, 608, 663, 664, 665, 666, 617, 618, 619, 620, 784, 785, 786, 787, 788, 789, 790, 791, 792, 793] (by decide +kernel) (by decide +kernel)
set_option maxRecDepth 20000 in
theorem gL_law_X11_cost : GoodIn wsL_law (wsV RL 130 RX11 yX11_cost wsX11_cost) := goodIn_app (goodIn_of _ (by decide +kernel)) ggL_law_X11_cost
set_option maxRecDepth 20000 in
theorem ggL_law_X10_of : GoodIn wsL_law wsX10_of := goodIn_r _ [678, 19, 24, 28, 171, 37, 172, 173, 162, 126, 127, 128, 2, 129, 130, 410, 23, 411, 412, 105, 413, 414, 415, 416, 354, 18, 355, 356, 50, 357, 59, 124, 125, 318, 319, 320, 42, 321, 322, 323, 324, 325, 240, 241, 242, 193, 194, 417, 418, 419, 420, 421, 422, 423, 424, 425, 426, 427, 428, 429, 430, 431, 432, 433, 434, 64, 157, 158, 435, 436, 437, 438, 439, 440, 441, 442, 443, 444, 445, 446, 447, 448, 449, 450, 451, 452, 453, 629, 27, 630, 631, 632, 633, 109, 638, 639, 640, 595, 596, 597, 641, 642, 643, 644, 645, 646, 647, 648, 777, 778, 779, 780, 781, 782, 783, 796, 797, 798, 799, 800, 801, 802, 803, 805, 806, 807, 808, 809, 810, 811, 804, 819, 820, 821, 822, 823, 816, 817, 818, 812, 813, 814, 815, 829, 830, 831, 832, 833, 834, 835] (by decide +kernel) (by decide +kernel)
set_option maxRecDepth 20000 in
theorem gL_law_X10_of : GoodIn wsL_law (wsV RL 131 RX10 yX10_of wsX10_of) := goodIn_app (goodIn_of _ (by decide +kernel)) ggL_law_X10_of
set_option maxRecDepth 20000 in
theorem ggL_law_X11_of : GoodIn wsL_law wsX11_of := goodIn_r _ [682, 115, 662, 657, 178, 179, 180, 5, 181, 144, 145, 146, 147, 148, 458, 459, 460, 461, 117, 363, 364, 365, 366, 259, 260, 261, 262, 330, 331, 332, 333, 334, 335, 336, 337, 251, 252, 253, 254, 255, 256, 257, 258, 182, 183, 184, 185, 462, 463, 464, 465, 466, 467, 468, 469, 658, 659, 660, 661, 118, 587, 588, 589, 590, 605, 606, 607, 608, 663, 664, 665, 666, 617, 618, 619, 620, 784, 785, 786, 787, 788, 789, 790, 791, 792, 793] (by decide +kernel) (by decide +kernel)
set_option maxRecDepth 20000 in
theorem gL_law_X11_of : GoodIn wsL_law (wsV RL 135 RX11 yX11_of wsX11_of) := goodIn_app (goodIn_of _ (by decide +kernel)) ggL_law_X11_of
set_option maxRecDepth 20000 in
theorem ggL_law_X10_without : GoodIn wsL_law wsX10_without := goodIn_r _ [686, 19, 24, 28, 576, 57, 577, 578, 567, 126, 127, 128, 2, 129, 130, 410, 23, 411, 412, 105, 413, 414, 415, 416, 354, 18, 355, 356, 50, 357, 59, 124, 125, 318, 319, 320, 42, 321, 322, 323, 324, 325, 240, 241, 242, 193, 194, 417, 418, 419, 420, 421, 422, 423, 424, 425, 426, 427, 428, 429, 430, 431, 432, 37, 433, 434, 64, 157, 158, 435, 436, 437, 438, 439, 440, 441, 442, 443, 444, 445, 446, 447, 448, 449, 450, 451, 452, 453, 629, 27, 630, 631, 632, 633, 109, 687, 688, 689, 634, 635, 636, 637, 638, 639, 640, 595, 596, 597, 641, 642, 643, 644, 645, 646, 647, 648, 777, 778, 779, 780, 781, 782, 783, 796, 797, 798, 799, 800, 801, 802, 803, 805, 806, 807, 829, 830, 831, 832, 833, 834, 835, 804, 819, 820, 821, 822, 823, 816, 817, 818, 812, 813, 814, 815, 808, 809, 810, 811] (by decide +kernel) (by decide +kernel)
set_option maxRecDepth 20000 in
theorem gL_law_X10_without : GoodIn wsL_law (wsV RL 136 RX10 yX10_without wsX10_without) := goodIn_app (goodIn_of _ (by decide +kernel)) ggL_law_X10_without
set_option maxRecDepth 20000 in
theorem ggL_law_X11_without : GoodIn wsL_law wsX11_without := goodIn_r _ [693, 115, 583, 584, 585, 5, 586, 144, 145, 146, 147, 148, 458, 459, 460, 461, 117, 363, 364, 365, 366, 259, 260, 261, 262, 330, 331, 332, 333, 334, 335, 336, 337, 251, 252, 253, 254, 255, 256, 257, 258, 182, 183, 184, 185, 462, 463, 464, 465, 466, 467, 468, 469, 653, 654, 655, 656, 657, 658, 659, 660, 661, 118, 662, 587, 588, 589, 590, 605, 606, 607, 608, 663, 664, 665, 666, 617, 618, 619, 620, 784, 785, 786, 787, 788, 789, 790, 791, 792, 793] (by decide +kernel) (by decide +kernel)
set_option maxRecDepth 20000 in
theorem gL_law_X11_without : GoodIn wsL_law (wsV RL 139 RX11 yX11_without wsX11_without) := goodIn_app (goodIn_of _ (by decide +kernel)) ggL_law_X11_without
set_option maxRecDepth 20000 in
theorem ggL_law_X10_spared : GoodIn wsL_law wsX10_spared := goodIn_r _ [697, 19, 24, 279, 45, 280, 281, 270, 126, 127, 128, 2, 129, 130, 410, 23, 411, 412, 105, 413, 414, 415, 416, 354, 18, 355, 356, 50, 357, 59, 124, 125, 318, 319, 320, 42, 321, 322, 323, 324, 325, 240, 241, 242, 193, 194, 417, 418, 419, 420, 421, 422, 423, 424, 425, 426, 427, 428, 429, 430, 431, 432, 37, 433, 434, 64, 157, 158, 435, 436, 437, 438, 439, 440, 441, 442, 443, 444, 445, 446, 447, 448, 449, 450, 451, 452, 453, 698, 699, 700, 625, 626, 627, 628, 28, 629, 27, 630, 631, 632, 633, 109, 634, 635, 636, 637, 638, 639, 640, 595, 596, 597, 641, 642, 643, 644, 645, 646, 647, 648, 777, 778, 779, 780, 781, 782, 783, 796, 797, 798, 799, 800, 801, 802, 803, 816, 817, 818, 804, 819, 820, 821, 822, 823, 812, 813, 814, 815, 808, 809, 810, 811, 805, 806, 807, 829, 830, 831, 832, 833, 834, 835] (by decide +kernel) (by decide +kernel)
set_option maxRecDepth 20000 in
theorem gL_law_X10_spared : GoodIn wsL_law (wsV RL 140 RX10 yX10_spared wsX10_spared) := goodIn_app (goodIn_of _ (by decide +kernel)) ggL_law_X10_spared
set_option maxRecDepth 20000 in
theorem ggL_law_X11_spared : GoodIn wsL_law wsX11_spared := goodIn_r _ [704, 115, 286, 287, 288, 5, 289, 144, 145, 146, 147, 148, 458, 459, 460, 461, 117, 363, 364, 365, 366, 259, 260, 261, 262, 330, 331, 332, 333, 334, 335, 336, 337, 251, 252, 253, 254, 255, 256, 257, 258, 182, 183, 184, 185, 462, 463, 464, 465, 466, 467, 468, 469, 653, 654, 655, 656, 657, 658, 659, 660, 661, 118, 662, 587, 588, 589, 590, 605, 606, 607, 608, 663, 664, 665, 666, 617, 618, 619, 620, 784, 785, 786, 787, 788, 789, 790, 791, 792, 793] (by decide +kernel) (by decide +kernel)
set_option maxRecDepth 20000 in
theorem gL_law_X11_spared : GoodIn wsL_law (wsV RL 143 RX11 yX11_spared wsX11_spared) := goodIn_app (goodIn_of _ (by decide +kernel)) ggL_law_X11_spared
set_option maxRecDepth 20000 in
theorem ggL_law_X10_when : GoodIn wsL_law wsX10_when := goodIn_r _ [708, 24, 19, 123, 124, 2, 125, 126, 127, 128, 129, 130, 410, 23, 411, 412, 105, 413, 414, 415, 416, 354, 18, 355, 356, 50, 357, 59, 318, 319, 320, 42, 321, 322, 323, 324, 325, 240, 241, 242, 193, 194, 417, 418, 419, 420, 421, 422, 423, 424, 425, 426, 427, 428, 429, 430, 431, 432, 37, 433, 434, 64, 157, 158, 435, 436, 437, 438, 439, 440, 441, 442, 443, 444, 445, 446, 447, 448, 449, 450, 451, 452, 453, 709, 710, 711, 712, 625, 626, 627, 628, 28, 629, 27, 630, 631, 632, 633, 109, 634, 635, 636, 637, 638, 639, 640, 595, 596, 597, 641, 642, 643, 644, 645, 646, 647, 648, 777, 778, 779, 780, 781, 782, 783, 804, 796, 797, 798, 799, 800, 801, 802, 803, 819, 820, 821, 822, 823, 816, 817, 818, 812, 813, 814, 815, 808, 809, 810, 811, 829, 830, 831, 832, 833, 834, 835, 805, 806, 807] (by decide +kernel) (by decide +kernel)
set_option maxRecDepth 20000 in
theorem gL_law_X10_when : GoodIn wsL_law (wsV RL 144 RX10 yX10_when wsX10_when) := goodIn_app (goodIn_of _ (by decide +kernel)) ggL_law_X10_when
set_option maxRecDepth 20000 in
theorem ggL_law_X11_when : GoodIn wsL_law wsX11_when := goodIn_r _ [716, 115, 141, 142, 5, 143, 144, 145, 146, 147, 148, 458, 459, 460, 461, 117, 363, 364, 365, 366, 259, 260, 261, 262, 330, 331, 332, 333, 334, 335, 336, 337, 251, 252, 253, 254, 255, 256, 257, 258, 182, 183, 184, 185, 462, 463, 464, 465, 466, 467, 468, 469, 653, 654, 655, 656, 657, 658, 659, 660, 661, 118, 662, 587, 588, 589, 590, 605, 606, 607, 608, 663, 664, 665, 666, 617, 618, 619, 620, 717, 718, 719, 720, 784, 785, 786, 787, 788, 789, 790, 791, 792, 793] (by decide +kernel) (by decide +kernel)
set_option maxRecDepth 20000 in
theorem gL_law_X11_when : GoodIn wsL_law (wsV RL 147 RX11 yX11_when wsX11_when) := goodIn_app (goodIn_of _ (by decide +kernel)) ggL_law_X11_when
set_option maxRecDepth 20000 in
theorem ggL_law_X10_keep : GoodIn wsL_law wsX10_keep := goodIn_r _ [724, 20, 19, 725, 726, 18, 727, 728, 38, 42, 46, 50, 54, 58, 357, 59, 729, 37, 730, 731, 162, 64, 732, 733, 734, 735, 65, 66, 736, 41, 737, 738, 201, 71, 739, 72, 73, 740, 45, 741, 742, 270, 77, 743, 78, 744, 49, 745, 746, 239, 82, 747, 83, 84, 85, 748, 53, 749, 750, 497, 89, 751, 90, 91, 92, 752, 57, 753, 754, 567, 96, 755, 97, 98, 99, 100, 101, 777, 778, 779, 780, 781, 782, 783, 796, 797, 798, 799, 800, 801, 802, 803, 819, 820, 821, 822, 823, 808, 809, 810, 811, 812, 813, 814, 815, 816, 817, 818, 824, 825, 826, 827, 828, 829, 830, 831, 832, 833, 834, 835] (by decide +kernel) (by decide +kernel)
set_option maxRecDepth 20000 in
theorem gL_law_X10_keep : GoodIn wsL_law (wsV RL 148 RX10 yX10_keep wsX10_keep) := goodIn_app (goodIn_of _ (by decide +kernel)) ggL_law_X10_keep
set_option maxRecDepth 20000 in
theorem ggL_law_X11_keep : GoodIn wsL_law wsX11_keep := goodIn_r _ [759, 116, 115, 760, 784, 785, 786, 787, 788, 789, 790, 791, 792, 793] (by decide +kernel) (by decide +kernel)
set_option maxRecDepth 20000 in
theorem gL_law_X11_keep : GoodIn wsL_law (wsV RL 151 RX11 yX11_keep wsX11_keep) := goodIn_app (goodIn_of _ (by decide +kernel)) ggL_law_X11_keep
set_option maxRecDepth 20000 in
theorem ggL_law_X10_back : GoodIn wsL_law wsX10_back := goodIn_r _ [764, 725, 19, 20, 126, 127, 128, 2, 129, 130, 726, 18, 727, 728, 38, 42, 46, 50, 54, 58, 357, 59, 729, 37, 730, 731, 162, 64, 732, 733, 734, 735, 65, 66, 736, 41, 737, 738, 201, 71, 739, 72, 73, 740, 45, 741, 742, 270, 77, 743, 78, 744, 49, 745, 746, 239, 82, 747, 83, 84, 85, 748, 53, 749, 750, 497, 89, 751, 90, 91, 92, 752, 57, 753, 754, 567, 96, 755, 97, 98, 99, 100, 101, 777, 778, 779, 780, 781, 782, 783, 796, 797, 798, 799, 800, 801, 802, 803, 819, 820, 821, 822, 823, 808, 809, 810, 811, 812, 813, 814, 815, 816, 817, 818, 824, 825, 826, 827, 828, 829, 830, 831, 832, 833, 834, 835] (by decide +kernel) (by decide +kernel)
set_option maxRecDepth 20000 in
theorem gL_law_X10_back : GoodIn wsL_law (wsV RL 152 RX10 yX10_back wsX10_back) := goodIn_app (goodIn_of _ (by decide +kernel)) ggL_law_X10_back
set_option maxRecDepth 20000 in
theorem ggL_law_X11_back : GoodIn wsL_law wsX11_back := goodIn_r _ [768, 760, 115, 116, 144, 145, 146, 5, 147, 148, 784, 785, 786, 787, 788, 789, 790, 791, 792, 793] (by decide +kernel) (by decide +kernel)
set_option maxRecDepth 20000 in
theorem gL_law_X11_back : GoodIn wsL_law (wsV RL 155 RX11 yX11_back wsX11_back) := goodIn_app (goodIn_of _ (by decide +kernel)) ggL_law_X11_back
set_option maxRecDepth 20000 in
theorem ggL_law_X10_told : GoodIn wsL_law wsX10_told := goodIn_r _ [772, 19, 130, 15, 126, 127, 128, 2, 129, 777, 778, 779, 780, 781, 782, 783, 796, 797, 798, 799, 800, 801, 802, 803, 808, 809, 810, 811, 812, 813, 814, 815, 816, 817, 818, 824, 825, 826, 827, 828, 829, 830, 831, 832, 833, 834, 835, 794, 795] (by decide +kernel) (by decide +kernel)
set_option maxRecDepth 20000 in
theorem gL_law_X10_told : GoodIn wsL_law (wsV RL 156 RX10 yX10_told wsX10_told) := goodIn_app (goodIn_of _ (by decide +kernel)) ggL_law_X10_told
set_option maxRecDepth 20000 in
theorem ggL_law_X11_told : GoodIn wsL_law wsX11_told := goodIn_r _ [776, 115, 148, 140, 144, 145, 146, 5, 147, 784, 785, 786, 787, 788, 789, 790, 791, 792, 793] (by decide +kernel) (by decide +kernel)
set_option maxRecDepth 20000 in
theorem gL_law_X11_told : GoodIn wsL_law (wsV RL 159 RX11 yX11_told wsX11_told) := goodIn_app (goodIn_of _ (by decide +kernel)) ggL_law_X11_told
theorem dL_law_0 : decode cL_law 0 = .ok (.new 7, 3) := by decide +kernel
theorem dL_law_3 : decode cL_law 3 = .ok (.dup, 1) := by decide +kernel
theorem dL_law_4 : decode cL_law 4 = .ok (.invokespecial 9, 3) := by decide +kernel
theorem dL_law_7 : decode cL_law 7 = .ok (.astore_n 1, 1) := by decide +kernel
theorem dL_law_8 : decode cL_law 8 = .ok (.new 10, 3) := by decide +kernel
theorem dL_law_11 : decode cL_law 11 = .ok (.dup, 1) := by decide +kernel
theorem dL_law_12 : decode cL_law 12 = .ok (.invokespecial 12, 3) := by decide +kernel
theorem dL_law_15 : decode cL_law 15 = .ok (.astore_n 2, 1) := by decide +kernel
theorem dL_law_16 : decode cL_law 16 = .ok (.iconst 0, 1) := by decide +kernel
theorem dL_law_17 : decode cL_law 17 = .ok (.istore_n 3, 1) := by decide +kernel
theorem dL_law_18 : decode cL_law 18 = .ok (.iload_n 3, 1) := by decide +kernel
theorem dL_law_19 : decode cL_law 19 = .ok (.aload_n 0, 1) := by decide +kernel
theorem dL_law_20 : decode cL_law 20 = .ok (.arraylength, 1) := by decide +kernel
theorem dL_law_21 : decode cL_law 21 = .ok (.bipush 7, 2) := by decide +kernel
theorem dL_law_23 : decode cL_law 23 = .ok (.isub, 1) := by decide +kernel
theorem dL_law_24 : decode cL_law 24 = .ok (.if_icmp .gt 1173, 3) := by decide +kernel
theorem dL_law_27 : decode cL_law 27 = .ok (.aload_n 0, 1) := by decide +kernel
theorem dL_law_28 : decode cL_law 28 = .ok (.iload_n 3, 1) := by decide +kernel
theorem dL_law_29 : decode cL_law 29 = .ok (.iaload, 1) := by decide +kernel
theorem dL_law_30 : decode cL_law 30 = .ok (.bipush 63, 2) := by decide +kernel
theorem dL_law_32 : decode cL_law 32 = .ok (.iand, 1) := by decide +kernel
theorem dL_law_33 : decode cL_law 33 = .ok (.tableswitch 1158 0 34 #[155, 178, 221, 254, 287, 310, 343, 376, 409, 452, 475, 498, 521, 544, 567, 590, 613, 646, 679, 702, 755, 788, 811, 886, 919, 952, 965, 978, 991, 1040, 1063, 1086, 1109, 1122, 1135], 155) := by decide +kernel
theorem dL_law_188 : decode cL_law 188 = .ok (.aload_n 1, 1) := by decide +kernel
theorem dL_law_189 : decode cL_law 189 = .ok (.aload_n 0, 1) := by decide +kernel
theorem dL_law_190 : decode cL_law 190 = .ok (.iload_n 3, 1) := by decide +kernel
theorem dL_law_191 : decode cL_law 191 = .ok (.iconst 1, 1) := by decide +kernel
theorem dL_law_192 : decode cL_law 192 = .ok (.iadd, 1) := by decide +kernel
theorem dL_law_193 : decode cL_law 193 = .ok (.iaload, 1) := by decide +kernel
theorem dL_law_194 : decode cL_law 194 = .ok (.invokevirtual 13, 3) := by decide +kernel
theorem dL_law_197 : decode cL_law 197 = .ok (.aload_n 2, 1) := by decide +kernel
theorem dL_law_198 : decode cL_law 198 = .ok (.aload_n 0, 1) := by decide +kernel
theorem dL_law_199 : decode cL_law 199 = .ok (.iload_n 3, 1) := by decide +kernel
theorem dL_law_200 : decode cL_law 200 = .ok (.iconst 1, 1) := by decide +kernel
theorem dL_law_201 : decode cL_law 201 = .ok (.iadd, 1) := by decide +kernel
theorem dL_law_202 : decode cL_law 202 = .ok (.iaload, 1) := by decide +kernel
theorem dL_law_203 : decode cL_law 203 = .ok (.invokevirtual 17, 3) := by decide +kernel
theorem dL_law_206 : decode cL_law 206 = .ok (.if_icmp .eq 985, 3) := by decide +kernel
theorem dL_law_209 : decode cL_law 209 = .ok (.iconst 0, 1) := by decide +kernel
theorem dL_law_210 : decode cL_law 210 = .ok (.ireturn, 1) := by decide +kernel
theorem dL_law_211 : decode cL_law 211 = .ok (.aload_n 1, 1) := by decide +kernel
theorem dL_law_212 : decode cL_law 212 = .ok (.aload_n 0, 1) := by decide +kernel
theorem dL_law_213 : decode cL_law 213 = .ok (.iload_n 3, 1) := by decide +kernel
theorem dL_law_214 : decode cL_law 214 = .ok (.iconst 1, 1) := by decide +kernel
theorem dL_law_215 : decode cL_law 215 = .ok (.iadd, 1) := by decide +kernel
theorem dL_law_216 : decode cL_law 216 = .ok (.iaload, 1) := by decide +kernel
theorem dL_law_217 : decode cL_law 217 = .ok (.aload_n 0, 1) := by decide +kernel
theorem dL_law_218 : decode cL_law 218 = .ok (.iload_n 3, 1) := by decide +kernel
theorem dL_law_219 : decode cL_law 219 = .ok (.iconst 2, 1) := by decide +kernel
theorem dL_law_220 : decode cL_law 220 = .ok (.iadd, 1) := by decide +kernel
theorem dL_law_221 : decode cL_law 221 = .ok (.iaload, 1) := by decide +kernel
theorem dL_law_222 : decode cL_law 222 = .ok (.aload_n 0, 1) := by decide +kernel
theorem dL_law_223 : decode cL_law 223 = .ok (.iload_n 3, 1) := by decide +kernel
theorem dL_law_224 : decode cL_law 224 = .ok (.iconst 3, 1) := by decide +kernel
theorem dL_law_225 : decode cL_law 225 = .ok (.iadd, 1) := by decide +kernel
theorem dL_law_226 : decode cL_law 226 = .ok (.iaload, 1) := by decide +kernel
theorem dL_law_227 : decode cL_law 227 = .ok (.invokevirtual 18, 3) := by decide +kernel
theorem dL_law_230 : decode cL_law 230 = .ok (.aload_n 2, 1) := by decide +kernel
theorem dL_law_231 : decode cL_law 231 = .ok (.aload_n 0, 1) := by decide +kernel
theorem dL_law_232 : decode cL_law 232 = .ok (.iload_n 3, 1) := by decide +kernel
theorem dL_law_233 : decode cL_law 233 = .ok (.iconst 1, 1) := by decide +kernel
theorem dL_law_234 : decode cL_law 234 = .ok (.iadd, 1) := by decide +kernel
theorem dL_law_235 : decode cL_law 235 = .ok (.iaload, 1) := by decide +kernel
theorem dL_law_236 : decode cL_law 236 = .ok (.aload_n 0, 1) := by decide +kernel
theorem dL_law_237 : decode cL_law 237 = .ok (.iload_n 3, 1) := by decide +kernel
theorem dL_law_238 : decode cL_law 238 = .ok (.iconst 2, 1) := by decide +kernel
theorem dL_law_239 : decode cL_law 239 = .ok (.iadd, 1) := by decide +kernel
theorem dL_law_240 : decode cL_law 240 = .ok (.iaload, 1) := by decide +kernel
theorem dL_law_241 : decode cL_law 241 = .ok (.aload_n 0, 1) := by decide +kernel
theorem dL_law_242 : decode cL_law 242 = .ok (.iload_n 3, 1) := by decide +kernel
theorem dL_law_243 : decode cL_law 243 = .ok (.iconst 3, 1) := by decide +kernel
theorem dL_law_244 : decode cL_law 244 = .ok (.iadd, 1) := by decide +kernel
theorem dL_law_245 : decode cL_law 245 = .ok (.iaload, 1) := by decide +kernel
theorem dL_law_246 : decode cL_law 246 = .ok (.invokevirtual 22, 3) := by decide +kernel
theorem dL_law_249 : decode cL_law 249 = .ok (.if_icmp .eq 942, 3) := by decide +kernel
theorem dL_law_252 : decode cL_law 252 = .ok (.iconst 0, 1) := by decide +kernel
theorem dL_law_253 : decode cL_law 253 = .ok (.ireturn, 1) := by decide +kernel
theorem dL_law_254 : decode cL_law 254 = .ok (.aload_n 1, 1) := by decide +kernel
theorem dL_law_255 : decode cL_law 255 = .ok (.aload_n 0, 1) := by decide +kernel
theorem dL_law_256 : decode cL_law 256 = .ok (.iload_n 3, 1) := by decide +kernel
theorem dL_law_257 : decode cL_law 257 = .ok (.iconst 1, 1) := by decide +kernel
theorem dL_law_258 : decode cL_law 258 = .ok (.iadd, 1) := by decide +kernel
theorem dL_law_259 : decode cL_law 259 = .ok (.iaload, 1) := by decide +kernel
theorem dL_law_260 : decode cL_law 260 = .ok (.aload_n 0, 1) := by decide +kernel
theorem dL_law_261 : decode cL_law 261 = .ok (.iload_n 3, 1) := by decide +kernel
theorem dL_law_262 : decode cL_law 262 = .ok (.iconst 2, 1) := by decide +kernel
theorem dL_law_263 : decode cL_law 263 = .ok (.iadd, 1) := by decide +kernel
theorem dL_law_264 : decode cL_law 264 = .ok (.iaload, 1) := by decide +kernel
theorem dL_law_265 : decode cL_law 265 = .ok (.invokevirtual 23, 3) := by decide +kernel
theorem dL_law_268 : decode cL_law 268 = .ok (.aload_n 2, 1) := by decide +kernel
theorem dL_law_269 : decode cL_law 269 = .ok (.aload_n 0, 1) := by decide +kernel
theorem dL_law_270 : decode cL_law 270 = .ok (.iload_n 3, 1) := by decide +kernel
theorem dL_law_271 : decode cL_law 271 = .ok (.iconst 1, 1) := by decide +kernel
theorem dL_law_272 : decode cL_law 272 = .ok (.iadd, 1) := by decide +kernel
theorem dL_law_273 : decode cL_law 273 = .ok (.iaload, 1) := by decide +kernel
theorem dL_law_274 : decode cL_law 274 = .ok (.aload_n 0, 1) := by decide +kernel
theorem dL_law_275 : decode cL_law 275 = .ok (.iload_n 3, 1) := by decide +kernel
theorem dL_law_276 : decode cL_law 276 = .ok (.iconst 2, 1) := by decide +kernel
theorem dL_law_277 : decode cL_law 277 = .ok (.iadd, 1) := by decide +kernel
theorem dL_law_278 : decode cL_law 278 = .ok (.iaload, 1) := by decide +kernel
theorem dL_law_279 : decode cL_law 279 = .ok (.invokevirtual 27, 3) := by decide +kernel
theorem dL_law_282 : decode cL_law 282 = .ok (.if_icmp .eq 909, 3) := by decide +kernel
theorem dL_law_285 : decode cL_law 285 = .ok (.iconst 0, 1) := by decide +kernel
theorem dL_law_286 : decode cL_law 286 = .ok (.ireturn, 1) := by decide +kernel
theorem dL_law_287 : decode cL_law 287 = .ok (.aload_n 1, 1) := by decide +kernel
theorem dL_law_288 : decode cL_law 288 = .ok (.aload_n 0, 1) := by decide +kernel
theorem dL_law_289 : decode cL_law 289 = .ok (.iload_n 3, 1) := by decide +kernel
theorem dL_law_290 : decode cL_law 290 = .ok (.iconst 1, 1) := by decide +kernel
theorem dL_law_291 : decode cL_law 291 = .ok (.iadd, 1) := by decide +kernel
theorem dL_law_292 : decode cL_law 292 = .ok (.iaload, 1) := by decide +kernel
theorem dL_law_293 : decode cL_law 293 = .ok (.aload_n 0, 1) := by decide +kernel
theorem dL_law_294 : decode cL_law 294 = .ok (.iload_n 3, 1) := by decide +kernel
theorem dL_law_295 : decode cL_law 295 = .ok (.iconst 2, 1) := by decide +kernel
theorem dL_law_296 : decode cL_law 296 = .ok (.iadd, 1) := by decide +kernel
theorem dL_law_297 : decode cL_law 297 = .ok (.iaload, 1) := by decide +kernel
theorem dL_law_298 : decode cL_law 298 = .ok (.invokevirtual 28, 3) := by decide +kernel
theorem dL_law_301 : decode cL_law 301 = .ok (.aload_n 2, 1) := by decide +kernel
theorem dL_law_302 : decode cL_law 302 = .ok (.aload_n 0, 1) := by decide +kernel
theorem dL_law_303 : decode cL_law 303 = .ok (.iload_n 3, 1) := by decide +kernel
theorem dL_law_304 : decode cL_law 304 = .ok (.iconst 1, 1) := by decide +kernel
theorem dL_law_305 : decode cL_law 305 = .ok (.iadd, 1) := by decide +kernel
theorem dL_law_306 : decode cL_law 306 = .ok (.iaload, 1) := by decide +kernel
theorem dL_law_307 : decode cL_law 307 = .ok (.aload_n 0, 1) := by decide +kernel
theorem dL_law_308 : decode cL_law 308 = .ok (.iload_n 3, 1) := by decide +kernel
theorem dL_law_309 : decode cL_law 309 = .ok (.iconst 2, 1) := by decide +kernel
theorem dL_law_310 : decode cL_law 310 = .ok (.iadd, 1) := by decide +kernel
theorem dL_law_311 : decode cL_law 311 = .ok (.iaload, 1) := by decide +kernel
theorem dL_law_312 : decode cL_law 312 = .ok (.invokevirtual 31, 3) := by decide +kernel
theorem dL_law_315 : decode cL_law 315 = .ok (.if_icmp .eq 876, 3) := by decide +kernel
theorem dL_law_318 : decode cL_law 318 = .ok (.iconst 0, 1) := by decide +kernel
theorem dL_law_319 : decode cL_law 319 = .ok (.ireturn, 1) := by decide +kernel
theorem dL_law_320 : decode cL_law 320 = .ok (.aload_n 1, 1) := by decide +kernel
theorem dL_law_321 : decode cL_law 321 = .ok (.aload_n 0, 1) := by decide +kernel
theorem dL_law_322 : decode cL_law 322 = .ok (.iload_n 3, 1) := by decide +kernel
theorem dL_law_323 : decode cL_law 323 = .ok (.iconst 1, 1) := by decide +kernel
theorem dL_law_324 : decode cL_law 324 = .ok (.iadd, 1) := by decide +kernel
theorem dL_law_325 : decode cL_law 325 = .ok (.iaload, 1) := by decide +kernel
theorem dL_law_326 : decode cL_law 326 = .ok (.invokevirtual 32, 3) := by decide +kernel
theorem dL_law_329 : decode cL_law 329 = .ok (.aload_n 2, 1) := by decide +kernel
theorem dL_law_330 : decode cL_law 330 = .ok (.aload_n 0, 1) := by decide +kernel
theorem dL_law_331 : decode cL_law 331 = .ok (.iload_n 3, 1) := by decide +kernel
theorem dL_law_332 : decode cL_law 332 = .ok (.iconst 1, 1) := by decide +kernel
theorem dL_law_333 : decode cL_law 333 = .ok (.iadd, 1) := by decide +kernel
theorem dL_law_334 : decode cL_law 334 = .ok (.iaload, 1) := by decide +kernel
theorem dL_law_335 : decode cL_law 335 = .ok (.invokevirtual 35, 3) := by decide +kernel
theorem dL_law_338 : decode cL_law 338 = .ok (.if_icmp .eq 853, 3) := by decide +kernel
theorem dL_law_341 : decode cL_law 341 = .ok (.iconst 0, 1) := by decide +kernel
theorem dL_law_342 : decode cL_law 342 = .ok (.ireturn, 1) := by decide +kernel
theorem dL_law_343 : decode cL_law 343 = .ok (.aload_n 1, 1) := by decide +kernel
theorem dL_law_344 : decode cL_law 344 = .ok (.aload_n 0, 1) := by decide +kernel
theorem dL_law_345 : decode cL_law 345 = .ok (.iload_n 3, 1) := by decide +kernel
theorem dL_law_346 : decode cL_law 346 = .ok (.iconst 1, 1) := by decide +kernel
theorem dL_law_347 : decode cL_law 347 = .ok (.iadd, 1) := by decide +kernel
theorem dL_law_348 : decode cL_law 348 = .ok (.iaload, 1) := by decide +kernel
theorem dL_law_349 : decode cL_law 349 = .ok (.aload_n 0, 1) := by decide +kernel
theorem dL_law_350 : decode cL_law 350 = .ok (.iload_n 3, 1) := by decide +kernel
theorem dL_law_351 : decode cL_law 351 = .ok (.iconst 2, 1) := by decide +kernel
theorem dL_law_352 : decode cL_law 352 = .ok (.iadd, 1) := by decide +kernel
theorem dL_law_353 : decode cL_law 353 = .ok (.iaload, 1) := by decide +kernel
theorem dL_law_354 : decode cL_law 354 = .ok (.invokevirtual 36, 3) := by decide +kernel
theorem dL_law_357 : decode cL_law 357 = .ok (.aload_n 2, 1) := by decide +kernel
theorem dL_law_358 : decode cL_law 358 = .ok (.aload_n 0, 1) := by decide +kernel
theorem dL_law_359 : decode cL_law 359 = .ok (.iload_n 3, 1) := by decide +kernel
theorem dL_law_360 : decode cL_law 360 = .ok (.iconst 1, 1) := by decide +kernel
theorem dL_law_361 : decode cL_law 361 = .ok (.iadd, 1) := by decide +kernel
theorem dL_law_362 : decode cL_law 362 = .ok (.iaload, 1) := by decide +kernel
theorem dL_law_363 : decode cL_law 363 = .ok (.aload_n 0, 1) := by decide +kernel
theorem dL_law_364 : decode cL_law 364 = .ok (.iload_n 3, 1) := by decide +kernel
theorem dL_law_365 : decode cL_law 365 = .ok (.iconst 2, 1) := by decide +kernel
theorem dL_law_366 : decode cL_law 366 = .ok (.iadd, 1) := by decide +kernel
theorem dL_law_367 : decode cL_law 367 = .ok (.iaload, 1) := by decide +kernel
theorem dL_law_368 : decode cL_law 368 = .ok (.invokevirtual 39, 3) := by decide +kernel
theorem dL_law_371 : decode cL_law 371 = .ok (.if_icmp .eq 820, 3) := by decide +kernel
theorem dL_law_374 : decode cL_law 374 = .ok (.iconst 0, 1) := by decide +kernel
theorem dL_law_375 : decode cL_law 375 = .ok (.ireturn, 1) := by decide +kernel
theorem dL_law_376 : decode cL_law 376 = .ok (.aload_n 1, 1) := by decide +kernel
theorem dL_law_377 : decode cL_law 377 = .ok (.aload_n 0, 1) := by decide +kernel
theorem dL_law_378 : decode cL_law 378 = .ok (.iload_n 3, 1) := by decide +kernel
theorem dL_law_379 : decode cL_law 379 = .ok (.iconst 1, 1) := by decide +kernel
theorem dL_law_380 : decode cL_law 380 = .ok (.iadd, 1) := by decide +kernel
theorem dL_law_381 : decode cL_law 381 = .ok (.iaload, 1) := by decide +kernel
theorem dL_law_382 : decode cL_law 382 = .ok (.aload_n 0, 1) := by decide +kernel
theorem dL_law_383 : decode cL_law 383 = .ok (.iload_n 3, 1) := by decide +kernel
theorem dL_law_384 : decode cL_law 384 = .ok (.iconst 2, 1) := by decide +kernel
theorem dL_law_385 : decode cL_law 385 = .ok (.iadd, 1) := by decide +kernel
theorem dL_law_386 : decode cL_law 386 = .ok (.iaload, 1) := by decide +kernel
theorem dL_law_387 : decode cL_law 387 = .ok (.invokevirtual 40, 3) := by decide +kernel
theorem dL_law_390 : decode cL_law 390 = .ok (.aload_n 2, 1) := by decide +kernel
theorem dL_law_391 : decode cL_law 391 = .ok (.aload_n 0, 1) := by decide +kernel
theorem dL_law_392 : decode cL_law 392 = .ok (.iload_n 3, 1) := by decide +kernel
theorem dL_law_393 : decode cL_law 393 = .ok (.iconst 1, 1) := by decide +kernel
theorem dL_law_394 : decode cL_law 394 = .ok (.iadd, 1) := by decide +kernel
theorem dL_law_395 : decode cL_law 395 = .ok (.iaload, 1) := by decide +kernel
theorem dL_law_396 : decode cL_law 396 = .ok (.aload_n 0, 1) := by decide +kernel
theorem dL_law_397 : decode cL_law 397 = .ok (.iload_n 3, 1) := by decide +kernel
theorem dL_law_398 : decode cL_law 398 = .ok (.iconst 2, 1) := by decide +kernel
theorem dL_law_399 : decode cL_law 399 = .ok (.iadd, 1) := by decide +kernel
theorem dL_law_400 : decode cL_law 400 = .ok (.iaload, 1) := by decide +kernel
theorem dL_law_401 : decode cL_law 401 = .ok (.invokevirtual 43, 3) := by decide +kernel
theorem dL_law_404 : decode cL_law 404 = .ok (.if_icmp .eq 787, 3) := by decide +kernel
theorem dL_law_407 : decode cL_law 407 = .ok (.iconst 0, 1) := by decide +kernel
theorem dL_law_408 : decode cL_law 408 = .ok (.ireturn, 1) := by decide +kernel
theorem dL_law_409 : decode cL_law 409 = .ok (.aload_n 1, 1) := by decide +kernel
theorem dL_law_410 : decode cL_law 410 = .ok (.aload_n 0, 1) := by decide +kernel
theorem dL_law_411 : decode cL_law 411 = .ok (.iload_n 3, 1) := by decide +kernel
theorem dL_law_412 : decode cL_law 412 = .ok (.iconst 1, 1) := by decide +kernel
theorem dL_law_413 : decode cL_law 413 = .ok (.iadd, 1) := by decide +kernel
theorem dL_law_414 : decode cL_law 414 = .ok (.iaload, 1) := by decide +kernel
theorem dL_law_415 : decode cL_law 415 = .ok (.aload_n 0, 1) := by decide +kernel
theorem dL_law_416 : decode cL_law 416 = .ok (.iload_n 3, 1) := by decide +kernel
theorem dL_law_417 : decode cL_law 417 = .ok (.iconst 2, 1) := by decide +kernel
theorem dL_law_418 : decode cL_law 418 = .ok (.iadd, 1) := by decide +kernel
theorem dL_law_419 : decode cL_law 419 = .ok (.iaload, 1) := by decide +kernel
theorem dL_law_420 : decode cL_law 420 = .ok (.invokevirtual 44, 3) := by decide +kernel
theorem dL_law_423 : decode cL_law 423 = .ok (.aload_n 2, 1) := by decide +kernel
theorem dL_law_424 : decode cL_law 424 = .ok (.aload_n 0, 1) := by decide +kernel
theorem dL_law_425 : decode cL_law 425 = .ok (.iload_n 3, 1) := by decide +kernel
theorem dL_law_426 : decode cL_law 426 = .ok (.iconst 1, 1) := by decide +kernel
theorem dL_law_427 : decode cL_law 427 = .ok (.iadd, 1) := by decide +kernel
theorem dL_law_428 : decode cL_law 428 = .ok (.iaload, 1) := by decide +kernel
theorem dL_law_429 : decode cL_law 429 = .ok (.aload_n 0, 1) := by decide +kernel
theorem dL_law_430 : decode cL_law 430 = .ok (.iload_n 3, 1) := by decide +kernel
theorem dL_law_431 : decode cL_law 431 = .ok (.iconst 2, 1) := by decide +kernel
theorem dL_law_432 : decode cL_law 432 = .ok (.iadd, 1) := by decide +kernel
theorem dL_law_433 : decode cL_law 433 = .ok (.iaload, 1) := by decide +kernel
theorem dL_law_434 : decode cL_law 434 = .ok (.invokevirtual 47, 3) := by decide +kernel
theorem dL_law_437 : decode cL_law 437 = .ok (.if_icmp .eq 754, 3) := by decide +kernel
theorem dL_law_440 : decode cL_law 440 = .ok (.iconst 0, 1) := by decide +kernel
theorem dL_law_441 : decode cL_law 441 = .ok (.ireturn, 1) := by decide +kernel
theorem dL_law_442 : decode cL_law 442 = .ok (.aload_n 1, 1) := by decide +kernel
theorem dL_law_443 : decode cL_law 443 = .ok (.aload_n 0, 1) := by decide +kernel
theorem dL_law_444 : decode cL_law 444 = .ok (.iload_n 3, 1) := by decide +kernel
theorem dL_law_445 : decode cL_law 445 = .ok (.iconst 1, 1) := by decide +kernel
theorem dL_law_446 : decode cL_law 446 = .ok (.iadd, 1) := by decide +kernel
theorem dL_law_447 : decode cL_law 447 = .ok (.iaload, 1) := by decide +kernel
theorem dL_law_448 : decode cL_law 448 = .ok (.aload_n 0, 1) := by decide +kernel
theorem dL_law_449 : decode cL_law 449 = .ok (.iload_n 3, 1) := by decide +kernel
theorem dL_law_450 : decode cL_law 450 = .ok (.iconst 2, 1) := by decide +kernel
theorem dL_law_451 : decode cL_law 451 = .ok (.iadd, 1) := by decide +kernel
theorem dL_law_452 : decode cL_law 452 = .ok (.iaload, 1) := by decide +kernel
theorem dL_law_453 : decode cL_law 453 = .ok (.aload_n 0, 1) := by decide +kernel
theorem dL_law_454 : decode cL_law 454 = .ok (.iload_n 3, 1) := by decide +kernel
theorem dL_law_455 : decode cL_law 455 = .ok (.iconst 3, 1) := by decide +kernel
theorem dL_law_456 : decode cL_law 456 = .ok (.iadd, 1) := by decide +kernel
theorem dL_law_457 : decode cL_law 457 = .ok (.iaload, 1) := by decide +kernel
theorem dL_law_458 : decode cL_law 458 = .ok (.invokevirtual 48, 3) := by decide +kernel
theorem dL_law_461 : decode cL_law 461 = .ok (.aload_n 2, 1) := by decide +kernel
theorem dL_law_462 : decode cL_law 462 = .ok (.aload_n 0, 1) := by decide +kernel
theorem dL_law_463 : decode cL_law 463 = .ok (.iload_n 3, 1) := by decide +kernel
theorem dL_law_464 : decode cL_law 464 = .ok (.iconst 1, 1) := by decide +kernel
theorem dL_law_465 : decode cL_law 465 = .ok (.iadd, 1) := by decide +kernel
theorem dL_law_466 : decode cL_law 466 = .ok (.iaload, 1) := by decide +kernel
theorem dL_law_467 : decode cL_law 467 = .ok (.aload_n 0, 1) := by decide +kernel
theorem dL_law_468 : decode cL_law 468 = .ok (.iload_n 3, 1) := by decide +kernel
theorem dL_law_469 : decode cL_law 469 = .ok (.iconst 2, 1) := by decide +kernel
theorem dL_law_470 : decode cL_law 470 = .ok (.iadd, 1) := by decide +kernel
theorem dL_law_471 : decode cL_law 471 = .ok (.iaload, 1) := by decide +kernel
theorem dL_law_472 : decode cL_law 472 = .ok (.aload_n 0, 1) := by decide +kernel
theorem dL_law_473 : decode cL_law 473 = .ok (.iload_n 3, 1) := by decide +kernel
theorem dL_law_474 : decode cL_law 474 = .ok (.iconst 3, 1) := by decide +kernel
theorem dL_law_475 : decode cL_law 475 = .ok (.iadd, 1) := by decide +kernel
theorem dL_law_476 : decode cL_law 476 = .ok (.iaload, 1) := by decide +kernel
theorem dL_law_477 : decode cL_law 477 = .ok (.invokevirtual 51, 3) := by decide +kernel
theorem dL_law_480 : decode cL_law 480 = .ok (.if_icmp .eq 711, 3) := by decide +kernel
theorem dL_law_483 : decode cL_law 483 = .ok (.iconst 0, 1) := by decide +kernel
theorem dL_law_484 : decode cL_law 484 = .ok (.ireturn, 1) := by decide +kernel
theorem dL_law_485 : decode cL_law 485 = .ok (.aload_n 1, 1) := by decide +kernel
theorem dL_law_486 : decode cL_law 486 = .ok (.aload_n 0, 1) := by decide +kernel
theorem dL_law_487 : decode cL_law 487 = .ok (.iload_n 3, 1) := by decide +kernel
theorem dL_law_488 : decode cL_law 488 = .ok (.iconst 1, 1) := by decide +kernel
theorem dL_law_489 : decode cL_law 489 = .ok (.iadd, 1) := by decide +kernel
theorem dL_law_490 : decode cL_law 490 = .ok (.iaload, 1) := by decide +kernel
theorem dL_law_491 : decode cL_law 491 = .ok (.invokevirtual 52, 3) := by decide +kernel
theorem dL_law_494 : decode cL_law 494 = .ok (.aload_n 2, 1) := by decide +kernel
theorem dL_law_495 : decode cL_law 495 = .ok (.aload_n 0, 1) := by decide +kernel
theorem dL_law_496 : decode cL_law 496 = .ok (.iload_n 3, 1) := by decide +kernel
theorem dL_law_497 : decode cL_law 497 = .ok (.iconst 1, 1) := by decide +kernel
theorem dL_law_498 : decode cL_law 498 = .ok (.iadd, 1) := by decide +kernel
theorem dL_law_499 : decode cL_law 499 = .ok (.iaload, 1) := by decide +kernel
theorem dL_law_500 : decode cL_law 500 = .ok (.invokevirtual 55, 3) := by decide +kernel
theorem dL_law_503 : decode cL_law 503 = .ok (.if_icmp .eq 688, 3) := by decide +kernel
theorem dL_law_506 : decode cL_law 506 = .ok (.iconst 0, 1) := by decide +kernel
theorem dL_law_507 : decode cL_law 507 = .ok (.ireturn, 1) := by decide +kernel
theorem dL_law_508 : decode cL_law 508 = .ok (.aload_n 1, 1) := by decide +kernel
theorem dL_law_509 : decode cL_law 509 = .ok (.aload_n 0, 1) := by decide +kernel
theorem dL_law_510 : decode cL_law 510 = .ok (.iload_n 3, 1) := by decide +kernel
theorem dL_law_511 : decode cL_law 511 = .ok (.iconst 1, 1) := by decide +kernel
theorem dL_law_512 : decode cL_law 512 = .ok (.iadd, 1) := by decide +kernel
theorem dL_law_513 : decode cL_law 513 = .ok (.iaload, 1) := by decide +kernel
theorem dL_law_514 : decode cL_law 514 = .ok (.invokevirtual 56, 3) := by decide +kernel
theorem dL_law_517 : decode cL_law 517 = .ok (.aload_n 2, 1) := by decide +kernel
theorem dL_law_518 : decode cL_law 518 = .ok (.aload_n 0, 1) := by decide +kernel
theorem dL_law_519 : decode cL_law 519 = .ok (.iload_n 3, 1) := by decide +kernel
theorem dL_law_520 : decode cL_law 520 = .ok (.iconst 1, 1) := by decide +kernel
theorem dL_law_521 : decode cL_law 521 = .ok (.iadd, 1) := by decide +kernel
theorem dL_law_522 : decode cL_law 522 = .ok (.iaload, 1) := by decide +kernel
theorem dL_law_523 : decode cL_law 523 = .ok (.invokevirtual 59, 3) := by decide +kernel
theorem dL_law_526 : decode cL_law 526 = .ok (.if_icmp .eq 665, 3) := by decide +kernel
theorem dL_law_529 : decode cL_law 529 = .ok (.iconst 0, 1) := by decide +kernel
theorem dL_law_530 : decode cL_law 530 = .ok (.ireturn, 1) := by decide +kernel
theorem dL_law_531 : decode cL_law 531 = .ok (.aload_n 1, 1) := by decide +kernel
theorem dL_law_532 : decode cL_law 532 = .ok (.aload_n 0, 1) := by decide +kernel
theorem dL_law_533 : decode cL_law 533 = .ok (.iload_n 3, 1) := by decide +kernel
theorem dL_law_534 : decode cL_law 534 = .ok (.iconst 1, 1) := by decide +kernel
theorem dL_law_535 : decode cL_law 535 = .ok (.iadd, 1) := by decide +kernel
theorem dL_law_536 : decode cL_law 536 = .ok (.iaload, 1) := by decide +kernel
theorem dL_law_537 : decode cL_law 537 = .ok (.invokevirtual 60, 3) := by decide +kernel
theorem dL_law_540 : decode cL_law 540 = .ok (.aload_n 2, 1) := by decide +kernel
theorem dL_law_541 : decode cL_law 541 = .ok (.aload_n 0, 1) := by decide +kernel
theorem dL_law_542 : decode cL_law 542 = .ok (.iload_n 3, 1) := by decide +kernel
theorem dL_law_543 : decode cL_law 543 = .ok (.iconst 1, 1) := by decide +kernel
theorem dL_law_544 : decode cL_law 544 = .ok (.iadd, 1) := by decide +kernel
theorem dL_law_545 : decode cL_law 545 = .ok (.iaload, 1) := by decide +kernel
theorem dL_law_546 : decode cL_law 546 = .ok (.invokevirtual 63, 3) := by decide +kernel
theorem dL_law_549 : decode cL_law 549 = .ok (.if_icmp .eq 642, 3) := by decide +kernel
theorem dL_law_552 : decode cL_law 552 = .ok (.iconst 0, 1) := by decide +kernel
theorem dL_law_553 : decode cL_law 553 = .ok (.ireturn, 1) := by decide +kernel
theorem dL_law_554 : decode cL_law 554 = .ok (.aload_n 1, 1) := by decide +kernel
theorem dL_law_555 : decode cL_law 555 = .ok (.aload_n 0, 1) := by decide +kernel
theorem dL_law_556 : decode cL_law 556 = .ok (.iload_n 3, 1) := by decide +kernel
theorem dL_law_557 : decode cL_law 557 = .ok (.iconst 1, 1) := by decide +kernel
theorem dL_law_558 : decode cL_law 558 = .ok (.iadd, 1) := by decide +kernel
theorem dL_law_559 : decode cL_law 559 = .ok (.iaload, 1) := by decide +kernel
theorem dL_law_560 : decode cL_law 560 = .ok (.invokevirtual 64, 3) := by decide +kernel
theorem dL_law_563 : decode cL_law 563 = .ok (.aload_n 2, 1) := by decide +kernel
theorem dL_law_564 : decode cL_law 564 = .ok (.aload_n 0, 1) := by decide +kernel
theorem dL_law_565 : decode cL_law 565 = .ok (.iload_n 3, 1) := by decide +kernel
theorem dL_law_566 : decode cL_law 566 = .ok (.iconst 1, 1) := by decide +kernel
theorem dL_law_567 : decode cL_law 567 = .ok (.iadd, 1) := by decide +kernel
theorem dL_law_568 : decode cL_law 568 = .ok (.iaload, 1) := by decide +kernel
theorem dL_law_569 : decode cL_law 569 = .ok (.invokevirtual 67, 3) := by decide +kernel
theorem dL_law_572 : decode cL_law 572 = .ok (.if_icmp .eq 619, 3) := by decide +kernel
theorem dL_law_575 : decode cL_law 575 = .ok (.iconst 0, 1) := by decide +kernel
theorem dL_law_576 : decode cL_law 576 = .ok (.ireturn, 1) := by decide +kernel
theorem dL_law_577 : decode cL_law 577 = .ok (.aload_n 1, 1) := by decide +kernel
theorem dL_law_578 : decode cL_law 578 = .ok (.aload_n 0, 1) := by decide +kernel
theorem dL_law_579 : decode cL_law 579 = .ok (.iload_n 3, 1) := by decide +kernel
theorem dL_law_580 : decode cL_law 580 = .ok (.iconst 1, 1) := by decide +kernel
theorem dL_law_581 : decode cL_law 581 = .ok (.iadd, 1) := by decide +kernel
theorem dL_law_582 : decode cL_law 582 = .ok (.iaload, 1) := by decide +kernel
theorem dL_law_583 : decode cL_law 583 = .ok (.invokevirtual 68, 3) := by decide +kernel
theorem dL_law_586 : decode cL_law 586 = .ok (.aload_n 2, 1) := by decide +kernel
theorem dL_law_587 : decode cL_law 587 = .ok (.aload_n 0, 1) := by decide +kernel
theorem dL_law_588 : decode cL_law 588 = .ok (.iload_n 3, 1) := by decide +kernel
theorem dL_law_589 : decode cL_law 589 = .ok (.iconst 1, 1) := by decide +kernel
theorem dL_law_590 : decode cL_law 590 = .ok (.iadd, 1) := by decide +kernel
theorem dL_law_591 : decode cL_law 591 = .ok (.iaload, 1) := by decide +kernel
theorem dL_law_592 : decode cL_law 592 = .ok (.invokevirtual 71, 3) := by decide +kernel
theorem dL_law_595 : decode cL_law 595 = .ok (.if_icmp .eq 596, 3) := by decide +kernel
theorem dL_law_598 : decode cL_law 598 = .ok (.iconst 0, 1) := by decide +kernel
theorem dL_law_599 : decode cL_law 599 = .ok (.ireturn, 1) := by decide +kernel
theorem dL_law_600 : decode cL_law 600 = .ok (.aload_n 1, 1) := by decide +kernel
theorem dL_law_601 : decode cL_law 601 = .ok (.aload_n 0, 1) := by decide +kernel
theorem dL_law_602 : decode cL_law 602 = .ok (.iload_n 3, 1) := by decide +kernel
theorem dL_law_603 : decode cL_law 603 = .ok (.iconst 1, 1) := by decide +kernel
theorem dL_law_604 : decode cL_law 604 = .ok (.iadd, 1) := by decide +kernel
theorem dL_law_605 : decode cL_law 605 = .ok (.iaload, 1) := by decide +kernel
theorem dL_law_606 : decode cL_law 606 = .ok (.invokevirtual 72, 3) := by decide +kernel
theorem dL_law_609 : decode cL_law 609 = .ok (.aload_n 2, 1) := by decide +kernel
theorem dL_law_610 : decode cL_law 610 = .ok (.aload_n 0, 1) := by decide +kernel
theorem dL_law_611 : decode cL_law 611 = .ok (.iload_n 3, 1) := by decide +kernel
theorem dL_law_612 : decode cL_law 612 = .ok (.iconst 1, 1) := by decide +kernel
theorem dL_law_613 : decode cL_law 613 = .ok (.iadd, 1) := by decide +kernel
theorem dL_law_614 : decode cL_law 614 = .ok (.iaload, 1) := by decide +kernel
theorem dL_law_615 : decode cL_law 615 = .ok (.invokevirtual 75, 3) := by decide +kernel
theorem dL_law_618 : decode cL_law 618 = .ok (.if_icmp .eq 573, 3) := by decide +kernel
theorem dL_law_621 : decode cL_law 621 = .ok (.iconst 0, 1) := by decide +kernel
theorem dL_law_622 : decode cL_law 622 = .ok (.ireturn, 1) := by decide +kernel
theorem dL_law_623 : decode cL_law 623 = .ok (.aload_n 1, 1) := by decide +kernel
theorem dL_law_624 : decode cL_law 624 = .ok (.aload_n 0, 1) := by decide +kernel
theorem dL_law_625 : decode cL_law 625 = .ok (.iload_n 3, 1) := by decide +kernel
theorem dL_law_626 : decode cL_law 626 = .ok (.iconst 1, 1) := by decide +kernel
theorem dL_law_627 : decode cL_law 627 = .ok (.iadd, 1) := by decide +kernel
theorem dL_law_628 : decode cL_law 628 = .ok (.iaload, 1) := by decide +kernel
theorem dL_law_629 : decode cL_law 629 = .ok (.invokevirtual 76, 3) := by decide +kernel
theorem dL_law_632 : decode cL_law 632 = .ok (.aload_n 2, 1) := by decide +kernel
theorem dL_law_633 : decode cL_law 633 = .ok (.aload_n 0, 1) := by decide +kernel
theorem dL_law_634 : decode cL_law 634 = .ok (.iload_n 3, 1) := by decide +kernel
theorem dL_law_635 : decode cL_law 635 = .ok (.iconst 1, 1) := by decide +kernel
theorem dL_law_636 : decode cL_law 636 = .ok (.iadd, 1) := by decide +kernel
theorem dL_law_637 : decode cL_law 637 = .ok (.iaload, 1) := by decide +kernel
theorem dL_law_638 : decode cL_law 638 = .ok (.invokevirtual 79, 3) := by decide +kernel
theorem dL_law_641 : decode cL_law 641 = .ok (.if_icmp .eq 550, 3) := by decide +kernel
theorem dL_law_644 : decode cL_law 644 = .ok (.iconst 0, 1) := by decide +kernel
theorem dL_law_645 : decode cL_law 645 = .ok (.ireturn, 1) := by decide +kernel
theorem dL_law_646 : decode cL_law 646 = .ok (.aload_n 1, 1) := by decide +kernel
theorem dL_law_647 : decode cL_law 647 = .ok (.aload_n 0, 1) := by decide +kernel
theorem dL_law_648 : decode cL_law 648 = .ok (.iload_n 3, 1) := by decide +kernel
theorem dL_law_649 : decode cL_law 649 = .ok (.iconst 1, 1) := by decide +kernel
theorem dL_law_650 : decode cL_law 650 = .ok (.iadd, 1) := by decide +kernel
theorem dL_law_651 : decode cL_law 651 = .ok (.iaload, 1) := by decide +kernel
theorem dL_law_652 : decode cL_law 652 = .ok (.aload_n 0, 1) := by decide +kernel
theorem dL_law_653 : decode cL_law 653 = .ok (.iload_n 3, 1) := by decide +kernel
theorem dL_law_654 : decode cL_law 654 = .ok (.iconst 2, 1) := by decide +kernel
theorem dL_law_655 : decode cL_law 655 = .ok (.iadd, 1) := by decide +kernel
theorem dL_law_656 : decode cL_law 656 = .ok (.iaload, 1) := by decide +kernel
theorem dL_law_657 : decode cL_law 657 = .ok (.invokevirtual 80, 3) := by decide +kernel
theorem dL_law_660 : decode cL_law 660 = .ok (.aload_n 2, 1) := by decide +kernel
theorem dL_law_661 : decode cL_law 661 = .ok (.aload_n 0, 1) := by decide +kernel
theorem dL_law_662 : decode cL_law 662 = .ok (.iload_n 3, 1) := by decide +kernel
theorem dL_law_663 : decode cL_law 663 = .ok (.iconst 1, 1) := by decide +kernel
theorem dL_law_664 : decode cL_law 664 = .ok (.iadd, 1) := by decide +kernel
theorem dL_law_665 : decode cL_law 665 = .ok (.iaload, 1) := by decide +kernel
theorem dL_law_666 : decode cL_law 666 = .ok (.aload_n 0, 1) := by decide +kernel
theorem dL_law_667 : decode cL_law 667 = .ok (.iload_n 3, 1) := by decide +kernel
theorem dL_law_668 : decode cL_law 668 = .ok (.iconst 2, 1) := by decide +kernel
theorem dL_law_669 : decode cL_law 669 = .ok (.iadd, 1) := by decide +kernel
theorem dL_law_670 : decode cL_law 670 = .ok (.iaload, 1) := by decide +kernel
theorem dL_law_671 : decode cL_law 671 = .ok (.invokevirtual 83, 3) := by decide +kernel
theorem dL_law_674 : decode cL_law 674 = .ok (.if_icmp .eq 517, 3) := by decide +kernel
theorem dL_law_677 : decode cL_law 677 = .ok (.iconst 0, 1) := by decide +kernel
theorem dL_law_678 : decode cL_law 678 = .ok (.ireturn, 1) := by decide +kernel
theorem dL_law_679 : decode cL_law 679 = .ok (.aload_n 1, 1) := by decide +kernel
theorem dL_law_680 : decode cL_law 680 = .ok (.aload_n 0, 1) := by decide +kernel
theorem dL_law_681 : decode cL_law 681 = .ok (.iload_n 3, 1) := by decide +kernel
theorem dL_law_682 : decode cL_law 682 = .ok (.iconst 1, 1) := by decide +kernel
theorem dL_law_683 : decode cL_law 683 = .ok (.iadd, 1) := by decide +kernel
theorem dL_law_684 : decode cL_law 684 = .ok (.iaload, 1) := by decide +kernel
theorem dL_law_685 : decode cL_law 685 = .ok (.aload_n 0, 1) := by decide +kernel
theorem dL_law_686 : decode cL_law 686 = .ok (.iload_n 3, 1) := by decide +kernel
theorem dL_law_687 : decode cL_law 687 = .ok (.iconst 2, 1) := by decide +kernel
theorem dL_law_688 : decode cL_law 688 = .ok (.iadd, 1) := by decide +kernel
theorem dL_law_689 : decode cL_law 689 = .ok (.iaload, 1) := by decide +kernel
theorem dL_law_690 : decode cL_law 690 = .ok (.invokevirtual 84, 3) := by decide +kernel
theorem dL_law_693 : decode cL_law 693 = .ok (.aload_n 2, 1) := by decide +kernel
theorem dL_law_694 : decode cL_law 694 = .ok (.aload_n 0, 1) := by decide +kernel
theorem dL_law_695 : decode cL_law 695 = .ok (.iload_n 3, 1) := by decide +kernel
theorem dL_law_696 : decode cL_law 696 = .ok (.iconst 1, 1) := by decide +kernel
theorem dL_law_697 : decode cL_law 697 = .ok (.iadd, 1) := by decide +kernel
theorem dL_law_698 : decode cL_law 698 = .ok (.iaload, 1) := by decide +kernel
theorem dL_law_699 : decode cL_law 699 = .ok (.aload_n 0, 1) := by decide +kernel
theorem dL_law_700 : decode cL_law 700 = .ok (.iload_n 3, 1) := by decide +kernel
theorem dL_law_701 : decode cL_law 701 = .ok (.iconst 2, 1) := by decide +kernel
theorem dL_law_702 : decode cL_law 702 = .ok (.iadd, 1) := by decide +kernel
theorem dL_law_703 : decode cL_law 703 = .ok (.iaload, 1) := by decide +kernel
theorem dL_law_704 : decode cL_law 704 = .ok (.invokevirtual 87, 3) := by decide +kernel
theorem dL_law_707 : decode cL_law 707 = .ok (.if_icmp .eq 484, 3) := by decide +kernel
theorem dL_law_710 : decode cL_law 710 = .ok (.iconst 0, 1) := by decide +kernel
theorem dL_law_711 : decode cL_law 711 = .ok (.ireturn, 1) := by decide +kernel
theorem dL_law_712 : decode cL_law 712 = .ok (.aload_n 1, 1) := by decide +kernel
theorem dL_law_713 : decode cL_law 713 = .ok (.aload_n 0, 1) := by decide +kernel
theorem dL_law_714 : decode cL_law 714 = .ok (.iload_n 3, 1) := by decide +kernel
theorem dL_law_715 : decode cL_law 715 = .ok (.iconst 1, 1) := by decide +kernel
theorem dL_law_716 : decode cL_law 716 = .ok (.iadd, 1) := by decide +kernel
theorem dL_law_717 : decode cL_law 717 = .ok (.iaload, 1) := by decide +kernel
theorem dL_law_718 : decode cL_law 718 = .ok (.invokevirtual 88, 3) := by decide +kernel
theorem dL_law_721 : decode cL_law 721 = .ok (.aload_n 2, 1) := by decide +kernel
theorem dL_law_722 : decode cL_law 722 = .ok (.aload_n 0, 1) := by decide +kernel
theorem dL_law_723 : decode cL_law 723 = .ok (.iload_n 3, 1) := by decide +kernel
theorem dL_law_724 : decode cL_law 724 = .ok (.iconst 1, 1) := by decide +kernel
theorem dL_law_725 : decode cL_law 725 = .ok (.iadd, 1) := by decide +kernel
theorem dL_law_726 : decode cL_law 726 = .ok (.iaload, 1) := by decide +kernel
theorem dL_law_727 : decode cL_law 727 = .ok (.invokevirtual 91, 3) := by decide +kernel
theorem dL_law_730 : decode cL_law 730 = .ok (.if_icmp .eq 461, 3) := by decide +kernel
theorem dL_law_733 : decode cL_law 733 = .ok (.iconst 0, 1) := by decide +kernel
theorem dL_law_734 : decode cL_law 734 = .ok (.ireturn, 1) := by decide +kernel
theorem dL_law_735 : decode cL_law 735 = .ok (.aload_n 1, 1) := by decide +kernel
theorem dL_law_736 : decode cL_law 736 = .ok (.aload_n 0, 1) := by decide +kernel
theorem dL_law_737 : decode cL_law 737 = .ok (.iload_n 3, 1) := by decide +kernel
theorem dL_law_738 : decode cL_law 738 = .ok (.iconst 1, 1) := by decide +kernel
theorem dL_law_739 : decode cL_law 739 = .ok (.iadd, 1) := by decide +kernel
theorem dL_law_740 : decode cL_law 740 = .ok (.iaload, 1) := by decide +kernel
theorem dL_law_741 : decode cL_law 741 = .ok (.aload_n 0, 1) := by decide +kernel
theorem dL_law_742 : decode cL_law 742 = .ok (.iload_n 3, 1) := by decide +kernel
theorem dL_law_743 : decode cL_law 743 = .ok (.iconst 2, 1) := by decide +kernel
theorem dL_law_744 : decode cL_law 744 = .ok (.iadd, 1) := by decide +kernel
theorem dL_law_745 : decode cL_law 745 = .ok (.iaload, 1) := by decide +kernel
theorem dL_law_746 : decode cL_law 746 = .ok (.aload_n 0, 1) := by decide +kernel
theorem dL_law_747 : decode cL_law 747 = .ok (.iload_n 3, 1) := by decide +kernel
theorem dL_law_748 : decode cL_law 748 = .ok (.iconst 3, 1) := by decide +kernel
theorem dL_law_749 : decode cL_law 749 = .ok (.iadd, 1) := by decide +kernel
theorem dL_law_750 : decode cL_law 750 = .ok (.iaload, 1) := by decide +kernel
theorem dL_law_751 : decode cL_law 751 = .ok (.aload_n 0, 1) := by decide +kernel
theorem dL_law_752 : decode cL_law 752 = .ok (.iload_n 3, 1) := by decide +kernel
theorem dL_law_753 : decode cL_law 753 = .ok (.iconst 4, 1) := by decide +kernel
theorem dL_law_754 : decode cL_law 754 = .ok (.iadd, 1) := by decide +kernel
theorem dL_law_755 : decode cL_law 755 = .ok (.iaload, 1) := by decide +kernel
theorem dL_law_756 : decode cL_law 756 = .ok (.invokevirtual 92, 3) := by decide +kernel
theorem dL_law_759 : decode cL_law 759 = .ok (.aload_n 2, 1) := by decide +kernel
theorem dL_law_760 : decode cL_law 760 = .ok (.aload_n 0, 1) := by decide +kernel
theorem dL_law_761 : decode cL_law 761 = .ok (.iload_n 3, 1) := by decide +kernel
theorem dL_law_762 : decode cL_law 762 = .ok (.iconst 1, 1) := by decide +kernel
theorem dL_law_763 : decode cL_law 763 = .ok (.iadd, 1) := by decide +kernel
theorem dL_law_764 : decode cL_law 764 = .ok (.iaload, 1) := by decide +kernel
theorem dL_law_765 : decode cL_law 765 = .ok (.aload_n 0, 1) := by decide +kernel
theorem dL_law_766 : decode cL_law 766 = .ok (.iload_n 3, 1) := by decide +kernel
theorem dL_law_767 : decode cL_law 767 = .ok (.iconst 2, 1) := by decide +kernel
theorem dL_law_768 : decode cL_law 768 = .ok (.iadd, 1) := by decide +kernel
theorem dL_law_769 : decode cL_law 769 = .ok (.iaload, 1) := by decide +kernel
theorem dL_law_770 : decode cL_law 770 = .ok (.aload_n 0, 1) := by decide +kernel
theorem dL_law_771 : decode cL_law 771 = .ok (.iload_n 3, 1) := by decide +kernel
theorem dL_law_772 : decode cL_law 772 = .ok (.iconst 3, 1) := by decide +kernel
theorem dL_law_773 : decode cL_law 773 = .ok (.iadd, 1) := by decide +kernel
theorem dL_law_774 : decode cL_law 774 = .ok (.iaload, 1) := by decide +kernel
theorem dL_law_775 : decode cL_law 775 = .ok (.aload_n 0, 1) := by decide +kernel
theorem dL_law_776 : decode cL_law 776 = .ok (.iload_n 3, 1) := by decide +kernel
theorem dL_law_777 : decode cL_law 777 = .ok (.iconst 4, 1) := by decide +kernel
theorem dL_law_778 : decode cL_law 778 = .ok (.iadd, 1) := by decide +kernel
theorem dL_law_779 : decode cL_law 779 = .ok (.iaload, 1) := by decide +kernel
theorem dL_law_780 : decode cL_law 780 = .ok (.invokevirtual 96, 3) := by decide +kernel
theorem dL_law_783 : decode cL_law 783 = .ok (.if_icmp .eq 408, 3) := by decide +kernel
theorem dL_law_786 : decode cL_law 786 = .ok (.iconst 0, 1) := by decide +kernel
theorem dL_law_787 : decode cL_law 787 = .ok (.ireturn, 1) := by decide +kernel
theorem dL_law_788 : decode cL_law 788 = .ok (.aload_n 1, 1) := by decide +kernel
theorem dL_law_789 : decode cL_law 789 = .ok (.aload_n 0, 1) := by decide +kernel
theorem dL_law_790 : decode cL_law 790 = .ok (.iload_n 3, 1) := by decide +kernel
theorem dL_law_791 : decode cL_law 791 = .ok (.iconst 1, 1) := by decide +kernel
theorem dL_law_792 : decode cL_law 792 = .ok (.iadd, 1) := by decide +kernel
theorem dL_law_793 : decode cL_law 793 = .ok (.iaload, 1) := by decide +kernel
theorem dL_law_794 : decode cL_law 794 = .ok (.aload_n 0, 1) := by decide +kernel
theorem dL_law_795 : decode cL_law 795 = .ok (.iload_n 3, 1) := by decide +kernel
theorem dL_law_796 : decode cL_law 796 = .ok (.iconst 2, 1) := by decide +kernel
theorem dL_law_797 : decode cL_law 797 = .ok (.iadd, 1) := by decide +kernel
theorem dL_law_798 : decode cL_law 798 = .ok (.iaload, 1) := by decide +kernel
theorem dL_law_799 : decode cL_law 799 = .ok (.invokevirtual 97, 3) := by decide +kernel
theorem dL_law_802 : decode cL_law 802 = .ok (.aload_n 2, 1) := by decide +kernel
theorem dL_law_803 : decode cL_law 803 = .ok (.aload_n 0, 1) := by decide +kernel
theorem dL_law_804 : decode cL_law 804 = .ok (.iload_n 3, 1) := by decide +kernel
theorem dL_law_805 : decode cL_law 805 = .ok (.iconst 1, 1) := by decide +kernel
theorem dL_law_806 : decode cL_law 806 = .ok (.iadd, 1) := by decide +kernel
theorem dL_law_807 : decode cL_law 807 = .ok (.iaload, 1) := by decide +kernel
theorem dL_law_808 : decode cL_law 808 = .ok (.aload_n 0, 1) := by decide +kernel
theorem dL_law_809 : decode cL_law 809 = .ok (.iload_n 3, 1) := by decide +kernel
theorem dL_law_810 : decode cL_law 810 = .ok (.iconst 2, 1) := by decide +kernel
theorem dL_law_811 : decode cL_law 811 = .ok (.iadd, 1) := by decide +kernel
theorem dL_law_812 : decode cL_law 812 = .ok (.iaload, 1) := by decide +kernel
theorem dL_law_813 : decode cL_law 813 = .ok (.invokevirtual 100, 3) := by decide +kernel
theorem dL_law_816 : decode cL_law 816 = .ok (.if_icmp .eq 375, 3) := by decide +kernel
theorem dL_law_819 : decode cL_law 819 = .ok (.iconst 0, 1) := by decide +kernel
theorem dL_law_820 : decode cL_law 820 = .ok (.ireturn, 1) := by decide +kernel
theorem dL_law_821 : decode cL_law 821 = .ok (.aload_n 1, 1) := by decide +kernel
theorem dL_law_822 : decode cL_law 822 = .ok (.aload_n 0, 1) := by decide +kernel
theorem dL_law_823 : decode cL_law 823 = .ok (.iload_n 3, 1) := by decide +kernel
theorem dL_law_824 : decode cL_law 824 = .ok (.iconst 1, 1) := by decide +kernel
theorem dL_law_825 : decode cL_law 825 = .ok (.iadd, 1) := by decide +kernel
theorem dL_law_826 : decode cL_law 826 = .ok (.iaload, 1) := by decide +kernel
theorem dL_law_827 : decode cL_law 827 = .ok (.invokevirtual 101, 3) := by decide +kernel
theorem dL_law_830 : decode cL_law 830 = .ok (.aload_n 2, 1) := by decide +kernel
theorem dL_law_831 : decode cL_law 831 = .ok (.aload_n 0, 1) := by decide +kernel
theorem dL_law_832 : decode cL_law 832 = .ok (.iload_n 3, 1) := by decide +kernel
theorem dL_law_833 : decode cL_law 833 = .ok (.iconst 1, 1) := by decide +kernel
theorem dL_law_834 : decode cL_law 834 = .ok (.iadd, 1) := by decide +kernel
theorem dL_law_835 : decode cL_law 835 = .ok (.iaload, 1) := by decide +kernel
theorem dL_law_836 : decode cL_law 836 = .ok (.invokevirtual 104, 3) := by decide +kernel
theorem dL_law_839 : decode cL_law 839 = .ok (.if_icmp .eq 352, 3) := by decide +kernel
theorem dL_law_842 : decode cL_law 842 = .ok (.iconst 0, 1) := by decide +kernel
theorem dL_law_843 : decode cL_law 843 = .ok (.ireturn, 1) := by decide +kernel
theorem dL_law_844 : decode cL_law 844 = .ok (.aload_n 1, 1) := by decide +kernel
theorem dL_law_845 : decode cL_law 845 = .ok (.aload_n 0, 1) := by decide +kernel
theorem dL_law_846 : decode cL_law 846 = .ok (.iload_n 3, 1) := by decide +kernel
theorem dL_law_847 : decode cL_law 847 = .ok (.iconst 1, 1) := by decide +kernel
theorem dL_law_848 : decode cL_law 848 = .ok (.iadd, 1) := by decide +kernel
theorem dL_law_849 : decode cL_law 849 = .ok (.iaload, 1) := by decide +kernel
theorem dL_law_850 : decode cL_law 850 = .ok (.aload_n 0, 1) := by decide +kernel
theorem dL_law_851 : decode cL_law 851 = .ok (.iload_n 3, 1) := by decide +kernel
theorem dL_law_852 : decode cL_law 852 = .ok (.iconst 2, 1) := by decide +kernel
theorem dL_law_853 : decode cL_law 853 = .ok (.iadd, 1) := by decide +kernel
theorem dL_law_854 : decode cL_law 854 = .ok (.iaload, 1) := by decide +kernel
theorem dL_law_855 : decode cL_law 855 = .ok (.aload_n 0, 1) := by decide +kernel
theorem dL_law_856 : decode cL_law 856 = .ok (.iload_n 3, 1) := by decide +kernel
theorem dL_law_857 : decode cL_law 857 = .ok (.iconst 3, 1) := by decide +kernel
theorem dL_law_858 : decode cL_law 858 = .ok (.iadd, 1) := by decide +kernel
theorem dL_law_859 : decode cL_law 859 = .ok (.iaload, 1) := by decide +kernel
theorem dL_law_860 : decode cL_law 860 = .ok (.aload_n 0, 1) := by decide +kernel
theorem dL_law_861 : decode cL_law 861 = .ok (.iload_n 3, 1) := by decide +kernel
theorem dL_law_862 : decode cL_law 862 = .ok (.iconst 4, 1) := by decide +kernel
theorem dL_law_863 : decode cL_law 863 = .ok (.iadd, 1) := by decide +kernel
theorem dL_law_864 : decode cL_law 864 = .ok (.iaload, 1) := by decide +kernel
theorem dL_law_865 : decode cL_law 865 = .ok (.aload_n 0, 1) := by decide +kernel
theorem dL_law_866 : decode cL_law 866 = .ok (.iload_n 3, 1) := by decide +kernel
theorem dL_law_867 : decode cL_law 867 = .ok (.iconst 5, 1) := by decide +kernel
theorem dL_law_868 : decode cL_law 868 = .ok (.iadd, 1) := by decide +kernel
theorem dL_law_869 : decode cL_law 869 = .ok (.iaload, 1) := by decide +kernel
theorem dL_law_870 : decode cL_law 870 = .ok (.aload_n 0, 1) := by decide +kernel
theorem dL_law_871 : decode cL_law 871 = .ok (.iload_n 3, 1) := by decide +kernel
theorem dL_law_872 : decode cL_law 872 = .ok (.bipush 6, 2) := by decide +kernel
theorem dL_law_874 : decode cL_law 874 = .ok (.iadd, 1) := by decide +kernel
theorem dL_law_875 : decode cL_law 875 = .ok (.iaload, 1) := by decide +kernel
theorem dL_law_876 : decode cL_law 876 = .ok (.invokevirtual 105, 3) := by decide +kernel
theorem dL_law_879 : decode cL_law 879 = .ok (.aload_n 2, 1) := by decide +kernel
theorem dL_law_880 : decode cL_law 880 = .ok (.aload_n 0, 1) := by decide +kernel
theorem dL_law_881 : decode cL_law 881 = .ok (.iload_n 3, 1) := by decide +kernel
theorem dL_law_882 : decode cL_law 882 = .ok (.iconst 1, 1) := by decide +kernel
theorem dL_law_883 : decode cL_law 883 = .ok (.iadd, 1) := by decide +kernel
theorem dL_law_884 : decode cL_law 884 = .ok (.iaload, 1) := by decide +kernel
theorem dL_law_885 : decode cL_law 885 = .ok (.aload_n 0, 1) := by decide +kernel
theorem dL_law_886 : decode cL_law 886 = .ok (.iload_n 3, 1) := by decide +kernel
theorem dL_law_887 : decode cL_law 887 = .ok (.iconst 2, 1) := by decide +kernel
theorem dL_law_888 : decode cL_law 888 = .ok (.iadd, 1) := by decide +kernel
theorem dL_law_889 : decode cL_law 889 = .ok (.iaload, 1) := by decide +kernel
theorem dL_law_890 : decode cL_law 890 = .ok (.aload_n 0, 1) := by decide +kernel
theorem dL_law_891 : decode cL_law 891 = .ok (.iload_n 3, 1) := by decide +kernel
theorem dL_law_892 : decode cL_law 892 = .ok (.iconst 3, 1) := by decide +kernel
theorem dL_law_893 : decode cL_law 893 = .ok (.iadd, 1) := by decide +kernel
theorem dL_law_894 : decode cL_law 894 = .ok (.iaload, 1) := by decide +kernel
theorem dL_law_895 : decode cL_law 895 = .ok (.aload_n 0, 1) := by decide +kernel
theorem dL_law_896 : decode cL_law 896 = .ok (.iload_n 3, 1) := by decide +kernel
theorem dL_law_897 : decode cL_law 897 = .ok (.iconst 4, 1) := by decide +kernel
theorem dL_law_898 : decode cL_law 898 = .ok (.iadd, 1) := by decide +kernel
theorem dL_law_899 : decode cL_law 899 = .ok (.iaload, 1) := by decide +kernel
theorem dL_law_900 : decode cL_law 900 = .ok (.aload_n 0, 1) := by decide +kernel
theorem dL_law_901 : decode cL_law 901 = .ok (.iload_n 3, 1) := by decide +kernel
theorem dL_law_902 : decode cL_law 902 = .ok (.iconst 5, 1) := by decide +kernel
theorem dL_law_903 : decode cL_law 903 = .ok (.iadd, 1) := by decide +kernel
theorem dL_law_904 : decode cL_law 904 = .ok (.iaload, 1) := by decide +kernel
theorem dL_law_905 : decode cL_law 905 = .ok (.aload_n 0, 1) := by decide +kernel
theorem dL_law_906 : decode cL_law 906 = .ok (.iload_n 3, 1) := by decide +kernel
theorem dL_law_907 : decode cL_law 907 = .ok (.bipush 6, 2) := by decide +kernel
theorem dL_law_909 : decode cL_law 909 = .ok (.iadd, 1) := by decide +kernel
theorem dL_law_910 : decode cL_law 910 = .ok (.iaload, 1) := by decide +kernel
theorem dL_law_911 : decode cL_law 911 = .ok (.invokevirtual 109, 3) := by decide +kernel
theorem dL_law_914 : decode cL_law 914 = .ok (.if_icmp .eq 277, 3) := by decide +kernel
theorem dL_law_917 : decode cL_law 917 = .ok (.iconst 0, 1) := by decide +kernel
theorem dL_law_918 : decode cL_law 918 = .ok (.ireturn, 1) := by decide +kernel
theorem dL_law_919 : decode cL_law 919 = .ok (.aload_n 1, 1) := by decide +kernel
theorem dL_law_920 : decode cL_law 920 = .ok (.aload_n 0, 1) := by decide +kernel
theorem dL_law_921 : decode cL_law 921 = .ok (.iload_n 3, 1) := by decide +kernel
theorem dL_law_922 : decode cL_law 922 = .ok (.iconst 1, 1) := by decide +kernel
theorem dL_law_923 : decode cL_law 923 = .ok (.iadd, 1) := by decide +kernel
theorem dL_law_924 : decode cL_law 924 = .ok (.iaload, 1) := by decide +kernel
theorem dL_law_925 : decode cL_law 925 = .ok (.aload_n 0, 1) := by decide +kernel
theorem dL_law_926 : decode cL_law 926 = .ok (.iload_n 3, 1) := by decide +kernel
theorem dL_law_927 : decode cL_law 927 = .ok (.iconst 2, 1) := by decide +kernel
theorem dL_law_928 : decode cL_law 928 = .ok (.iadd, 1) := by decide +kernel
theorem dL_law_929 : decode cL_law 929 = .ok (.iaload, 1) := by decide +kernel
theorem dL_law_930 : decode cL_law 930 = .ok (.invokevirtual 110, 3) := by decide +kernel
theorem dL_law_933 : decode cL_law 933 = .ok (.aload_n 2, 1) := by decide +kernel
theorem dL_law_934 : decode cL_law 934 = .ok (.aload_n 0, 1) := by decide +kernel
theorem dL_law_935 : decode cL_law 935 = .ok (.iload_n 3, 1) := by decide +kernel
theorem dL_law_936 : decode cL_law 936 = .ok (.iconst 1, 1) := by decide +kernel
theorem dL_law_937 : decode cL_law 937 = .ok (.iadd, 1) := by decide +kernel
theorem dL_law_938 : decode cL_law 938 = .ok (.iaload, 1) := by decide +kernel
theorem dL_law_939 : decode cL_law 939 = .ok (.aload_n 0, 1) := by decide +kernel
theorem dL_law_940 : decode cL_law 940 = .ok (.iload_n 3, 1) := by decide +kernel
theorem dL_law_941 : decode cL_law 941 = .ok (.iconst 2, 1) := by decide +kernel
theorem dL_law_942 : decode cL_law 942 = .ok (.iadd, 1) := by decide +kernel
theorem dL_law_943 : decode cL_law 943 = .ok (.iaload, 1) := by decide +kernel
theorem dL_law_944 : decode cL_law 944 = .ok (.invokevirtual 113, 3) := by decide +kernel
theorem dL_law_947 : decode cL_law 947 = .ok (.if_icmp .eq 244, 3) := by decide +kernel
theorem dL_law_950 : decode cL_law 950 = .ok (.iconst 0, 1) := by decide +kernel
theorem dL_law_951 : decode cL_law 951 = .ok (.ireturn, 1) := by decide +kernel
theorem dL_law_952 : decode cL_law 952 = .ok (.aload_n 1, 1) := by decide +kernel
theorem dL_law_953 : decode cL_law 953 = .ok (.aload_n 0, 1) := by decide +kernel
theorem dL_law_954 : decode cL_law 954 = .ok (.iload_n 3, 1) := by decide +kernel
theorem dL_law_955 : decode cL_law 955 = .ok (.iconst 1, 1) := by decide +kernel
theorem dL_law_956 : decode cL_law 956 = .ok (.iadd, 1) := by decide +kernel
theorem dL_law_957 : decode cL_law 957 = .ok (.iaload, 1) := by decide +kernel
theorem dL_law_958 : decode cL_law 958 = .ok (.aload_n 0, 1) := by decide +kernel
theorem dL_law_959 : decode cL_law 959 = .ok (.iload_n 3, 1) := by decide +kernel
theorem dL_law_960 : decode cL_law 960 = .ok (.iconst 2, 1) := by decide +kernel
theorem dL_law_961 : decode cL_law 961 = .ok (.iadd, 1) := by decide +kernel
theorem dL_law_962 : decode cL_law 962 = .ok (.iaload, 1) := by decide +kernel
theorem dL_law_963 : decode cL_law 963 = .ok (.invokevirtual 114, 3) := by decide +kernel
theorem dL_law_966 : decode cL_law 966 = .ok (.aload_n 2, 1) := by decide +kernel
theorem dL_law_967 : decode cL_law 967 = .ok (.aload_n 0, 1) := by decide +kernel
theorem dL_law_968 : decode cL_law 968 = .ok (.iload_n 3, 1) := by decide +kernel
theorem dL_law_969 : decode cL_law 969 = .ok (.iconst 1, 1) := by decide +kernel
theorem dL_law_970 : decode cL_law 970 = .ok (.iadd, 1) := by decide +kernel
theorem dL_law_971 : decode cL_law 971 = .ok (.iaload, 1) := by decide +kernel
theorem dL_law_972 : decode cL_law 972 = .ok (.aload_n 0, 1) := by decide +kernel
theorem dL_law_973 : decode cL_law 973 = .ok (.iload_n 3, 1) := by decide +kernel
theorem dL_law_974 : decode cL_law 974 = .ok (.iconst 2, 1) := by decide +kernel
theorem dL_law_975 : decode cL_law 975 = .ok (.iadd, 1) := by decide +kernel
theorem dL_law_976 : decode cL_law 976 = .ok (.iaload, 1) := by decide +kernel
theorem dL_law_977 : decode cL_law 977 = .ok (.invokevirtual 117, 3) := by decide +kernel
theorem dL_law_980 : decode cL_law 980 = .ok (.if_icmp .eq 211, 3) := by decide +kernel
theorem dL_law_983 : decode cL_law 983 = .ok (.iconst 0, 1) := by decide +kernel
theorem dL_law_984 : decode cL_law 984 = .ok (.ireturn, 1) := by decide +kernel
theorem dL_law_985 : decode cL_law 985 = .ok (.aload_n 1, 1) := by decide +kernel
theorem dL_law_986 : decode cL_law 986 = .ok (.invokevirtual 118, 3) := by decide +kernel
theorem dL_law_989 : decode cL_law 989 = .ok (.aload_n 2, 1) := by decide +kernel
theorem dL_law_990 : decode cL_law 990 = .ok (.invokevirtual 122, 3) := by decide +kernel
theorem dL_law_993 : decode cL_law 993 = .ok (.if_icmp .eq 198, 3) := by decide +kernel
theorem dL_law_996 : decode cL_law 996 = .ok (.iconst 0, 1) := by decide +kernel
theorem dL_law_997 : decode cL_law 997 = .ok (.ireturn, 1) := by decide +kernel
theorem dL_law_998 : decode cL_law 998 = .ok (.aload_n 1, 1) := by decide +kernel
theorem dL_law_999 : decode cL_law 999 = .ok (.invokevirtual 123, 3) := by decide +kernel
theorem dL_law_1002 : decode cL_law 1002 = .ok (.aload_n 2, 1) := by decide +kernel
theorem dL_law_1003 : decode cL_law 1003 = .ok (.invokevirtual 126, 3) := by decide +kernel
theorem dL_law_1006 : decode cL_law 1006 = .ok (.if_icmp .eq 185, 3) := by decide +kernel
theorem dL_law_1009 : decode cL_law 1009 = .ok (.iconst 0, 1) := by decide +kernel
theorem dL_law_1010 : decode cL_law 1010 = .ok (.ireturn, 1) := by decide +kernel
theorem dL_law_1011 : decode cL_law 1011 = .ok (.aload_n 1, 1) := by decide +kernel
theorem dL_law_1012 : decode cL_law 1012 = .ok (.invokevirtual 127, 3) := by decide +kernel
theorem dL_law_1015 : decode cL_law 1015 = .ok (.aload_n 2, 1) := by decide +kernel
theorem dL_law_1016 : decode cL_law 1016 = .ok (.invokevirtual 130, 3) := by decide +kernel
theorem dL_law_1019 : decode cL_law 1019 = .ok (.if_icmp .eq 172, 3) := by decide +kernel
theorem dL_law_1022 : decode cL_law 1022 = .ok (.iconst 0, 1) := by decide +kernel
theorem dL_law_1023 : decode cL_law 1023 = .ok (.ireturn, 1) := by decide +kernel
theorem dL_law_1024 : decode cL_law 1024 = .ok (.aload_n 1, 1) := by decide +kernel
theorem dL_law_1025 : decode cL_law 1025 = .ok (.aload_n 0, 1) := by decide +kernel
theorem dL_law_1026 : decode cL_law 1026 = .ok (.iload_n 3, 1) := by decide +kernel
theorem dL_law_1027 : decode cL_law 1027 = .ok (.iconst 1, 1) := by decide +kernel
theorem dL_law_1028 : decode cL_law 1028 = .ok (.iadd, 1) := by decide +kernel
theorem dL_law_1029 : decode cL_law 1029 = .ok (.iaload, 1) := by decide +kernel
theorem dL_law_1030 : decode cL_law 1030 = .ok (.aload_n 0, 1) := by decide +kernel
theorem dL_law_1031 : decode cL_law 1031 = .ok (.iload_n 3, 1) := by decide +kernel
theorem dL_law_1032 : decode cL_law 1032 = .ok (.iconst 2, 1) := by decide +kernel
theorem dL_law_1033 : decode cL_law 1033 = .ok (.iadd, 1) := by decide +kernel
theorem dL_law_1034 : decode cL_law 1034 = .ok (.iaload, 1) := by decide +kernel
theorem dL_law_1035 : decode cL_law 1035 = .ok (.ifCond .eq 7, 3) := by decide +kernel
theorem dL_law_1038 : decode cL_law 1038 = .ok (.iconst 1, 1) := by decide +kernel
theorem dL_law_1039 : decode cL_law 1039 = .ok (.goto 4, 3) := by decide +kernel
theorem dL_law_1042 : decode cL_law 1042 = .ok (.iconst 0, 1) := by decide +kernel
theorem dL_law_1043 : decode cL_law 1043 = .ok (.invokevirtual 131, 3) := by decide +kernel
theorem dL_law_1046 : decode cL_law 1046 = .ok (.aload_n 2, 1) := by decide +kernel
theorem dL_law_1047 : decode cL_law 1047 = .ok (.aload_n 0, 1) := by decide +kernel
theorem dL_law_1048 : decode cL_law 1048 = .ok (.iload_n 3, 1) := by decide +kernel
theorem dL_law_1049 : decode cL_law 1049 = .ok (.iconst 1, 1) := by decide +kernel
theorem dL_law_1050 : decode cL_law 1050 = .ok (.iadd, 1) := by decide +kernel
theorem dL_law_1051 : decode cL_law 1051 = .ok (.iaload, 1) := by decide +kernel
theorem dL_law_1052 : decode cL_law 1052 = .ok (.aload_n 0, 1) := by decide +kernel
theorem dL_law_1053 : decode cL_law 1053 = .ok (.iload_n 3, 1) := by decide +kernel
theorem dL_law_1054 : decode cL_law 1054 = .ok (.iconst 2, 1) := by decide +kernel
theorem dL_law_1055 : decode cL_law 1055 = .ok (.iadd, 1) := by decide +kernel
theorem dL_law_1056 : decode cL_law 1056 = .ok (.iaload, 1) := by decide +kernel
theorem dL_law_1057 : decode cL_law 1057 = .ok (.ifCond .eq 7, 3) := by decide +kernel
theorem dL_law_1060 : decode cL_law 1060 = .ok (.iconst 1, 1) := by decide +kernel
theorem dL_law_1061 : decode cL_law 1061 = .ok (.goto 4, 3) := by decide +kernel
theorem dL_law_1064 : decode cL_law 1064 = .ok (.iconst 0, 1) := by decide +kernel
theorem dL_law_1065 : decode cL_law 1065 = .ok (.invokevirtual 135, 3) := by decide +kernel
theorem dL_law_1068 : decode cL_law 1068 = .ok (.if_icmp .eq 123, 3) := by decide +kernel
theorem dL_law_1071 : decode cL_law 1071 = .ok (.iconst 0, 1) := by decide +kernel
theorem dL_law_1072 : decode cL_law 1072 = .ok (.ireturn, 1) := by decide +kernel
theorem dL_law_1073 : decode cL_law 1073 = .ok (.aload_n 1, 1) := by decide +kernel
theorem dL_law_1074 : decode cL_law 1074 = .ok (.aload_n 0, 1) := by decide +kernel
theorem dL_law_1075 : decode cL_law 1075 = .ok (.iload_n 3, 1) := by decide +kernel
theorem dL_law_1076 : decode cL_law 1076 = .ok (.iconst 1, 1) := by decide +kernel
theorem dL_law_1077 : decode cL_law 1077 = .ok (.iadd, 1) := by decide +kernel
theorem dL_law_1078 : decode cL_law 1078 = .ok (.iaload, 1) := by decide +kernel
theorem dL_law_1079 : decode cL_law 1079 = .ok (.invokevirtual 136, 3) := by decide +kernel
theorem dL_law_1082 : decode cL_law 1082 = .ok (.aload_n 2, 1) := by decide +kernel
theorem dL_law_1083 : decode cL_law 1083 = .ok (.aload_n 0, 1) := by decide +kernel
theorem dL_law_1084 : decode cL_law 1084 = .ok (.iload_n 3, 1) := by decide +kernel
theorem dL_law_1085 : decode cL_law 1085 = .ok (.iconst 1, 1) := by decide +kernel
theorem dL_law_1086 : decode cL_law 1086 = .ok (.iadd, 1) := by decide +kernel
theorem dL_law_1087 : decode cL_law 1087 = .ok (.iaload, 1) := by decide +kernel
theorem dL_law_1088 : decode cL_law 1088 = .ok (.invokevirtual 139, 3) := by decide +kernel
theorem dL_law_1091 : decode cL_law 1091 = .ok (.if_icmp .eq 100, 3) := by decide +kernel
theorem dL_law_1094 : decode cL_law 1094 = .ok (.iconst 0, 1) := by decide +kernel
theorem dL_law_1095 : decode cL_law 1095 = .ok (.ireturn, 1) := by decide +kernel
theorem dL_law_1096 : decode cL_law 1096 = .ok (.aload_n 1, 1) := by decide +kernel
theorem dL_law_1097 : decode cL_law 1097 = .ok (.aload_n 0, 1) := by decide +kernel
theorem dL_law_1098 : decode cL_law 1098 = .ok (.iload_n 3, 1) := by decide +kernel
theorem dL_law_1099 : decode cL_law 1099 = .ok (.iconst 1, 1) := by decide +kernel
theorem dL_law_1100 : decode cL_law 1100 = .ok (.iadd, 1) := by decide +kernel
theorem dL_law_1101 : decode cL_law 1101 = .ok (.iaload, 1) := by decide +kernel
theorem dL_law_1102 : decode cL_law 1102 = .ok (.invokevirtual 140, 3) := by decide +kernel
theorem dL_law_1105 : decode cL_law 1105 = .ok (.aload_n 2, 1) := by decide +kernel
theorem dL_law_1106 : decode cL_law 1106 = .ok (.aload_n 0, 1) := by decide +kernel
theorem dL_law_1107 : decode cL_law 1107 = .ok (.iload_n 3, 1) := by decide +kernel
theorem dL_law_1108 : decode cL_law 1108 = .ok (.iconst 1, 1) := by decide +kernel
theorem dL_law_1109 : decode cL_law 1109 = .ok (.iadd, 1) := by decide +kernel
theorem dL_law_1110 : decode cL_law 1110 = .ok (.iaload, 1) := by decide +kernel
theorem dL_law_1111 : decode cL_law 1111 = .ok (.invokevirtual 143, 3) := by decide +kernel
theorem dL_law_1114 : decode cL_law 1114 = .ok (.if_icmp .eq 77, 3) := by decide +kernel
theorem dL_law_1117 : decode cL_law 1117 = .ok (.iconst 0, 1) := by decide +kernel
theorem dL_law_1118 : decode cL_law 1118 = .ok (.ireturn, 1) := by decide +kernel
theorem dL_law_1119 : decode cL_law 1119 = .ok (.aload_n 1, 1) := by decide +kernel
theorem dL_law_1120 : decode cL_law 1120 = .ok (.aload_n 0, 1) := by decide +kernel
theorem dL_law_1121 : decode cL_law 1121 = .ok (.iload_n 3, 1) := by decide +kernel
theorem dL_law_1122 : decode cL_law 1122 = .ok (.iconst 1, 1) := by decide +kernel
theorem dL_law_1123 : decode cL_law 1123 = .ok (.iadd, 1) := by decide +kernel
theorem dL_law_1124 : decode cL_law 1124 = .ok (.iaload, 1) := by decide +kernel
theorem dL_law_1125 : decode cL_law 1125 = .ok (.invokevirtual 144, 3) := by decide +kernel
theorem dL_law_1128 : decode cL_law 1128 = .ok (.aload_n 2, 1) := by decide +kernel
theorem dL_law_1129 : decode cL_law 1129 = .ok (.aload_n 0, 1) := by decide +kernel
theorem dL_law_1130 : decode cL_law 1130 = .ok (.iload_n 3, 1) := by decide +kernel
theorem dL_law_1131 : decode cL_law 1131 = .ok (.iconst 1, 1) := by decide +kernel
theorem dL_law_1132 : decode cL_law 1132 = .ok (.iadd, 1) := by decide +kernel
theorem dL_law_1133 : decode cL_law 1133 = .ok (.iaload, 1) := by decide +kernel
theorem dL_law_1134 : decode cL_law 1134 = .ok (.invokevirtual 147, 3) := by decide +kernel
theorem dL_law_1137 : decode cL_law 1137 = .ok (.if_icmp .eq 54, 3) := by decide +kernel
theorem dL_law_1140 : decode cL_law 1140 = .ok (.iconst 0, 1) := by decide +kernel
theorem dL_law_1141 : decode cL_law 1141 = .ok (.ireturn, 1) := by decide +kernel
theorem dL_law_1142 : decode cL_law 1142 = .ok (.aload_n 1, 1) := by decide +kernel
theorem dL_law_1143 : decode cL_law 1143 = .ok (.invokevirtual 148, 3) := by decide +kernel
theorem dL_law_1146 : decode cL_law 1146 = .ok (.aload_n 2, 1) := by decide +kernel
theorem dL_law_1147 : decode cL_law 1147 = .ok (.invokevirtual 151, 3) := by decide +kernel
theorem dL_law_1150 : decode cL_law 1150 = .ok (.if_icmp .eq 41, 3) := by decide +kernel
theorem dL_law_1153 : decode cL_law 1153 = .ok (.iconst 0, 1) := by decide +kernel
theorem dL_law_1154 : decode cL_law 1154 = .ok (.ireturn, 1) := by decide +kernel
theorem dL_law_1155 : decode cL_law 1155 = .ok (.aload_n 1, 1) := by decide +kernel
theorem dL_law_1156 : decode cL_law 1156 = .ok (.invokevirtual 152, 3) := by decide +kernel
theorem dL_law_1159 : decode cL_law 1159 = .ok (.aload_n 2, 1) := by decide +kernel
theorem dL_law_1160 : decode cL_law 1160 = .ok (.invokevirtual 155, 3) := by decide +kernel
theorem dL_law_1163 : decode cL_law 1163 = .ok (.if_icmp .eq 28, 3) := by decide +kernel
theorem dL_law_1166 : decode cL_law 1166 = .ok (.iconst 0, 1) := by decide +kernel
theorem dL_law_1167 : decode cL_law 1167 = .ok (.ireturn, 1) := by decide +kernel
theorem dL_law_1168 : decode cL_law 1168 = .ok (.aload_n 1, 1) := by decide +kernel
theorem dL_law_1169 : decode cL_law 1169 = .ok (.aload_n 0, 1) := by decide +kernel
theorem dL_law_1170 : decode cL_law 1170 = .ok (.iload_n 3, 1) := by decide +kernel
theorem dL_law_1171 : decode cL_law 1171 = .ok (.iconst 1, 1) := by decide +kernel
theorem dL_law_1172 : decode cL_law 1172 = .ok (.iadd, 1) := by decide +kernel
theorem dL_law_1173 : decode cL_law 1173 = .ok (.iaload, 1) := by decide +kernel
theorem dL_law_1174 : decode cL_law 1174 = .ok (.invokevirtual 156, 3) := by decide +kernel
theorem dL_law_1177 : decode cL_law 1177 = .ok (.aload_n 2, 1) := by decide +kernel
theorem dL_law_1178 : decode cL_law 1178 = .ok (.aload_n 0, 1) := by decide +kernel
theorem dL_law_1179 : decode cL_law 1179 = .ok (.iload_n 3, 1) := by decide +kernel
theorem dL_law_1180 : decode cL_law 1180 = .ok (.iconst 1, 1) := by decide +kernel
theorem dL_law_1181 : decode cL_law 1181 = .ok (.iadd, 1) := by decide +kernel
theorem dL_law_1182 : decode cL_law 1182 = .ok (.iaload, 1) := by decide +kernel
theorem dL_law_1183 : decode cL_law 1183 = .ok (.invokevirtual 159, 3) := by decide +kernel
theorem dL_law_1186 : decode cL_law 1186 = .ok (.if_icmp .eq 5, 3) := by decide +kernel
theorem dL_law_1189 : decode cL_law 1189 = .ok (.iconst 0, 1) := by decide +kernel
theorem dL_law_1190 : decode cL_law 1190 = .ok (.ireturn, 1) := by decide +kernel
theorem dL_law_1191 : decode cL_law 1191 = .ok (.iinc 3 7, 3) := by decide +kernel
theorem dL_law_1194 : decode cL_law 1194 = .ok (.goto (-1176), 3) := by decide +kernel
theorem dL_law_1197 : decode cL_law 1197 = .ok (.iconst 1, 1) := by decide +kernel
theorem dL_law_1198 : decode cL_law 1198 = .ok (.ireturn, 1) := by decide +kernel
abbrev vwCl : List vw_C := [(RX0, TX0, 8), (RX1, TX1, 5), (RX2, TX2, 1), (RX3, TX3, 3), (RX4, TX4, 2), (RX5, TX5, 3), (RX6, TX6, 4), (RX7, TX7, 7), (RX8, TX8, 4), (RX9, TX9, 5), (RX10, TX10, 7), (RX11, TX11, 10)]
