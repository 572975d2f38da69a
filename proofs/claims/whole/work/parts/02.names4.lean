set_option maxRecDepth 20000 in
theorem ggX10_of_X5_serveProduct : GoodIn wsX10_of wsX5_serveProduct := goodIn_r _ [96, 97, 5, 98, 99, 65, 77, 16, 78, 79, 19, 55, 56, 57, 100, 101, 102, 88, 103, 91, 93, 92, 104, 105, 106, 107, 115, 116, 117, 118, 119, 120, 121, 122, 136, 137, 138, 126, 127, 128, 129, 130, 123, 124, 125, 143, 144, 145, 146, 147, 148, 149] (by decide +kernel) (by decide +kernel)
set_option maxRecDepth 20000 in
theorem gX10_of_X5_serveProduct_n227 : GoodIn wsX10_of (wsX5_serveProduct) := ggX10_of_X5_serveProduct
theorem dX10_of_0 : decode cX10_of 0 = .ok (.aload_n 0, 1) := by decide +kernel
theorem dX10_of_1 : decode cX10_of 1 = .ok (.getfield 19, 3) := by decide +kernel
theorem dX10_of_4 : decode cX10_of 4 = .ok (.getfield 64, 3) := by decide +kernel
theorem dX10_of_7 : decode cX10_of 7 = .ok (.iload_n 1, 1) := by decide +kernel
theorem dX10_of_8 : decode cX10_of 8 = .ok (.invokevirtual 74, 3) := by decide +kernel
theorem dX10_of_11 : decode cX10_of 11 = .ok (.ifCond .ne 9, 3) := by decide +kernel
theorem dX10_of_14 : decode cX10_of 14 = .ok (.aload_n 0, 1) := by decide +kernel
theorem dX10_of_15 : decode cX10_of 15 = .ok (.iconst (-1), 1) := by decide +kernel
theorem dX10_of_16 : decode cX10_of 16 = .ok (.invokevirtual 44, 3) := by decide +kernel
theorem dX10_of_19 : decode cX10_of 19 = .ok (.ireturn, 1) := by decide +kernel
theorem dX10_of_20 : decode cX10_of 20 = .ok (.aload_n 0, 1) := by decide +kernel
theorem dX10_of_21 : decode cX10_of 21 = .ok (.getfield 29, 3) := by decide +kernel
theorem dX10_of_24 : decode cX10_of 24 = .ok (.aload_n 0, 1) := by decide +kernel
theorem dX10_of_25 : decode cX10_of 25 = .ok (.getfield 19, 3) := by decide +kernel
theorem dX10_of_28 : decode cX10_of 28 = .ok (.invokevirtual 159, 3) := by decide +kernel
theorem dX10_of_31 : decode cX10_of 31 = .ok (.aload_n 0, 1) := by decide +kernel
theorem dX10_of_32 : decode cX10_of 32 = .ok (.getfield 36, 3) := by decide +kernel
theorem dX10_of_35 : decode cX10_of 35 = .ok (.aload_n 0, 1) := by decide +kernel
theorem dX10_of_36 : decode cX10_of 36 = .ok (.getfield 19, 3) := by decide +kernel
theorem dX10_of_39 : decode cX10_of 39 = .ok (.getfield 191, 3) := by decide +kernel
theorem dX10_of_42 : decode cX10_of 42 = .ok (.aload_n 0, 1) := by decide +kernel
theorem dX10_of_43 : decode cX10_of 43 = .ok (.getfield 19, 3) := by decide +kernel
theorem dX10_of_46 : decode cX10_of 46 = .ok (.getfield 153, 3) := by decide +kernel
theorem dX10_of_49 : decode cX10_of 49 = .ok (.invokevirtual 216, 3) := by decide +kernel
theorem dX10_of_52 : decode cX10_of 52 = .ok (.aload_n 0, 1) := by decide +kernel
theorem dX10_of_53 : decode cX10_of 53 = .ok (.getfield 36, 3) := by decide +kernel
theorem dX10_of_56 : decode cX10_of 56 = .ok (.aload_n 0, 1) := by decide +kernel
theorem dX10_of_57 : decode cX10_of 57 = .ok (.getfield 19, 3) := by decide +kernel
theorem dX10_of_60 : decode cX10_of 60 = .ok (.aload_n 0, 1) := by decide +kernel
theorem dX10_of_61 : decode cX10_of 61 = .ok (.getfield 29, 3) := by decide +kernel
theorem dX10_of_64 : decode cX10_of 64 = .ok (.iload_n 1, 1) := by decide +kernel
theorem dX10_of_65 : decode cX10_of 65 = .ok (.invokevirtual 227, 3) := by decide +kernel
theorem dX10_of_68 : decode cX10_of 68 = .ok (.iload_n 2, 1) := by decide +kernel
theorem dX10_of_69 : decode cX10_of 69 = .ok (.ifCond .eq 13, 3) := by decide +kernel
theorem dX10_of_72 : decode cX10_of 72 = .ok (.aload_n 0, 1) := by decide +kernel
theorem dX10_of_73 : decode cX10_of 73 = .ok (.getfield 36, 3) := by decide +kernel
theorem dX10_of_76 : decode cX10_of 76 = .ok (.getfield 224, 3) := by decide +kernel
theorem dX10_of_79 : decode cX10_of 79 = .ok (.goto 10, 3) := by decide +kernel
theorem dX10_of_82 : decode cX10_of 82 = .ok (.aload_n 0, 1) := by decide +kernel
theorem dX10_of_83 : decode cX10_of 83 = .ok (.getfield 36, 3) := by decide +kernel
theorem dX10_of_86 : decode cX10_of 86 = .ok (.getfield 231, 3) := by decide +kernel
theorem dX10_of_89 : decode cX10_of 89 = .ok (.ireturn, 1) := by decide +kernel
set_option maxRecDepth 20000 in
theorem ggX10_without_X7_isOne : GoodIn wsX10_without wsX7_isOne := goodIn_r _ [7, 8, 134, 135, 136, 137, 138, 139, 140] (by decide +kernel) (by decide +kernel)
set_option maxRecDepth 20000 in
theorem gX10_without_X7_isOne_n201 : GoodIn wsX10_without (wsX7_isOne) := ggX10_without_X7_isOne
set_option maxRecDepth 20000 in
theorem ggX10_without_X10_finding : GoodIn wsX10_without wsX10_finding := goodIn_r _ [13, 14, 116, 117, 118, 119, 120, 121, 122] (by decide +kernel) (by decide +kernel)
set_option maxRecDepth 20000 in
theorem gX10_without_X10_finding : GoodIn wsX10_without (wsV RX10 44 RX10 yX10_finding wsX10_finding) := goodIn_app (goodIn_of _ (by decide +kernel)) ggX10_without_X10_finding
set_option maxRecDepth 20000 in
theorem ggX10_without_X2_fill : GoodIn wsX10_without wsX2_fill := goodIn_r _ [18, 19, 20, 21, 22, 23, 24, 25, 26, 27, 28, 29, 30, 31, 12, 32, 33, 34, 35, 36, 37, 38, 39, 40, 41, 42, 43, 44, 45, 46, 47, 48, 49, 16, 50, 51, 52, 53, 54, 55, 56, 57, 58, 59, 60, 61, 62, 63, 64, 65, 66, 67, 68, 69, 70, 71, 72, 73, 74, 75, 76, 77, 78, 79, 80, 81, 82, 83, 84, 85, 86, 87, 141, 123, 124, 125, 126, 127, 128, 129, 130, 142, 143, 144, 145, 146, 147, 148, 149, 150, 151, 152, 153, 154, 155, 156, 157] (by decide +kernel) (by decide +kernel)
set_option maxRecDepth 20000 in
theorem gX10_without_X2_fill_n159 : GoodIn wsX10_without (wsX2_fill) := ggX10_without_X2_fill
set_option maxRecDepth 20000 in
theorem ggX10_without_X5_begin : GoodIn wsX10_without wsX5_begin := goodIn_r _ [91, 92, 93, 94, 31, 12, 32, 131, 132, 133, 134, 135, 136, 137, 138, 139, 140] (by decide +kernel) (by decide +kernel)
set_option maxRecDepth 20000 in
theorem gX10_without_X5_begin_n216 : GoodIn wsX10_without (wsX5_begin) := ggX10_without_X5_begin
set_option maxRecDepth 20000 in
theorem ggX10_without_X5_leaveOut : GoodIn wsX10_without wsX5_leaveOut := goodIn_r _ [97, 94, 131, 132, 133] (by decide +kernel) (by decide +kernel)
set_option maxRecDepth 20000 in
theorem gX10_without_X5_leaveOut_n234 : GoodIn wsX10_without (wsX5_leaveOut) := ggX10_without_X5_leaveOut
set_option maxRecDepth 20000 in
theorem ggX10_without_X5_serveAll : GoodIn wsX10_without wsX5_serveAll := goodIn_r _ [100, 101, 102, 103, 89, 104, 105, 63, 106, 107, 66, 78, 16, 79, 80, 19, 55, 56, 57, 108, 109, 110, 111, 92, 94, 93, 112, 113, 114, 115, 123, 124, 125, 126, 127, 128, 129, 130, 154, 155, 156, 157, 147, 148, 149, 141, 131, 132, 133, 134, 135, 136, 137, 138, 139, 140] (by decide +kernel) (by decide +kernel)
set_option maxRecDepth 20000 in
theorem gX10_without_X5_serveAll_n220 : GoodIn wsX10_without (wsX5_serveAll) := ggX10_without_X5_serveAll
theorem dX10_without_0 : decode cX10_without 0 = .ok (.aload_n 0, 1) := by decide +kernel
theorem dX10_without_1 : decode cX10_without 1 = .ok (.getfield 19, 3) := by decide +kernel
theorem dX10_without_4 : decode cX10_without 4 = .ok (.getfield 191, 3) := by decide +kernel
theorem dX10_without_7 : decode cX10_without 7 = .ok (.iload_n 1, 1) := by decide +kernel
theorem dX10_without_8 : decode cX10_without 8 = .ok (.invokevirtual 201, 3) := by decide +kernel
theorem dX10_without_11 : decode cX10_without 11 = .ok (.ifCond .ne 9, 3) := by decide +kernel
theorem dX10_without_14 : decode cX10_without 14 = .ok (.aload_n 0, 1) := by decide +kernel
theorem dX10_without_15 : decode cX10_without 15 = .ok (.iconst (-1), 1) := by decide +kernel
theorem dX10_without_16 : decode cX10_without 16 = .ok (.invokevirtual 44, 3) := by decide +kernel
theorem dX10_without_19 : decode cX10_without 19 = .ok (.ireturn, 1) := by decide +kernel
theorem dX10_without_20 : decode cX10_without 20 = .ok (.aload_n 0, 1) := by decide +kernel
theorem dX10_without_21 : decode cX10_without 21 = .ok (.getfield 29, 3) := by decide +kernel
theorem dX10_without_24 : decode cX10_without 24 = .ok (.aload_n 0, 1) := by decide +kernel
theorem dX10_without_25 : decode cX10_without 25 = .ok (.getfield 19, 3) := by decide +kernel
theorem dX10_without_28 : decode cX10_without 28 = .ok (.invokevirtual 159, 3) := by decide +kernel
theorem dX10_without_31 : decode cX10_without 31 = .ok (.aload_n 0, 1) := by decide +kernel
theorem dX10_without_32 : decode cX10_without 32 = .ok (.getfield 36, 3) := by decide +kernel
theorem dX10_without_35 : decode cX10_without 35 = .ok (.aload_n 0, 1) := by decide +kernel
theorem dX10_without_36 : decode cX10_without 36 = .ok (.getfield 19, 3) := by decide +kernel
theorem dX10_without_39 : decode cX10_without 39 = .ok (.getfield 191, 3) := by decide +kernel
theorem dX10_without_42 : decode cX10_without 42 = .ok (.aload_n 0, 1) := by decide +kernel
theorem dX10_without_43 : decode cX10_without 43 = .ok (.getfield 19, 3) := by decide +kernel
theorem dX10_without_46 : decode cX10_without 46 = .ok (.getfield 153, 3) := by decide +kernel
theorem dX10_without_49 : decode cX10_without 49 = .ok (.invokevirtual 216, 3) := by decide +kernel
theorem dX10_without_52 : decode cX10_without 52 = .ok (.aload_n 0, 1) := by decide +kernel
theorem dX10_without_53 : decode cX10_without 53 = .ok (.getfield 36, 3) := by decide +kernel
theorem dX10_without_56 : decode cX10_without 56 = .ok (.iload_n 1, 1) := by decide +kernel
theorem dX10_without_57 : decode cX10_without 57 = .ok (.invokevirtual 234, 3) := by decide +kernel
theorem dX10_without_60 : decode cX10_without 60 = .ok (.aload_n 0, 1) := by decide +kernel
theorem dX10_without_61 : decode cX10_without 61 = .ok (.getfield 36, 3) := by decide +kernel
theorem dX10_without_64 : decode cX10_without 64 = .ok (.aload_n 0, 1) := by decide +kernel
theorem dX10_without_65 : decode cX10_without 65 = .ok (.getfield 19, 3) := by decide +kernel
theorem dX10_without_68 : decode cX10_without 68 = .ok (.aload_n 0, 1) := by decide +kernel
theorem dX10_without_69 : decode cX10_without 69 = .ok (.getfield 29, 3) := by decide +kernel
theorem dX10_without_72 : decode cX10_without 72 = .ok (.invokevirtual 220, 3) := by decide +kernel
theorem dX10_without_75 : decode cX10_without 75 = .ok (.aload_n 0, 1) := by decide +kernel
theorem dX10_without_76 : decode cX10_without 76 = .ok (.getfield 36, 3) := by decide +kernel
theorem dX10_without_79 : decode cX10_without 79 = .ok (.getfield 231, 3) := by decide +kernel
theorem dX10_without_82 : decode cX10_without 82 = .ok (.ireturn, 1) := by decide +kernel
set_option maxRecDepth 20000 in
theorem ggX10_spared_X3_isOne : GoodIn wsX10_spared wsX3_isOne := goodIn_r _ [6, 7, 135, 136, 137] (by decide +kernel) (by decide +kernel)
set_option maxRecDepth 20000 in
theorem gX10_spared_X3_isOne_n123 : GoodIn wsX10_spared (wsX3_isOne) := ggX10_spared_X3_isOne
set_option maxRecDepth 20000 in
theorem ggX10_spared_X10_finding : GoodIn wsX10_spared wsX10_finding := goodIn_r _ [12, 13, 120, 121, 122, 123, 124, 125, 126] (by decide +kernel) (by decide +kernel)
set_option maxRecDepth 20000 in
theorem gX10_spared_X10_finding : GoodIn wsX10_spared (wsV RX10 44 RX10 yX10_finding wsX10_finding) := goodIn_app (goodIn_of _ (by decide +kernel)) ggX10_spared_X10_finding
set_option maxRecDepth 20000 in
theorem ggX10_spared_X2_fill : GoodIn wsX10_spared wsX2_fill := goodIn_r _ [17, 18, 19, 20, 21, 22, 23, 24, 25, 26, 27, 28, 29, 30, 11, 31, 32, 33, 34, 35, 36, 37, 38, 39, 40, 41, 42, 43, 44, 45, 46, 47, 48, 15, 49, 50, 51, 52, 53, 54, 55, 56, 57, 58, 59, 60, 61, 62, 63, 64, 65, 66, 67, 68, 69, 70, 71, 72, 73, 74, 75, 76, 77, 78, 79, 80, 81, 82, 83, 84, 85, 86, 138, 127, 128, 129, 130, 131, 132, 133, 134, 139, 140, 141, 142, 143, 135, 136, 137, 144, 145, 146, 147, 148, 149, 150, 151] (by decide +kernel) (by decide +kernel)
set_option maxRecDepth 20000 in
theorem gX10_spared_X2_fill_n159 : GoodIn wsX10_spared (wsX2_fill) := ggX10_spared_X2_fill
set_option maxRecDepth 20000 in
theorem ggX10_spared_X2_leaveOut : GoodIn wsX10_spared wsX2_leaveOut := goodIn_r _ [89, 18, 54, 55, 15, 56, 138] (by decide +kernel) (by decide +kernel)
set_option maxRecDepth 20000 in
theorem gX10_spared_X2_leaveOut_n237 : GoodIn wsX10_spared (wsX2_leaveOut) := ggX10_spared_X2_leaveOut
set_option maxRecDepth 20000 in
theorem ggX10_spared_X10_lackOn : GoodIn wsX10_spared wsX10_lackOn := goodIn_r _ [93, 94, 1, 2, 95, 96, 97, 98, 99, 100, 101, 30, 11, 31, 102, 103, 104, 105, 106, 107, 108, 109, 62, 110, 111, 65, 77, 15, 78, 79, 18, 54, 55, 56, 112, 113, 114, 115, 116, 117, 118, 119, 120, 121, 122, 123, 124, 125, 126, 127, 128, 129, 130, 131, 132, 133, 134, 152, 153, 154, 155, 156, 157, 158, 159, 160, 161, 148, 149, 150, 151, 135, 136, 137, 138] (by decide +kernel) (by decide +kernel)
set_option maxRecDepth 20000 in
theorem gX10_spared_X10_lackOn : GoodIn wsX10_spared (wsV RX10 213 RX10 yX10_lackOn wsX10_lackOn) := goodIn_app (goodIn_of _ (by decide +kernel)) ggX10_spared_X10_lackOn
theorem dX10_spared_0 : decode cX10_spared 0 = .ok (.aload_n 0, 1) := by decide +kernel
theorem dX10_spared_1 : decode cX10_spared 1 = .ok (.getfield 19, 3) := by decide +kernel
theorem dX10_spared_4 : decode cX10_spared 4 = .ok (.getfield 113, 3) := by decide +kernel
theorem dX10_spared_7 : decode cX10_spared 7 = .ok (.iload_n 1, 1) := by decide +kernel
theorem dX10_spared_8 : decode cX10_spared 8 = .ok (.invokevirtual 123, 3) := by decide +kernel
theorem dX10_spared_11 : decode cX10_spared 11 = .ok (.ifCond .ne 9, 3) := by decide +kernel
theorem dX10_spared_14 : decode cX10_spared 14 = .ok (.aload_n 0, 1) := by decide +kernel
theorem dX10_spared_15 : decode cX10_spared 15 = .ok (.iconst (-1), 1) := by decide +kernel
theorem dX10_spared_16 : decode cX10_spared 16 = .ok (.invokevirtual 44, 3) := by decide +kernel
theorem dX10_spared_19 : decode cX10_spared 19 = .ok (.ireturn, 1) := by decide +kernel
theorem dX10_spared_20 : decode cX10_spared 20 = .ok (.aload_n 0, 1) := by decide +kernel
theorem dX10_spared_21 : decode cX10_spared 21 = .ok (.getfield 29, 3) := by decide +kernel
theorem dX10_spared_24 : decode cX10_spared 24 = .ok (.aload_n 0, 1) := by decide +kernel
theorem dX10_spared_25 : decode cX10_spared 25 = .ok (.getfield 19, 3) := by decide +kernel
theorem dX10_spared_28 : decode cX10_spared 28 = .ok (.invokevirtual 159, 3) := by decide +kernel
theorem dX10_spared_31 : decode cX10_spared 31 = .ok (.aload_n 0, 1) := by decide +kernel
theorem dX10_spared_32 : decode cX10_spared 32 = .ok (.getfield 29, 3) := by decide +kernel
theorem dX10_spared_35 : decode cX10_spared 35 = .ok (.iload_n 1, 1) := by decide +kernel
theorem dX10_spared_36 : decode cX10_spared 36 = .ok (.invokevirtual 237, 3) := by decide +kernel
theorem dX10_spared_39 : decode cX10_spared 39 = .ok (.aload_n 0, 1) := by decide +kernel
theorem dX10_spared_40 : decode cX10_spared 40 = .ok (.aload_n 0, 1) := by decide +kernel
theorem dX10_spared_41 : decode cX10_spared 41 = .ok (.getfield 19, 3) := by decide +kernel
theorem dX10_spared_44 : decode cX10_spared 44 = .ok (.getfield 153, 3) := by decide +kernel
theorem dX10_spared_47 : decode cX10_spared 47 = .ok (.invokevirtual 213, 3) := by decide +kernel
theorem dX10_spared_50 : decode cX10_spared 50 = .ok (.ireturn, 1) := by decide +kernel
set_option maxRecDepth 20000 in
theorem ggX10_when_X10_isWithin : GoodIn wsX10_when wsX10_isWithin := goodIn_r _ [6] (by decide +kernel) (by decide +kernel)
set_option maxRecDepth 20000 in
theorem gX10_when_X10_isWithin : GoodIn wsX10_when (va_wsS RX10 40 yX10_isWithin wsX10_isWithin) := goodIn_app (goodIn_of _ (by decide +kernel)) ggX10_when_X10_isWithin
set_option maxRecDepth 20000 in
theorem ggX10_when_X10_finding : GoodIn wsX10_when wsX10_finding := goodIn_r _ [10, 11, 117, 118, 119, 120, 121, 122, 123] (by decide +kernel) (by decide +kernel)
set_option maxRecDepth 20000 in
theorem gX10_when_X10_finding : GoodIn wsX10_when (wsV RX10 44 RX10 yX10_finding wsX10_finding) := goodIn_app (goodIn_of _ (by decide +kernel)) ggX10_when_X10_finding
set_option maxRecDepth 20000 in
theorem ggX10_when_X2_fill : GoodIn wsX10_when wsX2_fill := goodIn_r _ [15, 16, 17, 18, 19, 20, 21, 22, 23, 24, 25, 26, 27, 4, 5, 6, 28, 29, 30, 31, 32, 33, 34, 35, 36, 37, 38, 39, 40, 41, 42, 43, 44, 13, 45, 46, 47, 48, 49, 50, 51, 52, 53, 54, 55, 56, 57, 58, 59, 60, 61, 62, 63, 64, 65, 66, 67, 68, 69, 70, 71, 72, 73, 74, 75, 76, 77, 78, 79, 80, 81, 82, 124, 125, 126, 127, 128, 129, 130, 131, 132, 133, 134, 135, 136, 137, 138, 139, 140, 141, 142, 143, 144, 145, 146, 147, 148] (by decide +kernel) (by decide +kernel)
set_option maxRecDepth 20000 in
theorem gX10_when_X2_fill_n159 : GoodIn wsX10_when (wsX2_fill) := ggX10_when_X2_fill
set_option maxRecDepth 20000 in
theorem ggX10_when_X10_firstDayAbove : GoodIn wsX10_when wsX10_firstDayAbove := goodIn_r _ [86, 2, 87, 88, 89, 5, 90, 91, 1, 92, 93, 94, 95, 96, 97, 98, 4, 6, 99, 100, 101, 102, 103, 104, 105, 106, 58, 107, 108, 61, 73, 13, 74, 75, 16, 50, 51, 52, 109, 110, 111, 112, 113, 114, 115, 116, 117, 118, 119, 120, 121, 122, 123, 125, 126, 127, 128, 129, 130, 131, 132, 149, 150, 151, 152, 153, 154, 155, 156, 157, 158, 145, 146, 147, 148, 138, 139, 140, 124] (by decide +kernel) (by decide +kernel)
set_option maxRecDepth 20000 in
theorem gX10_when_X10_firstDayAbove : GoodIn wsX10_when (wsV RX10 238 RX10 yX10_firstDayAbove wsX10_firstDayAbove) := goodIn_app (goodIn_of _ (by decide +kernel)) ggX10_when_X10_firstDayAbove
theorem dX10_when_0 : decode cX10_when 0 = .ok (.iload_n 1, 1) := by decide +kernel
theorem dX10_when_1 : decode cX10_when 1 = .ok (.iconst 0, 1) := by decide +kernel
theorem dX10_when_2 : decode cX10_when 2 = .ok (.bipush 80, 2) := by decide +kernel
theorem dX10_when_4 : decode cX10_when 4 = .ok (.invokestatic 40, 3) := by decide +kernel
theorem dX10_when_7 : decode cX10_when 7 = .ok (.ifCond .ne 9, 3) := by decide +kernel
theorem dX10_when_10 : decode cX10_when 10 = .ok (.aload_n 0, 1) := by decide +kernel
theorem dX10_when_11 : decode cX10_when 11 = .ok (.iconst (-1), 1) := by decide +kernel
theorem dX10_when_12 : decode cX10_when 12 = .ok (.invokevirtual 44, 3) := by decide +kernel
theorem dX10_when_15 : decode cX10_when 15 = .ok (.ireturn, 1) := by decide +kernel
theorem dX10_when_16 : decode cX10_when 16 = .ok (.aload_n 0, 1) := by decide +kernel
theorem dX10_when_17 : decode cX10_when 17 = .ok (.getfield 29, 3) := by decide +kernel
theorem dX10_when_20 : decode cX10_when 20 = .ok (.aload_n 0, 1) := by decide +kernel
theorem dX10_when_21 : decode cX10_when 21 = .ok (.getfield 19, 3) := by decide +kernel
theorem dX10_when_24 : decode cX10_when 24 = .ok (.invokevirtual 159, 3) := by decide +kernel
theorem dX10_when_27 : decode cX10_when 27 = .ok (.aload_n 0, 1) := by decide +kernel
theorem dX10_when_28 : decode cX10_when 28 = .ok (.iload_n 1, 1) := by decide +kernel
theorem dX10_when_29 : decode cX10_when 29 = .ok (.invokevirtual 238, 3) := by decide +kernel
theorem dX10_when_32 : decode cX10_when 32 = .ok (.istore_n 2, 1) := by decide +kernel
theorem dX10_when_33 : decode cX10_when 33 = .ok (.iload_n 2, 1) := by decide +kernel
theorem dX10_when_34 : decode cX10_when 34 = .ok (.sipush 9999, 3) := by decide +kernel
theorem dX10_when_37 : decode cX10_when 37 = .ok (.if_icmp .le 12, 3) := by decide +kernel
theorem dX10_when_40 : decode cX10_when 40 = .ok (.aload_n 0, 1) := by decide +kernel
theorem dX10_when_41 : decode cX10_when 41 = .ok (.bipush (-2), 2) := by decide +kernel
theorem dX10_when_43 : decode cX10_when 43 = .ok (.invokevirtual 44, 3) := by decide +kernel
theorem dX10_when_46 : decode cX10_when 46 = .ok (.goto 4, 3) := by decide +kernel
theorem dX10_when_49 : decode cX10_when 49 = .ok (.iload_n 2, 1) := by decide +kernel
theorem dX10_when_50 : decode cX10_when 50 = .ok (.ireturn, 1) := by decide +kernel
set_option maxRecDepth 20000 in
theorem ggX10_keep_X0_copyFrom : GoodIn wsX10_keep wsX0_copyFrom := goodIn_r _ [7, 8, 9, 10, 11, 12, 13, 14, 15, 16, 17, 18, 19, 20, 21, 22, 23, 24, 25, 26, 27, 28, 29, 30, 31, 32, 33, 34, 35, 36, 37, 38, 39, 40, 41, 42, 43, 44, 45, 46, 47, 48, 49, 50, 51, 52, 53, 54, 55, 56, 57, 58, 59, 60, 61, 62, 63, 64, 65, 66, 67, 68, 69, 70, 71, 72, 73, 74, 75, 76, 84, 85, 86, 87, 88, 89, 90, 91, 97, 98, 99, 100, 101, 102, 103, 104, 105, 106, 107, 92, 93, 94, 95, 96, 108, 109, 110, 111, 112, 113, 114, 115, 116, 117, 118, 119] (by decide +kernel) (by decide +kernel)
set_option maxRecDepth 20000 in
theorem gX10_keep_X0_copyFrom_n241 : GoodIn wsX10_keep (wsX0_copyFrom) := ggX10_keep_X0_copyFrom
theorem dX10_keep_0 : decode cX10_keep 0 = .ok (.aload_n 0, 1) := by decide +kernel
theorem dX10_keep_1 : decode cX10_keep 1 = .ok (.getfield 23, 3) := by decide +kernel
theorem dX10_keep_4 : decode cX10_keep 4 = .ok (.aload_n 0, 1) := by decide +kernel
theorem dX10_keep_5 : decode cX10_keep 5 = .ok (.getfield 19, 3) := by decide +kernel
theorem dX10_keep_8 : decode cX10_keep 8 = .ok (.invokevirtual 241, 3) := by decide +kernel
theorem dX10_keep_11 : decode cX10_keep 11 = .ok (.aload_n 0, 1) := by decide +kernel
theorem dX10_keep_12 : decode cX10_keep 12 = .ok (.iconst 1, 1) := by decide +kernel
theorem dX10_keep_13 : decode cX10_keep 13 = .ok (.putfield 244, 3) := by decide +kernel
theorem dX10_keep_16 : decode cX10_keep 16 = .ok (.aload_n 0, 1) := by decide +kernel
theorem dX10_keep_17 : decode cX10_keep 17 = .ok (.getfield 19, 3) := by decide +kernel
theorem dX10_keep_20 : decode cX10_keep 20 = .ok (.getfield 103, 3) := by decide +kernel
theorem dX10_keep_23 : decode cX10_keep 23 = .ok (.getfield 133, 3) := by decide +kernel
theorem dX10_keep_26 : decode cX10_keep 26 = .ok (.ireturn, 1) := by decide +kernel
set_option maxRecDepth 20000 in
theorem ggX10_back_X10_finding : GoodIn wsX10_back wsX10_finding := goodIn_r _ [8, 9, 83, 84, 85, 86, 87, 88, 89] (by decide +kernel) (by decide +kernel)
set_option maxRecDepth 20000 in
theorem gX10_back_X10_finding : GoodIn wsX10_back (wsV RX10 44 RX10 yX10_finding wsX10_finding) := goodIn_app (goodIn_of _ (by decide +kernel)) ggX10_back_X10_finding
set_option maxRecDepth 20000 in
theorem ggX10_back_X0_copyFrom : GoodIn wsX10_back wsX0_copyFrom := goodIn_r _ [13, 14, 15, 16, 17, 18, 19, 20, 21, 22, 23, 24, 25, 26, 27, 28, 29, 30, 31, 32, 33, 34, 35, 36, 37, 38, 39, 40, 41, 42, 43, 44, 45, 46, 47, 48, 49, 50, 51, 52, 53, 54, 55, 56, 57, 58, 59, 60, 61, 62, 63, 64, 65, 66, 67, 68, 69, 70, 71, 72, 73, 74, 75, 76, 77, 78, 79, 80, 81, 82, 90, 91, 92, 93, 94, 95, 96, 97, 103, 104, 105, 106, 107, 108, 109, 110, 111, 112, 113, 98, 99, 100, 101, 102, 114, 115, 116, 117, 118, 119, 120, 121, 122, 123, 124, 125] (by decide +kernel) (by decide +kernel)
set_option maxRecDepth 20000 in
theorem gX10_back_X0_copyFrom_n241 : GoodIn wsX10_back (wsX0_copyFrom) := ggX10_back_X0_copyFrom
theorem dX10_back_0 : decode cX10_back 0 = .ok (.aload_n 0, 1) := by decide +kernel
theorem dX10_back_1 : decode cX10_back 1 = .ok (.getfield 244, 3) := by decide +kernel
theorem dX10_back_4 : decode cX10_back 4 = .ok (.ifCond .ne 10, 3) := by decide +kernel
theorem dX10_back_7 : decode cX10_back 7 = .ok (.aload_n 0, 1) := by decide +kernel
theorem dX10_back_8 : decode cX10_back 8 = .ok (.bipush (-2), 2) := by decide +kernel
theorem dX10_back_10 : decode cX10_back 10 = .ok (.invokevirtual 44, 3) := by decide +kernel
theorem dX10_back_13 : decode cX10_back 13 = .ok (.ireturn, 1) := by decide +kernel
theorem dX10_back_14 : decode cX10_back 14 = .ok (.aload_n 0, 1) := by decide +kernel
theorem dX10_back_15 : decode cX10_back 15 = .ok (.getfield 19, 3) := by decide +kernel
theorem dX10_back_18 : decode cX10_back 18 = .ok (.aload_n 0, 1) := by decide +kernel
theorem dX10_back_19 : decode cX10_back 19 = .ok (.getfield 23, 3) := by decide +kernel
theorem dX10_back_22 : decode cX10_back 22 = .ok (.invokevirtual 241, 3) := by decide +kernel
theorem dX10_back_25 : decode cX10_back 25 = .ok (.aload_n 0, 1) := by decide +kernel
theorem dX10_back_26 : decode cX10_back 26 = .ok (.getfield 19, 3) := by decide +kernel
theorem dX10_back_29 : decode cX10_back 29 = .ok (.getfield 103, 3) := by decide +kernel
theorem dX10_back_32 : decode cX10_back 32 = .ok (.getfield 133, 3) := by decide +kernel
theorem dX10_back_35 : decode cX10_back 35 = .ok (.ireturn, 1) := by decide +kernel
set_option maxRecDepth 20000 in
theorem ggX10_told_X10_finding : GoodIn wsX10_told wsX10_finding := goodIn_r _ [8, 2, 9, 10, 11, 12, 13, 14, 15] (by decide +kernel) (by decide +kernel)
set_option maxRecDepth 20000 in
theorem gX10_told_X10_finding : GoodIn wsX10_told (wsV RX10 44 RX10 yX10_finding wsX10_finding) := goodIn_app (goodIn_of _ (by decide +kernel)) ggX10_told_X10_finding
theorem dX10_told_0 : decode cX10_told 0 = .ok (.iload_n 1, 1) := by decide +kernel
theorem dX10_told_1 : decode cX10_told 1 = .ok (.tableswitch 111 0 6 #[43, 54, 65, 76, 87, 98, 103], 43) := by decide +kernel
theorem dX10_told_44 : decode cX10_told 44 = .ok (.aload_n 0, 1) := by decide +kernel
theorem dX10_told_45 : decode cX10_told 45 = .ok (.getfield 19, 3) := by decide +kernel
theorem dX10_told_48 : decode cX10_told 48 = .ok (.getfield 64, 3) := by decide +kernel
theorem dX10_told_51 : decode cX10_told 51 = .ok (.getfield 68, 3) := by decide +kernel
theorem dX10_told_54 : decode cX10_told 54 = .ok (.ireturn, 1) := by decide +kernel
theorem dX10_told_55 : decode cX10_told 55 = .ok (.aload_n 0, 1) := by decide +kernel
theorem dX10_told_56 : decode cX10_told 56 = .ok (.getfield 19, 3) := by decide +kernel
theorem dX10_told_59 : decode cX10_told 59 = .ok (.getfield 81, 3) := by decide +kernel
theorem dX10_told_62 : decode cX10_told 62 = .ok (.getfield 85, 3) := by decide +kernel
theorem dX10_told_65 : decode cX10_told 65 = .ok (.ireturn, 1) := by decide +kernel
theorem dX10_told_66 : decode cX10_told 66 = .ok (.aload_n 0, 1) := by decide +kernel
theorem dX10_told_67 : decode cX10_told 67 = .ok (.getfield 19, 3) := by decide +kernel
theorem dX10_told_70 : decode cX10_told 70 = .ok (.getfield 113, 3) := by decide +kernel
theorem dX10_told_73 : decode cX10_told 73 = .ok (.getfield 117, 3) := by decide +kernel
theorem dX10_told_76 : decode cX10_told 76 = .ok (.ireturn, 1) := by decide +kernel
theorem dX10_told_77 : decode cX10_told 77 = .ok (.aload_n 0, 1) := by decide +kernel
theorem dX10_told_78 : decode cX10_told 78 = .ok (.getfield 19, 3) := by decide +kernel
theorem dX10_told_81 : decode cX10_told 81 = .ok (.getfield 175, 3) := by decide +kernel
theorem dX10_told_84 : decode cX10_told 84 = .ok (.getfield 179, 3) := by decide +kernel
theorem dX10_told_87 : decode cX10_told 87 = .ok (.ireturn, 1) := by decide +kernel
theorem dX10_told_88 : decode cX10_told 88 = .ok (.aload_n 0, 1) := by decide +kernel
theorem dX10_told_89 : decode cX10_told 89 = .ok (.getfield 19, 3) := by decide +kernel
theorem dX10_told_92 : decode cX10_told 92 = .ok (.getfield 191, 3) := by decide +kernel
theorem dX10_told_95 : decode cX10_told 95 = .ok (.getfield 195, 3) := by decide +kernel
theorem dX10_told_98 : decode cX10_told 98 = .ok (.ireturn, 1) := by decide +kernel
theorem dX10_told_99 : decode cX10_told 99 = .ok (.aload_n 0, 1) := by decide +kernel
theorem dX10_told_100 : decode cX10_told 100 = .ok (.getfield 248, 3) := by decide +kernel
theorem dX10_told_103 : decode cX10_told 103 = .ok (.ireturn, 1) := by decide +kernel
theorem dX10_told_104 : decode cX10_told 104 = .ok (.aload_n 0, 1) := by decide +kernel
theorem dX10_told_105 : decode cX10_told 105 = .ok (.getfield 10, 3) := by decide +kernel
theorem dX10_told_108 : decode cX10_told 108 = .ok (.getfield 48, 3) := by decide +kernel
theorem dX10_told_111 : decode cX10_told 111 = .ok (.ireturn, 1) := by decide +kernel
theorem dX10_told_112 : decode cX10_told 112 = .ok (.aload_n 0, 1) := by decide +kernel
theorem dX10_told_113 : decode cX10_told 113 = .ok (.iconst (-1), 1) := by decide +kernel
theorem dX10_told_114 : decode cX10_told 114 = .ok (.invokevirtual 44, 3) := by decide +kernel
theorem dX10_told_117 : decode cX10_told 117 = .ok (.ireturn, 1) := by decide +kernel
theorem dX10_finding_0 : decode cX10_finding 0 = .ok (.aload_n 0, 1) := by decide +kernel
theorem dX10_finding_1 : decode cX10_finding 1 = .ok (.dup, 1) := by decide +kernel
theorem dX10_finding_2 : decode cX10_finding 2 = .ok (.getfield 248, 3) := by decide +kernel
theorem dX10_finding_5 : decode cX10_finding 5 = .ok (.iconst 1, 1) := by decide +kernel
theorem dX10_finding_6 : decode cX10_finding 6 = .ok (.iadd, 1) := by decide +kernel
theorem dX10_finding_7 : decode cX10_finding 7 = .ok (.putfield 248, 3) := by decide +kernel
theorem dX10_finding_10 : decode cX10_finding 10 = .ok (.iload_n 1, 1) := by decide +kernel
theorem dX10_finding_11 : decode cX10_finding 11 = .ok (.ireturn, 1) := by decide +kernel
set_option maxRecDepth 20000 in
theorem ggX10_measured_X2_howManyHosts : GoodIn wsX10_measured wsX2_howManyHosts := goodIn_r _ [6, 7, 8, 9, 4, 10, 11, 12, 13, 14, 59, 60, 61, 62] (by decide +kernel) (by decide +kernel)
set_option maxRecDepth 20000 in
theorem gX10_measured_X2_howManyHosts_n251 : GoodIn wsX10_measured (wsX2_howManyHosts) := ggX10_measured_X2_howManyHosts
set_option maxRecDepth 20000 in
theorem ggX10_measured_X2_howManyPersons : GoodIn wsX10_measured wsX2_howManyPersons := goodIn_r _ [17, 7, 8, 9, 4, 10, 11, 12, 13, 14, 18, 19, 20, 21, 22, 23, 24, 59, 60, 61, 62] (by decide +kernel) (by decide +kernel)
set_option maxRecDepth 20000 in
theorem gX10_measured_X2_howManyPersons_n255 : GoodIn wsX10_measured (wsX2_howManyPersons) := ggX10_measured_X2_howManyPersons
set_option maxRecDepth 20000 in
theorem ggX10_measured_X2_coresByEight : GoodIn wsX10_measured wsX2_coresByEight := goodIn_r _ [27, 7, 8, 9, 4, 10, 11, 12, 13, 14, 59, 60, 61, 62] (by decide +kernel) (by decide +kernel)
set_option maxRecDepth 20000 in
theorem gX10_measured_X2_coresByEight_n258 : GoodIn wsX10_measured (wsX2_coresByEight) := ggX10_measured_X2_coresByEight
set_option maxRecDepth 20000 in
theorem ggX10_measured_X9_most : GoodIn wsX10_measured wsX9_most := goodIn_r _ [31, 32, 33, 34, 29, 35, 36, 37, 38, 39, 40, 41, 42, 43, 63, 64, 65, 66, 67] (by decide +kernel) (by decide +kernel)
set_option maxRecDepth 20000 in
theorem gX10_measured_X9_most_n261 : GoodIn wsX10_measured (wsX9_most) := ggX10_measured_X9_most
theorem dX10_measured_0 : decode cX10_measured 0 = .ok (.iload_n 2, 1) := by decide +kernel
theorem dX10_measured_1 : decode cX10_measured 1 = .ok (.tableswitch 75 0 2 #[27, 43, 59], 27) := by decide +kernel
theorem dX10_measured_28 : decode cX10_measured 28 = .ok (.aload_n 0, 1) := by decide +kernel
theorem dX10_measured_29 : decode cX10_measured 29 = .ok (.getfield 29, 3) := by decide +kernel
theorem dX10_measured_32 : decode cX10_measured 32 = .ok (.aload_n 0, 1) := by decide +kernel
theorem dX10_measured_33 : decode cX10_measured 33 = .ok (.getfield 19, 3) := by decide +kernel
theorem dX10_measured_36 : decode cX10_measured 36 = .ok (.getfield 113, 3) := by decide +kernel
theorem dX10_measured_39 : decode cX10_measured 39 = .ok (.iload_n 1, 1) := by decide +kernel
theorem dX10_measured_40 : decode cX10_measured 40 = .ok (.invokevirtual 251, 3) := by decide +kernel
theorem dX10_measured_43 : decode cX10_measured 43 = .ok (.ireturn, 1) := by decide +kernel
theorem dX10_measured_44 : decode cX10_measured 44 = .ok (.aload_n 0, 1) := by decide +kernel
theorem dX10_measured_45 : decode cX10_measured 45 = .ok (.getfield 29, 3) := by decide +kernel
theorem dX10_measured_48 : decode cX10_measured 48 = .ok (.aload_n 0, 1) := by decide +kernel
theorem dX10_measured_49 : decode cX10_measured 49 = .ok (.getfield 19, 3) := by decide +kernel
theorem dX10_measured_52 : decode cX10_measured 52 = .ok (.getfield 113, 3) := by decide +kernel
theorem dX10_measured_55 : decode cX10_measured 55 = .ok (.iload_n 1, 1) := by decide +kernel
theorem dX10_measured_56 : decode cX10_measured 56 = .ok (.invokevirtual 255, 3) := by decide +kernel
theorem dX10_measured_59 : decode cX10_measured 59 = .ok (.ireturn, 1) := by decide +kernel
theorem dX10_measured_60 : decode cX10_measured 60 = .ok (.aload_n 0, 1) := by decide +kernel
theorem dX10_measured_61 : decode cX10_measured 61 = .ok (.getfield 29, 3) := by decide +kernel
theorem dX10_measured_64 : decode cX10_measured 64 = .ok (.aload_n 0, 1) := by decide +kernel
theorem dX10_measured_65 : decode cX10_measured 65 = .ok (.getfield 19, 3) := by decide +kernel
theorem dX10_measured_68 : decode cX10_measured 68 = .ok (.getfield 113, 3) := by decide +kernel
theorem dX10_measured_71 : decode cX10_measured 71 = .ok (.iload_n 1, 1) := by decide +kernel
theorem dX10_measured_72 : decode cX10_measured 72 = .ok (.invokevirtual 258, 3) := by decide +kernel
theorem dX10_measured_75 : decode cX10_measured 75 = .ok (.ireturn, 1) := by decide +kernel
theorem dX10_measured_76 : decode cX10_measured 76 = .ok (.aload_n 0, 1) := by decide +kernel
theorem dX10_measured_77 : decode cX10_measured 77 = .ok (.getfield 19, 3) := by decide +kernel
theorem dX10_measured_80 : decode cX10_measured 80 = .ok (.getfield 175, 3) := by decide +kernel
theorem dX10_measured_83 : decode cX10_measured 83 = .ok (.iload_n 1, 1) := by decide +kernel
theorem dX10_measured_84 : decode cX10_measured 84 = .ok (.invokevirtual 261, 3) := by decide +kernel
theorem dX10_measured_87 : decode cX10_measured 87 = .ok (.ireturn, 1) := by decide +kernel
set_option maxRecDepth 20000 in
theorem ggX10_lackOn_X5_begin : GoodIn wsX10_lackOn wsX5_begin := goodIn_r _ [7, 8, 9, 10, 11, 12, 13, 57, 58, 59, 60, 61, 62, 63, 64, 65, 66] (by decide +kernel) (by decide +kernel)
set_option maxRecDepth 20000 in
theorem gX10_lackOn_X5_begin_n216 : GoodIn wsX10_lackOn (wsX5_begin) := ggX10_lackOn_X5_begin
set_option maxRecDepth 20000 in
theorem ggX10_lackOn_X5_serveAll : GoodIn wsX10_lackOn wsX5_serveAll := goodIn_r _ [16, 17, 18, 19, 5, 20, 21, 22, 23, 24, 25, 26, 27, 28, 29, 30, 31, 32, 33, 34, 35, 36, 37, 8, 10, 9, 38, 39, 40, 41, 49, 50, 51, 52, 53, 54, 55, 56, 67, 68, 69, 70, 71, 72, 73, 74, 57, 58, 59, 60, 61, 62, 63, 64, 65, 66] (by decide +kernel) (by decide +kernel)
set_option maxRecDepth 20000 in
theorem gX10_lackOn_X5_serveAll_n220 : GoodIn wsX10_lackOn (wsX5_serveAll) := ggX10_lackOn_X5_serveAll
theorem dX10_lackOn_0 : decode cX10_lackOn 0 = .ok (.aload_n 0, 1) := by decide +kernel
theorem dX10_lackOn_1 : decode cX10_lackOn 1 = .ok (.getfield 36, 3) := by decide +kernel
theorem dX10_lackOn_4 : decode cX10_lackOn 4 = .ok (.aload_n 0, 1) := by decide +kernel
theorem dX10_lackOn_5 : decode cX10_lackOn 5 = .ok (.getfield 19, 3) := by decide +kernel
theorem dX10_lackOn_8 : decode cX10_lackOn 8 = .ok (.getfield 191, 3) := by decide +kernel
theorem dX10_lackOn_11 : decode cX10_lackOn 11 = .ok (.iload_n 1, 1) := by decide +kernel
theorem dX10_lackOn_12 : decode cX10_lackOn 12 = .ok (.invokevirtual 216, 3) := by decide +kernel
theorem dX10_lackOn_15 : decode cX10_lackOn 15 = .ok (.aload_n 0, 1) := by decide +kernel
theorem dX10_lackOn_16 : decode cX10_lackOn 16 = .ok (.getfield 36, 3) := by decide +kernel
theorem dX10_lackOn_19 : decode cX10_lackOn 19 = .ok (.aload_n 0, 1) := by decide +kernel
theorem dX10_lackOn_20 : decode cX10_lackOn 20 = .ok (.getfield 19, 3) := by decide +kernel
theorem dX10_lackOn_23 : decode cX10_lackOn 23 = .ok (.aload_n 0, 1) := by decide +kernel
theorem dX10_lackOn_24 : decode cX10_lackOn 24 = .ok (.getfield 29, 3) := by decide +kernel
theorem dX10_lackOn_27 : decode cX10_lackOn 27 = .ok (.invokevirtual 220, 3) := by decide +kernel
theorem dX10_lackOn_30 : decode cX10_lackOn 30 = .ok (.aload_n 0, 1) := by decide +kernel
theorem dX10_lackOn_31 : decode cX10_lackOn 31 = .ok (.getfield 36, 3) := by decide +kernel
theorem dX10_lackOn_34 : decode cX10_lackOn 34 = .ok (.getfield 231, 3) := by decide +kernel
theorem dX10_lackOn_37 : decode cX10_lackOn 37 = .ok (.ireturn, 1) := by decide +kernel
set_option maxRecDepth 20000 in
theorem ggX10_firstDayAbove_X10_lackOn : GoodIn wsX10_firstDayAbove wsX10_lackOn := goodIn_r _ [6, 7, 1, 8, 9, 10, 11, 12, 13, 14, 15, 16, 5, 17, 18, 19, 20, 21, 22, 23, 24, 25, 26, 27, 28, 29, 30, 31, 32, 33, 34, 35, 36, 37, 38, 39, 40, 41, 42, 43, 44, 45, 46, 47, 48, 49, 50, 51, 52, 53, 54, 55, 56, 57, 58, 59, 60, 68, 69, 70, 61, 62, 63, 64, 65, 66, 67, 71, 72, 73, 74, 75, 76, 77, 78] (by decide +kernel) (by decide +kernel)
set_option maxRecDepth 20000 in
theorem gX10_firstDayAbove_X10_lackOn : GoodIn wsX10_firstDayAbove (wsV RX10 213 RX10 yX10_lackOn wsX10_lackOn) := goodIn_app (goodIn_of _ (by decide +kernel)) ggX10_firstDayAbove_X10_lackOn
theorem dX10_firstDayAbove_0 : decode cX10_firstDayAbove 0 = .ok (.aload_n 0, 1) := by decide +kernel
theorem dX10_firstDayAbove_1 : decode cX10_firstDayAbove 1 = .ok (.aload_n 0, 1) := by decide +kernel
theorem dX10_firstDayAbove_2 : decode cX10_firstDayAbove 2 = .ok (.getfield 19, 3) := by decide +kernel
theorem dX10_firstDayAbove_5 : decode cX10_firstDayAbove 5 = .ok (.getfield 153, 3) := by decide +kernel
theorem dX10_firstDayAbove_8 : decode cX10_firstDayAbove 8 = .ok (.invokevirtual 213, 3) := by decide +kernel
theorem dX10_firstDayAbove_11 : decode cX10_firstDayAbove 11 = .ok (.iload_n 1, 1) := by decide +kernel
theorem dX10_firstDayAbove_12 : decode cX10_firstDayAbove 12 = .ok (.if_icmp .le 11, 3) := by decide +kernel
theorem dX10_firstDayAbove_15 : decode cX10_firstDayAbove 15 = .ok (.aload_n 0, 1) := by decide +kernel
theorem dX10_firstDayAbove_16 : decode cX10_firstDayAbove 16 = .ok (.getfield 19, 3) := by decide +kernel
theorem dX10_firstDayAbove_19 : decode cX10_firstDayAbove 19 = .ok (.getfield 153, 3) := by decide +kernel
theorem dX10_firstDayAbove_22 : decode cX10_firstDayAbove 22 = .ok (.ireturn, 1) := by decide +kernel
theorem dX10_firstDayAbove_23 : decode cX10_firstDayAbove 23 = .ok (.sipush 10000, 3) := by decide +kernel
theorem dX10_firstDayAbove_26 : decode cX10_firstDayAbove 26 = .ok (.istore_n 2, 1) := by decide +kernel
theorem dX10_firstDayAbove_27 : decode cX10_firstDayAbove 27 = .ok (.iconst 0, 1) := by decide +kernel
theorem dX10_firstDayAbove_28 : decode cX10_firstDayAbove 28 = .ok (.istore_n 3, 1) := by decide +kernel
theorem dX10_firstDayAbove_29 : decode cX10_firstDayAbove 29 = .ok (.iload_n 3, 1) := by decide +kernel
theorem dX10_firstDayAbove_30 : decode cX10_firstDayAbove 30 = .ok (.aload_n 0, 1) := by decide +kernel
theorem dX10_firstDayAbove_31 : decode cX10_firstDayAbove 31 = .ok (.getfield 19, 3) := by decide +kernel
theorem dX10_firstDayAbove_34 : decode cX10_firstDayAbove 34 = .ok (.getfield 191, 3) := by decide +kernel
theorem dX10_firstDayAbove_37 : decode cX10_firstDayAbove 37 = .ok (.getfield 195, 3) := by decide +kernel
theorem dX10_firstDayAbove_40 : decode cX10_firstDayAbove 40 = .ok (.if_icmp .ge 56, 3) := by decide +kernel
theorem dX10_firstDayAbove_43 : decode cX10_firstDayAbove 43 = .ok (.aload_n 0, 1) := by decide +kernel
theorem dX10_firstDayAbove_44 : decode cX10_firstDayAbove 44 = .ok (.getfield 19, 3) := by decide +kernel
theorem dX10_firstDayAbove_47 : decode cX10_firstDayAbove 47 = .ok (.getfield 191, 3) := by decide +kernel
theorem dX10_firstDayAbove_50 : decode cX10_firstDayAbove 50 = .ok (.getfield 264, 3) := by decide +kernel
theorem dX10_firstDayAbove_53 : decode cX10_firstDayAbove 53 = .ok (.iload_n 3, 1) := by decide +kernel
theorem dX10_firstDayAbove_54 : decode cX10_firstDayAbove 54 = .ok (.iaload, 1) := by decide +kernel
theorem dX10_firstDayAbove_55 : decode cX10_firstDayAbove 55 = .ok (.iconst 1, 1) := by decide +kernel
theorem dX10_firstDayAbove_56 : decode cX10_firstDayAbove 56 = .ok (.iadd, 1) := by decide +kernel
theorem dX10_firstDayAbove_57 : decode cX10_firstDayAbove 57 = .ok (.istore 4, 2) := by decide +kernel
theorem dX10_firstDayAbove_59 : decode cX10_firstDayAbove 59 = .ok (.iload 4, 2) := by decide +kernel
theorem dX10_firstDayAbove_61 : decode cX10_firstDayAbove 61 = .ok (.aload_n 0, 1) := by decide +kernel
theorem dX10_firstDayAbove_62 : decode cX10_firstDayAbove 62 = .ok (.getfield 19, 3) := by decide +kernel
theorem dX10_firstDayAbove_65 : decode cX10_firstDayAbove 65 = .ok (.getfield 153, 3) := by decide +kernel
theorem dX10_firstDayAbove_68 : decode cX10_firstDayAbove 68 = .ok (.if_icmp .le 22, 3) := by decide +kernel
theorem dX10_firstDayAbove_71 : decode cX10_firstDayAbove 71 = .ok (.iload 4, 2) := by decide +kernel
theorem dX10_firstDayAbove_73 : decode cX10_firstDayAbove 73 = .ok (.iload_n 2, 1) := by decide +kernel
theorem dX10_firstDayAbove_74 : decode cX10_firstDayAbove 74 = .ok (.if_icmp .ge 16, 3) := by decide +kernel
theorem dX10_firstDayAbove_77 : decode cX10_firstDayAbove 77 = .ok (.aload_n 0, 1) := by decide +kernel
theorem dX10_firstDayAbove_78 : decode cX10_firstDayAbove 78 = .ok (.iload 4, 2) := by decide +kernel
theorem dX10_firstDayAbove_80 : decode cX10_firstDayAbove 80 = .ok (.invokevirtual 213, 3) := by decide +kernel
theorem dX10_firstDayAbove_83 : decode cX10_firstDayAbove 83 = .ok (.iload_n 1, 1) := by decide +kernel
theorem dX10_firstDayAbove_84 : decode cX10_firstDayAbove 84 = .ok (.if_icmp .le 6, 3) := by decide +kernel
theorem dX10_firstDayAbove_87 : decode cX10_firstDayAbove 87 = .ok (.iload 4, 2) := by decide +kernel
theorem dX10_firstDayAbove_89 : decode cX10_firstDayAbove 89 = .ok (.istore_n 2, 1) := by decide +kernel
theorem dX10_firstDayAbove_90 : decode cX10_firstDayAbove 90 = .ok (.iinc 3 1, 3) := by decide +kernel
theorem dX10_firstDayAbove_93 : decode cX10_firstDayAbove 93 = .ok (.goto (-64), 3) := by decide +kernel
theorem dX10_firstDayAbove_96 : decode cX10_firstDayAbove 96 = .ok (.iload_n 2, 1) := by decide +kernel
theorem dX10_firstDayAbove_97 : decode cX10_firstDayAbove 97 = .ok (.ireturn, 1) := by decide +kernel
theorem dX10_isWithin_0 : decode cX10_isWithin 0 = .ok (.iload_n 0, 1) := by decide +kernel
theorem dX10_isWithin_1 : decode cX10_isWithin 1 = .ok (.iload_n 1, 1) := by decide +kernel
theorem dX10_isWithin_2 : decode cX10_isWithin 2 = .ok (.if_icmp .lt 12, 3) := by decide +kernel
theorem dX10_isWithin_5 : decode cX10_isWithin 5 = .ok (.iload_n 0, 1) := by decide +kernel
theorem dX10_isWithin_6 : decode cX10_isWithin 6 = .ok (.iload_n 2, 1) := by decide +kernel
theorem dX10_isWithin_7 : decode cX10_isWithin 7 = .ok (.if_icmp .gt 7, 3) := by decide +kernel
theorem dX10_isWithin_10 : decode cX10_isWithin 10 = .ok (.iconst 1, 1) := by decide +kernel
theorem dX10_isWithin_11 : decode cX10_isWithin 11 = .ok (.goto 4, 3) := by decide +kernel
theorem dX10_isWithin_14 : decode cX10_isWithin 14 = .ok (.iconst 0, 1) := by decide +kernel
theorem dX10_isWithin_15 : decode cX10_isWithin 15 = .ok (.ireturn, 1) := by decide +kernel
set_option maxRecDepth 20000 in
theorem ggX10_isKind_X10_isWithin : GoodIn wsX10_isKind wsX10_isWithin := goodIn_r _ [4] (by decide +kernel) (by decide +kernel)
set_option maxRecDepth 20000 in
theorem gX10_isKind_X10_isWithin : GoodIn wsX10_isKind (va_wsS RX10 40 yX10_isWithin wsX10_isWithin) := goodIn_app (goodIn_of _ (by decide +kernel)) ggX10_isKind_X10_isWithin
theorem dX10_isKind_0 : decode cX10_isKind 0 = .ok (.iload_n 0, 1) := by decide +kernel
theorem dX10_isKind_1 : decode cX10_isKind 1 = .ok (.iconst 0, 1) := by decide +kernel
theorem dX10_isKind_2 : decode cX10_isKind 2 = .ok (.iconst 3, 1) := by decide +kernel
theorem dX10_isKind_3 : decode cX10_isKind 3 = .ok (.invokestatic 40, 3) := by decide +kernel
theorem dX10_isKind_6 : decode cX10_isKind 6 = .ok (.ireturn, 1) := by decide +kernel
set_option maxRecDepth 20000 in
theorem ggX10_isDay_X10_isWithin : GoodIn wsX10_isDay wsX10_isWithin := goodIn_r _ [4] (by decide +kernel) (by decide +kernel)
set_option maxRecDepth 20000 in
theorem gX10_isDay_X10_isWithin : GoodIn wsX10_isDay (va_wsS RX10 40 yX10_isWithin wsX10_isWithin) := goodIn_app (goodIn_of _ (by decide +kernel)) ggX10_isDay_X10_isWithin
theorem dX10_isDay_0 : decode cX10_isDay 0 = .ok (.iload_n 0, 1) := by decide +kernel
theorem dX10_isDay_1 : decode cX10_isDay 1 = .ok (.iconst 0, 1) := by decide +kernel
theorem dX10_isDay_2 : decode cX10_isDay 2 = .ok (.sipush 9999, 3) := by decide +kernel
theorem dX10_isDay_5 : decode cX10_isDay 5 = .ok (.invokestatic 40, 3) := by decide +kernel
theorem dX10_isDay_8 : decode cX10_isDay 8 = .ok (.ireturn, 1) := by decide +kernel
set_option maxRecDepth 20000 in
theorem ggX10_isVersion_X10_isWithin : GoodIn wsX10_isVersion wsX10_isWithin := goodIn_r _ [4] (by decide +kernel) (by decide +kernel)
set_option maxRecDepth 20000 in
theorem gX10_isVersion_X10_isWithin : GoodIn wsX10_isVersion (va_wsS RX10 40 yX10_isWithin wsX10_isWithin) := goodIn_app (goodIn_of _ (by decide +kernel)) ggX10_isVersion_X10_isWithin
theorem dX10_isVersion_0 : decode cX10_isVersion 0 = .ok (.iload_n 0, 1) := by decide +kernel
theorem dX10_isVersion_1 : decode cX10_isVersion 1 = .ok (.iconst 1, 1) := by decide +kernel
theorem dX10_isVersion_2 : decode cX10_isVersion 2 = .ok (.bipush 9, 2) := by decide +kernel
theorem dX10_isVersion_4 : decode cX10_isVersion 4 = .ok (.invokestatic 40, 3) := by decide +kernel
theorem dX10_isVersion_7 : decode cX10_isVersion 7 = .ok (.ireturn, 1) := by decide +kernel
set_option maxRecDepth 20000 in
theorem ggX10_isTick_X10_isWithin : GoodIn wsX10_isTick wsX10_isWithin := goodIn_r _ [4] (by decide +kernel) (by decide +kernel)
set_option maxRecDepth 20000 in
theorem gX10_isTick_X10_isWithin : GoodIn wsX10_isTick (va_wsS RX10 40 yX10_isWithin wsX10_isWithin) := goodIn_app (goodIn_of _ (by decide +kernel)) ggX10_isTick_X10_isWithin
theorem dX10_isTick_0 : decode cX10_isTick 0 = .ok (.iload_n 0, 1) := by decide +kernel
theorem dX10_isTick_1 : decode cX10_isTick 1 = .ok (.iconst 0, 1) := by decide +kernel
theorem dX10_isTick_2 : decode cX10_isTick 2 = .ok (.sipush 999, 3) := by decide +kernel
theorem dX10_isTick_5 : decode cX10_isTick 5 = .ok (.invokestatic 40, 3) := by decide +kernel
theorem dX10_isTick_8 : decode cX10_isTick 8 = .ok (.ireturn, 1) := by decide +kernel
set_option maxRecDepth 20000 in
theorem ggX10_isMeasure_X10_isWithin : GoodIn wsX10_isMeasure wsX10_isWithin := goodIn_r _ [4] (by decide +kernel) (by decide +kernel)
set_option maxRecDepth 20000 in
theorem gX10_isMeasure_X10_isWithin : GoodIn wsX10_isMeasure (va_wsS RX10 40 yX10_isWithin wsX10_isWithin) := goodIn_app (goodIn_of _ (by decide +kernel)) ggX10_isMeasure_X10_isWithin
theorem dX10_isMeasure_0 : decode cX10_isMeasure 0 = .ok (.iload_n 0, 1) := by decide +kernel
theorem dX10_isMeasure_1 : decode cX10_isMeasure 1 = .ok (.iconst 0, 1) := by decide +kernel
theorem dX10_isMeasure_2 : decode cX10_isMeasure 2 = .ok (.iconst 3, 1) := by decide +kernel
theorem dX10_isMeasure_3 : decode cX10_isMeasure 3 = .ok (.invokestatic 40, 3) := by decide +kernel
theorem dX10_isMeasure_6 : decode cX10_isMeasure 6 = .ok (.ireturn, 1) := by decide +kernel
theorem dX10_isUnder_0 : decode cX10_isUnder 0 = .ok (.iload_n 0, 1) := by decide +kernel
theorem dX10_isUnder_1 : decode cX10_isUnder 1 = .ok (.iload_n 1, 1) := by decide +kernel
theorem dX10_isUnder_2 : decode cX10_isUnder 2 = .ok (.if_icmp .eq 17, 3) := by decide +kernel
theorem dX10_isUnder_5 : decode cX10_isUnder 5 = .ok (.iload_n 1, 1) := by decide +kernel
theorem dX10_isUnder_6 : decode cX10_isUnder 6 = .ok (.ifCond .eq 13, 3) := by decide +kernel
theorem dX10_isUnder_9 : decode cX10_isUnder 9 = .ok (.iload_n 1, 1) := by decide +kernel
theorem dX10_isUnder_10 : decode cX10_isUnder 10 = .ok (.iconst 1, 1) := by decide +kernel
theorem dX10_isUnder_11 : decode cX10_isUnder 11 = .ok (.if_icmp .ne 12, 3) := by decide +kernel
theorem dX10_isUnder_14 : decode cX10_isUnder 14 = .ok (.iload_n 0, 1) := by decide +kernel
theorem dX10_isUnder_15 : decode cX10_isUnder 15 = .ok (.iconst 3, 1) := by decide +kernel
theorem dX10_isUnder_16 : decode cX10_isUnder 16 = .ok (.if_icmp .ne 7, 3) := by decide +kernel
theorem dX10_isUnder_19 : decode cX10_isUnder 19 = .ok (.iconst 1, 1) := by decide +kernel
theorem dX10_isUnder_20 : decode cX10_isUnder 20 = .ok (.goto 4, 3) := by decide +kernel
theorem dX10_isUnder_23 : decode cX10_isUnder 23 = .ok (.iconst 0, 1) := by decide +kernel
theorem dX10_isUnder_24 : decode cX10_isUnder 24 = .ok (.ireturn, 1) := by decide +kernel
theorem dX10_signAt_0 : decode cX10_signAt 0 = .ok (.lload_n 0, 1) := by decide +kernel
theorem dX10_signAt_1 : decode cX10_signAt 1 = .ok (.iconst 5, 1) := by decide +kernel
theorem dX10_signAt_2 : decode cX10_signAt 2 = .ok (.iload_n 2, 1) := by decide +kernel
theorem dX10_signAt_3 : decode cX10_signAt 3 = .ok (.imul, 1) := by decide +kernel
theorem dX10_signAt_4 : decode cX10_signAt 4 = .ok (.lushr, 1) := by decide +kernel
theorem dX10_signAt_5 : decode cX10_signAt 5 = .ok (.l2i, 1) := by decide +kernel
theorem dX10_signAt_6 : decode cX10_signAt 6 = .ok (.bipush 31, 2) := by decide +kernel
theorem dX10_signAt_8 : decode cX10_signAt 8 = .ok (.iand, 1) := by decide +kernel
theorem dX10_signAt_9 : decode cX10_signAt 9 = .ok (.ireturn, 1) := by decide +kernel
theorem dX11_init_0 : decode cX11_init 0 = .ok (.aload_n 0, 1) := by decide +kernel
theorem dX11_init_1 : decode cX11_init 1 = .ok (.invokespecial 1, 3) := by decide +kernel
theorem dX11_init_4 : decode cX11_init 4 = .ok (.aload_n 0, 1) := by decide +kernel
theorem dX11_init_5 : decode cX11_init 5 = .ok (.bipush 12, 2) := by decide +kernel
theorem dX11_init_7 : decode cX11_init 7 = .ok (.newarray .int, 2) := by decide +kernel
theorem dX11_init_9 : decode cX11_init 9 = .ok (.putfield 7, 3) := by decide +kernel
theorem dX11_init_12 : decode cX11_init 12 = .ok (.aload_n 0, 1) := by decide +kernel
theorem dX11_init_13 : decode cX11_init 13 = .ok (.sipush 1114, 3) := by decide +kernel
theorem dX11_init_16 : decode cX11_init 16 = .ok (.newarray .int, 2) := by decide +kernel
theorem dX11_init_18 : decode cX11_init 18 = .ok (.putfield 13, 3) := by decide +kernel
theorem dX11_init_21 : decode cX11_init 21 = .ok (.aload_n 0, 1) := by decide +kernel
theorem dX11_init_22 : decode cX11_init 22 = .ok (.sipush 1114, 3) := by decide +kernel
theorem dX11_init_25 : decode cX11_init 25 = .ok (.newarray .int, 2) := by decide +kernel
theorem dX11_init_27 : decode cX11_init 27 = .ok (.putfield 16, 3) := by decide +kernel
theorem dX11_init_30 : decode cX11_init 30 = .ok (.aload_n 0, 1) := by decide +kernel
theorem dX11_init_31 : decode cX11_init 31 = .ok (.bipush 80, 2) := by decide +kernel
theorem dX11_init_33 : decode cX11_init 33 = .ok (.newarray .int, 2) := by decide +kernel
theorem dX11_init_35 : decode cX11_init 35 = .ok (.putfield 19, 3) := by decide +kernel
theorem dX11_init_38 : decode cX11_init 38 = .ok (.aload_n 0, 1) := by decide +kernel
theorem dX11_init_39 : decode cX11_init 39 = .ok (.bipush 10, 2) := by decide +kernel
theorem dX11_init_41 : decode cX11_init 41 = .ok (.newarray .int, 2) := by decide +kernel
theorem dX11_init_43 : decode cX11_init 43 = .ok (.putfield 22, 3) := by decide +kernel
theorem dX11_init_46 : decode cX11_init 46 = .ok (.aload_n 0, 1) := by decide +kernel
theorem dX11_init_47 : decode cX11_init 47 = .ok (.getfield 13, 3) := by decide +kernel
theorem dX11_init_50 : decode cX11_init 50 = .ok (.bipush 7, 2) := by decide +kernel
theorem dX11_init_52 : decode cX11_init 52 = .ok (.bipush 30, 2) := by decide +kernel
theorem dX11_init_54 : decode cX11_init 54 = .ok (.iastore, 1) := by decide +kernel
theorem dX11_init_55 : decode cX11_init 55 = .ok (.return_, 1) := by decide +kernel
theorem dX11_finding_0 : decode cX11_finding 0 = .ok (.aload_n 0, 1) := by decide +kernel
theorem dX11_finding_1 : decode cX11_finding 1 = .ok (.dup, 1) := by decide +kernel
theorem dX11_finding_2 : decode cX11_finding 2 = .ok (.getfield 25, 3) := by decide +kernel
theorem dX11_finding_5 : decode cX11_finding 5 = .ok (.iconst 1, 1) := by decide +kernel
theorem dX11_finding_6 : decode cX11_finding 6 = .ok (.iadd, 1) := by decide +kernel
theorem dX11_finding_7 : decode cX11_finding 7 = .ok (.putfield 25, 3) := by decide +kernel
theorem dX11_finding_10 : decode cX11_finding 10 = .ok (.iload_n 1, 1) := by decide +kernel
theorem dX11_finding_11 : decode cX11_finding 11 = .ok (.ireturn, 1) := by decide +kernel
theorem dX11_isIn_0 : decode cX11_isIn 0 = .ok (.iload_n 0, 1) := by decide +kernel
theorem dX11_isIn_1 : decode cX11_isIn 1 = .ok (.iload_n 1, 1) := by decide +kernel
theorem dX11_isIn_2 : decode cX11_isIn 2 = .ok (.if_icmp .lt 12, 3) := by decide +kernel
theorem dX11_isIn_5 : decode cX11_isIn 5 = .ok (.iload_n 0, 1) := by decide +kernel
theorem dX11_isIn_6 : decode cX11_isIn 6 = .ok (.iload_n 2, 1) := by decide +kernel
theorem dX11_isIn_7 : decode cX11_isIn 7 = .ok (.if_icmp .gt 7, 3) := by decide +kernel
theorem dX11_isIn_10 : decode cX11_isIn 10 = .ok (.iconst 1, 1) := by decide +kernel
theorem dX11_isIn_11 : decode cX11_isIn 11 = .ok (.goto 4, 3) := by decide +kernel
theorem dX11_isIn_14 : decode cX11_isIn 14 = .ok (.iconst 0, 1) := by decide +kernel
theorem dX11_isIn_15 : decode cX11_isIn 15 = .ok (.ireturn, 1) := by decide +kernel
theorem dX11_productAt_0 : decode cX11_productAt 0 = .ok (.aload_n 0, 1) := by decide +kernel
theorem dX11_productAt_1 : decode cX11_productAt 1 = .ok (.getfield 13, 3) := by decide +kernel
theorem dX11_productAt_4 : decode cX11_productAt 4 = .ok (.bipush 8, 2) := by decide +kernel
theorem dX11_productAt_6 : decode cX11_productAt 6 = .ok (.iconst 3, 1) := by decide +kernel
theorem dX11_productAt_7 : decode cX11_productAt 7 = .ok (.iload_n 1, 1) := by decide +kernel
theorem dX11_productAt_8 : decode cX11_productAt 8 = .ok (.imul, 1) := by decide +kernel
theorem dX11_productAt_9 : decode cX11_productAt 9 = .ok (.iadd, 1) := by decide +kernel
theorem dX11_productAt_10 : decode cX11_productAt 10 = .ok (.iload_n 2, 1) := by decide +kernel
theorem dX11_productAt_11 : decode cX11_productAt 11 = .ok (.iadd, 1) := by decide +kernel
theorem dX11_productAt_12 : decode cX11_productAt 12 = .ok (.iaload, 1) := by decide +kernel
theorem dX11_productAt_13 : decode cX11_productAt 13 = .ok (.ireturn, 1) := by decide +kernel
theorem dX11_ruleAt_0 : decode cX11_ruleAt 0 = .ok (.aload_n 0, 1) := by decide +kernel
theorem dX11_ruleAt_1 : decode cX11_ruleAt 1 = .ok (.getfield 13, 3) := by decide +kernel
theorem dX11_ruleAt_4 : decode cX11_ruleAt 4 = .ok (.bipush 38, 2) := by decide +kernel
theorem dX11_ruleAt_6 : decode cX11_ruleAt 6 = .ok (.bipush 15, 2) := by decide +kernel
theorem dX11_ruleAt_8 : decode cX11_ruleAt 8 = .ok (.iload_n 1, 1) := by decide +kernel
theorem dX11_ruleAt_9 : decode cX11_ruleAt 9 = .ok (.imul, 1) := by decide +kernel
theorem dX11_ruleAt_10 : decode cX11_ruleAt 10 = .ok (.iadd, 1) := by decide +kernel
theorem dX11_ruleAt_11 : decode cX11_ruleAt 11 = .ok (.iload_n 2, 1) := by decide +kernel
theorem dX11_ruleAt_12 : decode cX11_ruleAt 12 = .ok (.iadd, 1) := by decide +kernel
theorem dX11_ruleAt_13 : decode cX11_ruleAt 13 = .ok (.iaload, 1) := by decide +kernel
theorem dX11_ruleAt_14 : decode cX11_ruleAt 14 = .ok (.ireturn, 1) := by decide +kernel
theorem dX11_findAt_0 : decode cX11_findAt 0 = .ok (.aload_n 0, 1) := by decide +kernel
theorem dX11_findAt_1 : decode cX11_findAt 1 = .ok (.getfield 13, 3) := by decide +kernel
theorem dX11_findAt_4 : decode cX11_findAt 4 = .ok (.sipush 294, 3) := by decide +kernel
theorem dX11_findAt_7 : decode cX11_findAt 7 = .ok (.bipush 16, 2) := by decide +kernel
theorem dX11_findAt_9 : decode cX11_findAt 9 = .ok (.iload_n 1, 1) := by decide +kernel
theorem dX11_findAt_10 : decode cX11_findAt 10 = .ok (.imul, 1) := by decide +kernel
theorem dX11_findAt_11 : decode cX11_findAt 11 = .ok (.iadd, 1) := by decide +kernel
theorem dX11_findAt_12 : decode cX11_findAt 12 = .ok (.iload_n 2, 1) := by decide +kernel
theorem dX11_findAt_13 : decode cX11_findAt 13 = .ok (.iadd, 1) := by decide +kernel
theorem dX11_findAt_14 : decode cX11_findAt 14 = .ok (.iaload, 1) := by decide +kernel
theorem dX11_findAt_15 : decode cX11_findAt 15 = .ok (.ireturn, 1) := by decide +kernel
theorem dX11_hostAt_0 : decode cX11_hostAt 0 = .ok (.aload_n 0, 1) := by decide +kernel
theorem dX11_hostAt_1 : decode cX11_hostAt 1 = .ok (.getfield 13, 3) := by decide +kernel
theorem dX11_hostAt_4 : decode cX11_hostAt 4 = .ok (.sipush 278, 3) := by decide +kernel
theorem dX11_hostAt_7 : decode cX11_hostAt 7 = .ok (.iconst 2, 1) := by decide +kernel
theorem dX11_hostAt_8 : decode cX11_hostAt 8 = .ok (.iload_n 1, 1) := by decide +kernel
theorem dX11_hostAt_9 : decode cX11_hostAt 9 = .ok (.imul, 1) := by decide +kernel
theorem dX11_hostAt_10 : decode cX11_hostAt 10 = .ok (.iadd, 1) := by decide +kernel
theorem dX11_hostAt_11 : decode cX11_hostAt 11 = .ok (.iload_n 2, 1) := by decide +kernel
theorem dX11_hostAt_12 : decode cX11_hostAt 12 = .ok (.iadd, 1) := by decide +kernel
theorem dX11_hostAt_13 : decode cX11_hostAt 13 = .ok (.iaload, 1) := by decide +kernel
theorem dX11_hostAt_14 : decode cX11_hostAt 14 = .ok (.ireturn, 1) := by decide +kernel
theorem dX11_useAt_0 : decode cX11_useAt 0 = .ok (.aload_n 0, 1) := by decide +kernel
theorem dX11_useAt_1 : decode cX11_useAt 1 = .ok (.getfield 13, 3) := by decide +kernel
theorem dX11_useAt_4 : decode cX11_useAt 4 = .ok (.sipush 934, 3) := by decide +kernel
theorem dX11_useAt_7 : decode cX11_useAt 7 = .ok (.iconst 4, 1) := by decide +kernel
theorem dX11_useAt_8 : decode cX11_useAt 8 = .ok (.iload_n 1, 1) := by decide +kernel
theorem dX11_useAt_9 : decode cX11_useAt 9 = .ok (.imul, 1) := by decide +kernel
theorem dX11_useAt_10 : decode cX11_useAt 10 = .ok (.iadd, 1) := by decide +kernel
theorem dX11_useAt_11 : decode cX11_useAt 11 = .ok (.iload_n 2, 1) := by decide +kernel
theorem dX11_useAt_12 : decode cX11_useAt 12 = .ok (.iadd, 1) := by decide +kernel
theorem dX11_useAt_13 : decode cX11_useAt 13 = .ok (.iaload, 1) := by decide +kernel
theorem dX11_useAt_14 : decode cX11_useAt 14 = .ok (.ireturn, 1) := by decide +kernel
theorem dX11_rightAt_0 : decode cX11_rightAt 0 = .ok (.aload_n 0, 1) := by decide +kernel
theorem dX11_rightAt_1 : decode cX11_rightAt 1 = .ok (.getfield 13, 3) := by decide +kernel
theorem dX11_rightAt_4 : decode cX11_rightAt 4 = .ok (.sipush 1054, 3) := by decide +kernel
theorem dX11_rightAt_7 : decode cX11_rightAt 7 = .ok (.bipush 6, 2) := by decide +kernel
theorem dX11_rightAt_9 : decode cX11_rightAt 9 = .ok (.iload_n 1, 1) := by decide +kernel
theorem dX11_rightAt_10 : decode cX11_rightAt 10 = .ok (.imul, 1) := by decide +kernel
theorem dX11_rightAt_11 : decode cX11_rightAt 11 = .ok (.iadd, 1) := by decide +kernel
theorem dX11_rightAt_12 : decode cX11_rightAt 12 = .ok (.iload_n 2, 1) := by decide +kernel
theorem dX11_rightAt_13 : decode cX11_rightAt 13 = .ok (.iadd, 1) := by decide +kernel
theorem dX11_rightAt_14 : decode cX11_rightAt 14 = .ok (.iaload, 1) := by decide +kernel
theorem dX11_rightAt_15 : decode cX11_rightAt 15 = .ok (.ireturn, 1) := by decide +kernel
theorem dX11_isProduct_0 : decode cX11_isProduct 0 = .ok (.iload_n 1, 1) := by decide +kernel
theorem dX11_isProduct_1 : decode cX11_isProduct 1 = .ok (.ifCond .lt 17, 3) := by decide +kernel
theorem dX11_isProduct_4 : decode cX11_isProduct 4 = .ok (.iload_n 1, 1) := by decide +kernel
theorem dX11_isProduct_5 : decode cX11_isProduct 5 = .ok (.aload_n 0, 1) := by decide +kernel
theorem dX11_isProduct_6 : decode cX11_isProduct 6 = .ok (.getfield 13, 3) := by decide +kernel
theorem dX11_isProduct_9 : decode cX11_isProduct 9 = .ok (.iconst 0, 1) := by decide +kernel
theorem dX11_isProduct_10 : decode cX11_isProduct 10 = .ok (.iaload, 1) := by decide +kernel
theorem dX11_isProduct_11 : decode cX11_isProduct 11 = .ok (.if_icmp .ge 7, 3) := by decide +kernel
theorem dX11_isProduct_14 : decode cX11_isProduct 14 = .ok (.iconst 1, 1) := by decide +kernel
theorem dX11_isProduct_15 : decode cX11_isProduct 15 = .ok (.goto 4, 3) := by decide +kernel
theorem dX11_isProduct_18 : decode cX11_isProduct 18 = .ok (.iconst 0, 1) := by decide +kernel
theorem dX11_isProduct_19 : decode cX11_isProduct 19 = .ok (.ireturn, 1) := by decide +kernel
theorem dX11_isRule_0 : decode cX11_isRule 0 = .ok (.iload_n 1, 1) := by decide +kernel
theorem dX11_isRule_1 : decode cX11_isRule 1 = .ok (.ifCond .lt 17, 3) := by decide +kernel
theorem dX11_isRule_4 : decode cX11_isRule 4 = .ok (.iload_n 1, 1) := by decide +kernel
theorem dX11_isRule_5 : decode cX11_isRule 5 = .ok (.aload_n 0, 1) := by decide +kernel
theorem dX11_isRule_6 : decode cX11_isRule 6 = .ok (.getfield 13, 3) := by decide +kernel
theorem dX11_isRule_9 : decode cX11_isRule 9 = .ok (.iconst 1, 1) := by decide +kernel
theorem dX11_isRule_10 : decode cX11_isRule 10 = .ok (.iaload, 1) := by decide +kernel
theorem dX11_isRule_11 : decode cX11_isRule 11 = .ok (.if_icmp .ge 7, 3) := by decide +kernel
theorem dX11_isRule_14 : decode cX11_isRule 14 = .ok (.iconst 1, 1) := by decide +kernel
theorem dX11_isRule_15 : decode cX11_isRule 15 = .ok (.goto 4, 3) := by decide +kernel
theorem dX11_isRule_18 : decode cX11_isRule 18 = .ok (.iconst 0, 1) := by decide +kernel
theorem dX11_isRule_19 : decode cX11_isRule 19 = .ok (.ireturn, 1) := by decide +kernel
theorem dX11_isHost_0 : decode cX11_isHost 0 = .ok (.iload_n 1, 1) := by decide +kernel
theorem dX11_isHost_1 : decode cX11_isHost 1 = .ok (.ifCond .lt 17, 3) := by decide +kernel
theorem dX11_isHost_4 : decode cX11_isHost 4 = .ok (.iload_n 1, 1) := by decide +kernel
theorem dX11_isHost_5 : decode cX11_isHost 5 = .ok (.aload_n 0, 1) := by decide +kernel
theorem dX11_isHost_6 : decode cX11_isHost 6 = .ok (.getfield 13, 3) := by decide +kernel
theorem dX11_isHost_9 : decode cX11_isHost 9 = .ok (.iconst 2, 1) := by decide +kernel
theorem dX11_isHost_10 : decode cX11_isHost 10 = .ok (.iaload, 1) := by decide +kernel
theorem dX11_isHost_11 : decode cX11_isHost 11 = .ok (.if_icmp .ge 7, 3) := by decide +kernel
theorem dX11_isHost_14 : decode cX11_isHost 14 = .ok (.iconst 1, 1) := by decide +kernel
theorem dX11_isHost_15 : decode cX11_isHost 15 = .ok (.goto 4, 3) := by decide +kernel
theorem dX11_isHost_18 : decode cX11_isHost 18 = .ok (.iconst 0, 1) := by decide +kernel
theorem dX11_isHost_19 : decode cX11_isHost 19 = .ok (.ireturn, 1) := by decide +kernel
theorem dX11_isFind_0 : decode cX11_isFind 0 = .ok (.iload_n 1, 1) := by decide +kernel
theorem dX11_isFind_1 : decode cX11_isFind 1 = .ok (.ifCond .lt 17, 3) := by decide +kernel
theorem dX11_isFind_4 : decode cX11_isFind 4 = .ok (.iload_n 1, 1) := by decide +kernel
theorem dX11_isFind_5 : decode cX11_isFind 5 = .ok (.aload_n 0, 1) := by decide +kernel
theorem dX11_isFind_6 : decode cX11_isFind 6 = .ok (.getfield 13, 3) := by decide +kernel
theorem dX11_isFind_9 : decode cX11_isFind 9 = .ok (.iconst 3, 1) := by decide +kernel
theorem dX11_isFind_10 : decode cX11_isFind 10 = .ok (.iaload, 1) := by decide +kernel
theorem dX11_isFind_11 : decode cX11_isFind 11 = .ok (.if_icmp .ge 7, 3) := by decide +kernel
theorem dX11_isFind_14 : decode cX11_isFind 14 = .ok (.iconst 1, 1) := by decide +kernel
theorem dX11_isFind_15 : decode cX11_isFind 15 = .ok (.goto 4, 3) := by decide +kernel
theorem dX11_isFind_18 : decode cX11_isFind 18 = .ok (.iconst 0, 1) := by decide +kernel
theorem dX11_isFind_19 : decode cX11_isFind 19 = .ok (.ireturn, 1) := by decide +kernel
theorem dX11_isRight_0 : decode cX11_isRight 0 = .ok (.iload_n 1, 1) := by decide +kernel
theorem dX11_isRight_1 : decode cX11_isRight 1 = .ok (.ifCond .lt 17, 3) := by decide +kernel
theorem dX11_isRight_4 : decode cX11_isRight 4 = .ok (.iload_n 1, 1) := by decide +kernel
theorem dX11_isRight_5 : decode cX11_isRight 5 = .ok (.aload_n 0, 1) := by decide +kernel
theorem dX11_isRight_6 : decode cX11_isRight 6 = .ok (.getfield 13, 3) := by decide +kernel
theorem dX11_isRight_9 : decode cX11_isRight 9 = .ok (.iconst 5, 1) := by decide +kernel
theorem dX11_isRight_10 : decode cX11_isRight 10 = .ok (.iaload, 1) := by decide +kernel
theorem dX11_isRight_11 : decode cX11_isRight 11 = .ok (.if_icmp .ge 7, 3) := by decide +kernel
theorem dX11_isRight_14 : decode cX11_isRight 14 = .ok (.iconst 1, 1) := by decide +kernel
theorem dX11_isRight_15 : decode cX11_isRight 15 = .ok (.goto 4, 3) := by decide +kernel
theorem dX11_isRight_18 : decode cX11_isRight 18 = .ok (.iconst 0, 1) := by decide +kernel
theorem dX11_isRight_19 : decode cX11_isRight 19 = .ok (.ireturn, 1) := by decide +kernel
set_option maxRecDepth 20000 in
theorem ggX11_letter_X11_isIn : GoodIn wsX11_letter wsX11_isIn := goodIn_r _ [6] (by decide +kernel) (by decide +kernel)
set_option maxRecDepth 20000 in
theorem gX11_letter_X11_isIn : GoodIn wsX11_letter (va_wsS RX11 29 yX11_isIn wsX11_isIn) := goodIn_app (goodIn_of _ (by decide +kernel)) ggX11_letter_X11_isIn
set_option maxRecDepth 20000 in
theorem ggX11_letter_X11_finding : GoodIn wsX11_letter wsX11_finding := goodIn_r _ [10, 11, 12, 13, 14, 15, 16, 17, 18, 19, 20, 21] (by decide +kernel) (by decide +kernel)
set_option maxRecDepth 20000 in
theorem gX11_letter_X11_finding : GoodIn wsX11_letter (wsV RX11 33 RX11 yX11_finding wsX11_finding) := goodIn_app (goodIn_of _ (by decide +kernel)) ggX11_letter_X11_finding
theorem dX11_letter_0 : decode cX11_letter 0 = .ok (.iload_n 1, 1) := by decide +kernel
theorem dX11_letter_1 : decode cX11_letter 1 = .ok (.iconst 1, 1) := by decide +kernel
theorem dX11_letter_2 : decode cX11_letter 2 = .ok (.bipush 28, 2) := by decide +kernel
theorem dX11_letter_4 : decode cX11_letter 4 = .ok (.invokestatic 29, 3) := by decide +kernel
theorem dX11_letter_7 : decode cX11_letter 7 = .ok (.ifCond .ne 9, 3) := by decide +kernel
theorem dX11_letter_10 : decode cX11_letter 10 = .ok (.aload_n 0, 1) := by decide +kernel
theorem dX11_letter_11 : decode cX11_letter 11 = .ok (.iconst (-1), 1) := by decide +kernel
theorem dX11_letter_12 : decode cX11_letter 12 = .ok (.invokevirtual 33, 3) := by decide +kernel
theorem dX11_letter_15 : decode cX11_letter 15 = .ok (.ireturn, 1) := by decide +kernel
theorem dX11_letter_16 : decode cX11_letter 16 = .ok (.aload_n 0, 1) := by decide +kernel
theorem dX11_letter_17 : decode cX11_letter 17 = .ok (.getfield 37, 3) := by decide +kernel
theorem dX11_letter_20 : decode cX11_letter 20 = .ok (.bipush 12, 2) := by decide +kernel
theorem dX11_letter_22 : decode cX11_letter 22 = .ok (.if_icmp .ne 10, 3) := by decide +kernel
theorem dX11_letter_25 : decode cX11_letter 25 = .ok (.aload_n 0, 1) := by decide +kernel
theorem dX11_letter_26 : decode cX11_letter 26 = .ok (.bipush (-3), 2) := by decide +kernel
theorem dX11_letter_28 : decode cX11_letter 28 = .ok (.invokevirtual 33, 3) := by decide +kernel
theorem dX11_letter_31 : decode cX11_letter 31 = .ok (.ireturn, 1) := by decide +kernel
theorem dX11_letter_32 : decode cX11_letter 32 = .ok (.aload_n 0, 1) := by decide +kernel
theorem dX11_letter_33 : decode cX11_letter 33 = .ok (.getfield 7, 3) := by decide +kernel
theorem dX11_letter_36 : decode cX11_letter 36 = .ok (.aload_n 0, 1) := by decide +kernel
theorem dX11_letter_37 : decode cX11_letter 37 = .ok (.getfield 37, 3) := by decide +kernel
theorem dX11_letter_40 : decode cX11_letter 40 = .ok (.iload_n 1, 1) := by decide +kernel
theorem dX11_letter_41 : decode cX11_letter 41 = .ok (.iastore, 1) := by decide +kernel
theorem dX11_letter_42 : decode cX11_letter 42 = .ok (.aload_n 0, 1) := by decide +kernel
theorem dX11_letter_43 : decode cX11_letter 43 = .ok (.dup, 1) := by decide +kernel
theorem dX11_letter_44 : decode cX11_letter 44 = .ok (.getfield 37, 3) := by decide +kernel
theorem dX11_letter_47 : decode cX11_letter 47 = .ok (.iconst 1, 1) := by decide +kernel
theorem dX11_letter_48 : decode cX11_letter 48 = .ok (.iadd, 1) := by decide +kernel
theorem dX11_letter_49 : decode cX11_letter 49 = .ok (.putfield 37, 3) := by decide +kernel
theorem dX11_letter_52 : decode cX11_letter 52 = .ok (.aload_n 0, 1) := by decide +kernel
theorem dX11_letter_53 : decode cX11_letter 53 = .ok (.getfield 37, 3) := by decide +kernel
theorem dX11_letter_56 : decode cX11_letter 56 = .ok (.ireturn, 1) := by decide +kernel
set_option maxRecDepth 20000 in
theorem ggX11_product_X11_isIn : GoodIn wsX11_product wsX11_isIn := goodIn_r _ [5] (by decide +kernel) (by decide +kernel)
set_option maxRecDepth 20000 in
theorem gX11_product_X11_isIn : GoodIn wsX11_product (va_wsS RX11 29 yX11_isIn wsX11_isIn) := goodIn_app (goodIn_of _ (by decide +kernel)) ggX11_product_X11_isIn
set_option maxRecDepth 20000 in
theorem ggX11_product_X11_finding : GoodIn wsX11_product wsX11_finding := goodIn_r _ [9, 10, 11, 12, 13, 14, 15, 16, 17, 18, 19, 20] (by decide +kernel) (by decide +kernel)
set_option maxRecDepth 20000 in
theorem gX11_product_X11_finding : GoodIn wsX11_product (wsV RX11 33 RX11 yX11_finding wsX11_finding) := goodIn_app (goodIn_of _ (by decide +kernel)) ggX11_product_X11_finding
theorem dX11_product_0 : decode cX11_product 0 = .ok (.iload_n 1, 1) := by decide +kernel
theorem dX11_product_1 : decode cX11_product 1 = .ok (.iconst 1, 1) := by decide +kernel
theorem dX11_product_2 : decode cX11_product 2 = .ok (.if_icmp .eq 8, 3) := by decide +kernel
theorem dX11_product_5 : decode cX11_product 5 = .ok (.iload_n 1, 1) := by decide +kernel
theorem dX11_product_6 : decode cX11_product 6 = .ok (.iconst 3, 1) := by decide +kernel
theorem dX11_product_7 : decode cX11_product 7 = .ok (.if_icmp .ne 7, 3) := by decide +kernel
theorem dX11_product_10 : decode cX11_product 10 = .ok (.iconst 1, 1) := by decide +kernel
theorem dX11_product_11 : decode cX11_product 11 = .ok (.goto 4, 3) := by decide +kernel
theorem dX11_product_14 : decode cX11_product 14 = .ok (.iconst 0, 1) := by decide +kernel
theorem dX11_product_15 : decode cX11_product 15 = .ok (.istore 4, 2) := by decide +kernel
theorem dX11_product_17 : decode cX11_product 17 = .ok (.iload_n 1, 1) := by decide +kernel
theorem dX11_product_18 : decode cX11_product 18 = .ok (.iconst 0, 1) := by decide +kernel
theorem dX11_product_19 : decode cX11_product 19 = .ok (.iconst 3, 1) := by decide +kernel
theorem dX11_product_20 : decode cX11_product 20 = .ok (.invokestatic 29, 3) := by decide +kernel
theorem dX11_product_23 : decode cX11_product 23 = .ok (.ifCond .eq 29, 3) := by decide +kernel
theorem dX11_product_26 : decode cX11_product 26 = .ok (.iload 4, 2) := by decide +kernel
theorem dX11_product_28 : decode cX11_product 28 = .ok (.ifCond .eq 30, 3) := by decide +kernel
theorem dX11_product_31 : decode cX11_product 31 = .ok (.iload_n 2, 1) := by decide +kernel
theorem dX11_product_32 : decode cX11_product 32 = .ok (.iconst 0, 1) := by decide +kernel
theorem dX11_product_33 : decode cX11_product 33 = .ok (.sipush 1023, 3) := by decide +kernel
theorem dX11_product_36 : decode cX11_product 36 = .ok (.invokestatic 29, 3) := by decide +kernel
theorem dX11_product_39 : decode cX11_product 39 = .ok (.ifCond .eq 13, 3) := by decide +kernel
theorem dX11_product_42 : decode cX11_product 42 = .ok (.iload_n 3, 1) := by decide +kernel
theorem dX11_product_43 : decode cX11_product 43 = .ok (.iconst 1, 1) := by decide +kernel
theorem dX11_product_44 : decode cX11_product 44 = .ok (.bipush 10, 2) := by decide +kernel
theorem dX11_product_46 : decode cX11_product 46 = .ok (.invokestatic 29, 3) := by decide +kernel
theorem dX11_product_49 : decode cX11_product 49 = .ok (.ifCond .ne 9, 3) := by decide +kernel
theorem dX11_product_52 : decode cX11_product 52 = .ok (.aload_n 0, 1) := by decide +kernel
theorem dX11_product_53 : decode cX11_product 53 = .ok (.iconst (-1), 1) := by decide +kernel
theorem dX11_product_54 : decode cX11_product 54 = .ok (.invokevirtual 33, 3) := by decide +kernel
theorem dX11_product_57 : decode cX11_product 57 = .ok (.ireturn, 1) := by decide +kernel
theorem dX11_product_58 : decode cX11_product 58 = .ok (.aload_n 0, 1) := by decide +kernel
theorem dX11_product_59 : decode cX11_product 59 = .ok (.getfield 13, 3) := by decide +kernel
theorem dX11_product_62 : decode cX11_product 62 = .ok (.iconst 0, 1) := by decide +kernel
theorem dX11_product_63 : decode cX11_product 63 = .ok (.iaload, 1) := by decide +kernel
theorem dX11_product_64 : decode cX11_product 64 = .ok (.istore 5, 2) := by decide +kernel
theorem dX11_product_66 : decode cX11_product 66 = .ok (.iload 5, 2) := by decide +kernel
theorem dX11_product_68 : decode cX11_product 68 = .ok (.bipush 10, 2) := by decide +kernel
theorem dX11_product_70 : decode cX11_product 70 = .ok (.if_icmp .ne 10, 3) := by decide +kernel
theorem dX11_product_73 : decode cX11_product 73 = .ok (.aload_n 0, 1) := by decide +kernel
theorem dX11_product_74 : decode cX11_product 74 = .ok (.bipush (-3), 2) := by decide +kernel
theorem dX11_product_76 : decode cX11_product 76 = .ok (.invokevirtual 33, 3) := by decide +kernel
theorem dX11_product_79 : decode cX11_product 79 = .ok (.ireturn, 1) := by decide +kernel
theorem dX11_product_80 : decode cX11_product 80 = .ok (.aload_n 0, 1) := by decide +kernel
theorem dX11_product_81 : decode cX11_product 81 = .ok (.getfield 13, 3) := by decide +kernel
theorem dX11_product_84 : decode cX11_product 84 = .ok (.bipush 8, 2) := by decide +kernel
theorem dX11_product_86 : decode cX11_product 86 = .ok (.iconst 3, 1) := by decide +kernel
theorem dX11_product_87 : decode cX11_product 87 = .ok (.iload 5, 2) := by decide +kernel
theorem dX11_product_89 : decode cX11_product 89 = .ok (.imul, 1) := by decide +kernel
theorem dX11_product_90 : decode cX11_product 90 = .ok (.iadd, 1) := by decide +kernel
theorem dX11_product_91 : decode cX11_product 91 = .ok (.iload_n 1, 1) := by decide +kernel
theorem dX11_product_92 : decode cX11_product 92 = .ok (.iastore, 1) := by decide +kernel
theorem dX11_product_93 : decode cX11_product 93 = .ok (.aload_n 0, 1) := by decide +kernel
theorem dX11_product_94 : decode cX11_product 94 = .ok (.getfield 13, 3) := by decide +kernel
theorem dX11_product_97 : decode cX11_product 97 = .ok (.bipush 8, 2) := by decide +kernel
theorem dX11_product_99 : decode cX11_product 99 = .ok (.iconst 3, 1) := by decide +kernel
theorem dX11_product_100 : decode cX11_product 100 = .ok (.iload 5, 2) := by decide +kernel
theorem dX11_product_102 : decode cX11_product 102 = .ok (.imul, 1) := by decide +kernel
theorem dX11_product_103 : decode cX11_product 103 = .ok (.iadd, 1) := by decide +kernel
theorem dX11_product_104 : decode cX11_product 104 = .ok (.iconst 1, 1) := by decide +kernel
theorem dX11_product_105 : decode cX11_product 105 = .ok (.iadd, 1) := by decide +kernel
theorem dX11_product_106 : decode cX11_product 106 = .ok (.iload 4, 2) := by decide +kernel
theorem dX11_product_108 : decode cX11_product 108 = .ok (.ifCond .eq 7, 3) := by decide +kernel
theorem dX11_product_111 : decode cX11_product 111 = .ok (.iload_n 2, 1) := by decide +kernel
theorem dX11_product_112 : decode cX11_product 112 = .ok (.goto 4, 3) := by decide +kernel
theorem dX11_product_115 : decode cX11_product 115 = .ok (.iconst 0, 1) := by decide +kernel
theorem dX11_product_116 : decode cX11_product 116 = .ok (.iastore, 1) := by decide +kernel
theorem dX11_product_117 : decode cX11_product 117 = .ok (.aload_n 0, 1) := by decide +kernel
theorem dX11_product_118 : decode cX11_product 118 = .ok (.getfield 13, 3) := by decide +kernel
theorem dX11_product_121 : decode cX11_product 121 = .ok (.bipush 8, 2) := by decide +kernel
theorem dX11_product_123 : decode cX11_product 123 = .ok (.iconst 3, 1) := by decide +kernel
theorem dX11_product_124 : decode cX11_product 124 = .ok (.iload 5, 2) := by decide +kernel
theorem dX11_product_126 : decode cX11_product 126 = .ok (.imul, 1) := by decide +kernel
theorem dX11_product_127 : decode cX11_product 127 = .ok (.iadd, 1) := by decide +kernel
theorem dX11_product_128 : decode cX11_product 128 = .ok (.iconst 2, 1) := by decide +kernel
theorem dX11_product_129 : decode cX11_product 129 = .ok (.iadd, 1) := by decide +kernel
theorem dX11_product_130 : decode cX11_product 130 = .ok (.iload 4, 2) := by decide +kernel
theorem dX11_product_132 : decode cX11_product 132 = .ok (.ifCond .eq 7, 3) := by decide +kernel
theorem dX11_product_135 : decode cX11_product 135 = .ok (.iload_n 3, 1) := by decide +kernel
theorem dX11_product_136 : decode cX11_product 136 = .ok (.goto 4, 3) := by decide +kernel
theorem dX11_product_139 : decode cX11_product 139 = .ok (.iconst 0, 1) := by decide +kernel
theorem dX11_product_140 : decode cX11_product 140 = .ok (.iastore, 1) := by decide +kernel
theorem dX11_product_141 : decode cX11_product 141 = .ok (.aload_n 0, 1) := by decide +kernel
theorem dX11_product_142 : decode cX11_product 142 = .ok (.getfield 13, 3) := by decide +kernel
theorem dX11_product_145 : decode cX11_product 145 = .ok (.iconst 0, 1) := by decide +kernel
theorem dX11_product_146 : decode cX11_product 146 = .ok (.dup2, 1) := by decide +kernel
theorem dX11_product_147 : decode cX11_product 147 = .ok (.iaload, 1) := by decide +kernel
theorem dX11_product_148 : decode cX11_product 148 = .ok (.iconst 1, 1) := by decide +kernel
theorem dX11_product_149 : decode cX11_product 149 = .ok (.iadd, 1) := by decide +kernel
theorem dX11_product_150 : decode cX11_product 150 = .ok (.iastore, 1) := by decide +kernel
theorem dX11_product_151 : decode cX11_product 151 = .ok (.iload 5, 2) := by decide +kernel
theorem dX11_product_153 : decode cX11_product 153 = .ok (.ireturn, 1) := by decide +kernel
set_option maxRecDepth 20000 in
theorem ggX11_as_X11_isProduct : GoodIn wsX11_as wsX11_isProduct := goodIn_r _ [5, 6, 19, 20, 21, 22, 23, 24, 25, 26, 27, 28] (by decide +kernel) (by decide +kernel)
set_option maxRecDepth 20000 in
theorem gX11_as_X11_isProduct : GoodIn wsX11_as (wsV RX11 40 RX11 yX11_isProduct wsX11_isProduct) := goodIn_app (goodIn_of _ (by decide +kernel)) ggX11_as_X11_isProduct
set_option maxRecDepth 20000 in
theorem ggX11_as_X11_isIn : GoodIn wsX11_as wsX11_isIn := goodIn_r _ [9] (by decide +kernel) (by decide +kernel)
set_option maxRecDepth 20000 in
theorem gX11_as_X11_isIn : GoodIn wsX11_as (va_wsS RX11 29 yX11_isIn wsX11_isIn) := goodIn_app (goodIn_of _ (by decide +kernel)) ggX11_as_X11_isIn
set_option maxRecDepth 20000 in
theorem ggX11_as_X11_finding : GoodIn wsX11_as wsX11_finding := goodIn_r _ [13, 14, 19, 20, 21, 22, 23, 24, 25, 26, 27, 28] (by decide +kernel) (by decide +kernel)
set_option maxRecDepth 20000 in
theorem gX11_as_X11_finding : GoodIn wsX11_as (wsV RX11 33 RX11 yX11_finding wsX11_finding) := goodIn_app (goodIn_of _ (by decide +kernel)) ggX11_as_X11_finding
set_option maxRecDepth 20000 in
theorem ggX11_as_X11_productAt : GoodIn wsX11_as wsX11_productAt := goodIn_r _ [18, 6, 19, 20, 21, 22, 23, 24, 25, 26, 27, 28] (by decide +kernel) (by decide +kernel)
set_option maxRecDepth 20000 in
theorem gX11_as_X11_productAt : GoodIn wsX11_as (wsV RX11 44 RX11 yX11_productAt wsX11_productAt) := goodIn_app (goodIn_of _ (by decide +kernel)) ggX11_as_X11_productAt
theorem dX11_as_0 : decode cX11_as 0 = .ok (.aload_n 0, 1) := by decide +kernel
theorem dX11_as_1 : decode cX11_as 1 = .ok (.iload_n 1, 1) := by decide +kernel
theorem dX11_as_2 : decode cX11_as 2 = .ok (.invokevirtual 40, 3) := by decide +kernel
theorem dX11_as_5 : decode cX11_as 5 = .ok (.ifCond .eq 12, 3) := by decide +kernel
theorem dX11_as_8 : decode cX11_as 8 = .ok (.iload_n 2, 1) := by decide +kernel
theorem dX11_as_9 : decode cX11_as 9 = .ok (.iconst 0, 1) := by decide +kernel
theorem dX11_as_10 : decode cX11_as 10 = .ok (.iconst 3, 1) := by decide +kernel
theorem dX11_as_11 : decode cX11_as 11 = .ok (.invokestatic 29, 3) := by decide +kernel
theorem dX11_as_14 : decode cX11_as 14 = .ok (.ifCond .ne 9, 3) := by decide +kernel
theorem dX11_as_17 : decode cX11_as 17 = .ok (.aload_n 0, 1) := by decide +kernel
theorem dX11_as_18 : decode cX11_as 18 = .ok (.iconst (-1), 1) := by decide +kernel
theorem dX11_as_19 : decode cX11_as 19 = .ok (.invokevirtual 33, 3) := by decide +kernel
theorem dX11_as_22 : decode cX11_as 22 = .ok (.ireturn, 1) := by decide +kernel
theorem dX11_as_23 : decode cX11_as 23 = .ok (.aload_n 0, 1) := by decide +kernel
theorem dX11_as_24 : decode cX11_as 24 = .ok (.iload_n 1, 1) := by decide +kernel
theorem dX11_as_25 : decode cX11_as 25 = .ok (.iconst 0, 1) := by decide +kernel
theorem dX11_as_26 : decode cX11_as 26 = .ok (.invokevirtual 44, 3) := by decide +kernel
theorem dX11_as_29 : decode cX11_as 29 = .ok (.istore_n 3, 1) := by decide +kernel
theorem dX11_as_30 : decode cX11_as 30 = .ok (.iload_n 2, 1) := by decide +kernel
theorem dX11_as_31 : decode cX11_as 31 = .ok (.ifCond .eq 18, 3) := by decide +kernel
theorem dX11_as_34 : decode cX11_as 34 = .ok (.iload_n 2, 1) := by decide +kernel
theorem dX11_as_35 : decode cX11_as 35 = .ok (.iload_n 3, 1) := by decide +kernel
theorem dX11_as_36 : decode cX11_as 36 = .ok (.if_icmp .eq 13, 3) := by decide +kernel
theorem dX11_as_39 : decode cX11_as 39 = .ok (.iload_n 2, 1) := by decide +kernel
theorem dX11_as_40 : decode cX11_as 40 = .ok (.iconst 1, 1) := by decide +kernel
theorem dX11_as_41 : decode cX11_as 41 = .ok (.if_icmp .ne 12, 3) := by decide +kernel
theorem dX11_as_44 : decode cX11_as 44 = .ok (.iload_n 3, 1) := by decide +kernel
theorem dX11_as_45 : decode cX11_as 45 = .ok (.iconst 3, 1) := by decide +kernel
theorem dX11_as_46 : decode cX11_as 46 = .ok (.if_icmp .ne 7, 3) := by decide +kernel
theorem dX11_as_49 : decode cX11_as 49 = .ok (.iload_n 1, 1) := by decide +kernel
theorem dX11_as_50 : decode cX11_as 50 = .ok (.goto 9, 3) := by decide +kernel
theorem dX11_as_53 : decode cX11_as 53 = .ok (.aload_n 0, 1) := by decide +kernel
theorem dX11_as_54 : decode cX11_as 54 = .ok (.bipush (-4), 2) := by decide +kernel
theorem dX11_as_56 : decode cX11_as 56 = .ok (.invokevirtual 33, 3) := by decide +kernel
theorem dX11_as_59 : decode cX11_as 59 = .ok (.ireturn, 1) := by decide +kernel
theorem dX11_hasSign_0 : decode cX11_hasSign 0 = .ok (.iconst 0, 1) := by decide +kernel
theorem dX11_hasSign_1 : decode cX11_hasSign 1 = .ok (.istore_n 3, 1) := by decide +kernel
theorem dX11_hasSign_2 : decode cX11_hasSign 2 = .ok (.iconst 0, 1) := by decide +kernel
theorem dX11_hasSign_3 : decode cX11_hasSign 3 = .ok (.istore 4, 2) := by decide +kernel
theorem dX11_hasSign_5 : decode cX11_hasSign 5 = .ok (.iload 4, 2) := by decide +kernel
theorem dX11_hasSign_7 : decode cX11_hasSign 7 = .ok (.iload_n 2, 1) := by decide +kernel
theorem dX11_hasSign_8 : decode cX11_hasSign 8 = .ok (.if_icmp .ge 28, 3) := by decide +kernel
theorem dX11_hasSign_11 : decode cX11_hasSign 11 = .ok (.iload_n 3, 1) := by decide +kernel
theorem dX11_hasSign_12 : decode cX11_hasSign 12 = .ok (.aload_n 0, 1) := by decide +kernel
theorem dX11_hasSign_13 : decode cX11_hasSign 13 = .ok (.getfield 7, 3) := by decide +kernel
theorem dX11_hasSign_16 : decode cX11_hasSign 16 = .ok (.iload 4, 2) := by decide +kernel
theorem dX11_hasSign_18 : decode cX11_hasSign 18 = .ok (.iaload, 1) := by decide +kernel
theorem dX11_hasSign_19 : decode cX11_hasSign 19 = .ok (.iload_n 1, 1) := by decide +kernel
theorem dX11_hasSign_20 : decode cX11_hasSign 20 = .ok (.if_icmp .lt 7, 3) := by decide +kernel
theorem dX11_hasSign_23 : decode cX11_hasSign 23 = .ok (.iconst 1, 1) := by decide +kernel
theorem dX11_hasSign_24 : decode cX11_hasSign 24 = .ok (.goto 4, 3) := by decide +kernel
theorem dX11_hasSign_27 : decode cX11_hasSign 27 = .ok (.iconst 0, 1) := by decide +kernel
theorem dX11_hasSign_28 : decode cX11_hasSign 28 = .ok (.ior, 1) := by decide +kernel
theorem dX11_hasSign_29 : decode cX11_hasSign 29 = .ok (.istore_n 3, 1) := by decide +kernel
theorem dX11_hasSign_30 : decode cX11_hasSign 30 = .ok (.iinc 4 1, 3) := by decide +kernel
theorem dX11_hasSign_33 : decode cX11_hasSign 33 = .ok (.goto (-28), 3) := by decide +kernel
theorem dX11_hasSign_36 : decode cX11_hasSign 36 = .ok (.iload_n 3, 1) := by decide +kernel
theorem dX11_hasSign_37 : decode cX11_hasSign 37 = .ok (.ireturn, 1) := by decide +kernel
set_option maxRecDepth 20000 in
theorem ggX11_rule_X11_isProduct : GoodIn wsX11_rule wsX11_isProduct := goodIn_r _ [8, 1, 21, 22, 23, 24, 25, 26, 27, 28, 29, 30] (by decide +kernel) (by decide +kernel)
set_option maxRecDepth 20000 in
theorem gX11_rule_X11_isProduct : GoodIn wsX11_rule (wsV RX11 40 RX11 yX11_isProduct wsX11_isProduct) := goodIn_app (goodIn_of _ (by decide +kernel)) ggX11_rule_X11_isProduct
set_option maxRecDepth 20000 in
theorem ggX11_rule_X11_isIn : GoodIn wsX11_rule wsX11_isIn := goodIn_r _ [11] (by decide +kernel) (by decide +kernel)
set_option maxRecDepth 20000 in
theorem gX11_rule_X11_isIn : GoodIn wsX11_rule (va_wsS RX11 29 yX11_isIn wsX11_isIn) := goodIn_app (goodIn_of _ (by decide +kernel)) ggX11_rule_X11_isIn
set_option maxRecDepth 20000 in
theorem ggX11_rule_X11_finding : GoodIn wsX11_rule wsX11_finding := goodIn_r _ [15, 16, 21, 22, 23, 24, 25, 26, 27, 28, 29, 30] (by decide +kernel) (by decide +kernel)
set_option maxRecDepth 20000 in
theorem gX11_rule_X11_finding : GoodIn wsX11_rule (wsV RX11 33 RX11 yX11_finding wsX11_finding) := goodIn_app (goodIn_of _ (by decide +kernel)) ggX11_rule_X11_finding
set_option maxRecDepth 20000 in
theorem ggX11_rule_X11_hasSign : GoodIn wsX11_rule wsX11_hasSign := goodIn_r _ [20, 3, 21, 22, 23, 24, 25, 26, 27, 28, 29, 30] (by decide +kernel) (by decide +kernel)
set_option maxRecDepth 20000 in
theorem gX11_rule_X11_hasSign : GoodIn wsX11_rule (wsV RX11 48 RX11 yX11_hasSign wsX11_hasSign) := goodIn_app (goodIn_of _ (by decide +kernel)) ggX11_rule_X11_hasSign
theorem dX11_rule_0 : decode cX11_rule 0 = .ok (.aload_n 0, 1) := by decide +kernel
theorem dX11_rule_1 : decode cX11_rule 1 = .ok (.iload_n 2, 1) := by decide +kernel
theorem dX11_rule_2 : decode cX11_rule 2 = .ok (.invokevirtual 40, 3) := by decide +kernel
theorem dX11_rule_5 : decode cX11_rule 5 = .ok (.ifCond .eq 13, 3) := by decide +kernel
theorem dX11_rule_8 : decode cX11_rule 8 = .ok (.iload_n 1, 1) := by decide +kernel
theorem dX11_rule_9 : decode cX11_rule 9 = .ok (.iconst 0, 1) := by decide +kernel
theorem dX11_rule_10 : decode cX11_rule 10 = .ok (.bipush 9, 2) := by decide +kernel
theorem dX11_rule_12 : decode cX11_rule 12 = .ok (.invokestatic 29, 3) := by decide +kernel
theorem dX11_rule_15 : decode cX11_rule 15 = .ok (.ifCond .ne 9, 3) := by decide +kernel
theorem dX11_rule_18 : decode cX11_rule 18 = .ok (.aload_n 0, 1) := by decide +kernel
theorem dX11_rule_19 : decode cX11_rule 19 = .ok (.iconst (-1), 1) := by decide +kernel
theorem dX11_rule_20 : decode cX11_rule 20 = .ok (.invokevirtual 33, 3) := by decide +kernel
theorem dX11_rule_23 : decode cX11_rule 23 = .ok (.ireturn, 1) := by decide +kernel
theorem dX11_rule_24 : decode cX11_rule 24 = .ok (.aload_n 0, 1) := by decide +kernel
theorem dX11_rule_25 : decode cX11_rule 25 = .ok (.getfield 13, 3) := by decide +kernel
theorem dX11_rule_28 : decode cX11_rule 28 = .ok (.iconst 1, 1) := by decide +kernel
theorem dX11_rule_29 : decode cX11_rule 29 = .ok (.iaload, 1) := by decide +kernel
theorem dX11_rule_30 : decode cX11_rule 30 = .ok (.istore_n 3, 1) := by decide +kernel
theorem dX11_rule_31 : decode cX11_rule 31 = .ok (.iload_n 3, 1) := by decide +kernel
theorem dX11_rule_32 : decode cX11_rule 32 = .ok (.bipush 16, 2) := by decide +kernel
theorem dX11_rule_34 : decode cX11_rule 34 = .ok (.if_icmp .ne 10, 3) := by decide +kernel
theorem dX11_rule_37 : decode cX11_rule 37 = .ok (.aload_n 0, 1) := by decide +kernel
theorem dX11_rule_38 : decode cX11_rule 38 = .ok (.bipush (-3), 2) := by decide +kernel
theorem dX11_rule_40 : decode cX11_rule 40 = .ok (.invokevirtual 33, 3) := by decide +kernel
theorem dX11_rule_43 : decode cX11_rule 43 = .ok (.ireturn, 1) := by decide +kernel
theorem dX11_rule_44 : decode cX11_rule 44 = .ok (.aload_n 0, 1) := by decide +kernel
theorem dX11_rule_45 : decode cX11_rule 45 = .ok (.getfield 37, 3) := by decide +kernel
theorem dX11_rule_48 : decode cX11_rule 48 = .ok (.istore 4, 2) := by decide +kernel
theorem dX11_rule_50 : decode cX11_rule 50 = .ok (.aload_n 0, 1) := by decide +kernel
theorem dX11_rule_51 : decode cX11_rule 51 = .ok (.iconst 0, 1) := by decide +kernel
theorem dX11_rule_52 : decode cX11_rule 52 = .ok (.putfield 37, 3) := by decide +kernel
theorem dX11_rule_55 : decode cX11_rule 55 = .ok (.aload_n 0, 1) := by decide +kernel
theorem dX11_rule_56 : decode cX11_rule 56 = .ok (.bipush 28, 2) := by decide +kernel
theorem dX11_rule_58 : decode cX11_rule 58 = .ok (.iload 4, 2) := by decide +kernel
theorem dX11_rule_60 : decode cX11_rule 60 = .ok (.iconst 1, 1) := by decide +kernel
theorem dX11_rule_61 : decode cX11_rule 61 = .ok (.isub, 1) := by decide +kernel
theorem dX11_rule_62 : decode cX11_rule 62 = .ok (.invokevirtual 48, 3) := by decide +kernel
theorem dX11_rule_65 : decode cX11_rule 65 = .ok (.ifCond .eq 10, 3) := by decide +kernel
theorem dX11_rule_68 : decode cX11_rule 68 = .ok (.aload_n 0, 1) := by decide +kernel
theorem dX11_rule_69 : decode cX11_rule 69 = .ok (.bipush (-7), 2) := by decide +kernel
theorem dX11_rule_71 : decode cX11_rule 71 = .ok (.invokevirtual 33, 3) := by decide +kernel
theorem dX11_rule_74 : decode cX11_rule 74 = .ok (.ireturn, 1) := by decide +kernel
theorem dX11_rule_75 : decode cX11_rule 75 = .ok (.bipush 38, 2) := by decide +kernel
theorem dX11_rule_77 : decode cX11_rule 77 = .ok (.bipush 15, 2) := by decide +kernel
theorem dX11_rule_79 : decode cX11_rule 79 = .ok (.iload_n 3, 1) := by decide +kernel
theorem dX11_rule_80 : decode cX11_rule 80 = .ok (.imul, 1) := by decide +kernel
theorem dX11_rule_81 : decode cX11_rule 81 = .ok (.iadd, 1) := by decide +kernel
theorem dX11_rule_82 : decode cX11_rule 82 = .ok (.istore 5, 2) := by decide +kernel
theorem dX11_rule_84 : decode cX11_rule 84 = .ok (.aload_n 0, 1) := by decide +kernel
theorem dX11_rule_85 : decode cX11_rule 85 = .ok (.getfield 13, 3) := by decide +kernel
theorem dX11_rule_88 : decode cX11_rule 88 = .ok (.iload 5, 2) := by decide +kernel
theorem dX11_rule_90 : decode cX11_rule 90 = .ok (.iload_n 1, 1) := by decide +kernel
theorem dX11_rule_91 : decode cX11_rule 91 = .ok (.iastore, 1) := by decide +kernel
theorem dX11_rule_92 : decode cX11_rule 92 = .ok (.aload_n 0, 1) := by decide +kernel
theorem dX11_rule_93 : decode cX11_rule 93 = .ok (.getfield 13, 3) := by decide +kernel
theorem dX11_rule_96 : decode cX11_rule 96 = .ok (.iload 5, 2) := by decide +kernel
theorem dX11_rule_98 : decode cX11_rule 98 = .ok (.iconst 1, 1) := by decide +kernel
theorem dX11_rule_99 : decode cX11_rule 99 = .ok (.iadd, 1) := by decide +kernel
theorem dX11_rule_100 : decode cX11_rule 100 = .ok (.iload_n 2, 1) := by decide +kernel
theorem dX11_rule_101 : decode cX11_rule 101 = .ok (.iastore, 1) := by decide +kernel
theorem dX11_rule_102 : decode cX11_rule 102 = .ok (.aload_n 0, 1) := by decide +kernel
theorem dX11_rule_103 : decode cX11_rule 103 = .ok (.getfield 13, 3) := by decide +kernel
theorem dX11_rule_106 : decode cX11_rule 106 = .ok (.iload 5, 2) := by decide +kernel
theorem dX11_rule_108 : decode cX11_rule 108 = .ok (.iconst 2, 1) := by decide +kernel
theorem dX11_rule_109 : decode cX11_rule 109 = .ok (.iadd, 1) := by decide +kernel
theorem dX11_rule_110 : decode cX11_rule 110 = .ok (.iload 4, 2) := by decide +kernel
theorem dX11_rule_112 : decode cX11_rule 112 = .ok (.iastore, 1) := by decide +kernel
theorem dX11_rule_113 : decode cX11_rule 113 = .ok (.iconst 0, 1) := by decide +kernel
theorem dX11_rule_114 : decode cX11_rule 114 = .ok (.istore 6, 2) := by decide +kernel
theorem dX11_rule_116 : decode cX11_rule 116 = .ok (.iload 6, 2) := by decide +kernel
theorem dX11_rule_118 : decode cX11_rule 118 = .ok (.iload 4, 2) := by decide +kernel
theorem dX11_rule_120 : decode cX11_rule 120 = .ok (.if_icmp .ge 28, 3) := by decide +kernel
theorem dX11_rule_123 : decode cX11_rule 123 = .ok (.aload_n 0, 1) := by decide +kernel
theorem dX11_rule_124 : decode cX11_rule 124 = .ok (.getfield 13, 3) := by decide +kernel
theorem dX11_rule_127 : decode cX11_rule 127 = .ok (.iload 5, 2) := by decide +kernel
theorem dX11_rule_129 : decode cX11_rule 129 = .ok (.iconst 3, 1) := by decide +kernel
theorem dX11_rule_130 : decode cX11_rule 130 = .ok (.iadd, 1) := by decide +kernel
theorem dX11_rule_131 : decode cX11_rule 131 = .ok (.iload 6, 2) := by decide +kernel
theorem dX11_rule_133 : decode cX11_rule 133 = .ok (.iadd, 1) := by decide +kernel
theorem dX11_rule_134 : decode cX11_rule 134 = .ok (.aload_n 0, 1) := by decide +kernel
theorem dX11_rule_135 : decode cX11_rule 135 = .ok (.getfield 7, 3) := by decide +kernel
theorem dX11_rule_138 : decode cX11_rule 138 = .ok (.iload 6, 2) := by decide +kernel
theorem dX11_rule_140 : decode cX11_rule 140 = .ok (.iaload, 1) := by decide +kernel
theorem dX11_rule_141 : decode cX11_rule 141 = .ok (.iastore, 1) := by decide +kernel
theorem dX11_rule_142 : decode cX11_rule 142 = .ok (.iinc 6 1, 3) := by decide +kernel
theorem dX11_rule_145 : decode cX11_rule 145 = .ok (.goto (-29), 3) := by decide +kernel
theorem dX11_rule_148 : decode cX11_rule 148 = .ok (.aload_n 0, 1) := by decide +kernel
theorem dX11_rule_149 : decode cX11_rule 149 = .ok (.getfield 13, 3) := by decide +kernel
theorem dX11_rule_152 : decode cX11_rule 152 = .ok (.iconst 1, 1) := by decide +kernel
theorem dX11_rule_153 : decode cX11_rule 153 = .ok (.dup2, 1) := by decide +kernel
theorem dX11_rule_154 : decode cX11_rule 154 = .ok (.iaload, 1) := by decide +kernel
theorem dX11_rule_155 : decode cX11_rule 155 = .ok (.iconst 1, 1) := by decide +kernel
theorem dX11_rule_156 : decode cX11_rule 156 = .ok (.iadd, 1) := by decide +kernel
theorem dX11_rule_157 : decode cX11_rule 157 = .ok (.iastore, 1) := by decide +kernel
theorem dX11_rule_158 : decode cX11_rule 158 = .ok (.iload_n 3, 1) := by decide +kernel
theorem dX11_rule_159 : decode cX11_rule 159 = .ok (.ireturn, 1) := by decide +kernel
theorem dX11_remove_0 : decode cX11_remove 0 = .ok (.iload_n 1, 1) := by decide +kernel
theorem dX11_remove_1 : decode cX11_remove 1 = .ok (.iload_n 2, 1) := by decide +kernel
theorem dX11_remove_2 : decode cX11_remove 2 = .ok (.iload_n 3, 1) := by decide +kernel
theorem dX11_remove_3 : decode cX11_remove 3 = .ok (.imul, 1) := by decide +kernel
theorem dX11_remove_4 : decode cX11_remove 4 = .ok (.iadd, 1) := by decide +kernel
theorem dX11_remove_5 : decode cX11_remove 5 = .ok (.istore 5, 2) := by decide +kernel
theorem dX11_remove_7 : decode cX11_remove 7 = .ok (.iload 5, 2) := by decide +kernel
theorem dX11_remove_9 : decode cX11_remove 9 = .ok (.iload_n 1, 1) := by decide +kernel
theorem dX11_remove_10 : decode cX11_remove 10 = .ok (.iload_n 2, 1) := by decide +kernel
theorem dX11_remove_11 : decode cX11_remove 11 = .ok (.iload 4, 2) := by decide +kernel
theorem dX11_remove_13 : decode cX11_remove 13 = .ok (.iconst 1, 1) := by decide +kernel
theorem dX11_remove_14 : decode cX11_remove 14 = .ok (.isub, 1) := by decide +kernel
theorem dX11_remove_15 : decode cX11_remove 15 = .ok (.imul, 1) := by decide +kernel
theorem dX11_remove_16 : decode cX11_remove 16 = .ok (.iadd, 1) := by decide +kernel
theorem dX11_remove_17 : decode cX11_remove 17 = .ok (.if_icmp .ge 25, 3) := by decide +kernel
theorem dX11_remove_20 : decode cX11_remove 20 = .ok (.aload_n 0, 1) := by decide +kernel
theorem dX11_remove_21 : decode cX11_remove 21 = .ok (.getfield 13, 3) := by decide +kernel
theorem dX11_remove_24 : decode cX11_remove 24 = .ok (.iload 5, 2) := by decide +kernel
theorem dX11_remove_26 : decode cX11_remove 26 = .ok (.aload_n 0, 1) := by decide +kernel
theorem dX11_remove_27 : decode cX11_remove 27 = .ok (.getfield 13, 3) := by decide +kernel
theorem dX11_remove_30 : decode cX11_remove 30 = .ok (.iload 5, 2) := by decide +kernel
theorem dX11_remove_32 : decode cX11_remove 32 = .ok (.iload_n 2, 1) := by decide +kernel
theorem dX11_remove_33 : decode cX11_remove 33 = .ok (.iadd, 1) := by decide +kernel
theorem dX11_remove_34 : decode cX11_remove 34 = .ok (.iaload, 1) := by decide +kernel
theorem dX11_remove_35 : decode cX11_remove 35 = .ok (.iastore, 1) := by decide +kernel
theorem dX11_remove_36 : decode cX11_remove 36 = .ok (.iinc 5 1, 3) := by decide +kernel
theorem dX11_remove_39 : decode cX11_remove 39 = .ok (.goto (-32), 3) := by decide +kernel
theorem dX11_remove_42 : decode cX11_remove 42 = .ok (.return_, 1) := by decide +kernel
set_option maxRecDepth 20000 in
theorem ggX11_unrule_X11_isRule : GoodIn wsX11_unrule wsX11_isRule := goodIn_r _ [6, 1, 16, 17, 18, 19, 20, 21, 22, 23, 24, 25] (by decide +kernel) (by decide +kernel)
set_option maxRecDepth 20000 in
theorem gX11_unrule_X11_isRule : GoodIn wsX11_unrule (wsV RX11 52 RX11 yX11_isRule wsX11_isRule) := goodIn_app (goodIn_of _ (by decide +kernel)) ggX11_unrule_X11_isRule
set_option maxRecDepth 20000 in
theorem ggX11_unrule_X11_finding : GoodIn wsX11_unrule wsX11_finding := goodIn_r _ [10, 11, 16, 17, 18, 19, 20, 21, 22, 23, 24, 25] (by decide +kernel) (by decide +kernel)
set_option maxRecDepth 20000 in
theorem gX11_unrule_X11_finding : GoodIn wsX11_unrule (wsV RX11 33 RX11 yX11_finding wsX11_finding) := goodIn_app (goodIn_of _ (by decide +kernel)) ggX11_unrule_X11_finding
set_option maxRecDepth 20000 in
theorem ggX11_unrule_X11_remove : GoodIn wsX11_unrule wsX11_remove := goodIn_r _ [15, 1, 16, 17, 18, 19, 20, 21, 22, 23, 24, 25] (by decide +kernel) (by decide +kernel)
set_option maxRecDepth 20000 in
theorem gX11_unrule_X11_remove : GoodIn wsX11_unrule (wsV RX11 55 RX11 yX11_remove wsX11_remove) := goodIn_app (goodIn_of _ (by decide +kernel)) ggX11_unrule_X11_remove
theorem dX11_unrule_0 : decode cX11_unrule 0 = .ok (.aload_n 0, 1) := by decide +kernel
theorem dX11_unrule_1 : decode cX11_unrule 1 = .ok (.iload_n 1, 1) := by decide +kernel
theorem dX11_unrule_2 : decode cX11_unrule 2 = .ok (.invokevirtual 52, 3) := by decide +kernel
theorem dX11_unrule_5 : decode cX11_unrule 5 = .ok (.ifCond .ne 9, 3) := by decide +kernel
theorem dX11_unrule_8 : decode cX11_unrule 8 = .ok (.aload_n 0, 1) := by decide +kernel
theorem dX11_unrule_9 : decode cX11_unrule 9 = .ok (.iconst (-1), 1) := by decide +kernel
theorem dX11_unrule_10 : decode cX11_unrule 10 = .ok (.invokevirtual 33, 3) := by decide +kernel
theorem dX11_unrule_13 : decode cX11_unrule 13 = .ok (.ireturn, 1) := by decide +kernel
theorem dX11_unrule_14 : decode cX11_unrule 14 = .ok (.aload_n 0, 1) := by decide +kernel
theorem dX11_unrule_15 : decode cX11_unrule 15 = .ok (.bipush 38, 2) := by decide +kernel
theorem dX11_unrule_17 : decode cX11_unrule 17 = .ok (.bipush 15, 2) := by decide +kernel
theorem dX11_unrule_19 : decode cX11_unrule 19 = .ok (.iload_n 1, 1) := by decide +kernel
theorem dX11_unrule_20 : decode cX11_unrule 20 = .ok (.aload_n 0, 1) := by decide +kernel
theorem dX11_unrule_21 : decode cX11_unrule 21 = .ok (.getfield 13, 3) := by decide +kernel
theorem dX11_unrule_24 : decode cX11_unrule 24 = .ok (.iconst 1, 1) := by decide +kernel
theorem dX11_unrule_25 : decode cX11_unrule 25 = .ok (.iaload, 1) := by decide +kernel
theorem dX11_unrule_26 : decode cX11_unrule 26 = .ok (.invokevirtual 55, 3) := by decide +kernel
theorem dX11_unrule_29 : decode cX11_unrule 29 = .ok (.aload_n 0, 1) := by decide +kernel
theorem dX11_unrule_30 : decode cX11_unrule 30 = .ok (.getfield 13, 3) := by decide +kernel
theorem dX11_unrule_33 : decode cX11_unrule 33 = .ok (.iconst 1, 1) := by decide +kernel
theorem dX11_unrule_34 : decode cX11_unrule 34 = .ok (.dup2, 1) := by decide +kernel
theorem dX11_unrule_35 : decode cX11_unrule 35 = .ok (.iaload, 1) := by decide +kernel
theorem dX11_unrule_36 : decode cX11_unrule 36 = .ok (.iconst 1, 1) := by decide +kernel
theorem dX11_unrule_37 : decode cX11_unrule 37 = .ok (.isub, 1) := by decide +kernel
theorem dX11_unrule_38 : decode cX11_unrule 38 = .ok (.iastore, 1) := by decide +kernel
theorem dX11_unrule_39 : decode cX11_unrule 39 = .ok (.aload_n 0, 1) := by decide +kernel
theorem dX11_unrule_40 : decode cX11_unrule 40 = .ok (.getfield 13, 3) := by decide +kernel
theorem dX11_unrule_43 : decode cX11_unrule 43 = .ok (.iconst 1, 1) := by decide +kernel
theorem dX11_unrule_44 : decode cX11_unrule 44 = .ok (.iaload, 1) := by decide +kernel
theorem dX11_unrule_45 : decode cX11_unrule 45 = .ok (.ireturn, 1) := by decide +kernel
set_option maxRecDepth 20000 in
theorem ggX11_fitsOf_X11_ruleAt : GoodIn wsX11_fitsOf wsX11_ruleAt := goodIn_r _ [5, 6, 11, 12, 13, 14, 15, 16, 17, 18, 19, 20] (by decide +kernel) (by decide +kernel)
set_option maxRecDepth 20000 in
theorem gX11_fitsOf_X11_ruleAt : GoodIn wsX11_fitsOf (wsV RX11 59 RX11 yX11_ruleAt wsX11_ruleAt) := goodIn_app (goodIn_of _ (by decide +kernel)) ggX11_fitsOf_X11_ruleAt
set_option maxRecDepth 20000 in
theorem ggX11_fitsOf_X11_findAt : GoodIn wsX11_fitsOf wsX11_findAt := goodIn_r _ [10, 6, 11, 12, 13, 14, 15, 16, 17, 18, 19, 20] (by decide +kernel) (by decide +kernel)
set_option maxRecDepth 20000 in
theorem gX11_fitsOf_X11_findAt : GoodIn wsX11_fitsOf (wsV RX11 62 RX11 yX11_findAt wsX11_findAt) := goodIn_app (goodIn_of _ (by decide +kernel)) ggX11_fitsOf_X11_findAt
theorem dX11_fitsOf_0 : decode cX11_fitsOf 0 = .ok (.aload_n 0, 1) := by decide +kernel
theorem dX11_fitsOf_1 : decode cX11_fitsOf 1 = .ok (.iload_n 1, 1) := by decide +kernel
theorem dX11_fitsOf_2 : decode cX11_fitsOf 2 = .ok (.iconst 2, 1) := by decide +kernel
theorem dX11_fitsOf_3 : decode cX11_fitsOf 3 = .ok (.invokevirtual 59, 3) := by decide +kernel
theorem dX11_fitsOf_6 : decode cX11_fitsOf 6 = .ok (.istore_n 3, 1) := by decide +kernel
theorem dX11_fitsOf_7 : decode cX11_fitsOf 7 = .ok (.aload_n 0, 1) := by decide +kernel
theorem dX11_fitsOf_8 : decode cX11_fitsOf 8 = .ok (.iload_n 2, 1) := by decide +kernel
theorem dX11_fitsOf_9 : decode cX11_fitsOf 9 = .ok (.iconst 3, 1) := by decide +kernel
theorem dX11_fitsOf_10 : decode cX11_fitsOf 10 = .ok (.invokevirtual 62, 3) := by decide +kernel
theorem dX11_fitsOf_13 : decode cX11_fitsOf 13 = .ok (.istore 4, 2) := by decide +kernel
theorem dX11_fitsOf_15 : decode cX11_fitsOf 15 = .ok (.iload_n 3, 1) := by decide +kernel
theorem dX11_fitsOf_16 : decode cX11_fitsOf 16 = .ok (.ifCond .le 20, 3) := by decide +kernel
theorem dX11_fitsOf_19 : decode cX11_fitsOf 19 = .ok (.aload_n 0, 1) := by decide +kernel
theorem dX11_fitsOf_20 : decode cX11_fitsOf 20 = .ok (.iload_n 1, 1) := by decide +kernel
theorem dX11_fitsOf_21 : decode cX11_fitsOf 21 = .ok (.iconst 2, 1) := by decide +kernel
theorem dX11_fitsOf_22 : decode cX11_fitsOf 22 = .ok (.iload_n 3, 1) := by decide +kernel
theorem dX11_fitsOf_23 : decode cX11_fitsOf 23 = .ok (.iadd, 1) := by decide +kernel
theorem dX11_fitsOf_24 : decode cX11_fitsOf 24 = .ok (.invokevirtual 59, 3) := by decide +kernel
theorem dX11_fitsOf_27 : decode cX11_fitsOf 27 = .ok (.bipush 28, 2) := by decide +kernel
theorem dX11_fitsOf_29 : decode cX11_fitsOf 29 = .ok (.if_icmp .ne 7, 3) := by decide +kernel
theorem dX11_fitsOf_32 : decode cX11_fitsOf 32 = .ok (.iconst 1, 1) := by decide +kernel
theorem dX11_fitsOf_33 : decode cX11_fitsOf 33 = .ok (.goto 4, 3) := by decide +kernel
theorem dX11_fitsOf_36 : decode cX11_fitsOf 36 = .ok (.iconst 0, 1) := by decide +kernel
theorem dX11_fitsOf_37 : decode cX11_fitsOf 37 = .ok (.istore 5, 2) := by decide +kernel
theorem dX11_fitsOf_39 : decode cX11_fitsOf 39 = .ok (.iload 5, 2) := by decide +kernel
theorem dX11_fitsOf_41 : decode cX11_fitsOf 41 = .ok (.ifCond .eq 9, 3) := by decide +kernel
theorem dX11_fitsOf_44 : decode cX11_fitsOf 44 = .ok (.iload_n 3, 1) := by decide +kernel
theorem dX11_fitsOf_45 : decode cX11_fitsOf 45 = .ok (.iconst 1, 1) := by decide +kernel
theorem dX11_fitsOf_46 : decode cX11_fitsOf 46 = .ok (.isub, 1) := by decide +kernel
theorem dX11_fitsOf_47 : decode cX11_fitsOf 47 = .ok (.goto 4, 3) := by decide +kernel
theorem dX11_fitsOf_50 : decode cX11_fitsOf 50 = .ok (.iload_n 3, 1) := by decide +kernel
theorem dX11_fitsOf_51 : decode cX11_fitsOf 51 = .ok (.istore 6, 2) := by decide +kernel
theorem dX11_fitsOf_53 : decode cX11_fitsOf 53 = .ok (.iload 5, 2) := by decide +kernel
theorem dX11_fitsOf_55 : decode cX11_fitsOf 55 = .ok (.ifCond .eq 18, 3) := by decide +kernel
theorem dX11_fitsOf_58 : decode cX11_fitsOf 58 = .ok (.iload 4, 2) := by decide +kernel
theorem dX11_fitsOf_60 : decode cX11_fitsOf 60 = .ok (.iload 6, 2) := by decide +kernel
theorem dX11_fitsOf_62 : decode cX11_fitsOf 62 = .ok (.if_icmp .lt 7, 3) := by decide +kernel
theorem dX11_fitsOf_65 : decode cX11_fitsOf 65 = .ok (.iconst 1, 1) := by decide +kernel
theorem dX11_fitsOf_66 : decode cX11_fitsOf 66 = .ok (.goto 19, 3) := by decide +kernel
theorem dX11_fitsOf_69 : decode cX11_fitsOf 69 = .ok (.iconst 0, 1) := by decide +kernel
theorem dX11_fitsOf_70 : decode cX11_fitsOf 70 = .ok (.goto 15, 3) := by decide +kernel
theorem dX11_fitsOf_73 : decode cX11_fitsOf 73 = .ok (.iload 4, 2) := by decide +kernel
theorem dX11_fitsOf_75 : decode cX11_fitsOf 75 = .ok (.iload 6, 2) := by decide +kernel
theorem dX11_fitsOf_77 : decode cX11_fitsOf 77 = .ok (.if_icmp .ne 7, 3) := by decide +kernel
theorem dX11_fitsOf_80 : decode cX11_fitsOf 80 = .ok (.iconst 1, 1) := by decide +kernel
theorem dX11_fitsOf_81 : decode cX11_fitsOf 81 = .ok (.goto 4, 3) := by decide +kernel
theorem dX11_fitsOf_84 : decode cX11_fitsOf 84 = .ok (.iconst 0, 1) := by decide +kernel
theorem dX11_fitsOf_85 : decode cX11_fitsOf 85 = .ok (.istore 7, 2) := by decide +kernel
theorem dX11_fitsOf_87 : decode cX11_fitsOf 87 = .ok (.iconst 0, 1) := by decide +kernel
theorem dX11_fitsOf_88 : decode cX11_fitsOf 88 = .ok (.istore 8, 2) := by decide +kernel
theorem dX11_fitsOf_90 : decode cX11_fitsOf 90 = .ok (.iload 8, 2) := by decide +kernel
theorem dX11_fitsOf_92 : decode cX11_fitsOf 92 = .ok (.iload 6, 2) := by decide +kernel
theorem dX11_fitsOf_94 : decode cX11_fitsOf 94 = .ok (.if_icmp .ge 53, 3) := by decide +kernel
theorem dX11_fitsOf_97 : decode cX11_fitsOf 97 = .ok (.iload 7, 2) := by decide +kernel
theorem dX11_fitsOf_99 : decode cX11_fitsOf 99 = .ok (.ifCond .eq 48, 3) := by decide +kernel
theorem dX11_fitsOf_102 : decode cX11_fitsOf 102 = .ok (.aload_n 0, 1) := by decide +kernel
theorem dX11_fitsOf_103 : decode cX11_fitsOf 103 = .ok (.iload_n 1, 1) := by decide +kernel
theorem dX11_fitsOf_104 : decode cX11_fitsOf 104 = .ok (.iconst 3, 1) := by decide +kernel
theorem dX11_fitsOf_105 : decode cX11_fitsOf 105 = .ok (.iload 8, 2) := by decide +kernel
theorem dX11_fitsOf_107 : decode cX11_fitsOf 107 = .ok (.iadd, 1) := by decide +kernel
theorem dX11_fitsOf_108 : decode cX11_fitsOf 108 = .ok (.invokevirtual 59, 3) := by decide +kernel
theorem dX11_fitsOf_111 : decode cX11_fitsOf 111 = .ok (.istore 9, 2) := by decide +kernel
theorem dX11_fitsOf_113 : decode cX11_fitsOf 113 = .ok (.iload 9, 2) := by decide +kernel
theorem dX11_fitsOf_115 : decode cX11_fitsOf 115 = .ok (.bipush 27, 2) := by decide +kernel
theorem dX11_fitsOf_117 : decode cX11_fitsOf 117 = .ok (.if_icmp .eq 17, 3) := by decide +kernel
theorem dX11_fitsOf_120 : decode cX11_fitsOf 120 = .ok (.iload 9, 2) := by decide +kernel
theorem dX11_fitsOf_122 : decode cX11_fitsOf 122 = .ok (.aload_n 0, 1) := by decide +kernel
theorem dX11_fitsOf_123 : decode cX11_fitsOf 123 = .ok (.iload_n 2, 1) := by decide +kernel
theorem dX11_fitsOf_124 : decode cX11_fitsOf 124 = .ok (.iconst 4, 1) := by decide +kernel
theorem dX11_fitsOf_125 : decode cX11_fitsOf 125 = .ok (.iload 8, 2) := by decide +kernel
theorem dX11_fitsOf_127 : decode cX11_fitsOf 127 = .ok (.iadd, 1) := by decide +kernel
theorem dX11_fitsOf_128 : decode cX11_fitsOf 128 = .ok (.invokevirtual 62, 3) := by decide +kernel
theorem dX11_fitsOf_131 : decode cX11_fitsOf 131 = .ok (.if_icmp .ne 7, 3) := by decide +kernel
theorem dX11_fitsOf_134 : decode cX11_fitsOf 134 = .ok (.iconst 1, 1) := by decide +kernel
theorem dX11_fitsOf_135 : decode cX11_fitsOf 135 = .ok (.goto 4, 3) := by decide +kernel
theorem dX11_fitsOf_138 : decode cX11_fitsOf 138 = .ok (.iconst 0, 1) := by decide +kernel
theorem dX11_fitsOf_139 : decode cX11_fitsOf 139 = .ok (.istore 7, 2) := by decide +kernel
theorem dX11_fitsOf_141 : decode cX11_fitsOf 141 = .ok (.iinc 8 1, 3) := by decide +kernel
theorem dX11_fitsOf_144 : decode cX11_fitsOf 144 = .ok (.goto (-54), 3) := by decide +kernel
theorem dX11_fitsOf_147 : decode cX11_fitsOf 147 = .ok (.iload 7, 2) := by decide +kernel
theorem dX11_fitsOf_149 : decode cX11_fitsOf 149 = .ok (.ireturn, 1) := by decide +kernel
set_option maxRecDepth 20000 in
theorem ggX11_fits_X11_isRule : GoodIn wsX11_fits wsX11_isRule := goodIn_r _ [5, 6, 28, 29, 30, 31, 32, 33, 34, 35, 36, 37] (by decide +kernel) (by decide +kernel)
set_option maxRecDepth 20000 in
theorem gX11_fits_X11_isRule : GoodIn wsX11_fits (wsV RX11 52 RX11 yX11_isRule wsX11_isRule) := goodIn_app (goodIn_of _ (by decide +kernel)) ggX11_fits_X11_isRule
set_option maxRecDepth 20000 in
theorem ggX11_fits_X11_isFind : GoodIn wsX11_fits wsX11_isFind := goodIn_r _ [10, 6, 28, 29, 30, 31, 32, 33, 34, 35, 36, 37] (by decide +kernel) (by decide +kernel)
set_option maxRecDepth 20000 in
theorem gX11_fits_X11_isFind : GoodIn wsX11_fits (wsV RX11 65 RX11 yX11_isFind wsX11_isFind) := goodIn_app (goodIn_of _ (by decide +kernel)) ggX11_fits_X11_isFind
set_option maxRecDepth 20000 in
theorem ggX11_fits_X11_finding : GoodIn wsX11_fits wsX11_finding := goodIn_r _ [14, 15, 28, 29, 30, 31, 32, 33, 34, 35, 36, 37] (by decide +kernel) (by decide +kernel)
set_option maxRecDepth 20000 in
theorem gX11_fits_X11_finding : GoodIn wsX11_fits (wsV RX11 33 RX11 yX11_finding wsX11_finding) := goodIn_app (goodIn_of _ (by decide +kernel)) ggX11_fits_X11_finding
set_option maxRecDepth 20000 in
theorem ggX11_fits_X11_fitsOf : GoodIn wsX11_fits wsX11_fitsOf := goodIn_r _ [19, 20, 21, 22, 4, 23, 6, 24, 25, 26, 27, 28, 29, 30, 31, 32, 33, 34, 35, 36, 37] (by decide +kernel) (by decide +kernel)
set_option maxRecDepth 20000 in
theorem gX11_fits_X11_fitsOf : GoodIn wsX11_fits (wsV RX11 68 RX11 yX11_fitsOf wsX11_fitsOf) := goodIn_app (goodIn_of _ (by decide +kernel)) ggX11_fits_X11_fitsOf
theorem dX11_fits_0 : decode cX11_fits 0 = .ok (.aload_n 0, 1) := by decide +kernel
theorem dX11_fits_1 : decode cX11_fits 1 = .ok (.iload_n 1, 1) := by decide +kernel
theorem dX11_fits_2 : decode cX11_fits 2 = .ok (.invokevirtual 52, 3) := by decide +kernel
theorem dX11_fits_5 : decode cX11_fits 5 = .ok (.ifCond .eq 11, 3) := by decide +kernel
theorem dX11_fits_8 : decode cX11_fits 8 = .ok (.aload_n 0, 1) := by decide +kernel
theorem dX11_fits_9 : decode cX11_fits 9 = .ok (.iload_n 2, 1) := by decide +kernel
theorem dX11_fits_10 : decode cX11_fits 10 = .ok (.invokevirtual 65, 3) := by decide +kernel
theorem dX11_fits_13 : decode cX11_fits 13 = .ok (.ifCond .ne 9, 3) := by decide +kernel
theorem dX11_fits_16 : decode cX11_fits 16 = .ok (.aload_n 0, 1) := by decide +kernel
theorem dX11_fits_17 : decode cX11_fits 17 = .ok (.iconst (-1), 1) := by decide +kernel
theorem dX11_fits_18 : decode cX11_fits 18 = .ok (.invokevirtual 33, 3) := by decide +kernel
theorem dX11_fits_21 : decode cX11_fits 21 = .ok (.ireturn, 1) := by decide +kernel
theorem dX11_fits_22 : decode cX11_fits 22 = .ok (.aload_n 0, 1) := by decide +kernel
theorem dX11_fits_23 : decode cX11_fits 23 = .ok (.iload_n 1, 1) := by decide +kernel
theorem dX11_fits_24 : decode cX11_fits 24 = .ok (.iload_n 2, 1) := by decide +kernel
theorem dX11_fits_25 : decode cX11_fits 25 = .ok (.invokevirtual 68, 3) := by decide +kernel
theorem dX11_fits_28 : decode cX11_fits 28 = .ok (.ifCond .eq 7, 3) := by decide +kernel
theorem dX11_fits_31 : decode cX11_fits 31 = .ok (.iconst 1, 1) := by decide +kernel
theorem dX11_fits_32 : decode cX11_fits 32 = .ok (.goto 4, 3) := by decide +kernel
theorem dX11_fits_35 : decode cX11_fits 35 = .ok (.iconst 0, 1) := by decide +kernel
theorem dX11_fits_36 : decode cX11_fits 36 = .ok (.ireturn, 1) := by decide +kernel
set_option maxRecDepth 20000 in
theorem ggX11_host_X11_isIn : GoodIn wsX11_host wsX11_isIn := goodIn_r _ [5] (by decide +kernel) (by decide +kernel)
set_option maxRecDepth 20000 in
theorem gX11_host_X11_isIn : GoodIn wsX11_host (va_wsS RX11 29 yX11_isIn wsX11_isIn) := goodIn_app (goodIn_of _ (by decide +kernel)) ggX11_host_X11_isIn
set_option maxRecDepth 20000 in
theorem ggX11_host_X11_finding : GoodIn wsX11_host wsX11_finding := goodIn_r _ [9, 10, 11, 12, 13, 14, 15, 16, 17, 18, 19, 20] (by decide +kernel) (by decide +kernel)
set_option maxRecDepth 20000 in
theorem gX11_host_X11_finding : GoodIn wsX11_host (wsV RX11 33 RX11 yX11_finding wsX11_finding) := goodIn_app (goodIn_of _ (by decide +kernel)) ggX11_host_X11_finding
theorem dX11_host_0 : decode cX11_host 0 = .ok (.iload_n 1, 1) := by decide +kernel
theorem dX11_host_1 : decode cX11_host 1 = .ok (.iconst 1, 1) := by decide +kernel
theorem dX11_host_2 : decode cX11_host 2 = .ok (.bipush 64, 2) := by decide +kernel
theorem dX11_host_4 : decode cX11_host 4 = .ok (.invokestatic 29, 3) := by decide +kernel
theorem dX11_host_7 : decode cX11_host 7 = .ok (.ifCond .eq 13, 3) := by decide +kernel
theorem dX11_host_10 : decode cX11_host 10 = .ok (.iload_n 2, 1) := by decide +kernel
theorem dX11_host_11 : decode cX11_host 11 = .ok (.iconst 0, 1) := by decide +kernel
theorem dX11_host_12 : decode cX11_host 12 = .ok (.bipush 9, 2) := by decide +kernel
theorem dX11_host_14 : decode cX11_host 14 = .ok (.invokestatic 29, 3) := by decide +kernel
theorem dX11_host_17 : decode cX11_host 17 = .ok (.ifCond .ne 9, 3) := by decide +kernel
theorem dX11_host_20 : decode cX11_host 20 = .ok (.aload_n 0, 1) := by decide +kernel
theorem dX11_host_21 : decode cX11_host 21 = .ok (.iconst (-1), 1) := by decide +kernel
theorem dX11_host_22 : decode cX11_host 22 = .ok (.invokevirtual 33, 3) := by decide +kernel
theorem dX11_host_25 : decode cX11_host 25 = .ok (.ireturn, 1) := by decide +kernel
theorem dX11_host_26 : decode cX11_host 26 = .ok (.aload_n 0, 1) := by decide +kernel
theorem dX11_host_27 : decode cX11_host 27 = .ok (.getfield 13, 3) := by decide +kernel
theorem dX11_host_30 : decode cX11_host 30 = .ok (.iconst 2, 1) := by decide +kernel
theorem dX11_host_31 : decode cX11_host 31 = .ok (.iaload, 1) := by decide +kernel
theorem dX11_host_32 : decode cX11_host 32 = .ok (.istore_n 3, 1) := by decide +kernel
theorem dX11_host_33 : decode cX11_host 33 = .ok (.iload_n 3, 1) := by decide +kernel
theorem dX11_host_34 : decode cX11_host 34 = .ok (.bipush 8, 2) := by decide +kernel
theorem dX11_host_36 : decode cX11_host 36 = .ok (.if_icmp .ne 10, 3) := by decide +kernel
theorem dX11_host_39 : decode cX11_host 39 = .ok (.aload_n 0, 1) := by decide +kernel
theorem dX11_host_40 : decode cX11_host 40 = .ok (.bipush (-3), 2) := by decide +kernel
theorem dX11_host_42 : decode cX11_host 42 = .ok (.invokevirtual 33, 3) := by decide +kernel
theorem dX11_host_45 : decode cX11_host 45 = .ok (.ireturn, 1) := by decide +kernel
theorem dX11_host_46 : decode cX11_host 46 = .ok (.aload_n 0, 1) := by decide +kernel
theorem dX11_host_47 : decode cX11_host 47 = .ok (.getfield 13, 3) := by decide +kernel
theorem dX11_host_50 : decode cX11_host 50 = .ok (.sipush 278, 3) := by decide +kernel
theorem dX11_host_53 : decode cX11_host 53 = .ok (.iconst 2, 1) := by decide +kernel
theorem dX11_host_54 : decode cX11_host 54 = .ok (.iload_n 3, 1) := by decide +kernel
theorem dX11_host_55 : decode cX11_host 55 = .ok (.imul, 1) := by decide +kernel
theorem dX11_host_56 : decode cX11_host 56 = .ok (.iadd, 1) := by decide +kernel
theorem dX11_host_57 : decode cX11_host 57 = .ok (.iload_n 1, 1) := by decide +kernel
theorem dX11_host_58 : decode cX11_host 58 = .ok (.iastore, 1) := by decide +kernel
theorem dX11_host_59 : decode cX11_host 59 = .ok (.aload_n 0, 1) := by decide +kernel
theorem dX11_host_60 : decode cX11_host 60 = .ok (.getfield 13, 3) := by decide +kernel
theorem dX11_host_63 : decode cX11_host 63 = .ok (.sipush 278, 3) := by decide +kernel
theorem dX11_host_66 : decode cX11_host 66 = .ok (.iconst 2, 1) := by decide +kernel
theorem dX11_host_67 : decode cX11_host 67 = .ok (.iload_n 3, 1) := by decide +kernel
theorem dX11_host_68 : decode cX11_host 68 = .ok (.imul, 1) := by decide +kernel
theorem dX11_host_69 : decode cX11_host 69 = .ok (.iadd, 1) := by decide +kernel
theorem dX11_host_70 : decode cX11_host 70 = .ok (.iconst 1, 1) := by decide +kernel
theorem dX11_host_71 : decode cX11_host 71 = .ok (.iadd, 1) := by decide +kernel
theorem dX11_host_72 : decode cX11_host 72 = .ok (.iload_n 2, 1) := by decide +kernel
theorem dX11_host_73 : decode cX11_host 73 = .ok (.iastore, 1) := by decide +kernel
theorem dX11_host_74 : decode cX11_host 74 = .ok (.aload_n 0, 1) := by decide +kernel
theorem dX11_host_75 : decode cX11_host 75 = .ok (.getfield 13, 3) := by decide +kernel
theorem dX11_host_78 : decode cX11_host 78 = .ok (.iconst 2, 1) := by decide +kernel
theorem dX11_host_79 : decode cX11_host 79 = .ok (.dup2, 1) := by decide +kernel
theorem dX11_host_80 : decode cX11_host 80 = .ok (.iaload, 1) := by decide +kernel
theorem dX11_host_81 : decode cX11_host 81 = .ok (.iconst 1, 1) := by decide +kernel
theorem dX11_host_82 : decode cX11_host 82 = .ok (.iadd, 1) := by decide +kernel
theorem dX11_host_83 : decode cX11_host 83 = .ok (.iastore, 1) := by decide +kernel
theorem dX11_host_84 : decode cX11_host 84 = .ok (.iload_n 3, 1) := by decide +kernel
theorem dX11_host_85 : decode cX11_host 85 = .ok (.ireturn, 1) := by decide +kernel
set_option maxRecDepth 20000 in
theorem ggX11_moved_X11_isHost : GoodIn wsX11_moved wsX11_isHost := goodIn_r _ [6, 1, 19, 20, 21, 22, 23, 24, 25, 26, 27, 28] (by decide +kernel) (by decide +kernel)
set_option maxRecDepth 20000 in
theorem gX11_moved_X11_isHost : GoodIn wsX11_moved (wsV RX11 71 RX11 yX11_isHost wsX11_isHost) := goodIn_app (goodIn_of _ (by decide +kernel)) ggX11_moved_X11_isHost
set_option maxRecDepth 20000 in
theorem ggX11_moved_X11_isIn : GoodIn wsX11_moved wsX11_isIn := goodIn_r _ [9] (by decide +kernel) (by decide +kernel)
set_option maxRecDepth 20000 in
theorem gX11_moved_X11_isIn : GoodIn wsX11_moved (va_wsS RX11 29 yX11_isIn wsX11_isIn) := goodIn_app (goodIn_of _ (by decide +kernel)) ggX11_moved_X11_isIn
set_option maxRecDepth 20000 in
theorem ggX11_moved_X11_finding : GoodIn wsX11_moved wsX11_finding := goodIn_r _ [13, 14, 19, 20, 21, 22, 23, 24, 25, 26, 27, 28] (by decide +kernel) (by decide +kernel)
set_option maxRecDepth 20000 in
theorem gX11_moved_X11_finding : GoodIn wsX11_moved (wsV RX11 33 RX11 yX11_finding wsX11_finding) := goodIn_app (goodIn_of _ (by decide +kernel)) ggX11_moved_X11_finding
set_option maxRecDepth 20000 in
theorem ggX11_moved_X11_hostAt : GoodIn wsX11_moved wsX11_hostAt := goodIn_r _ [18, 1, 19, 20, 21, 22, 23, 24, 25, 26, 27, 28] (by decide +kernel) (by decide +kernel)
set_option maxRecDepth 20000 in
theorem gX11_moved_X11_hostAt : GoodIn wsX11_moved (wsV RX11 74 RX11 yX11_hostAt wsX11_hostAt) := goodIn_app (goodIn_of _ (by decide +kernel)) ggX11_moved_X11_hostAt
theorem dX11_moved_0 : decode cX11_moved 0 = .ok (.aload_n 0, 1) := by decide +kernel
theorem dX11_moved_1 : decode cX11_moved 1 = .ok (.iload_n 1, 1) := by decide +kernel
theorem dX11_moved_2 : decode cX11_moved 2 = .ok (.invokevirtual 71, 3) := by decide +kernel
theorem dX11_moved_5 : decode cX11_moved 5 = .ok (.ifCond .eq 13, 3) := by decide +kernel
theorem dX11_moved_8 : decode cX11_moved 8 = .ok (.iload_n 2, 1) := by decide +kernel
theorem dX11_moved_9 : decode cX11_moved 9 = .ok (.iconst 0, 1) := by decide +kernel
theorem dX11_moved_10 : decode cX11_moved 10 = .ok (.bipush 9, 2) := by decide +kernel
theorem dX11_moved_12 : decode cX11_moved 12 = .ok (.invokestatic 29, 3) := by decide +kernel
theorem dX11_moved_15 : decode cX11_moved 15 = .ok (.ifCond .ne 9, 3) := by decide +kernel
theorem dX11_moved_18 : decode cX11_moved 18 = .ok (.aload_n 0, 1) := by decide +kernel
theorem dX11_moved_19 : decode cX11_moved 19 = .ok (.iconst (-1), 1) := by decide +kernel
theorem dX11_moved_20 : decode cX11_moved 20 = .ok (.invokevirtual 33, 3) := by decide +kernel
theorem dX11_moved_23 : decode cX11_moved 23 = .ok (.ireturn, 1) := by decide +kernel
theorem dX11_moved_24 : decode cX11_moved 24 = .ok (.aload_n 0, 1) := by decide +kernel
theorem dX11_moved_25 : decode cX11_moved 25 = .ok (.iload_n 1, 1) := by decide +kernel
theorem dX11_moved_26 : decode cX11_moved 26 = .ok (.iconst 1, 1) := by decide +kernel
theorem dX11_moved_27 : decode cX11_moved 27 = .ok (.invokevirtual 74, 3) := by decide +kernel
theorem dX11_moved_30 : decode cX11_moved 30 = .ok (.istore_n 3, 1) := by decide +kernel
theorem dX11_moved_31 : decode cX11_moved 31 = .ok (.aload_n 0, 1) := by decide +kernel
theorem dX11_moved_32 : decode cX11_moved 32 = .ok (.getfield 13, 3) := by decide +kernel
theorem dX11_moved_35 : decode cX11_moved 35 = .ok (.sipush 278, 3) := by decide +kernel
theorem dX11_moved_38 : decode cX11_moved 38 = .ok (.iconst 2, 1) := by decide +kernel
theorem dX11_moved_39 : decode cX11_moved 39 = .ok (.iload_n 1, 1) := by decide +kernel
theorem dX11_moved_40 : decode cX11_moved 40 = .ok (.imul, 1) := by decide +kernel
theorem dX11_moved_41 : decode cX11_moved 41 = .ok (.iadd, 1) := by decide +kernel
theorem dX11_moved_42 : decode cX11_moved 42 = .ok (.iconst 1, 1) := by decide +kernel
theorem dX11_moved_43 : decode cX11_moved 43 = .ok (.iadd, 1) := by decide +kernel
theorem dX11_moved_44 : decode cX11_moved 44 = .ok (.iload_n 2, 1) := by decide +kernel
theorem dX11_moved_45 : decode cX11_moved 45 = .ok (.iastore, 1) := by decide +kernel
theorem dX11_moved_46 : decode cX11_moved 46 = .ok (.iload_n 3, 1) := by decide +kernel
theorem dX11_moved_47 : decode cX11_moved 47 = .ok (.ireturn, 1) := by decide +kernel
set_option maxRecDepth 20000 in
theorem ggX11_find_X11_isHost : GoodIn wsX11_find wsX11_isHost := goodIn_r _ [8, 1, 21, 22, 23, 24, 25, 26, 27, 28, 29, 30] (by decide +kernel) (by decide +kernel)
set_option maxRecDepth 20000 in
theorem gX11_find_X11_isHost : GoodIn wsX11_find (wsV RX11 71 RX11 yX11_isHost wsX11_isHost) := goodIn_app (goodIn_of _ (by decide +kernel)) ggX11_find_X11_isHost
set_option maxRecDepth 20000 in
theorem ggX11_find_X11_isIn : GoodIn wsX11_find wsX11_isIn := goodIn_r _ [11] (by decide +kernel) (by decide +kernel)
set_option maxRecDepth 20000 in
theorem gX11_find_X11_isIn : GoodIn wsX11_find (va_wsS RX11 29 yX11_isIn wsX11_isIn) := goodIn_app (goodIn_of _ (by decide +kernel)) ggX11_find_X11_isIn
set_option maxRecDepth 20000 in
theorem ggX11_find_X11_finding : GoodIn wsX11_find wsX11_finding := goodIn_r _ [15, 16, 21, 22, 23, 24, 25, 26, 27, 28, 29, 30] (by decide +kernel) (by decide +kernel)
set_option maxRecDepth 20000 in
theorem gX11_find_X11_finding : GoodIn wsX11_find (wsV RX11 33 RX11 yX11_finding wsX11_finding) := goodIn_app (goodIn_of _ (by decide +kernel)) ggX11_find_X11_finding
set_option maxRecDepth 20000 in
theorem ggX11_find_X11_hasSign : GoodIn wsX11_find wsX11_hasSign := goodIn_r _ [20, 3, 21, 22, 23, 24, 25, 26, 27, 28, 29, 30] (by decide +kernel) (by decide +kernel)
set_option maxRecDepth 20000 in
theorem gX11_find_X11_hasSign : GoodIn wsX11_find (wsV RX11 48 RX11 yX11_hasSign wsX11_hasSign) := goodIn_app (goodIn_of _ (by decide +kernel)) ggX11_find_X11_hasSign
theorem dX11_find_0 : decode cX11_find 0 = .ok (.aload_n 0, 1) := by decide +kernel
theorem dX11_find_1 : decode cX11_find 1 = .ok (.iload_n 1, 1) := by decide +kernel
theorem dX11_find_2 : decode cX11_find 2 = .ok (.invokevirtual 71, 3) := by decide +kernel
theorem dX11_find_5 : decode cX11_find 5 = .ok (.ifCond .eq 24, 3) := by decide +kernel
theorem dX11_find_8 : decode cX11_find 8 = .ok (.iload_n 2, 1) := by decide +kernel
theorem dX11_find_9 : decode cX11_find 9 = .ok (.iconst 0, 1) := by decide +kernel
theorem dX11_find_10 : decode cX11_find 10 = .ok (.sipush 9999, 3) := by decide +kernel
theorem dX11_find_13 : decode cX11_find 13 = .ok (.invokestatic 29, 3) := by decide +kernel
theorem dX11_find_16 : decode cX11_find 16 = .ok (.ifCond .eq 13, 3) := by decide +kernel
theorem dX11_find_19 : decode cX11_find 19 = .ok (.iload_n 3, 1) := by decide +kernel
theorem dX11_find_20 : decode cX11_find 20 = .ok (.iconst 1, 1) := by decide +kernel
theorem dX11_find_21 : decode cX11_find 21 = .ok (.bipush 9, 2) := by decide +kernel
theorem dX11_find_23 : decode cX11_find 23 = .ok (.invokestatic 29, 3) := by decide +kernel
theorem dX11_find_26 : decode cX11_find 26 = .ok (.ifCond .ne 9, 3) := by decide +kernel
theorem dX11_find_29 : decode cX11_find 29 = .ok (.aload_n 0, 1) := by decide +kernel
theorem dX11_find_30 : decode cX11_find 30 = .ok (.iconst (-1), 1) := by decide +kernel
theorem dX11_find_31 : decode cX11_find 31 = .ok (.invokevirtual 33, 3) := by decide +kernel
theorem dX11_find_34 : decode cX11_find 34 = .ok (.ireturn, 1) := by decide +kernel
theorem dX11_find_35 : decode cX11_find 35 = .ok (.aload_n 0, 1) := by decide +kernel
theorem dX11_find_36 : decode cX11_find 36 = .ok (.getfield 13, 3) := by decide +kernel
theorem dX11_find_39 : decode cX11_find 39 = .ok (.iconst 3, 1) := by decide +kernel
theorem dX11_find_40 : decode cX11_find 40 = .ok (.iaload, 1) := by decide +kernel
theorem dX11_find_41 : decode cX11_find 41 = .ok (.istore 4, 2) := by decide +kernel
theorem dX11_find_43 : decode cX11_find 43 = .ok (.iload 4, 2) := by decide +kernel
theorem dX11_find_45 : decode cX11_find 45 = .ok (.bipush 40, 2) := by decide +kernel
theorem dX11_find_47 : decode cX11_find 47 = .ok (.if_icmp .ne 10, 3) := by decide +kernel
theorem dX11_find_50 : decode cX11_find 50 = .ok (.aload_n 0, 1) := by decide +kernel
theorem dX11_find_51 : decode cX11_find 51 = .ok (.bipush (-3), 2) := by decide +kernel
theorem dX11_find_53 : decode cX11_find 53 = .ok (.invokevirtual 33, 3) := by decide +kernel
theorem dX11_find_56 : decode cX11_find 56 = .ok (.ireturn, 1) := by decide +kernel
theorem dX11_find_57 : decode cX11_find 57 = .ok (.aload_n 0, 1) := by decide +kernel
theorem dX11_find_58 : decode cX11_find 58 = .ok (.getfield 37, 3) := by decide +kernel
theorem dX11_find_61 : decode cX11_find 61 = .ok (.istore 5, 2) := by decide +kernel
theorem dX11_find_63 : decode cX11_find 63 = .ok (.aload_n 0, 1) := by decide +kernel
theorem dX11_find_64 : decode cX11_find 64 = .ok (.iconst 0, 1) := by decide +kernel
theorem dX11_find_65 : decode cX11_find 65 = .ok (.putfield 37, 3) := by decide +kernel
theorem dX11_find_68 : decode cX11_find 68 = .ok (.aload_n 0, 1) := by decide +kernel
theorem dX11_find_69 : decode cX11_find 69 = .ok (.bipush 27, 2) := by decide +kernel
theorem dX11_find_71 : decode cX11_find 71 = .ok (.iload 5, 2) := by decide +kernel
theorem dX11_find_73 : decode cX11_find 73 = .ok (.invokevirtual 48, 3) := by decide +kernel
theorem dX11_find_76 : decode cX11_find 76 = .ok (.ifCond .eq 10, 3) := by decide +kernel
theorem dX11_find_79 : decode cX11_find 79 = .ok (.aload_n 0, 1) := by decide +kernel
theorem dX11_find_80 : decode cX11_find 80 = .ok (.bipush (-7), 2) := by decide +kernel
theorem dX11_find_82 : decode cX11_find 82 = .ok (.invokevirtual 33, 3) := by decide +kernel
theorem dX11_find_85 : decode cX11_find 85 = .ok (.ireturn, 1) := by decide +kernel
theorem dX11_find_86 : decode cX11_find 86 = .ok (.sipush 294, 3) := by decide +kernel
theorem dX11_find_89 : decode cX11_find 89 = .ok (.bipush 16, 2) := by decide +kernel
theorem dX11_find_91 : decode cX11_find 91 = .ok (.iload 4, 2) := by decide +kernel
theorem dX11_find_93 : decode cX11_find 93 = .ok (.imul, 1) := by decide +kernel
theorem dX11_find_94 : decode cX11_find 94 = .ok (.iadd, 1) := by decide +kernel
theorem dX11_find_95 : decode cX11_find 95 = .ok (.istore 6, 2) := by decide +kernel
theorem dX11_find_97 : decode cX11_find 97 = .ok (.aload_n 0, 1) := by decide +kernel
theorem dX11_find_98 : decode cX11_find 98 = .ok (.getfield 13, 3) := by decide +kernel
theorem dX11_find_101 : decode cX11_find 101 = .ok (.iload 6, 2) := by decide +kernel
theorem dX11_find_103 : decode cX11_find 103 = .ok (.iload_n 1, 1) := by decide +kernel
theorem dX11_find_104 : decode cX11_find 104 = .ok (.iastore, 1) := by decide +kernel
theorem dX11_find_105 : decode cX11_find 105 = .ok (.aload_n 0, 1) := by decide +kernel
theorem dX11_find_106 : decode cX11_find 106 = .ok (.getfield 13, 3) := by decide +kernel
theorem dX11_find_109 : decode cX11_find 109 = .ok (.iload 6, 2) := by decide +kernel
theorem dX11_find_111 : decode cX11_find 111 = .ok (.iconst 1, 1) := by decide +kernel
theorem dX11_find_112 : decode cX11_find 112 = .ok (.iadd, 1) := by decide +kernel
theorem dX11_find_113 : decode cX11_find 113 = .ok (.iload_n 2, 1) := by decide +kernel
theorem dX11_find_114 : decode cX11_find 114 = .ok (.iastore, 1) := by decide +kernel
theorem dX11_find_115 : decode cX11_find 115 = .ok (.aload_n 0, 1) := by decide +kernel
theorem dX11_find_116 : decode cX11_find 116 = .ok (.getfield 13, 3) := by decide +kernel
theorem dX11_find_119 : decode cX11_find 119 = .ok (.iload 6, 2) := by decide +kernel
theorem dX11_find_121 : decode cX11_find 121 = .ok (.iconst 2, 1) := by decide +kernel
theorem dX11_find_122 : decode cX11_find 122 = .ok (.iadd, 1) := by decide +kernel
theorem dX11_find_123 : decode cX11_find 123 = .ok (.iload_n 3, 1) := by decide +kernel
theorem dX11_find_124 : decode cX11_find 124 = .ok (.iastore, 1) := by decide +kernel
theorem dX11_find_125 : decode cX11_find 125 = .ok (.aload_n 0, 1) := by decide +kernel
theorem dX11_find_126 : decode cX11_find 126 = .ok (.getfield 13, 3) := by decide +kernel
theorem dX11_find_129 : decode cX11_find 129 = .ok (.iload 6, 2) := by decide +kernel
theorem dX11_find_131 : decode cX11_find 131 = .ok (.iconst 3, 1) := by decide +kernel
theorem dX11_find_132 : decode cX11_find 132 = .ok (.iadd, 1) := by decide +kernel
theorem dX11_find_133 : decode cX11_find 133 = .ok (.iload 5, 2) := by decide +kernel
theorem dX11_find_135 : decode cX11_find 135 = .ok (.iastore, 1) := by decide +kernel
theorem dX11_find_136 : decode cX11_find 136 = .ok (.iconst 0, 1) := by decide +kernel
theorem dX11_find_137 : decode cX11_find 137 = .ok (.istore 7, 2) := by decide +kernel
theorem dX11_find_139 : decode cX11_find 139 = .ok (.iload 7, 2) := by decide +kernel
theorem dX11_find_141 : decode cX11_find 141 = .ok (.iload 5, 2) := by decide +kernel
theorem dX11_find_143 : decode cX11_find 143 = .ok (.if_icmp .ge 28, 3) := by decide +kernel
theorem dX11_find_146 : decode cX11_find 146 = .ok (.aload_n 0, 1) := by decide +kernel
theorem dX11_find_147 : decode cX11_find 147 = .ok (.getfield 13, 3) := by decide +kernel
theorem dX11_find_150 : decode cX11_find 150 = .ok (.iload 6, 2) := by decide +kernel
theorem dX11_find_152 : decode cX11_find 152 = .ok (.iconst 4, 1) := by decide +kernel
theorem dX11_find_153 : decode cX11_find 153 = .ok (.iadd, 1) := by decide +kernel
theorem dX11_find_154 : decode cX11_find 154 = .ok (.iload 7, 2) := by decide +kernel
theorem dX11_find_156 : decode cX11_find 156 = .ok (.iadd, 1) := by decide +kernel
theorem dX11_find_157 : decode cX11_find 157 = .ok (.aload_n 0, 1) := by decide +kernel
theorem dX11_find_158 : decode cX11_find 158 = .ok (.getfield 7, 3) := by decide +kernel
theorem dX11_find_161 : decode cX11_find 161 = .ok (.iload 7, 2) := by decide +kernel
theorem dX11_find_163 : decode cX11_find 163 = .ok (.iaload, 1) := by decide +kernel
theorem dX11_find_164 : decode cX11_find 164 = .ok (.iastore, 1) := by decide +kernel
theorem dX11_find_165 : decode cX11_find 165 = .ok (.iinc 7 1, 3) := by decide +kernel
theorem dX11_find_168 : decode cX11_find 168 = .ok (.goto (-29), 3) := by decide +kernel
theorem dX11_find_171 : decode cX11_find 171 = .ok (.aload_n 0, 1) := by decide +kernel
theorem dX11_find_172 : decode cX11_find 172 = .ok (.getfield 13, 3) := by decide +kernel
theorem dX11_find_175 : decode cX11_find 175 = .ok (.iconst 3, 1) := by decide +kernel
theorem dX11_find_176 : decode cX11_find 176 = .ok (.dup2, 1) := by decide +kernel
theorem dX11_find_177 : decode cX11_find 177 = .ok (.iaload, 1) := by decide +kernel
theorem dX11_find_178 : decode cX11_find 178 = .ok (.iconst 1, 1) := by decide +kernel
theorem dX11_find_179 : decode cX11_find 179 = .ok (.iadd, 1) := by decide +kernel
theorem dX11_find_180 : decode cX11_find 180 = .ok (.iastore, 1) := by decide +kernel
theorem dX11_find_181 : decode cX11_find 181 = .ok (.iload 4, 2) := by decide +kernel
theorem dX11_find_183 : decode cX11_find 183 = .ok (.ireturn, 1) := by decide +kernel
set_option maxRecDepth 20000 in
theorem ggX11_firstRule_X11_fitsOf : GoodIn wsX11_firstRule wsX11_fitsOf := goodIn_r _ [6, 7, 8, 9, 5, 10, 1, 11, 12, 13, 14, 15, 16, 17, 18, 19, 20, 21, 22, 23, 24] (by decide +kernel) (by decide +kernel)
set_option maxRecDepth 20000 in
theorem gX11_firstRule_X11_fitsOf : GoodIn wsX11_firstRule (wsV RX11 68 RX11 yX11_fitsOf wsX11_fitsOf) := goodIn_app (goodIn_of _ (by decide +kernel)) ggX11_firstRule_X11_fitsOf
set_option maxRecDepth 20000 in
theorem ggX11_firstRule_X11_ruleAt : GoodIn wsX11_firstRule wsX11_ruleAt := goodIn_r _ [10, 1, 15, 16, 17, 18, 19, 20, 21, 22, 23, 24] (by decide +kernel) (by decide +kernel)
set_option maxRecDepth 20000 in
theorem gX11_firstRule_X11_ruleAt : GoodIn wsX11_firstRule (wsV RX11 59 RX11 yX11_ruleAt wsX11_ruleAt) := goodIn_app (goodIn_of _ (by decide +kernel)) ggX11_firstRule_X11_ruleAt
theorem dX11_firstRule_0 : decode cX11_firstRule 0 = .ok (.iconst (-1), 1) := by decide +kernel
theorem dX11_firstRule_1 : decode cX11_firstRule 1 = .ok (.istore_n 2, 1) := by decide +kernel
theorem dX11_firstRule_2 : decode cX11_firstRule 2 = .ok (.iconst 0, 1) := by decide +kernel
theorem dX11_firstRule_3 : decode cX11_firstRule 3 = .ok (.istore_n 3, 1) := by decide +kernel
theorem dX11_firstRule_4 : decode cX11_firstRule 4 = .ok (.iload_n 3, 1) := by decide +kernel
theorem dX11_firstRule_5 : decode cX11_firstRule 5 = .ok (.aload_n 0, 1) := by decide +kernel
theorem dX11_firstRule_6 : decode cX11_firstRule 6 = .ok (.getfield 13, 3) := by decide +kernel
theorem dX11_firstRule_9 : decode cX11_firstRule 9 = .ok (.iconst 1, 1) := by decide +kernel
theorem dX11_firstRule_10 : decode cX11_firstRule 10 = .ok (.iaload, 1) := by decide +kernel
theorem dX11_firstRule_11 : decode cX11_firstRule 11 = .ok (.if_icmp .ge 43, 3) := by decide +kernel
theorem dX11_firstRule_14 : decode cX11_firstRule 14 = .ok (.aload_n 0, 1) := by decide +kernel
theorem dX11_firstRule_15 : decode cX11_firstRule 15 = .ok (.iload_n 3, 1) := by decide +kernel
theorem dX11_firstRule_16 : decode cX11_firstRule 16 = .ok (.iload_n 1, 1) := by decide +kernel
theorem dX11_firstRule_17 : decode cX11_firstRule 17 = .ok (.invokevirtual 68, 3) := by decide +kernel
theorem dX11_firstRule_20 : decode cX11_firstRule 20 = .ok (.ifCond .eq 26, 3) := by decide +kernel
theorem dX11_firstRule_23 : decode cX11_firstRule 23 = .ok (.iload_n 2, 1) := by decide +kernel
theorem dX11_firstRule_24 : decode cX11_firstRule 24 = .ok (.ifCond .lt 18, 3) := by decide +kernel
theorem dX11_firstRule_27 : decode cX11_firstRule 27 = .ok (.aload_n 0, 1) := by decide +kernel
theorem dX11_firstRule_28 : decode cX11_firstRule 28 = .ok (.iload_n 3, 1) := by decide +kernel
theorem dX11_firstRule_29 : decode cX11_firstRule 29 = .ok (.iconst 0, 1) := by decide +kernel
theorem dX11_firstRule_30 : decode cX11_firstRule 30 = .ok (.invokevirtual 59, 3) := by decide +kernel
theorem dX11_firstRule_33 : decode cX11_firstRule 33 = .ok (.aload_n 0, 1) := by decide +kernel
theorem dX11_firstRule_34 : decode cX11_firstRule 34 = .ok (.iload_n 2, 1) := by decide +kernel
theorem dX11_firstRule_35 : decode cX11_firstRule 35 = .ok (.iconst 0, 1) := by decide +kernel
theorem dX11_firstRule_36 : decode cX11_firstRule 36 = .ok (.invokevirtual 59, 3) := by decide +kernel
theorem dX11_firstRule_39 : decode cX11_firstRule 39 = .ok (.if_icmp .ge 7, 3) := by decide +kernel
theorem dX11_firstRule_42 : decode cX11_firstRule 42 = .ok (.iload_n 3, 1) := by decide +kernel
theorem dX11_firstRule_43 : decode cX11_firstRule 43 = .ok (.goto 4, 3) := by decide +kernel
theorem dX11_firstRule_46 : decode cX11_firstRule 46 = .ok (.iload_n 2, 1) := by decide +kernel
theorem dX11_firstRule_47 : decode cX11_firstRule 47 = .ok (.istore_n 2, 1) := by decide +kernel
theorem dX11_firstRule_48 : decode cX11_firstRule 48 = .ok (.iinc 3 1, 3) := by decide +kernel
theorem dX11_firstRule_51 : decode cX11_firstRule 51 = .ok (.goto (-47), 3) := by decide +kernel
theorem dX11_firstRule_54 : decode cX11_firstRule 54 = .ok (.iload_n 2, 1) := by decide +kernel
theorem dX11_firstRule_55 : decode cX11_firstRule 55 = .ok (.ireturn, 1) := by decide +kernel
set_option maxRecDepth 20000 in
theorem ggX11_goesTo_X11_firstRule : GoodIn wsX11_goesTo wsX11_firstRule := goodIn_r _ [6, 1, 7, 8, 9, 5, 10, 11, 12, 13, 14, 15, 16, 17, 18, 19, 20, 21, 22, 23, 24, 25, 26, 27, 28] (by decide +kernel) (by decide +kernel)
set_option maxRecDepth 20000 in
theorem gX11_goesTo_X11_firstRule : GoodIn wsX11_goesTo (wsV RX11 77 RX11 yX11_firstRule wsX11_firstRule) := goodIn_app (goodIn_of _ (by decide +kernel)) ggX11_goesTo_X11_firstRule
set_option maxRecDepth 20000 in
theorem ggX11_goesTo_X11_ruleAt : GoodIn wsX11_goesTo wsX11_ruleAt := goodIn_r _ [14, 1, 19, 20, 21, 22, 23, 24, 25, 26, 27, 28] (by decide +kernel) (by decide +kernel)
set_option maxRecDepth 20000 in
theorem gX11_goesTo_X11_ruleAt : GoodIn wsX11_goesTo (wsV RX11 59 RX11 yX11_ruleAt wsX11_ruleAt) := goodIn_app (goodIn_of _ (by decide +kernel)) ggX11_goesTo_X11_ruleAt
set_option maxRecDepth 20000 in
theorem ggX11_goesTo_X11_fitsOf : GoodIn wsX11_goesTo wsX11_fitsOf := goodIn_r _ [10, 11, 12, 13, 5, 14, 1, 15, 16, 17, 18, 19, 20, 21, 22, 23, 24, 25, 26, 27, 28] (by decide +kernel) (by decide +kernel)
set_option maxRecDepth 20000 in
theorem gX11_goesTo_X11_fitsOf : GoodIn wsX11_goesTo (wsV RX11 68 RX11 yX11_fitsOf wsX11_fitsOf) := goodIn_app (goodIn_of _ (by decide +kernel)) ggX11_goesTo_X11_fitsOf
theorem dX11_goesTo_0 : decode cX11_goesTo 0 = .ok (.aload_n 0, 1) := by decide +kernel
theorem dX11_goesTo_1 : decode cX11_goesTo 1 = .ok (.iload_n 1, 1) := by decide +kernel
theorem dX11_goesTo_2 : decode cX11_goesTo 2 = .ok (.invokevirtual 77, 3) := by decide +kernel
theorem dX11_goesTo_5 : decode cX11_goesTo 5 = .ok (.istore_n 2, 1) := by decide +kernel
theorem dX11_goesTo_6 : decode cX11_goesTo 6 = .ok (.iload_n 2, 1) := by decide +kernel
theorem dX11_goesTo_7 : decode cX11_goesTo 7 = .ok (.ifCond .ge 6, 3) := by decide +kernel
theorem dX11_goesTo_10 : decode cX11_goesTo 10 = .ok (.bipush (-6), 2) := by decide +kernel
theorem dX11_goesTo_12 : decode cX11_goesTo 12 = .ok (.ireturn, 1) := by decide +kernel
theorem dX11_goesTo_13 : decode cX11_goesTo 13 = .ok (.aload_n 0, 1) := by decide +kernel
theorem dX11_goesTo_14 : decode cX11_goesTo 14 = .ok (.iload_n 2, 1) := by decide +kernel
theorem dX11_goesTo_15 : decode cX11_goesTo 15 = .ok (.iconst 1, 1) := by decide +kernel
theorem dX11_goesTo_16 : decode cX11_goesTo 16 = .ok (.invokevirtual 59, 3) := by decide +kernel
theorem dX11_goesTo_19 : decode cX11_goesTo 19 = .ok (.istore_n 3, 1) := by decide +kernel
theorem dX11_goesTo_20 : decode cX11_goesTo 20 = .ok (.iload_n 2, 1) := by decide +kernel
theorem dX11_goesTo_21 : decode cX11_goesTo 21 = .ok (.iconst 1, 1) := by decide +kernel
theorem dX11_goesTo_22 : decode cX11_goesTo 22 = .ok (.iadd, 1) := by decide +kernel
theorem dX11_goesTo_23 : decode cX11_goesTo 23 = .ok (.istore 4, 2) := by decide +kernel
theorem dX11_goesTo_25 : decode cX11_goesTo 25 = .ok (.iload 4, 2) := by decide +kernel
theorem dX11_goesTo_27 : decode cX11_goesTo 27 = .ok (.aload_n 0, 1) := by decide +kernel
theorem dX11_goesTo_28 : decode cX11_goesTo 28 = .ok (.getfield 13, 3) := by decide +kernel
theorem dX11_goesTo_31 : decode cX11_goesTo 31 = .ok (.iconst 1, 1) := by decide +kernel
theorem dX11_goesTo_32 : decode cX11_goesTo 32 = .ok (.iaload, 1) := by decide +kernel
theorem dX11_goesTo_33 : decode cX11_goesTo 33 = .ok (.if_icmp .ge 49, 3) := by decide +kernel
theorem dX11_goesTo_36 : decode cX11_goesTo 36 = .ok (.aload_n 0, 1) := by decide +kernel
theorem dX11_goesTo_37 : decode cX11_goesTo 37 = .ok (.iload 4, 2) := by decide +kernel
theorem dX11_goesTo_39 : decode cX11_goesTo 39 = .ok (.iload_n 1, 1) := by decide +kernel
theorem dX11_goesTo_40 : decode cX11_goesTo 40 = .ok (.invokevirtual 68, 3) := by decide +kernel
theorem dX11_goesTo_43 : decode cX11_goesTo 43 = .ok (.ifCond .eq 33, 3) := by decide +kernel
theorem dX11_goesTo_46 : decode cX11_goesTo 46 = .ok (.aload_n 0, 1) := by decide +kernel
theorem dX11_goesTo_47 : decode cX11_goesTo 47 = .ok (.iload 4, 2) := by decide +kernel
theorem dX11_goesTo_49 : decode cX11_goesTo 49 = .ok (.iconst 0, 1) := by decide +kernel
theorem dX11_goesTo_50 : decode cX11_goesTo 50 = .ok (.invokevirtual 59, 3) := by decide +kernel
theorem dX11_goesTo_53 : decode cX11_goesTo 53 = .ok (.aload_n 0, 1) := by decide +kernel
theorem dX11_goesTo_54 : decode cX11_goesTo 54 = .ok (.iload_n 2, 1) := by decide +kernel
theorem dX11_goesTo_55 : decode cX11_goesTo 55 = .ok (.iconst 0, 1) := by decide +kernel
theorem dX11_goesTo_56 : decode cX11_goesTo 56 = .ok (.invokevirtual 59, 3) := by decide +kernel
theorem dX11_goesTo_59 : decode cX11_goesTo 59 = .ok (.if_icmp .ne 17, 3) := by decide +kernel
theorem dX11_goesTo_62 : decode cX11_goesTo 62 = .ok (.aload_n 0, 1) := by decide +kernel
theorem dX11_goesTo_63 : decode cX11_goesTo 63 = .ok (.iload 4, 2) := by decide +kernel
theorem dX11_goesTo_65 : decode cX11_goesTo 65 = .ok (.iconst 1, 1) := by decide +kernel
theorem dX11_goesTo_66 : decode cX11_goesTo 66 = .ok (.invokevirtual 59, 3) := by decide +kernel
theorem dX11_goesTo_69 : decode cX11_goesTo 69 = .ok (.iload_n 3, 1) := by decide +kernel
theorem dX11_goesTo_70 : decode cX11_goesTo 70 = .ok (.if_icmp .eq 6, 3) := by decide +kernel
theorem dX11_goesTo_73 : decode cX11_goesTo 73 = .ok (.bipush (-5), 2) := by decide +kernel
theorem dX11_goesTo_75 : decode cX11_goesTo 75 = .ok (.ireturn, 1) := by decide +kernel
theorem dX11_goesTo_76 : decode cX11_goesTo 76 = .ok (.iinc 4 1, 3) := by decide +kernel
theorem dX11_goesTo_79 : decode cX11_goesTo 79 = .ok (.goto (-54), 3) := by decide +kernel
theorem dX11_goesTo_82 : decode cX11_goesTo 82 = .ok (.iload_n 3, 1) := by decide +kernel
theorem dX11_goesTo_83 : decode cX11_goesTo 83 = .ok (.ireturn, 1) := by decide +kernel
set_option maxRecDepth 20000 in
theorem ggX11_goes_X11_isFind : GoodIn wsX11_goes wsX11_isFind := goodIn_r _ [5, 6, 32, 33, 34, 35, 36, 37, 38, 39, 40, 41] (by decide +kernel) (by decide +kernel)
set_option maxRecDepth 20000 in
theorem gX11_goes_X11_isFind : GoodIn wsX11_goes (wsV RX11 65 RX11 yX11_isFind wsX11_isFind) := goodIn_app (goodIn_of _ (by decide +kernel)) ggX11_goes_X11_isFind
set_option maxRecDepth 20000 in
theorem ggX11_goes_X11_finding : GoodIn wsX11_goes wsX11_finding := goodIn_r _ [10, 11, 32, 33, 34, 35, 36, 37, 38, 39, 40, 41] (by decide +kernel) (by decide +kernel)
set_option maxRecDepth 20000 in
theorem gX11_goes_X11_finding : GoodIn wsX11_goes (wsV RX11 33 RX11 yX11_finding wsX11_finding) := goodIn_app (goodIn_of _ (by decide +kernel)) ggX11_goes_X11_finding
set_option maxRecDepth 20000 in
theorem ggX11_goes_X11_goesTo : GoodIn wsX11_goes wsX11_goesTo := goodIn_r _ [15, 6, 16, 17, 18, 4, 19, 20, 21, 22, 23, 24, 25, 26, 27, 28, 29, 30, 31, 32, 33, 34, 35, 36, 37, 38, 39, 40, 41] (by decide +kernel) (by decide +kernel)
set_option maxRecDepth 20000 in
theorem gX11_goes_X11_goesTo : GoodIn wsX11_goes (wsV RX11 80 RX11 yX11_goesTo wsX11_goesTo) := goodIn_app (goodIn_of _ (by decide +kernel)) ggX11_goes_X11_goesTo
theorem dX11_goes_0 : decode cX11_goes 0 = .ok (.aload_n 0, 1) := by decide +kernel
theorem dX11_goes_1 : decode cX11_goes 1 = .ok (.iload_n 1, 1) := by decide +kernel
theorem dX11_goes_2 : decode cX11_goes 2 = .ok (.invokevirtual 65, 3) := by decide +kernel
theorem dX11_goes_5 : decode cX11_goes 5 = .ok (.ifCond .ne 9, 3) := by decide +kernel
theorem dX11_goes_8 : decode cX11_goes 8 = .ok (.aload_n 0, 1) := by decide +kernel
theorem dX11_goes_9 : decode cX11_goes 9 = .ok (.iconst (-1), 1) := by decide +kernel
theorem dX11_goes_10 : decode cX11_goes 10 = .ok (.invokevirtual 33, 3) := by decide +kernel
theorem dX11_goes_13 : decode cX11_goes 13 = .ok (.ireturn, 1) := by decide +kernel
theorem dX11_goes_14 : decode cX11_goes 14 = .ok (.aload_n 0, 1) := by decide +kernel
theorem dX11_goes_15 : decode cX11_goes 15 = .ok (.iload_n 1, 1) := by decide +kernel
theorem dX11_goes_16 : decode cX11_goes 16 = .ok (.invokevirtual 80, 3) := by decide +kernel
theorem dX11_goes_19 : decode cX11_goes 19 = .ok (.istore_n 2, 1) := by decide +kernel
theorem dX11_goes_20 : decode cX11_goes 20 = .ok (.iload_n 2, 1) := by decide +kernel
theorem dX11_goes_21 : decode cX11_goes 21 = .ok (.ifCond .ge 11, 3) := by decide +kernel
theorem dX11_goes_24 : decode cX11_goes 24 = .ok (.aload_n 0, 1) := by decide +kernel
theorem dX11_goes_25 : decode cX11_goes 25 = .ok (.iload_n 2, 1) := by decide +kernel
theorem dX11_goes_26 : decode cX11_goes 26 = .ok (.invokevirtual 33, 3) := by decide +kernel
theorem dX11_goes_29 : decode cX11_goes 29 = .ok (.goto 4, 3) := by decide +kernel
theorem dX11_goes_32 : decode cX11_goes 32 = .ok (.iload_n 2, 1) := by decide +kernel
theorem dX11_goes_33 : decode cX11_goes 33 = .ok (.ireturn, 1) := by decide +kernel
set_option maxRecDepth 20000 in
theorem ggX11_by_X11_isFind : GoodIn wsX11_by wsX11_isFind := goodIn_r _ [5, 6, 28, 29, 30, 31, 32, 33, 34, 35, 36, 37] (by decide +kernel) (by decide +kernel)
set_option maxRecDepth 20000 in
theorem gX11_by_X11_isFind : GoodIn wsX11_by (wsV RX11 65 RX11 yX11_isFind wsX11_isFind) := goodIn_app (goodIn_of _ (by decide +kernel)) ggX11_by_X11_isFind
set_option maxRecDepth 20000 in
theorem ggX11_by_X11_finding : GoodIn wsX11_by wsX11_finding := goodIn_r _ [10, 11, 28, 29, 30, 31, 32, 33, 34, 35, 36, 37] (by decide +kernel) (by decide +kernel)
set_option maxRecDepth 20000 in
theorem gX11_by_X11_finding : GoodIn wsX11_by (wsV RX11 33 RX11 yX11_finding wsX11_finding) := goodIn_app (goodIn_of _ (by decide +kernel)) ggX11_by_X11_finding
set_option maxRecDepth 20000 in
theorem ggX11_by_X11_firstRule : GoodIn wsX11_by wsX11_firstRule := goodIn_r _ [15, 6, 16, 17, 18, 4, 19, 20, 21, 22, 23, 24, 25, 26, 27, 28, 29, 30, 31, 32, 33, 34, 35, 36, 37] (by decide +kernel) (by decide +kernel)
set_option maxRecDepth 20000 in
theorem gX11_by_X11_firstRule : GoodIn wsX11_by (wsV RX11 77 RX11 yX11_firstRule wsX11_firstRule) := goodIn_app (goodIn_of _ (by decide +kernel)) ggX11_by_X11_firstRule
theorem dX11_by_0 : decode cX11_by 0 = .ok (.aload_n 0, 1) := by decide +kernel
theorem dX11_by_1 : decode cX11_by 1 = .ok (.iload_n 1, 1) := by decide +kernel
theorem dX11_by_2 : decode cX11_by 2 = .ok (.invokevirtual 65, 3) := by decide +kernel
theorem dX11_by_5 : decode cX11_by 5 = .ok (.ifCond .ne 9, 3) := by decide +kernel
theorem dX11_by_8 : decode cX11_by 8 = .ok (.aload_n 0, 1) := by decide +kernel
theorem dX11_by_9 : decode cX11_by 9 = .ok (.iconst (-1), 1) := by decide +kernel
theorem dX11_by_10 : decode cX11_by 10 = .ok (.invokevirtual 33, 3) := by decide +kernel
theorem dX11_by_13 : decode cX11_by 13 = .ok (.ireturn, 1) := by decide +kernel
theorem dX11_by_14 : decode cX11_by 14 = .ok (.aload_n 0, 1) := by decide +kernel
theorem dX11_by_15 : decode cX11_by 15 = .ok (.iload_n 1, 1) := by decide +kernel
theorem dX11_by_16 : decode cX11_by 16 = .ok (.invokevirtual 77, 3) := by decide +kernel
theorem dX11_by_19 : decode cX11_by 19 = .ok (.istore_n 2, 1) := by decide +kernel
theorem dX11_by_20 : decode cX11_by 20 = .ok (.iload_n 2, 1) := by decide +kernel
theorem dX11_by_21 : decode cX11_by 21 = .ok (.ifCond .ge 12, 3) := by decide +kernel
theorem dX11_by_24 : decode cX11_by 24 = .ok (.aload_n 0, 1) := by decide +kernel
theorem dX11_by_25 : decode cX11_by 25 = .ok (.bipush (-6), 2) := by decide +kernel
theorem dX11_by_27 : decode cX11_by 27 = .ok (.invokevirtual 33, 3) := by decide +kernel
theorem dX11_by_30 : decode cX11_by 30 = .ok (.goto 4, 3) := by decide +kernel
theorem dX11_by_33 : decode cX11_by 33 = .ok (.iload_n 2, 1) := by decide +kernel
theorem dX11_by_34 : decode cX11_by 34 = .ok (.ireturn, 1) := by decide +kernel
set_option maxRecDepth 20000 in
theorem ggX11_isFresh_X11_findAt : GoodIn wsX11_isFresh wsX11_findAt := goodIn_r _ [6, 1, 23, 24, 25, 26, 27, 28, 29, 30, 31, 32] (by decide +kernel) (by decide +kernel)
set_option maxRecDepth 20000 in
theorem gX11_isFresh_X11_findAt : GoodIn wsX11_isFresh (wsV RX11 62 RX11 yX11_findAt wsX11_findAt) := goodIn_app (goodIn_of _ (by decide +kernel)) ggX11_isFresh_X11_findAt
set_option maxRecDepth 20000 in
theorem ggX11_isFresh_X11_goesTo : GoodIn wsX11_isFresh wsX11_goesTo := goodIn_r _ [10, 1, 11, 12, 13, 5, 14, 15, 16, 17, 18, 19, 20, 21, 22, 2, 3, 4, 6, 23, 24, 25, 26, 27, 28, 29, 30, 31, 32] (by decide +kernel) (by decide +kernel)
set_option maxRecDepth 20000 in
theorem gX11_isFresh_X11_goesTo : GoodIn wsX11_isFresh (wsV RX11 80 RX11 yX11_goesTo wsX11_goesTo) := goodIn_app (goodIn_of _ (by decide +kernel)) ggX11_isFresh_X11_goesTo
theorem dX11_isFresh_0 : decode cX11_isFresh 0 = .ok (.aload_n 0, 1) := by decide +kernel
theorem dX11_isFresh_1 : decode cX11_isFresh 1 = .ok (.iload_n 1, 1) := by decide +kernel
