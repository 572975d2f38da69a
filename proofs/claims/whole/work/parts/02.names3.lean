theorem dX8_remove_25 : decode cX8_remove 25 = .ok (.lastore, 1) := by decide +kernel
theorem dX8_remove_26 : decode cX8_remove 26 = .ok (.aload_n 0, 1) := by decide +kernel
theorem dX8_remove_27 : decode cX8_remove 27 = .ok (.getfield 15, 3) := by decide +kernel
theorem dX8_remove_30 : decode cX8_remove 30 = .ok (.iload_n 2, 1) := by decide +kernel
theorem dX8_remove_31 : decode cX8_remove 31 = .ok (.aload_n 0, 1) := by decide +kernel
theorem dX8_remove_32 : decode cX8_remove 32 = .ok (.getfield 15, 3) := by decide +kernel
theorem dX8_remove_35 : decode cX8_remove 35 = .ok (.iload_n 2, 1) := by decide +kernel
theorem dX8_remove_36 : decode cX8_remove 36 = .ok (.iconst 1, 1) := by decide +kernel
theorem dX8_remove_37 : decode cX8_remove 37 = .ok (.iadd, 1) := by decide +kernel
theorem dX8_remove_38 : decode cX8_remove 38 = .ok (.iaload, 1) := by decide +kernel
theorem dX8_remove_39 : decode cX8_remove 39 = .ok (.iastore, 1) := by decide +kernel
theorem dX8_remove_40 : decode cX8_remove 40 = .ok (.aload_n 0, 1) := by decide +kernel
theorem dX8_remove_41 : decode cX8_remove 41 = .ok (.getfield 19, 3) := by decide +kernel
theorem dX8_remove_44 : decode cX8_remove 44 = .ok (.iload_n 2, 1) := by decide +kernel
theorem dX8_remove_45 : decode cX8_remove 45 = .ok (.aload_n 0, 1) := by decide +kernel
theorem dX8_remove_46 : decode cX8_remove 46 = .ok (.getfield 19, 3) := by decide +kernel
theorem dX8_remove_49 : decode cX8_remove 49 = .ok (.iload_n 2, 1) := by decide +kernel
theorem dX8_remove_50 : decode cX8_remove 50 = .ok (.iconst 1, 1) := by decide +kernel
theorem dX8_remove_51 : decode cX8_remove 51 = .ok (.iadd, 1) := by decide +kernel
theorem dX8_remove_52 : decode cX8_remove 52 = .ok (.iaload, 1) := by decide +kernel
theorem dX8_remove_53 : decode cX8_remove 53 = .ok (.iastore, 1) := by decide +kernel
theorem dX8_remove_54 : decode cX8_remove 54 = .ok (.iinc 2 1, 3) := by decide +kernel
theorem dX8_remove_57 : decode cX8_remove 57 = .ok (.goto (-55), 3) := by decide +kernel
theorem dX8_remove_60 : decode cX8_remove 60 = .ok (.aload_n 0, 1) := by decide +kernel
theorem dX8_remove_61 : decode cX8_remove 61 = .ok (.dup, 1) := by decide +kernel
theorem dX8_remove_62 : decode cX8_remove 62 = .ok (.getfield 22, 3) := by decide +kernel
theorem dX8_remove_65 : decode cX8_remove 65 = .ok (.iconst 1, 1) := by decide +kernel
theorem dX8_remove_66 : decode cX8_remove 66 = .ok (.isub, 1) := by decide +kernel
theorem dX8_remove_67 : decode cX8_remove 67 = .ok (.putfield 22, 3) := by decide +kernel
theorem dX8_remove_70 : decode cX8_remove 70 = .ok (.return_, 1) := by decide +kernel
theorem dX8_copyFrom_0 : decode cX8_copyFrom 0 = .ok (.aload_n 0, 1) := by decide +kernel
theorem dX8_copyFrom_1 : decode cX8_copyFrom 1 = .ok (.aload_n 1, 1) := by decide +kernel
theorem dX8_copyFrom_2 : decode cX8_copyFrom 2 = .ok (.getfield 22, 3) := by decide +kernel
theorem dX8_copyFrom_5 : decode cX8_copyFrom 5 = .ok (.putfield 22, 3) := by decide +kernel
theorem dX8_copyFrom_8 : decode cX8_copyFrom 8 = .ok (.aload_n 1, 1) := by decide +kernel
theorem dX8_copyFrom_9 : decode cX8_copyFrom 9 = .ok (.getfield 9, 3) := by decide +kernel
theorem dX8_copyFrom_12 : decode cX8_copyFrom 12 = .ok (.iconst 0, 1) := by decide +kernel
theorem dX8_copyFrom_13 : decode cX8_copyFrom 13 = .ok (.aload_n 0, 1) := by decide +kernel
theorem dX8_copyFrom_14 : decode cX8_copyFrom 14 = .ok (.getfield 9, 3) := by decide +kernel
theorem dX8_copyFrom_17 : decode cX8_copyFrom 17 = .ok (.iconst 0, 1) := by decide +kernel
theorem dX8_copyFrom_18 : decode cX8_copyFrom 18 = .ok (.bipush 16, 2) := by decide +kernel
theorem dX8_copyFrom_20 : decode cX8_copyFrom 20 = .ok (.invokestatic 26, 3) := by decide +kernel
theorem dX8_copyFrom_23 : decode cX8_copyFrom 23 = .ok (.aload_n 1, 1) := by decide +kernel
theorem dX8_copyFrom_24 : decode cX8_copyFrom 24 = .ok (.getfield 15, 3) := by decide +kernel
theorem dX8_copyFrom_27 : decode cX8_copyFrom 27 = .ok (.iconst 0, 1) := by decide +kernel
theorem dX8_copyFrom_28 : decode cX8_copyFrom 28 = .ok (.aload_n 0, 1) := by decide +kernel
theorem dX8_copyFrom_29 : decode cX8_copyFrom 29 = .ok (.getfield 15, 3) := by decide +kernel
theorem dX8_copyFrom_32 : decode cX8_copyFrom 32 = .ok (.iconst 0, 1) := by decide +kernel
theorem dX8_copyFrom_33 : decode cX8_copyFrom 33 = .ok (.bipush 16, 2) := by decide +kernel
theorem dX8_copyFrom_35 : decode cX8_copyFrom 35 = .ok (.invokestatic 26, 3) := by decide +kernel
theorem dX8_copyFrom_38 : decode cX8_copyFrom 38 = .ok (.aload_n 1, 1) := by decide +kernel
theorem dX8_copyFrom_39 : decode cX8_copyFrom 39 = .ok (.getfield 19, 3) := by decide +kernel
theorem dX8_copyFrom_42 : decode cX8_copyFrom 42 = .ok (.iconst 0, 1) := by decide +kernel
theorem dX8_copyFrom_43 : decode cX8_copyFrom 43 = .ok (.aload_n 0, 1) := by decide +kernel
theorem dX8_copyFrom_44 : decode cX8_copyFrom 44 = .ok (.getfield 19, 3) := by decide +kernel
theorem dX8_copyFrom_47 : decode cX8_copyFrom 47 = .ok (.iconst 0, 1) := by decide +kernel
theorem dX8_copyFrom_48 : decode cX8_copyFrom 48 = .ok (.bipush 16, 2) := by decide +kernel
theorem dX8_copyFrom_50 : decode cX8_copyFrom 50 = .ok (.invokestatic 26, 3) := by decide +kernel
theorem dX8_copyFrom_53 : decode cX8_copyFrom 53 = .ok (.return_, 1) := by decide +kernel
theorem dX9_init_0 : decode cX9_init 0 = .ok (.aload_n 0, 1) := by decide +kernel
theorem dX9_init_1 : decode cX9_init 1 = .ok (.invokespecial 3, 3) := by decide +kernel
theorem dX9_init_4 : decode cX9_init 4 = .ok (.aload_n 0, 1) := by decide +kernel
theorem dX9_init_5 : decode cX9_init 5 = .ok (.bipush 30, 2) := by decide +kernel
theorem dX9_init_7 : decode cX9_init 7 = .ok (.newarray .int, 2) := by decide +kernel
theorem dX9_init_9 : decode cX9_init 9 = .ok (.putfield 9, 3) := by decide +kernel
theorem dX9_init_12 : decode cX9_init 12 = .ok (.aload_n 0, 1) := by decide +kernel
theorem dX9_init_13 : decode cX9_init 13 = .ok (.bipush 30, 2) := by decide +kernel
theorem dX9_init_15 : decode cX9_init 15 = .ok (.newarray .int, 2) := by decide +kernel
theorem dX9_init_17 : decode cX9_init 17 = .ok (.putfield 15, 3) := by decide +kernel
theorem dX9_init_20 : decode cX9_init 20 = .ok (.aload_n 0, 1) := by decide +kernel
theorem dX9_init_21 : decode cX9_init 21 = .ok (.bipush 30, 2) := by decide +kernel
theorem dX9_init_23 : decode cX9_init 23 = .ok (.newarray .int, 2) := by decide +kernel
theorem dX9_init_25 : decode cX9_init 25 = .ok (.putfield 18, 3) := by decide +kernel
theorem dX9_init_28 : decode cX9_init 28 = .ok (.aload_n 0, 1) := by decide +kernel
theorem dX9_init_29 : decode cX9_init 29 = .ok (.bipush 30, 2) := by decide +kernel
theorem dX9_init_31 : decode cX9_init 31 = .ok (.newarray .int, 2) := by decide +kernel
theorem dX9_init_33 : decode cX9_init 33 = .ok (.putfield 21, 3) := by decide +kernel
theorem dX9_init_36 : decode cX9_init 36 = .ok (.return_, 1) := by decide +kernel
theorem dX9_add_0 : decode cX9_add 0 = .ok (.aload_n 0, 1) := by decide +kernel
theorem dX9_add_1 : decode cX9_add 1 = .ok (.getfield 9, 3) := by decide +kernel
theorem dX9_add_4 : decode cX9_add 4 = .ok (.aload_n 0, 1) := by decide +kernel
theorem dX9_add_5 : decode cX9_add 5 = .ok (.getfield 24, 3) := by decide +kernel
theorem dX9_add_8 : decode cX9_add 8 = .ok (.iload_n 1, 1) := by decide +kernel
theorem dX9_add_9 : decode cX9_add 9 = .ok (.iastore, 1) := by decide +kernel
theorem dX9_add_10 : decode cX9_add 10 = .ok (.aload_n 0, 1) := by decide +kernel
theorem dX9_add_11 : decode cX9_add 11 = .ok (.getfield 15, 3) := by decide +kernel
theorem dX9_add_14 : decode cX9_add 14 = .ok (.aload_n 0, 1) := by decide +kernel
theorem dX9_add_15 : decode cX9_add 15 = .ok (.getfield 24, 3) := by decide +kernel
theorem dX9_add_18 : decode cX9_add 18 = .ok (.iload_n 2, 1) := by decide +kernel
theorem dX9_add_19 : decode cX9_add 19 = .ok (.iastore, 1) := by decide +kernel
theorem dX9_add_20 : decode cX9_add 20 = .ok (.aload_n 0, 1) := by decide +kernel
theorem dX9_add_21 : decode cX9_add 21 = .ok (.getfield 18, 3) := by decide +kernel
theorem dX9_add_24 : decode cX9_add 24 = .ok (.aload_n 0, 1) := by decide +kernel
theorem dX9_add_25 : decode cX9_add 25 = .ok (.getfield 24, 3) := by decide +kernel
theorem dX9_add_28 : decode cX9_add 28 = .ok (.iload_n 3, 1) := by decide +kernel
theorem dX9_add_29 : decode cX9_add 29 = .ok (.iastore, 1) := by decide +kernel
theorem dX9_add_30 : decode cX9_add 30 = .ok (.aload_n 0, 1) := by decide +kernel
theorem dX9_add_31 : decode cX9_add 31 = .ok (.getfield 21, 3) := by decide +kernel
theorem dX9_add_34 : decode cX9_add 34 = .ok (.aload_n 0, 1) := by decide +kernel
theorem dX9_add_35 : decode cX9_add 35 = .ok (.getfield 24, 3) := by decide +kernel
theorem dX9_add_38 : decode cX9_add 38 = .ok (.iload 4, 2) := by decide +kernel
theorem dX9_add_40 : decode cX9_add 40 = .ok (.iastore, 1) := by decide +kernel
theorem dX9_add_41 : decode cX9_add 41 = .ok (.aload_n 0, 1) := by decide +kernel
theorem dX9_add_42 : decode cX9_add 42 = .ok (.dup, 1) := by decide +kernel
theorem dX9_add_43 : decode cX9_add 43 = .ok (.getfield 24, 3) := by decide +kernel
theorem dX9_add_46 : decode cX9_add 46 = .ok (.iconst 1, 1) := by decide +kernel
theorem dX9_add_47 : decode cX9_add 47 = .ok (.iadd, 1) := by decide +kernel
theorem dX9_add_48 : decode cX9_add 48 = .ok (.putfield 24, 3) := by decide +kernel
theorem dX9_add_51 : decode cX9_add 51 = .ok (.aload_n 0, 1) := by decide +kernel
theorem dX9_add_52 : decode cX9_add 52 = .ok (.getfield 24, 3) := by decide +kernel
theorem dX9_add_55 : decode cX9_add 55 = .ok (.iconst 1, 1) := by decide +kernel
theorem dX9_add_56 : decode cX9_add 56 = .ok (.isub, 1) := by decide +kernel
theorem dX9_add_57 : decode cX9_add 57 = .ok (.ireturn, 1) := by decide +kernel
theorem dX9_howManyAt_0 : decode cX9_howManyAt 0 = .ok (.iconst 0, 1) := by decide +kernel
theorem dX9_howManyAt_1 : decode cX9_howManyAt 1 = .ok (.istore_n 3, 1) := by decide +kernel
theorem dX9_howManyAt_2 : decode cX9_howManyAt 2 = .ok (.iconst 0, 1) := by decide +kernel
theorem dX9_howManyAt_3 : decode cX9_howManyAt 3 = .ok (.istore 4, 2) := by decide +kernel
theorem dX9_howManyAt_5 : decode cX9_howManyAt 5 = .ok (.iload 4, 2) := by decide +kernel
theorem dX9_howManyAt_7 : decode cX9_howManyAt 7 = .ok (.aload_n 0, 1) := by decide +kernel
theorem dX9_howManyAt_8 : decode cX9_howManyAt 8 = .ok (.getfield 24, 3) := by decide +kernel
theorem dX9_howManyAt_11 : decode cX9_howManyAt 11 = .ok (.if_icmp .ge 45, 3) := by decide +kernel
theorem dX9_howManyAt_14 : decode cX9_howManyAt 14 = .ok (.aload_n 0, 1) := by decide +kernel
theorem dX9_howManyAt_15 : decode cX9_howManyAt 15 = .ok (.getfield 15, 3) := by decide +kernel
theorem dX9_howManyAt_18 : decode cX9_howManyAt 18 = .ok (.iload 4, 2) := by decide +kernel
theorem dX9_howManyAt_20 : decode cX9_howManyAt 20 = .ok (.iaload, 1) := by decide +kernel
theorem dX9_howManyAt_21 : decode cX9_howManyAt 21 = .ok (.iload_n 1, 1) := by decide +kernel
theorem dX9_howManyAt_22 : decode cX9_howManyAt 22 = .ok (.if_icmp .ne 28, 3) := by decide +kernel
theorem dX9_howManyAt_25 : decode cX9_howManyAt 25 = .ok (.aload_n 0, 1) := by decide +kernel
theorem dX9_howManyAt_26 : decode cX9_howManyAt 26 = .ok (.getfield 18, 3) := by decide +kernel
theorem dX9_howManyAt_29 : decode cX9_howManyAt 29 = .ok (.iload 4, 2) := by decide +kernel
theorem dX9_howManyAt_31 : decode cX9_howManyAt 31 = .ok (.iaload, 1) := by decide +kernel
theorem dX9_howManyAt_32 : decode cX9_howManyAt 32 = .ok (.iload_n 2, 1) := by decide +kernel
theorem dX9_howManyAt_33 : decode cX9_howManyAt 33 = .ok (.if_icmp .gt 17, 3) := by decide +kernel
theorem dX9_howManyAt_36 : decode cX9_howManyAt 36 = .ok (.iload_n 2, 1) := by decide +kernel
theorem dX9_howManyAt_37 : decode cX9_howManyAt 37 = .ok (.aload_n 0, 1) := by decide +kernel
theorem dX9_howManyAt_38 : decode cX9_howManyAt 38 = .ok (.getfield 21, 3) := by decide +kernel
theorem dX9_howManyAt_41 : decode cX9_howManyAt 41 = .ok (.iload 4, 2) := by decide +kernel
theorem dX9_howManyAt_43 : decode cX9_howManyAt 43 = .ok (.iaload, 1) := by decide +kernel
theorem dX9_howManyAt_44 : decode cX9_howManyAt 44 = .ok (.if_icmp .ge 6, 3) := by decide +kernel
theorem dX9_howManyAt_47 : decode cX9_howManyAt 47 = .ok (.iinc 3 1, 3) := by decide +kernel
theorem dX9_howManyAt_50 : decode cX9_howManyAt 50 = .ok (.iinc 4 1, 3) := by decide +kernel
theorem dX9_howManyAt_53 : decode cX9_howManyAt 53 = .ok (.goto (-48), 3) := by decide +kernel
theorem dX9_howManyAt_56 : decode cX9_howManyAt 56 = .ok (.iload_n 3, 1) := by decide +kernel
theorem dX9_howManyAt_57 : decode cX9_howManyAt 57 = .ok (.ireturn, 1) := by decide +kernel
set_option maxRecDepth 20000 in
theorem ggX9_peakTick_X9_howManyAt : GoodIn wsX9_peakTick wsX9_howManyAt := goodIn_r _ [8, 1, 2, 3, 9, 10, 11, 12, 13, 14] (by decide +kernel) (by decide +kernel)
set_option maxRecDepth 20000 in
theorem gX9_peakTick_X9_howManyAt : GoodIn wsX9_peakTick (wsV RX9 28 RX9 yX9_howManyAt wsX9_howManyAt) := goodIn_app (goodIn_of _ (by decide +kernel)) ggX9_peakTick_X9_howManyAt
theorem dX9_peakTick_0 : decode cX9_peakTick 0 = .ok (.bipush (-2), 2) := by decide +kernel
theorem dX9_peakTick_2 : decode cX9_peakTick 2 = .ok (.istore_n 2, 1) := by decide +kernel
theorem dX9_peakTick_3 : decode cX9_peakTick 3 = .ok (.iconst 0, 1) := by decide +kernel
theorem dX9_peakTick_4 : decode cX9_peakTick 4 = .ok (.istore_n 3, 1) := by decide +kernel
theorem dX9_peakTick_5 : decode cX9_peakTick 5 = .ok (.iconst 0, 1) := by decide +kernel
theorem dX9_peakTick_6 : decode cX9_peakTick 6 = .ok (.istore 4, 2) := by decide +kernel
theorem dX9_peakTick_8 : decode cX9_peakTick 8 = .ok (.iload 4, 2) := by decide +kernel
theorem dX9_peakTick_10 : decode cX9_peakTick 10 = .ok (.aload_n 0, 1) := by decide +kernel
theorem dX9_peakTick_11 : decode cX9_peakTick 11 = .ok (.getfield 24, 3) := by decide +kernel
theorem dX9_peakTick_14 : decode cX9_peakTick 14 = .ok (.if_icmp .ge 68, 3) := by decide +kernel
theorem dX9_peakTick_17 : decode cX9_peakTick 17 = .ok (.aload_n 0, 1) := by decide +kernel
theorem dX9_peakTick_18 : decode cX9_peakTick 18 = .ok (.getfield 15, 3) := by decide +kernel
theorem dX9_peakTick_21 : decode cX9_peakTick 21 = .ok (.iload 4, 2) := by decide +kernel
theorem dX9_peakTick_23 : decode cX9_peakTick 23 = .ok (.iaload, 1) := by decide +kernel
theorem dX9_peakTick_24 : decode cX9_peakTick 24 = .ok (.iload_n 1, 1) := by decide +kernel
theorem dX9_peakTick_25 : decode cX9_peakTick 25 = .ok (.if_icmp .ne 51, 3) := by decide +kernel
theorem dX9_peakTick_28 : decode cX9_peakTick 28 = .ok (.aload_n 0, 1) := by decide +kernel
theorem dX9_peakTick_29 : decode cX9_peakTick 29 = .ok (.iload_n 1, 1) := by decide +kernel
theorem dX9_peakTick_30 : decode cX9_peakTick 30 = .ok (.aload_n 0, 1) := by decide +kernel
theorem dX9_peakTick_31 : decode cX9_peakTick 31 = .ok (.getfield 18, 3) := by decide +kernel
theorem dX9_peakTick_34 : decode cX9_peakTick 34 = .ok (.iload 4, 2) := by decide +kernel
theorem dX9_peakTick_36 : decode cX9_peakTick 36 = .ok (.iaload, 1) := by decide +kernel
theorem dX9_peakTick_37 : decode cX9_peakTick 37 = .ok (.invokevirtual 28, 3) := by decide +kernel
theorem dX9_peakTick_40 : decode cX9_peakTick 40 = .ok (.istore 5, 2) := by decide +kernel
theorem dX9_peakTick_42 : decode cX9_peakTick 42 = .ok (.iload 5, 2) := by decide +kernel
theorem dX9_peakTick_44 : decode cX9_peakTick 44 = .ok (.iload_n 3, 1) := by decide +kernel
theorem dX9_peakTick_45 : decode cX9_peakTick 45 = .ok (.if_icmp .gt 20, 3) := by decide +kernel
theorem dX9_peakTick_48 : decode cX9_peakTick 48 = .ok (.iload 5, 2) := by decide +kernel
theorem dX9_peakTick_50 : decode cX9_peakTick 50 = .ok (.iload_n 3, 1) := by decide +kernel
theorem dX9_peakTick_51 : decode cX9_peakTick 51 = .ok (.if_icmp .ne 25, 3) := by decide +kernel
theorem dX9_peakTick_54 : decode cX9_peakTick 54 = .ok (.aload_n 0, 1) := by decide +kernel
theorem dX9_peakTick_55 : decode cX9_peakTick 55 = .ok (.getfield 18, 3) := by decide +kernel
theorem dX9_peakTick_58 : decode cX9_peakTick 58 = .ok (.iload 4, 2) := by decide +kernel
theorem dX9_peakTick_60 : decode cX9_peakTick 60 = .ok (.iaload, 1) := by decide +kernel
theorem dX9_peakTick_61 : decode cX9_peakTick 61 = .ok (.iload_n 2, 1) := by decide +kernel
theorem dX9_peakTick_62 : decode cX9_peakTick 62 = .ok (.if_icmp .ge 14, 3) := by decide +kernel
theorem dX9_peakTick_65 : decode cX9_peakTick 65 = .ok (.aload_n 0, 1) := by decide +kernel
theorem dX9_peakTick_66 : decode cX9_peakTick 66 = .ok (.getfield 18, 3) := by decide +kernel
theorem dX9_peakTick_69 : decode cX9_peakTick 69 = .ok (.iload 4, 2) := by decide +kernel
theorem dX9_peakTick_71 : decode cX9_peakTick 71 = .ok (.iaload, 1) := by decide +kernel
theorem dX9_peakTick_72 : decode cX9_peakTick 72 = .ok (.istore_n 2, 1) := by decide +kernel
theorem dX9_peakTick_73 : decode cX9_peakTick 73 = .ok (.iload 5, 2) := by decide +kernel
theorem dX9_peakTick_75 : decode cX9_peakTick 75 = .ok (.istore_n 3, 1) := by decide +kernel
theorem dX9_peakTick_76 : decode cX9_peakTick 76 = .ok (.iinc 4 1, 3) := by decide +kernel
theorem dX9_peakTick_79 : decode cX9_peakTick 79 = .ok (.goto (-71), 3) := by decide +kernel
theorem dX9_peakTick_82 : decode cX9_peakTick 82 = .ok (.iload_n 2, 1) := by decide +kernel
theorem dX9_peakTick_83 : decode cX9_peakTick 83 = .ok (.ireturn, 1) := by decide +kernel
set_option maxRecDepth 20000 in
theorem ggX9_most_X9_peakTick : GoodIn wsX9_most wsX9_peakTick := goodIn_r _ [5, 6, 7, 8, 9, 10, 11, 4, 12, 13, 14, 15, 16, 17, 18] (by decide +kernel) (by decide +kernel)
set_option maxRecDepth 20000 in
theorem gX9_most_X9_peakTick : GoodIn wsX9_most (wsV RX9 32 RX9 yX9_peakTick wsX9_peakTick) := goodIn_app (goodIn_of _ (by decide +kernel)) ggX9_most_X9_peakTick
set_option maxRecDepth 20000 in
theorem ggX9_most_X9_howManyAt : GoodIn wsX9_most wsX9_howManyAt := goodIn_r _ [12, 6, 7, 8, 13, 14, 15, 16, 17, 18] (by decide +kernel) (by decide +kernel)
set_option maxRecDepth 20000 in
theorem gX9_most_X9_howManyAt : GoodIn wsX9_most (wsV RX9 28 RX9 yX9_howManyAt wsX9_howManyAt) := goodIn_app (goodIn_of _ (by decide +kernel)) ggX9_most_X9_howManyAt
theorem dX9_most_0 : decode cX9_most 0 = .ok (.aload_n 0, 1) := by decide +kernel
theorem dX9_most_1 : decode cX9_most 1 = .ok (.iload_n 1, 1) := by decide +kernel
theorem dX9_most_2 : decode cX9_most 2 = .ok (.invokevirtual 32, 3) := by decide +kernel
theorem dX9_most_5 : decode cX9_most 5 = .ok (.istore_n 2, 1) := by decide +kernel
theorem dX9_most_6 : decode cX9_most 6 = .ok (.iload_n 2, 1) := by decide +kernel
theorem dX9_most_7 : decode cX9_most 7 = .ok (.ifCond .ge 7, 3) := by decide +kernel
theorem dX9_most_10 : decode cX9_most 10 = .ok (.iconst 0, 1) := by decide +kernel
theorem dX9_most_11 : decode cX9_most 11 = .ok (.goto 9, 3) := by decide +kernel
theorem dX9_most_14 : decode cX9_most 14 = .ok (.aload_n 0, 1) := by decide +kernel
theorem dX9_most_15 : decode cX9_most 15 = .ok (.iload_n 1, 1) := by decide +kernel
theorem dX9_most_16 : decode cX9_most 16 = .ok (.iload_n 2, 1) := by decide +kernel
theorem dX9_most_17 : decode cX9_most 17 = .ok (.invokevirtual 28, 3) := by decide +kernel
theorem dX9_most_20 : decode cX9_most 20 = .ok (.ireturn, 1) := by decide +kernel
theorem dX9_copyFrom_0 : decode cX9_copyFrom 0 = .ok (.aload_n 0, 1) := by decide +kernel
theorem dX9_copyFrom_1 : decode cX9_copyFrom 1 = .ok (.aload_n 1, 1) := by decide +kernel
theorem dX9_copyFrom_2 : decode cX9_copyFrom 2 = .ok (.getfield 24, 3) := by decide +kernel
theorem dX9_copyFrom_5 : decode cX9_copyFrom 5 = .ok (.putfield 24, 3) := by decide +kernel
theorem dX9_copyFrom_8 : decode cX9_copyFrom 8 = .ok (.aload_n 1, 1) := by decide +kernel
theorem dX9_copyFrom_9 : decode cX9_copyFrom 9 = .ok (.getfield 9, 3) := by decide +kernel
theorem dX9_copyFrom_12 : decode cX9_copyFrom 12 = .ok (.iconst 0, 1) := by decide +kernel
theorem dX9_copyFrom_13 : decode cX9_copyFrom 13 = .ok (.aload_n 0, 1) := by decide +kernel
theorem dX9_copyFrom_14 : decode cX9_copyFrom 14 = .ok (.getfield 9, 3) := by decide +kernel
theorem dX9_copyFrom_17 : decode cX9_copyFrom 17 = .ok (.iconst 0, 1) := by decide +kernel
theorem dX9_copyFrom_18 : decode cX9_copyFrom 18 = .ok (.bipush 30, 2) := by decide +kernel
theorem dX9_copyFrom_20 : decode cX9_copyFrom 20 = .ok (.invokestatic 36, 3) := by decide +kernel
theorem dX9_copyFrom_23 : decode cX9_copyFrom 23 = .ok (.aload_n 1, 1) := by decide +kernel
theorem dX9_copyFrom_24 : decode cX9_copyFrom 24 = .ok (.getfield 15, 3) := by decide +kernel
theorem dX9_copyFrom_27 : decode cX9_copyFrom 27 = .ok (.iconst 0, 1) := by decide +kernel
theorem dX9_copyFrom_28 : decode cX9_copyFrom 28 = .ok (.aload_n 0, 1) := by decide +kernel
theorem dX9_copyFrom_29 : decode cX9_copyFrom 29 = .ok (.getfield 15, 3) := by decide +kernel
theorem dX9_copyFrom_32 : decode cX9_copyFrom 32 = .ok (.iconst 0, 1) := by decide +kernel
theorem dX9_copyFrom_33 : decode cX9_copyFrom 33 = .ok (.bipush 30, 2) := by decide +kernel
theorem dX9_copyFrom_35 : decode cX9_copyFrom 35 = .ok (.invokestatic 36, 3) := by decide +kernel
theorem dX9_copyFrom_38 : decode cX9_copyFrom 38 = .ok (.aload_n 1, 1) := by decide +kernel
theorem dX9_copyFrom_39 : decode cX9_copyFrom 39 = .ok (.getfield 18, 3) := by decide +kernel
theorem dX9_copyFrom_42 : decode cX9_copyFrom 42 = .ok (.iconst 0, 1) := by decide +kernel
theorem dX9_copyFrom_43 : decode cX9_copyFrom 43 = .ok (.aload_n 0, 1) := by decide +kernel
theorem dX9_copyFrom_44 : decode cX9_copyFrom 44 = .ok (.getfield 18, 3) := by decide +kernel
theorem dX9_copyFrom_47 : decode cX9_copyFrom 47 = .ok (.iconst 0, 1) := by decide +kernel
theorem dX9_copyFrom_48 : decode cX9_copyFrom 48 = .ok (.bipush 30, 2) := by decide +kernel
theorem dX9_copyFrom_50 : decode cX9_copyFrom 50 = .ok (.invokestatic 36, 3) := by decide +kernel
theorem dX9_copyFrom_53 : decode cX9_copyFrom 53 = .ok (.aload_n 1, 1) := by decide +kernel
theorem dX9_copyFrom_54 : decode cX9_copyFrom 54 = .ok (.getfield 21, 3) := by decide +kernel
theorem dX9_copyFrom_57 : decode cX9_copyFrom 57 = .ok (.iconst 0, 1) := by decide +kernel
theorem dX9_copyFrom_58 : decode cX9_copyFrom 58 = .ok (.aload_n 0, 1) := by decide +kernel
theorem dX9_copyFrom_59 : decode cX9_copyFrom 59 = .ok (.getfield 21, 3) := by decide +kernel
theorem dX9_copyFrom_62 : decode cX9_copyFrom 62 = .ok (.iconst 0, 1) := by decide +kernel
theorem dX9_copyFrom_63 : decode cX9_copyFrom 63 = .ok (.bipush 30, 2) := by decide +kernel
theorem dX9_copyFrom_65 : decode cX9_copyFrom 65 = .ok (.invokestatic 36, 3) := by decide +kernel
theorem dX9_copyFrom_68 : decode cX9_copyFrom 68 = .ok (.return_, 1) := by decide +kernel
set_option maxRecDepth 20000 in
theorem ggX10_init_X4_init : GoodIn wsX10_init wsX4_init := goodIn_r _ [22, 23, 2, 3] (by decide +kernel) (by decide +kernel)
set_option maxRecDepth 20000 in
theorem gX10_init_X4_init_n9 : GoodIn wsX10_init (wsX4_init) := ggX10_init_X4_init
set_option maxRecDepth 20000 in
theorem ggX10_init_X0_init : GoodIn wsX10_init wsX0_init := goodIn_r _ [25, 26, 2, 3, 27, 28, 29, 30, 31, 32, 33, 34, 35, 36, 37, 38, 39, 40, 41, 42, 43, 44, 45, 46, 47, 48, 49, 50, 51, 52, 53, 54, 55, 56, 57, 58, 59, 60, 61, 62, 63, 64, 65, 66, 67, 68, 69, 70, 71, 72, 73, 74, 75, 76, 77, 78, 79, 80, 81, 82, 83, 84, 85, 86, 87, 88, 89, 90, 91, 92, 93, 123, 124, 125, 126, 111, 112, 113, 114, 115, 116, 117, 118, 127, 128, 129, 130, 131, 132, 133, 134, 135, 136, 137, 138, 139, 140, 141, 142, 143, 144, 145, 146, 147, 148, 149, 150] (by decide +kernel) (by decide +kernel)
set_option maxRecDepth 20000 in
theorem gX10_init_X0_init_n18 : GoodIn wsX10_init (wsX0_init) := ggX10_init_X0_init
set_option maxRecDepth 20000 in
theorem ggX10_init_X2_init : GoodIn wsX10_init wsX2_init := goodIn_r _ [95, 96, 2, 3, 55, 97, 119] (by decide +kernel) (by decide +kernel)
set_option maxRecDepth 20000 in
theorem gX10_init_X2_init_n28 : GoodIn wsX10_init (wsX2_init) := ggX10_init_X2_init
set_option maxRecDepth 20000 in
theorem ggX10_init_X5_init : GoodIn wsX10_init wsX5_init := goodIn_r _ [99, 100, 2, 3, 55, 101, 120, 121, 122] (by decide +kernel) (by decide +kernel)
set_option maxRecDepth 20000 in
theorem gX10_init_X5_init_n35 : GoodIn wsX10_init (wsX5_init) := ggX10_init_X5_init
theorem dX10_init_0 : decode cX10_init 0 = .ok (.aload_n 0, 1) := by decide +kernel
theorem dX10_init_1 : decode cX10_init 1 = .ok (.invokespecial 1, 3) := by decide +kernel
theorem dX10_init_4 : decode cX10_init 4 = .ok (.aload_n 0, 1) := by decide +kernel
theorem dX10_init_5 : decode cX10_init 5 = .ok (.new 7, 3) := by decide +kernel
theorem dX10_init_8 : decode cX10_init 8 = .ok (.dup, 1) := by decide +kernel
theorem dX10_init_9 : decode cX10_init 9 = .ok (.invokespecial 9, 3) := by decide +kernel
theorem dX10_init_12 : decode cX10_init 12 = .ok (.putfield 10, 3) := by decide +kernel
theorem dX10_init_15 : decode cX10_init 15 = .ok (.aload_n 0, 1) := by decide +kernel
theorem dX10_init_16 : decode cX10_init 16 = .ok (.new 16, 3) := by decide +kernel
theorem dX10_init_19 : decode cX10_init 19 = .ok (.dup, 1) := by decide +kernel
theorem dX10_init_20 : decode cX10_init 20 = .ok (.invokespecial 18, 3) := by decide +kernel
theorem dX10_init_23 : decode cX10_init 23 = .ok (.putfield 19, 3) := by decide +kernel
theorem dX10_init_26 : decode cX10_init 26 = .ok (.aload_n 0, 1) := by decide +kernel
theorem dX10_init_27 : decode cX10_init 27 = .ok (.new 16, 3) := by decide +kernel
theorem dX10_init_30 : decode cX10_init 30 = .ok (.dup, 1) := by decide +kernel
theorem dX10_init_31 : decode cX10_init 31 = .ok (.invokespecial 18, 3) := by decide +kernel
theorem dX10_init_34 : decode cX10_init 34 = .ok (.putfield 23, 3) := by decide +kernel
theorem dX10_init_37 : decode cX10_init 37 = .ok (.aload_n 0, 1) := by decide +kernel
theorem dX10_init_38 : decode cX10_init 38 = .ok (.new 26, 3) := by decide +kernel
theorem dX10_init_41 : decode cX10_init 41 = .ok (.dup, 1) := by decide +kernel
theorem dX10_init_42 : decode cX10_init 42 = .ok (.invokespecial 28, 3) := by decide +kernel
theorem dX10_init_45 : decode cX10_init 45 = .ok (.putfield 29, 3) := by decide +kernel
theorem dX10_init_48 : decode cX10_init 48 = .ok (.aload_n 0, 1) := by decide +kernel
theorem dX10_init_49 : decode cX10_init 49 = .ok (.new 33, 3) := by decide +kernel
theorem dX10_init_52 : decode cX10_init 52 = .ok (.dup, 1) := by decide +kernel
theorem dX10_init_53 : decode cX10_init 53 = .ok (.invokespecial 35, 3) := by decide +kernel
theorem dX10_init_56 : decode cX10_init 56 = .ok (.putfield 36, 3) := by decide +kernel
theorem dX10_init_59 : decode cX10_init 59 = .ok (.return_, 1) := by decide +kernel
set_option maxRecDepth 20000 in
theorem ggX10_letter_X10_isWithin : GoodIn wsX10_letter wsX10_isWithin := goodIn_r _ [5] (by decide +kernel) (by decide +kernel)
set_option maxRecDepth 20000 in
theorem gX10_letter_X10_isWithin : GoodIn wsX10_letter (va_wsS RX10 40 yX10_isWithin wsX10_isWithin) := goodIn_app (goodIn_of _ (by decide +kernel)) ggX10_letter_X10_isWithin
set_option maxRecDepth 20000 in
theorem ggX10_letter_X10_finding : GoodIn wsX10_letter wsX10_finding := goodIn_r _ [9, 10, 17, 18, 19, 20, 21, 22, 23] (by decide +kernel) (by decide +kernel)
set_option maxRecDepth 20000 in
theorem gX10_letter_X10_finding : GoodIn wsX10_letter (wsV RX10 44 RX10 yX10_finding wsX10_finding) := goodIn_app (goodIn_of _ (by decide +kernel)) ggX10_letter_X10_finding
set_option maxRecDepth 20000 in
theorem ggX10_letter_X4_add : GoodIn wsX10_letter wsX4_add := goodIn_r _ [14, 15, 16, 24, 25] (by decide +kernel) (by decide +kernel)
set_option maxRecDepth 20000 in
theorem gX10_letter_X4_add_n52 : GoodIn wsX10_letter (wsX4_add) := ggX10_letter_X4_add
theorem dX10_letter_0 : decode cX10_letter 0 = .ok (.iload_n 1, 1) := by decide +kernel
theorem dX10_letter_1 : decode cX10_letter 1 = .ok (.iconst 1, 1) := by decide +kernel
theorem dX10_letter_2 : decode cX10_letter 2 = .ok (.bipush 28, 2) := by decide +kernel
theorem dX10_letter_4 : decode cX10_letter 4 = .ok (.invokestatic 40, 3) := by decide +kernel
theorem dX10_letter_7 : decode cX10_letter 7 = .ok (.ifCond .ne 9, 3) := by decide +kernel
theorem dX10_letter_10 : decode cX10_letter 10 = .ok (.aload_n 0, 1) := by decide +kernel
theorem dX10_letter_11 : decode cX10_letter 11 = .ok (.iconst (-1), 1) := by decide +kernel
theorem dX10_letter_12 : decode cX10_letter 12 = .ok (.invokevirtual 44, 3) := by decide +kernel
theorem dX10_letter_15 : decode cX10_letter 15 = .ok (.ireturn, 1) := by decide +kernel
theorem dX10_letter_16 : decode cX10_letter 16 = .ok (.aload_n 0, 1) := by decide +kernel
theorem dX10_letter_17 : decode cX10_letter 17 = .ok (.getfield 10, 3) := by decide +kernel
theorem dX10_letter_20 : decode cX10_letter 20 = .ok (.getfield 48, 3) := by decide +kernel
theorem dX10_letter_23 : decode cX10_letter 23 = .ok (.bipush 12, 2) := by decide +kernel
theorem dX10_letter_25 : decode cX10_letter 25 = .ok (.if_icmp .lt 10, 3) := by decide +kernel
theorem dX10_letter_28 : decode cX10_letter 28 = .ok (.aload_n 0, 1) := by decide +kernel
theorem dX10_letter_29 : decode cX10_letter 29 = .ok (.bipush (-3), 2) := by decide +kernel
theorem dX10_letter_31 : decode cX10_letter 31 = .ok (.invokevirtual 44, 3) := by decide +kernel
theorem dX10_letter_34 : decode cX10_letter 34 = .ok (.ireturn, 1) := by decide +kernel
theorem dX10_letter_35 : decode cX10_letter 35 = .ok (.aload_n 0, 1) := by decide +kernel
theorem dX10_letter_36 : decode cX10_letter 36 = .ok (.getfield 10, 3) := by decide +kernel
theorem dX10_letter_39 : decode cX10_letter 39 = .ok (.iload_n 1, 1) := by decide +kernel
theorem dX10_letter_40 : decode cX10_letter 40 = .ok (.invokevirtual 52, 3) := by decide +kernel
theorem dX10_letter_43 : decode cX10_letter 43 = .ok (.aload_n 0, 1) := by decide +kernel
theorem dX10_letter_44 : decode cX10_letter 44 = .ok (.getfield 10, 3) := by decide +kernel
theorem dX10_letter_47 : decode cX10_letter 47 = .ok (.getfield 48, 3) := by decide +kernel
theorem dX10_letter_50 : decode cX10_letter 50 = .ok (.ireturn, 1) := by decide +kernel
set_option maxRecDepth 20000 in
theorem ggX10_product_X10_isKind : GoodIn wsX10_product wsX10_isKind := goodIn_r _ [5, 6, 7, 4, 8] (by decide +kernel) (by decide +kernel)
set_option maxRecDepth 20000 in
theorem gX10_product_X10_isKind : GoodIn wsX10_product (va_wsS RX10 56 yX10_isKind wsX10_isKind) := goodIn_app (goodIn_of _ (by decide +kernel)) ggX10_product_X10_isKind
set_option maxRecDepth 20000 in
theorem ggX10_product_X10_finding : GoodIn wsX10_product wsX10_finding := goodIn_r _ [12, 13, 25, 26, 27, 28, 29, 30, 31] (by decide +kernel) (by decide +kernel)
set_option maxRecDepth 20000 in
theorem gX10_product_X10_finding : GoodIn wsX10_product (wsV RX10 44 RX10 yX10_finding wsX10_finding) := goodIn_app (goodIn_of _ (by decide +kernel)) ggX10_product_X10_finding
set_option maxRecDepth 20000 in
theorem ggX10_product_X10_isUnder : GoodIn wsX10_product wsX10_isUnder := goodIn_r _ [16] (by decide +kernel) (by decide +kernel)
set_option maxRecDepth 20000 in
theorem gX10_product_X10_isUnder : GoodIn wsX10_product (va_wsS RX10 60 yX10_isUnder wsX10_isUnder) := goodIn_app (goodIn_of _ (by decide +kernel)) ggX10_product_X10_isUnder
set_option maxRecDepth 20000 in
theorem ggX10_product_X10_isWithin : GoodIn wsX10_product wsX10_isWithin := goodIn_r _ [8] (by decide +kernel) (by decide +kernel)
set_option maxRecDepth 20000 in
theorem gX10_product_X10_isWithin : GoodIn wsX10_product (va_wsS RX10 40 yX10_isWithin wsX10_isWithin) := goodIn_app (goodIn_of _ (by decide +kernel)) ggX10_product_X10_isWithin
set_option maxRecDepth 20000 in
theorem ggX10_product_X6_add : GoodIn wsX10_product wsX6_add := goodIn_r _ [20, 21, 22, 23, 24, 40, 41, 42, 43] (by decide +kernel) (by decide +kernel)
set_option maxRecDepth 20000 in
theorem gX10_product_X6_add_n71 : GoodIn wsX10_product (wsX6_add) := ggX10_product_X6_add
theorem dX10_product_0 : decode cX10_product 0 = .ok (.iload_n 1, 1) := by decide +kernel
theorem dX10_product_1 : decode cX10_product 1 = .ok (.invokestatic 56, 3) := by decide +kernel
theorem dX10_product_4 : decode cX10_product 4 = .ok (.ifCond .ne 9, 3) := by decide +kernel
theorem dX10_product_7 : decode cX10_product 7 = .ok (.aload_n 0, 1) := by decide +kernel
theorem dX10_product_8 : decode cX10_product 8 = .ok (.iconst (-1), 1) := by decide +kernel
theorem dX10_product_9 : decode cX10_product 9 = .ok (.invokevirtual 44, 3) := by decide +kernel
theorem dX10_product_12 : decode cX10_product 12 = .ok (.ireturn, 1) := by decide +kernel
theorem dX10_product_13 : decode cX10_product 13 = .ok (.iload_n 1, 1) := by decide +kernel
theorem dX10_product_14 : decode cX10_product 14 = .ok (.iconst 1, 1) := by decide +kernel
theorem dX10_product_15 : decode cX10_product 15 = .ok (.invokestatic 60, 3) := by decide +kernel
theorem dX10_product_18 : decode cX10_product 18 = .ok (.istore 4, 2) := by decide +kernel
theorem dX10_product_20 : decode cX10_product 20 = .ok (.iload 4, 2) := by decide +kernel
theorem dX10_product_22 : decode cX10_product 22 = .ok (.ifCond .eq 30, 3) := by decide +kernel
theorem dX10_product_25 : decode cX10_product 25 = .ok (.iload_n 2, 1) := by decide +kernel
theorem dX10_product_26 : decode cX10_product 26 = .ok (.iconst 0, 1) := by decide +kernel
theorem dX10_product_27 : decode cX10_product 27 = .ok (.sipush 1023, 3) := by decide +kernel
theorem dX10_product_30 : decode cX10_product 30 = .ok (.invokestatic 40, 3) := by decide +kernel
theorem dX10_product_33 : decode cX10_product 33 = .ok (.ifCond .eq 13, 3) := by decide +kernel
theorem dX10_product_36 : decode cX10_product 36 = .ok (.iload_n 3, 1) := by decide +kernel
theorem dX10_product_37 : decode cX10_product 37 = .ok (.iconst 1, 1) := by decide +kernel
theorem dX10_product_38 : decode cX10_product 38 = .ok (.bipush 10, 2) := by decide +kernel
theorem dX10_product_40 : decode cX10_product 40 = .ok (.invokestatic 40, 3) := by decide +kernel
theorem dX10_product_43 : decode cX10_product 43 = .ok (.ifCond .ne 9, 3) := by decide +kernel
theorem dX10_product_46 : decode cX10_product 46 = .ok (.aload_n 0, 1) := by decide +kernel
theorem dX10_product_47 : decode cX10_product 47 = .ok (.iconst (-1), 1) := by decide +kernel
theorem dX10_product_48 : decode cX10_product 48 = .ok (.invokevirtual 44, 3) := by decide +kernel
theorem dX10_product_51 : decode cX10_product 51 = .ok (.ireturn, 1) := by decide +kernel
theorem dX10_product_52 : decode cX10_product 52 = .ok (.aload_n 0, 1) := by decide +kernel
theorem dX10_product_53 : decode cX10_product 53 = .ok (.getfield 19, 3) := by decide +kernel
theorem dX10_product_56 : decode cX10_product 56 = .ok (.getfield 64, 3) := by decide +kernel
theorem dX10_product_59 : decode cX10_product 59 = .ok (.getfield 68, 3) := by decide +kernel
theorem dX10_product_62 : decode cX10_product 62 = .ok (.bipush 10, 2) := by decide +kernel
theorem dX10_product_64 : decode cX10_product 64 = .ok (.if_icmp .lt 10, 3) := by decide +kernel
theorem dX10_product_67 : decode cX10_product 67 = .ok (.aload_n 0, 1) := by decide +kernel
theorem dX10_product_68 : decode cX10_product 68 = .ok (.bipush (-3), 2) := by decide +kernel
theorem dX10_product_70 : decode cX10_product 70 = .ok (.invokevirtual 44, 3) := by decide +kernel
theorem dX10_product_73 : decode cX10_product 73 = .ok (.ireturn, 1) := by decide +kernel
theorem dX10_product_74 : decode cX10_product 74 = .ok (.aload_n 0, 1) := by decide +kernel
theorem dX10_product_75 : decode cX10_product 75 = .ok (.getfield 19, 3) := by decide +kernel
theorem dX10_product_78 : decode cX10_product 78 = .ok (.getfield 64, 3) := by decide +kernel
theorem dX10_product_81 : decode cX10_product 81 = .ok (.iload_n 1, 1) := by decide +kernel
theorem dX10_product_82 : decode cX10_product 82 = .ok (.iload_n 2, 1) := by decide +kernel
theorem dX10_product_83 : decode cX10_product 83 = .ok (.iload_n 3, 1) := by decide +kernel
theorem dX10_product_84 : decode cX10_product 84 = .ok (.invokevirtual 71, 3) := by decide +kernel
theorem dX10_product_87 : decode cX10_product 87 = .ok (.ireturn, 1) := by decide +kernel
set_option maxRecDepth 20000 in
theorem ggX10_as_X6_isOne : GoodIn wsX10_as wsX6_isOne := goodIn_r _ [5, 6, 37, 38, 39, 40] (by decide +kernel) (by decide +kernel)
set_option maxRecDepth 20000 in
theorem gX10_as_X6_isOne_n74 : GoodIn wsX10_as (wsX6_isOne) := ggX10_as_X6_isOne
set_option maxRecDepth 20000 in
theorem ggX10_as_X10_isKind : GoodIn wsX10_as wsX10_isKind := goodIn_r _ [10, 11, 12, 9, 13] (by decide +kernel) (by decide +kernel)
set_option maxRecDepth 20000 in
theorem gX10_as_X10_isKind : GoodIn wsX10_as (va_wsS RX10 56 yX10_isKind wsX10_isKind) := goodIn_app (goodIn_of _ (by decide +kernel)) ggX10_as_X10_isKind
set_option maxRecDepth 20000 in
theorem ggX10_as_X10_finding : GoodIn wsX10_as wsX10_finding := goodIn_r _ [17, 18, 22, 23, 24, 25, 26, 27, 28] (by decide +kernel) (by decide +kernel)
set_option maxRecDepth 20000 in
theorem gX10_as_X10_finding : GoodIn wsX10_as (wsV RX10 44 RX10 yX10_finding wsX10_finding) := goodIn_app (goodIn_of _ (by decide +kernel)) ggX10_as_X10_finding
set_option maxRecDepth 20000 in
theorem ggX10_as_X10_isUnder : GoodIn wsX10_as wsX10_isUnder := goodIn_r _ [21] (by decide +kernel) (by decide +kernel)
set_option maxRecDepth 20000 in
theorem gX10_as_X10_isUnder : GoodIn wsX10_as (va_wsS RX10 60 yX10_isUnder wsX10_isUnder) := goodIn_app (goodIn_of _ (by decide +kernel)) ggX10_as_X10_isUnder
theorem dX10_as_0 : decode cX10_as 0 = .ok (.aload_n 0, 1) := by decide +kernel
theorem dX10_as_1 : decode cX10_as 1 = .ok (.getfield 19, 3) := by decide +kernel
theorem dX10_as_4 : decode cX10_as 4 = .ok (.getfield 64, 3) := by decide +kernel
theorem dX10_as_7 : decode cX10_as 7 = .ok (.iload_n 1, 1) := by decide +kernel
theorem dX10_as_8 : decode cX10_as 8 = .ok (.invokevirtual 74, 3) := by decide +kernel
theorem dX10_as_11 : decode cX10_as 11 = .ok (.ifCond .eq 10, 3) := by decide +kernel
theorem dX10_as_14 : decode cX10_as 14 = .ok (.iload_n 2, 1) := by decide +kernel
theorem dX10_as_15 : decode cX10_as 15 = .ok (.invokestatic 56, 3) := by decide +kernel
theorem dX10_as_18 : decode cX10_as 18 = .ok (.ifCond .ne 9, 3) := by decide +kernel
theorem dX10_as_21 : decode cX10_as 21 = .ok (.aload_n 0, 1) := by decide +kernel
theorem dX10_as_22 : decode cX10_as 22 = .ok (.iconst (-1), 1) := by decide +kernel
theorem dX10_as_23 : decode cX10_as 23 = .ok (.invokevirtual 44, 3) := by decide +kernel
theorem dX10_as_26 : decode cX10_as 26 = .ok (.ireturn, 1) := by decide +kernel
theorem dX10_as_27 : decode cX10_as 27 = .ok (.aload_n 0, 1) := by decide +kernel
theorem dX10_as_28 : decode cX10_as 28 = .ok (.getfield 19, 3) := by decide +kernel
theorem dX10_as_31 : decode cX10_as 31 = .ok (.getfield 64, 3) := by decide +kernel
theorem dX10_as_34 : decode cX10_as 34 = .ok (.getfield 77, 3) := by decide +kernel
theorem dX10_as_37 : decode cX10_as 37 = .ok (.iload_n 1, 1) := by decide +kernel
theorem dX10_as_38 : decode cX10_as 38 = .ok (.iaload, 1) := by decide +kernel
theorem dX10_as_39 : decode cX10_as 39 = .ok (.iload_n 2, 1) := by decide +kernel
theorem dX10_as_40 : decode cX10_as 40 = .ok (.invokestatic 60, 3) := by decide +kernel
theorem dX10_as_43 : decode cX10_as 43 = .ok (.ifCond .eq 7, 3) := by decide +kernel
theorem dX10_as_46 : decode cX10_as 46 = .ok (.iload_n 1, 1) := by decide +kernel
theorem dX10_as_47 : decode cX10_as 47 = .ok (.goto 9, 3) := by decide +kernel
theorem dX10_as_50 : decode cX10_as 50 = .ok (.aload_n 0, 1) := by decide +kernel
theorem dX10_as_51 : decode cX10_as 51 = .ok (.bipush (-4), 2) := by decide +kernel
theorem dX10_as_53 : decode cX10_as 53 = .ok (.invokevirtual 44, 3) := by decide +kernel
theorem dX10_as_56 : decode cX10_as 56 = .ok (.ireturn, 1) := by decide +kernel
set_option maxRecDepth 20000 in
theorem ggX10_rule_X6_isOne : GoodIn wsX10_rule wsX6_isOne := goodIn_r _ [6, 7, 55, 56, 57, 58] (by decide +kernel) (by decide +kernel)
set_option maxRecDepth 20000 in
theorem gX10_rule_X6_isOne_n74 : GoodIn wsX10_rule (wsX6_isOne) := ggX10_rule_X6_isOne
set_option maxRecDepth 20000 in
theorem ggX10_rule_X10_isWithin : GoodIn wsX10_rule wsX10_isWithin := goodIn_r _ [11] (by decide +kernel) (by decide +kernel)
set_option maxRecDepth 20000 in
theorem gX10_rule_X10_isWithin : GoodIn wsX10_rule (va_wsS RX10 40 yX10_isWithin wsX10_isWithin) := goodIn_app (goodIn_of _ (by decide +kernel)) ggX10_rule_X10_isWithin
set_option maxRecDepth 20000 in
theorem ggX10_rule_X10_finding : GoodIn wsX10_rule wsX10_finding := goodIn_r _ [15, 16, 36, 37, 38, 39, 40, 41, 42] (by decide +kernel) (by decide +kernel)
set_option maxRecDepth 20000 in
theorem gX10_rule_X10_finding : GoodIn wsX10_rule (wsV RX10 44 RX10 yX10_finding wsX10_finding) := goodIn_app (goodIn_of _ (by decide +kernel)) ggX10_rule_X10_finding
set_option maxRecDepth 20000 in
theorem ggX10_rule_X4_arePattern : GoodIn wsX10_rule wsX4_arePattern := goodIn_r _ [20, 21, 22, 23, 10, 24, 59, 60] (by decide +kernel) (by decide +kernel)
set_option maxRecDepth 20000 in
theorem gX10_rule_X4_arePattern_n88 : GoodIn wsX10_rule (wsX4_arePattern) := ggX10_rule_X4_arePattern
set_option maxRecDepth 20000 in
theorem ggX10_rule_X4_take : GoodIn wsX10_rule wsX4_take := goodIn_r _ [27, 22, 21, 59, 60] (by decide +kernel) (by decide +kernel)
set_option maxRecDepth 20000 in
theorem gX10_rule_X4_take_n92 : GoodIn wsX10_rule (wsX4_take) := ggX10_rule_X4_take
set_option maxRecDepth 20000 in
theorem ggX10_rule_X8_add : GoodIn wsX10_rule wsX8_add := goodIn_r _ [31, 32, 33, 34, 35, 51, 52, 53, 54] (by decide +kernel) (by decide +kernel)
set_option maxRecDepth 20000 in
theorem gX10_rule_X8_add_n96 : GoodIn wsX10_rule (wsX8_add) := ggX10_rule_X8_add
theorem dX10_rule_0 : decode cX10_rule 0 = .ok (.aload_n 0, 1) := by decide +kernel
theorem dX10_rule_1 : decode cX10_rule 1 = .ok (.getfield 19, 3) := by decide +kernel
theorem dX10_rule_4 : decode cX10_rule 4 = .ok (.getfield 64, 3) := by decide +kernel
theorem dX10_rule_7 : decode cX10_rule 7 = .ok (.iload_n 2, 1) := by decide +kernel
theorem dX10_rule_8 : decode cX10_rule 8 = .ok (.invokevirtual 74, 3) := by decide +kernel
theorem dX10_rule_11 : decode cX10_rule 11 = .ok (.ifCond .eq 13, 3) := by decide +kernel
theorem dX10_rule_14 : decode cX10_rule 14 = .ok (.iload_n 1, 1) := by decide +kernel
theorem dX10_rule_15 : decode cX10_rule 15 = .ok (.iconst 0, 1) := by decide +kernel
theorem dX10_rule_16 : decode cX10_rule 16 = .ok (.bipush 9, 2) := by decide +kernel
theorem dX10_rule_18 : decode cX10_rule 18 = .ok (.invokestatic 40, 3) := by decide +kernel
theorem dX10_rule_21 : decode cX10_rule 21 = .ok (.ifCond .ne 9, 3) := by decide +kernel
theorem dX10_rule_24 : decode cX10_rule 24 = .ok (.aload_n 0, 1) := by decide +kernel
theorem dX10_rule_25 : decode cX10_rule 25 = .ok (.iconst (-1), 1) := by decide +kernel
theorem dX10_rule_26 : decode cX10_rule 26 = .ok (.invokevirtual 44, 3) := by decide +kernel
theorem dX10_rule_29 : decode cX10_rule 29 = .ok (.ireturn, 1) := by decide +kernel
theorem dX10_rule_30 : decode cX10_rule 30 = .ok (.aload_n 0, 1) := by decide +kernel
theorem dX10_rule_31 : decode cX10_rule 31 = .ok (.getfield 19, 3) := by decide +kernel
theorem dX10_rule_34 : decode cX10_rule 34 = .ok (.getfield 81, 3) := by decide +kernel
theorem dX10_rule_37 : decode cX10_rule 37 = .ok (.getfield 85, 3) := by decide +kernel
theorem dX10_rule_40 : decode cX10_rule 40 = .ok (.bipush 16, 2) := by decide +kernel
theorem dX10_rule_42 : decode cX10_rule 42 = .ok (.if_icmp .lt 10, 3) := by decide +kernel
theorem dX10_rule_45 : decode cX10_rule 45 = .ok (.aload_n 0, 1) := by decide +kernel
theorem dX10_rule_46 : decode cX10_rule 46 = .ok (.bipush (-3), 2) := by decide +kernel
theorem dX10_rule_48 : decode cX10_rule 48 = .ok (.invokevirtual 44, 3) := by decide +kernel
theorem dX10_rule_51 : decode cX10_rule 51 = .ok (.ireturn, 1) := by decide +kernel
theorem dX10_rule_52 : decode cX10_rule 52 = .ok (.aload_n 0, 1) := by decide +kernel
theorem dX10_rule_53 : decode cX10_rule 53 = .ok (.getfield 10, 3) := by decide +kernel
theorem dX10_rule_56 : decode cX10_rule 56 = .ok (.invokevirtual 88, 3) := by decide +kernel
theorem dX10_rule_59 : decode cX10_rule 59 = .ok (.istore_n 3, 1) := by decide +kernel
theorem dX10_rule_60 : decode cX10_rule 60 = .ok (.aload_n 0, 1) := by decide +kernel
theorem dX10_rule_61 : decode cX10_rule 61 = .ok (.getfield 10, 3) := by decide +kernel
theorem dX10_rule_64 : decode cX10_rule 64 = .ok (.invokevirtual 92, 3) := by decide +kernel
theorem dX10_rule_67 : decode cX10_rule 67 = .ok (.lstore 4, 2) := by decide +kernel
theorem dX10_rule_69 : decode cX10_rule 69 = .ok (.iload_n 3, 1) := by decide +kernel
theorem dX10_rule_70 : decode cX10_rule 70 = .ok (.ifCond .eq 20, 3) := by decide +kernel
theorem dX10_rule_73 : decode cX10_rule 73 = .ok (.aload_n 0, 1) := by decide +kernel
theorem dX10_rule_74 : decode cX10_rule 74 = .ok (.getfield 19, 3) := by decide +kernel
theorem dX10_rule_77 : decode cX10_rule 77 = .ok (.getfield 81, 3) := by decide +kernel
theorem dX10_rule_80 : decode cX10_rule 80 = .ok (.lload 4, 2) := by decide +kernel
theorem dX10_rule_82 : decode cX10_rule 82 = .ok (.iload_n 1, 1) := by decide +kernel
theorem dX10_rule_83 : decode cX10_rule 83 = .ok (.iload_n 2, 1) := by decide +kernel
theorem dX10_rule_84 : decode cX10_rule 84 = .ok (.invokevirtual 96, 3) := by decide +kernel
theorem dX10_rule_87 : decode cX10_rule 87 = .ok (.goto 9, 3) := by decide +kernel
theorem dX10_rule_90 : decode cX10_rule 90 = .ok (.aload_n 0, 1) := by decide +kernel
theorem dX10_rule_91 : decode cX10_rule 91 = .ok (.bipush (-7), 2) := by decide +kernel
theorem dX10_rule_93 : decode cX10_rule 93 = .ok (.invokevirtual 44, 3) := by decide +kernel
theorem dX10_rule_96 : decode cX10_rule 96 = .ok (.ireturn, 1) := by decide +kernel
set_option maxRecDepth 20000 in
theorem ggX10_unrule_X8_isOne : GoodIn wsX10_unrule wsX8_isOne := goodIn_r _ [5, 6, 34, 35, 36, 37] (by decide +kernel) (by decide +kernel)
set_option maxRecDepth 20000 in
theorem gX10_unrule_X8_isOne_n99 : GoodIn wsX10_unrule (wsX8_isOne) := ggX10_unrule_X8_isOne
set_option maxRecDepth 20000 in
theorem ggX10_unrule_X10_finding : GoodIn wsX10_unrule wsX10_finding := goodIn_r _ [11, 12, 19, 20, 21, 22, 23, 24, 25] (by decide +kernel) (by decide +kernel)
set_option maxRecDepth 20000 in
theorem gX10_unrule_X10_finding : GoodIn wsX10_unrule (wsV RX10 44 RX10 yX10_finding wsX10_finding) := goodIn_app (goodIn_of _ (by decide +kernel)) ggX10_unrule_X10_finding
set_option maxRecDepth 20000 in
theorem ggX10_unrule_X8_remove : GoodIn wsX10_unrule wsX8_remove := goodIn_r _ [15, 6, 16, 17, 18, 34, 35, 36, 37] (by decide +kernel) (by decide +kernel)
set_option maxRecDepth 20000 in
theorem gX10_unrule_X8_remove_n100 : GoodIn wsX10_unrule (wsX8_remove) := ggX10_unrule_X8_remove
theorem dX10_unrule_0 : decode cX10_unrule 0 = .ok (.aload_n 0, 1) := by decide +kernel
theorem dX10_unrule_1 : decode cX10_unrule 1 = .ok (.getfield 19, 3) := by decide +kernel
theorem dX10_unrule_4 : decode cX10_unrule 4 = .ok (.getfield 81, 3) := by decide +kernel
theorem dX10_unrule_7 : decode cX10_unrule 7 = .ok (.iload_n 1, 1) := by decide +kernel
theorem dX10_unrule_8 : decode cX10_unrule 8 = .ok (.invokevirtual 99, 3) := by decide +kernel
theorem dX10_unrule_11 : decode cX10_unrule 11 = .ok (.ifCond .ne 9, 3) := by decide +kernel
theorem dX10_unrule_14 : decode cX10_unrule 14 = .ok (.aload_n 0, 1) := by decide +kernel
theorem dX10_unrule_15 : decode cX10_unrule 15 = .ok (.iconst (-1), 1) := by decide +kernel
theorem dX10_unrule_16 : decode cX10_unrule 16 = .ok (.invokevirtual 44, 3) := by decide +kernel
theorem dX10_unrule_19 : decode cX10_unrule 19 = .ok (.ireturn, 1) := by decide +kernel
theorem dX10_unrule_20 : decode cX10_unrule 20 = .ok (.aload_n 0, 1) := by decide +kernel
theorem dX10_unrule_21 : decode cX10_unrule 21 = .ok (.getfield 19, 3) := by decide +kernel
theorem dX10_unrule_24 : decode cX10_unrule 24 = .ok (.getfield 81, 3) := by decide +kernel
theorem dX10_unrule_27 : decode cX10_unrule 27 = .ok (.iload_n 1, 1) := by decide +kernel
theorem dX10_unrule_28 : decode cX10_unrule 28 = .ok (.invokevirtual 100, 3) := by decide +kernel
theorem dX10_unrule_31 : decode cX10_unrule 31 = .ok (.aload_n 0, 1) := by decide +kernel
theorem dX10_unrule_32 : decode cX10_unrule 32 = .ok (.getfield 19, 3) := by decide +kernel
theorem dX10_unrule_35 : decode cX10_unrule 35 = .ok (.getfield 81, 3) := by decide +kernel
theorem dX10_unrule_38 : decode cX10_unrule 38 = .ok (.getfield 85, 3) := by decide +kernel
theorem dX10_unrule_41 : decode cX10_unrule 41 = .ok (.ireturn, 1) := by decide +kernel
set_option maxRecDepth 20000 in
theorem ggX10_fits_X8_isOne : GoodIn wsX10_fits wsX8_isOne := goodIn_r _ [5, 6, 41, 42, 43, 44] (by decide +kernel) (by decide +kernel)
set_option maxRecDepth 20000 in
theorem gX10_fits_X8_isOne_n99 : GoodIn wsX10_fits (wsX8_isOne) := ggX10_fits_X8_isOne
set_option maxRecDepth 20000 in
theorem ggX10_fits_X1_isOne : GoodIn wsX10_fits wsX1_isOne := goodIn_r _ [10, 11, 45, 46, 47, 48, 49] (by decide +kernel) (by decide +kernel)
set_option maxRecDepth 20000 in
theorem gX10_fits_X1_isOne_n107 : GoodIn wsX10_fits (wsX1_isOne) := ggX10_fits_X1_isOne
set_option maxRecDepth 20000 in
theorem ggX10_fits_X10_finding : GoodIn wsX10_fits wsX10_finding := goodIn_r _ [16, 17, 26, 27, 28, 29, 30, 31, 32] (by decide +kernel) (by decide +kernel)
set_option maxRecDepth 20000 in
theorem gX10_fits_X10_finding : GoodIn wsX10_fits (wsV RX10 44 RX10 yX10_finding wsX10_finding) := goodIn_app (goodIn_of _ (by decide +kernel)) ggX10_fits_X10_finding
set_option maxRecDepth 20000 in
theorem ggX10_fits_X0_isFitting : GoodIn wsX10_fits wsX0_isFitting := goodIn_r _ [21, 22, 23, 24, 15, 25, 33, 34, 35, 36, 37, 38, 39, 40, 41, 42, 43, 44, 45, 46, 47, 48, 49] (by decide +kernel) (by decide +kernel)
set_option maxRecDepth 20000 in
theorem gX10_fits_X0_isFitting_n110 : GoodIn wsX10_fits (wsX0_isFitting) := ggX10_fits_X0_isFitting
theorem dX10_fits_0 : decode cX10_fits 0 = .ok (.aload_n 0, 1) := by decide +kernel
theorem dX10_fits_1 : decode cX10_fits 1 = .ok (.getfield 19, 3) := by decide +kernel
theorem dX10_fits_4 : decode cX10_fits 4 = .ok (.getfield 81, 3) := by decide +kernel
theorem dX10_fits_7 : decode cX10_fits 7 = .ok (.iload_n 1, 1) := by decide +kernel
theorem dX10_fits_8 : decode cX10_fits 8 = .ok (.invokevirtual 99, 3) := by decide +kernel
theorem dX10_fits_11 : decode cX10_fits 11 = .ok (.ifCond .eq 17, 3) := by decide +kernel
theorem dX10_fits_14 : decode cX10_fits 14 = .ok (.aload_n 0, 1) := by decide +kernel
theorem dX10_fits_15 : decode cX10_fits 15 = .ok (.getfield 19, 3) := by decide +kernel
theorem dX10_fits_18 : decode cX10_fits 18 = .ok (.getfield 103, 3) := by decide +kernel
theorem dX10_fits_21 : decode cX10_fits 21 = .ok (.iload_n 2, 1) := by decide +kernel
theorem dX10_fits_22 : decode cX10_fits 22 = .ok (.invokevirtual 107, 3) := by decide +kernel
theorem dX10_fits_25 : decode cX10_fits 25 = .ok (.ifCond .ne 9, 3) := by decide +kernel
theorem dX10_fits_28 : decode cX10_fits 28 = .ok (.aload_n 0, 1) := by decide +kernel
theorem dX10_fits_29 : decode cX10_fits 29 = .ok (.iconst (-1), 1) := by decide +kernel
theorem dX10_fits_30 : decode cX10_fits 30 = .ok (.invokevirtual 44, 3) := by decide +kernel
theorem dX10_fits_33 : decode cX10_fits 33 = .ok (.ireturn, 1) := by decide +kernel
theorem dX10_fits_34 : decode cX10_fits 34 = .ok (.aload_n 0, 1) := by decide +kernel
theorem dX10_fits_35 : decode cX10_fits 35 = .ok (.getfield 19, 3) := by decide +kernel
theorem dX10_fits_38 : decode cX10_fits 38 = .ok (.iload_n 1, 1) := by decide +kernel
theorem dX10_fits_39 : decode cX10_fits 39 = .ok (.iload_n 2, 1) := by decide +kernel
theorem dX10_fits_40 : decode cX10_fits 40 = .ok (.invokevirtual 110, 3) := by decide +kernel
theorem dX10_fits_43 : decode cX10_fits 43 = .ok (.ifCond .eq 7, 3) := by decide +kernel
theorem dX10_fits_46 : decode cX10_fits 46 = .ok (.iconst 1, 1) := by decide +kernel
theorem dX10_fits_47 : decode cX10_fits 47 = .ok (.goto 4, 3) := by decide +kernel
theorem dX10_fits_50 : decode cX10_fits 50 = .ok (.iconst 0, 1) := by decide +kernel
theorem dX10_fits_51 : decode cX10_fits 51 = .ok (.ireturn, 1) := by decide +kernel
set_option maxRecDepth 20000 in
theorem ggX10_host_X10_isWithin : GoodIn wsX10_host wsX10_isWithin := goodIn_r _ [5] (by decide +kernel) (by decide +kernel)
set_option maxRecDepth 20000 in
theorem gX10_host_X10_isWithin : GoodIn wsX10_host (va_wsS RX10 40 yX10_isWithin wsX10_isWithin) := goodIn_app (goodIn_of _ (by decide +kernel)) ggX10_host_X10_isWithin
set_option maxRecDepth 20000 in
theorem ggX10_host_X10_finding : GoodIn wsX10_host wsX10_finding := goodIn_r _ [9, 10, 18, 19, 20, 21, 22, 23, 24] (by decide +kernel) (by decide +kernel)
set_option maxRecDepth 20000 in
theorem gX10_host_X10_finding : GoodIn wsX10_host (wsV RX10 44 RX10 yX10_finding wsX10_finding) := goodIn_app (goodIn_of _ (by decide +kernel)) ggX10_host_X10_finding
set_option maxRecDepth 20000 in
theorem ggX10_host_X3_add : GoodIn wsX10_host wsX3_add := goodIn_r _ [14, 15, 16, 17, 33, 34, 35] (by decide +kernel) (by decide +kernel)
set_option maxRecDepth 20000 in
theorem gX10_host_X3_add_n120 : GoodIn wsX10_host (wsX3_add) := ggX10_host_X3_add
theorem dX10_host_0 : decode cX10_host 0 = .ok (.iload_n 1, 1) := by decide +kernel
theorem dX10_host_1 : decode cX10_host 1 = .ok (.iconst 1, 1) := by decide +kernel
theorem dX10_host_2 : decode cX10_host 2 = .ok (.bipush 64, 2) := by decide +kernel
theorem dX10_host_4 : decode cX10_host 4 = .ok (.invokestatic 40, 3) := by decide +kernel
theorem dX10_host_7 : decode cX10_host 7 = .ok (.ifCond .eq 13, 3) := by decide +kernel
theorem dX10_host_10 : decode cX10_host 10 = .ok (.iload_n 2, 1) := by decide +kernel
theorem dX10_host_11 : decode cX10_host 11 = .ok (.iconst 0, 1) := by decide +kernel
theorem dX10_host_12 : decode cX10_host 12 = .ok (.bipush 9, 2) := by decide +kernel
theorem dX10_host_14 : decode cX10_host 14 = .ok (.invokestatic 40, 3) := by decide +kernel
theorem dX10_host_17 : decode cX10_host 17 = .ok (.ifCond .ne 9, 3) := by decide +kernel
theorem dX10_host_20 : decode cX10_host 20 = .ok (.aload_n 0, 1) := by decide +kernel
theorem dX10_host_21 : decode cX10_host 21 = .ok (.iconst (-1), 1) := by decide +kernel
theorem dX10_host_22 : decode cX10_host 22 = .ok (.invokevirtual 44, 3) := by decide +kernel
theorem dX10_host_25 : decode cX10_host 25 = .ok (.ireturn, 1) := by decide +kernel
theorem dX10_host_26 : decode cX10_host 26 = .ok (.aload_n 0, 1) := by decide +kernel
theorem dX10_host_27 : decode cX10_host 27 = .ok (.getfield 19, 3) := by decide +kernel
theorem dX10_host_30 : decode cX10_host 30 = .ok (.getfield 113, 3) := by decide +kernel
theorem dX10_host_33 : decode cX10_host 33 = .ok (.getfield 117, 3) := by decide +kernel
theorem dX10_host_36 : decode cX10_host 36 = .ok (.bipush 8, 2) := by decide +kernel
theorem dX10_host_38 : decode cX10_host 38 = .ok (.if_icmp .lt 10, 3) := by decide +kernel
theorem dX10_host_41 : decode cX10_host 41 = .ok (.aload_n 0, 1) := by decide +kernel
theorem dX10_host_42 : decode cX10_host 42 = .ok (.bipush (-3), 2) := by decide +kernel
theorem dX10_host_44 : decode cX10_host 44 = .ok (.invokevirtual 44, 3) := by decide +kernel
theorem dX10_host_47 : decode cX10_host 47 = .ok (.ireturn, 1) := by decide +kernel
theorem dX10_host_48 : decode cX10_host 48 = .ok (.aload_n 0, 1) := by decide +kernel
theorem dX10_host_49 : decode cX10_host 49 = .ok (.getfield 19, 3) := by decide +kernel
theorem dX10_host_52 : decode cX10_host 52 = .ok (.getfield 113, 3) := by decide +kernel
theorem dX10_host_55 : decode cX10_host 55 = .ok (.iload_n 1, 1) := by decide +kernel
theorem dX10_host_56 : decode cX10_host 56 = .ok (.iload_n 2, 1) := by decide +kernel
theorem dX10_host_57 : decode cX10_host 57 = .ok (.invokevirtual 120, 3) := by decide +kernel
theorem dX10_host_60 : decode cX10_host 60 = .ok (.ireturn, 1) := by decide +kernel
set_option maxRecDepth 20000 in
theorem ggX10_moved_X3_isOne : GoodIn wsX10_moved wsX3_isOne := goodIn_r _ [5, 6, 31, 32, 33] (by decide +kernel) (by decide +kernel)
set_option maxRecDepth 20000 in
theorem gX10_moved_X3_isOne_n123 : GoodIn wsX10_moved (wsX3_isOne) := ggX10_moved_X3_isOne
set_option maxRecDepth 20000 in
theorem ggX10_moved_X10_isWithin : GoodIn wsX10_moved wsX10_isWithin := goodIn_r _ [10] (by decide +kernel) (by decide +kernel)
set_option maxRecDepth 20000 in
theorem gX10_moved_X10_isWithin : GoodIn wsX10_moved (va_wsS RX10 40 yX10_isWithin wsX10_isWithin) := goodIn_app (goodIn_of _ (by decide +kernel)) ggX10_moved_X10_isWithin
set_option maxRecDepth 20000 in
theorem ggX10_moved_X10_finding : GoodIn wsX10_moved wsX10_finding := goodIn_r _ [14, 15, 16, 17, 18, 19, 20, 21, 22] (by decide +kernel) (by decide +kernel)
set_option maxRecDepth 20000 in
theorem gX10_moved_X10_finding : GoodIn wsX10_moved (wsV RX10 44 RX10 yX10_finding wsX10_finding) := goodIn_app (goodIn_of _ (by decide +kernel)) ggX10_moved_X10_finding
theorem dX10_moved_0 : decode cX10_moved 0 = .ok (.aload_n 0, 1) := by decide +kernel
theorem dX10_moved_1 : decode cX10_moved 1 = .ok (.getfield 19, 3) := by decide +kernel
theorem dX10_moved_4 : decode cX10_moved 4 = .ok (.getfield 113, 3) := by decide +kernel
theorem dX10_moved_7 : decode cX10_moved 7 = .ok (.iload_n 1, 1) := by decide +kernel
theorem dX10_moved_8 : decode cX10_moved 8 = .ok (.invokevirtual 123, 3) := by decide +kernel
theorem dX10_moved_11 : decode cX10_moved 11 = .ok (.ifCond .eq 13, 3) := by decide +kernel
theorem dX10_moved_14 : decode cX10_moved 14 = .ok (.iload_n 2, 1) := by decide +kernel
theorem dX10_moved_15 : decode cX10_moved 15 = .ok (.iconst 0, 1) := by decide +kernel
theorem dX10_moved_16 : decode cX10_moved 16 = .ok (.bipush 9, 2) := by decide +kernel
theorem dX10_moved_18 : decode cX10_moved 18 = .ok (.invokestatic 40, 3) := by decide +kernel
theorem dX10_moved_21 : decode cX10_moved 21 = .ok (.ifCond .ne 9, 3) := by decide +kernel
theorem dX10_moved_24 : decode cX10_moved 24 = .ok (.aload_n 0, 1) := by decide +kernel
theorem dX10_moved_25 : decode cX10_moved 25 = .ok (.iconst (-1), 1) := by decide +kernel
theorem dX10_moved_26 : decode cX10_moved 26 = .ok (.invokevirtual 44, 3) := by decide +kernel
theorem dX10_moved_29 : decode cX10_moved 29 = .ok (.ireturn, 1) := by decide +kernel
theorem dX10_moved_30 : decode cX10_moved 30 = .ok (.aload_n 0, 1) := by decide +kernel
theorem dX10_moved_31 : decode cX10_moved 31 = .ok (.getfield 19, 3) := by decide +kernel
theorem dX10_moved_34 : decode cX10_moved 34 = .ok (.getfield 113, 3) := by decide +kernel
theorem dX10_moved_37 : decode cX10_moved 37 = .ok (.getfield 124, 3) := by decide +kernel
theorem dX10_moved_40 : decode cX10_moved 40 = .ok (.iload_n 1, 1) := by decide +kernel
theorem dX10_moved_41 : decode cX10_moved 41 = .ok (.iaload, 1) := by decide +kernel
theorem dX10_moved_42 : decode cX10_moved 42 = .ok (.istore_n 3, 1) := by decide +kernel
theorem dX10_moved_43 : decode cX10_moved 43 = .ok (.aload_n 0, 1) := by decide +kernel
theorem dX10_moved_44 : decode cX10_moved 44 = .ok (.getfield 19, 3) := by decide +kernel
theorem dX10_moved_47 : decode cX10_moved 47 = .ok (.getfield 113, 3) := by decide +kernel
theorem dX10_moved_50 : decode cX10_moved 50 = .ok (.getfield 124, 3) := by decide +kernel
theorem dX10_moved_53 : decode cX10_moved 53 = .ok (.iload_n 1, 1) := by decide +kernel
theorem dX10_moved_54 : decode cX10_moved 54 = .ok (.iload_n 2, 1) := by decide +kernel
theorem dX10_moved_55 : decode cX10_moved 55 = .ok (.iastore, 1) := by decide +kernel
theorem dX10_moved_56 : decode cX10_moved 56 = .ok (.iload_n 3, 1) := by decide +kernel
theorem dX10_moved_57 : decode cX10_moved 57 = .ok (.ireturn, 1) := by decide +kernel
set_option maxRecDepth 20000 in
theorem ggX10_find_X3_isOne : GoodIn wsX10_find wsX3_isOne := goodIn_r _ [6, 7, 63, 64, 65] (by decide +kernel) (by decide +kernel)
set_option maxRecDepth 20000 in
theorem gX10_find_X3_isOne_n123 : GoodIn wsX10_find (wsX3_isOne) := ggX10_find_X3_isOne
set_option maxRecDepth 20000 in
theorem ggX10_find_X10_isDay : GoodIn wsX10_find wsX10_isDay := goodIn_r _ [11, 12, 13, 10, 14] (by decide +kernel) (by decide +kernel)
set_option maxRecDepth 20000 in
theorem gX10_find_X10_isDay : GoodIn wsX10_find (va_wsS RX10 127 yX10_isDay wsX10_isDay) := goodIn_app (goodIn_of _ (by decide +kernel)) ggX10_find_X10_isDay
set_option maxRecDepth 20000 in
theorem ggX10_find_X10_isVersion : GoodIn wsX10_find wsX10_isVersion := goodIn_r _ [17, 12, 13, 10, 14] (by decide +kernel) (by decide +kernel)
set_option maxRecDepth 20000 in
theorem gX10_find_X10_isVersion : GoodIn wsX10_find (va_wsS RX10 130 yX10_isVersion wsX10_isVersion) := goodIn_app (goodIn_of _ (by decide +kernel)) ggX10_find_X10_isVersion
set_option maxRecDepth 20000 in
theorem ggX10_find_X10_finding : GoodIn wsX10_find wsX10_finding := goodIn_r _ [21, 22, 43, 44, 45, 46, 47, 48, 49] (by decide +kernel) (by decide +kernel)
set_option maxRecDepth 20000 in
theorem gX10_find_X10_finding : GoodIn wsX10_find (wsV RX10 44 RX10 yX10_finding wsX10_finding) := goodIn_app (goodIn_of _ (by decide +kernel)) ggX10_find_X10_finding
set_option maxRecDepth 20000 in
theorem ggX10_find_X4_areName : GoodIn wsX10_find wsX4_areName := goodIn_r _ [26, 27, 28, 29, 10, 30, 66, 67] (by decide +kernel) (by decide +kernel)
set_option maxRecDepth 20000 in
theorem gX10_find_X4_areName_n134 : GoodIn wsX10_find (wsX4_areName) := ggX10_find_X4_areName
set_option maxRecDepth 20000 in
theorem ggX10_find_X4_take : GoodIn wsX10_find wsX4_take := goodIn_r _ [33, 28, 27, 66, 67] (by decide +kernel) (by decide +kernel)
set_option maxRecDepth 20000 in
theorem gX10_find_X4_take_n92 : GoodIn wsX10_find (wsX4_take) := ggX10_find_X4_take
set_option maxRecDepth 20000 in
theorem ggX10_find_X1_add : GoodIn wsX10_find wsX1_add := goodIn_r _ [37, 38, 39, 40, 41, 42, 58, 59, 60, 61, 62] (by decide +kernel) (by decide +kernel)
set_option maxRecDepth 20000 in
theorem gX10_find_X1_add_n137 : GoodIn wsX10_find (wsX1_add) := ggX10_find_X1_add
theorem dX10_find_0 : decode cX10_find 0 = .ok (.aload_n 0, 1) := by decide +kernel
theorem dX10_find_1 : decode cX10_find 1 = .ok (.getfield 19, 3) := by decide +kernel
theorem dX10_find_4 : decode cX10_find 4 = .ok (.getfield 113, 3) := by decide +kernel
theorem dX10_find_7 : decode cX10_find 7 = .ok (.iload_n 1, 1) := by decide +kernel
theorem dX10_find_8 : decode cX10_find 8 = .ok (.invokevirtual 123, 3) := by decide +kernel
theorem dX10_find_11 : decode cX10_find 11 = .ok (.ifCond .eq 17, 3) := by decide +kernel
theorem dX10_find_14 : decode cX10_find 14 = .ok (.iload_n 2, 1) := by decide +kernel
theorem dX10_find_15 : decode cX10_find 15 = .ok (.invokestatic 127, 3) := by decide +kernel
theorem dX10_find_18 : decode cX10_find 18 = .ok (.ifCond .eq 10, 3) := by decide +kernel
theorem dX10_find_21 : decode cX10_find 21 = .ok (.iload_n 3, 1) := by decide +kernel
theorem dX10_find_22 : decode cX10_find 22 = .ok (.invokestatic 130, 3) := by decide +kernel
theorem dX10_find_25 : decode cX10_find 25 = .ok (.ifCond .ne 9, 3) := by decide +kernel
theorem dX10_find_28 : decode cX10_find 28 = .ok (.aload_n 0, 1) := by decide +kernel
theorem dX10_find_29 : decode cX10_find 29 = .ok (.iconst (-1), 1) := by decide +kernel
theorem dX10_find_30 : decode cX10_find 30 = .ok (.invokevirtual 44, 3) := by decide +kernel
theorem dX10_find_33 : decode cX10_find 33 = .ok (.ireturn, 1) := by decide +kernel
theorem dX10_find_34 : decode cX10_find 34 = .ok (.aload_n 0, 1) := by decide +kernel
theorem dX10_find_35 : decode cX10_find 35 = .ok (.getfield 19, 3) := by decide +kernel
theorem dX10_find_38 : decode cX10_find 38 = .ok (.getfield 103, 3) := by decide +kernel
theorem dX10_find_41 : decode cX10_find 41 = .ok (.getfield 133, 3) := by decide +kernel
theorem dX10_find_44 : decode cX10_find 44 = .ok (.bipush 40, 2) := by decide +kernel
theorem dX10_find_46 : decode cX10_find 46 = .ok (.if_icmp .lt 10, 3) := by decide +kernel
theorem dX10_find_49 : decode cX10_find 49 = .ok (.aload_n 0, 1) := by decide +kernel
theorem dX10_find_50 : decode cX10_find 50 = .ok (.bipush (-3), 2) := by decide +kernel
theorem dX10_find_52 : decode cX10_find 52 = .ok (.invokevirtual 44, 3) := by decide +kernel
theorem dX10_find_55 : decode cX10_find 55 = .ok (.ireturn, 1) := by decide +kernel
theorem dX10_find_56 : decode cX10_find 56 = .ok (.aload_n 0, 1) := by decide +kernel
theorem dX10_find_57 : decode cX10_find 57 = .ok (.getfield 10, 3) := by decide +kernel
theorem dX10_find_60 : decode cX10_find 60 = .ok (.invokevirtual 134, 3) := by decide +kernel
theorem dX10_find_63 : decode cX10_find 63 = .ok (.istore 4, 2) := by decide +kernel
theorem dX10_find_65 : decode cX10_find 65 = .ok (.aload_n 0, 1) := by decide +kernel
theorem dX10_find_66 : decode cX10_find 66 = .ok (.getfield 10, 3) := by decide +kernel
theorem dX10_find_69 : decode cX10_find 69 = .ok (.invokevirtual 92, 3) := by decide +kernel
theorem dX10_find_72 : decode cX10_find 72 = .ok (.lstore 5, 2) := by decide +kernel
theorem dX10_find_74 : decode cX10_find 74 = .ok (.iload 4, 2) := by decide +kernel
theorem dX10_find_76 : decode cX10_find 76 = .ok (.ifCond .eq 21, 3) := by decide +kernel
theorem dX10_find_79 : decode cX10_find 79 = .ok (.aload_n 0, 1) := by decide +kernel
theorem dX10_find_80 : decode cX10_find 80 = .ok (.getfield 19, 3) := by decide +kernel
theorem dX10_find_83 : decode cX10_find 83 = .ok (.getfield 103, 3) := by decide +kernel
theorem dX10_find_86 : decode cX10_find 86 = .ok (.lload 5, 2) := by decide +kernel
theorem dX10_find_88 : decode cX10_find 88 = .ok (.iload_n 1, 1) := by decide +kernel
theorem dX10_find_89 : decode cX10_find 89 = .ok (.iload_n 2, 1) := by decide +kernel
theorem dX10_find_90 : decode cX10_find 90 = .ok (.iload_n 3, 1) := by decide +kernel
theorem dX10_find_91 : decode cX10_find 91 = .ok (.invokevirtual 137, 3) := by decide +kernel
theorem dX10_find_94 : decode cX10_find 94 = .ok (.goto 9, 3) := by decide +kernel
theorem dX10_find_97 : decode cX10_find 97 = .ok (.aload_n 0, 1) := by decide +kernel
theorem dX10_find_98 : decode cX10_find 98 = .ok (.bipush (-7), 2) := by decide +kernel
theorem dX10_find_100 : decode cX10_find 100 = .ok (.invokevirtual 44, 3) := by decide +kernel
theorem dX10_find_103 : decode cX10_find 103 = .ok (.ireturn, 1) := by decide +kernel
set_option maxRecDepth 20000 in
theorem ggX10_goes_X1_isOne : GoodIn wsX10_goes wsX1_isOne := goodIn_r _ [5, 6, 44, 45, 46, 47, 48] (by decide +kernel) (by decide +kernel)
set_option maxRecDepth 20000 in
theorem gX10_goes_X1_isOne_n107 : GoodIn wsX10_goes (wsX1_isOne) := ggX10_goes_X1_isOne
set_option maxRecDepth 20000 in
theorem ggX10_goes_X10_finding : GoodIn wsX10_goes wsX10_finding := goodIn_r _ [11, 12, 29, 30, 31, 32, 33, 34, 35] (by decide +kernel) (by decide +kernel)
set_option maxRecDepth 20000 in
theorem gX10_goes_X10_finding : GoodIn wsX10_goes (wsV RX10 44 RX10 yX10_finding wsX10_finding) := goodIn_app (goodIn_of _ (by decide +kernel)) ggX10_goes_X10_finding
set_option maxRecDepth 20000 in
theorem ggX10_goes_X0_goalOf : GoodIn wsX10_goes wsX0_goalOf := goodIn_r _ [16, 17, 18, 19, 20, 14, 21, 22, 23, 24, 25, 26, 27, 10, 28, 36, 37, 38, 39, 40, 41, 42, 43, 49, 50, 51, 52, 44, 45, 46, 47, 48] (by decide +kernel) (by decide +kernel)
set_option maxRecDepth 20000 in
theorem gX10_goes_X0_goalOf_n140 : GoodIn wsX10_goes (wsX0_goalOf) := ggX10_goes_X0_goalOf
theorem dX10_goes_0 : decode cX10_goes 0 = .ok (.aload_n 0, 1) := by decide +kernel
theorem dX10_goes_1 : decode cX10_goes 1 = .ok (.getfield 19, 3) := by decide +kernel
theorem dX10_goes_4 : decode cX10_goes 4 = .ok (.getfield 103, 3) := by decide +kernel
theorem dX10_goes_7 : decode cX10_goes 7 = .ok (.iload_n 1, 1) := by decide +kernel
theorem dX10_goes_8 : decode cX10_goes 8 = .ok (.invokevirtual 107, 3) := by decide +kernel
theorem dX10_goes_11 : decode cX10_goes 11 = .ok (.ifCond .ne 9, 3) := by decide +kernel
theorem dX10_goes_14 : decode cX10_goes 14 = .ok (.aload_n 0, 1) := by decide +kernel
theorem dX10_goes_15 : decode cX10_goes 15 = .ok (.iconst (-1), 1) := by decide +kernel
theorem dX10_goes_16 : decode cX10_goes 16 = .ok (.invokevirtual 44, 3) := by decide +kernel
theorem dX10_goes_19 : decode cX10_goes 19 = .ok (.ireturn, 1) := by decide +kernel
theorem dX10_goes_20 : decode cX10_goes 20 = .ok (.aload_n 0, 1) := by decide +kernel
theorem dX10_goes_21 : decode cX10_goes 21 = .ok (.getfield 19, 3) := by decide +kernel
theorem dX10_goes_24 : decode cX10_goes 24 = .ok (.iload_n 1, 1) := by decide +kernel
theorem dX10_goes_25 : decode cX10_goes 25 = .ok (.invokevirtual 140, 3) := by decide +kernel
theorem dX10_goes_28 : decode cX10_goes 28 = .ok (.istore_n 2, 1) := by decide +kernel
theorem dX10_goes_29 : decode cX10_goes 29 = .ok (.iload_n 2, 1) := by decide +kernel
theorem dX10_goes_30 : decode cX10_goes 30 = .ok (.ifCond .ge 11, 3) := by decide +kernel
theorem dX10_goes_33 : decode cX10_goes 33 = .ok (.aload_n 0, 1) := by decide +kernel
theorem dX10_goes_34 : decode cX10_goes 34 = .ok (.iload_n 2, 1) := by decide +kernel
theorem dX10_goes_35 : decode cX10_goes 35 = .ok (.invokevirtual 44, 3) := by decide +kernel
theorem dX10_goes_38 : decode cX10_goes 38 = .ok (.goto 4, 3) := by decide +kernel
theorem dX10_goes_41 : decode cX10_goes 41 = .ok (.iload_n 2, 1) := by decide +kernel
theorem dX10_goes_42 : decode cX10_goes 42 = .ok (.ireturn, 1) := by decide +kernel
set_option maxRecDepth 20000 in
theorem ggX10_by_X1_isOne : GoodIn wsX10_by wsX1_isOne := goodIn_r _ [5, 6, 40, 41, 42, 43, 44] (by decide +kernel) (by decide +kernel)
set_option maxRecDepth 20000 in
theorem gX10_by_X1_isOne_n107 : GoodIn wsX10_by (wsX1_isOne) := ggX10_by_X1_isOne
set_option maxRecDepth 20000 in
theorem ggX10_by_X10_finding : GoodIn wsX10_by wsX10_finding := goodIn_r _ [11, 12, 25, 26, 27, 28, 29, 30, 31] (by decide +kernel) (by decide +kernel)
set_option maxRecDepth 20000 in
theorem gX10_by_X10_finding : GoodIn wsX10_by (wsV RX10 44 RX10 yX10_finding wsX10_finding) := goodIn_app (goodIn_of _ (by decide +kernel)) ggX10_by_X10_finding
set_option maxRecDepth 20000 in
theorem ggX10_by_X0_firstRuleOf : GoodIn wsX10_by wsX0_firstRuleOf := goodIn_r _ [16, 17, 18, 19, 20, 14, 21, 22, 23, 10, 24, 32, 33, 34, 35, 36, 37, 38, 39, 45, 46, 47, 48, 40, 41, 42, 43, 44] (by decide +kernel) (by decide +kernel)
set_option maxRecDepth 20000 in
theorem gX10_by_X0_firstRuleOf_n143 : GoodIn wsX10_by (wsX0_firstRuleOf) := ggX10_by_X0_firstRuleOf
theorem dX10_by_0 : decode cX10_by 0 = .ok (.aload_n 0, 1) := by decide +kernel
theorem dX10_by_1 : decode cX10_by 1 = .ok (.getfield 19, 3) := by decide +kernel
theorem dX10_by_4 : decode cX10_by 4 = .ok (.getfield 103, 3) := by decide +kernel
theorem dX10_by_7 : decode cX10_by 7 = .ok (.iload_n 1, 1) := by decide +kernel
theorem dX10_by_8 : decode cX10_by 8 = .ok (.invokevirtual 107, 3) := by decide +kernel
theorem dX10_by_11 : decode cX10_by 11 = .ok (.ifCond .ne 9, 3) := by decide +kernel
theorem dX10_by_14 : decode cX10_by 14 = .ok (.aload_n 0, 1) := by decide +kernel
theorem dX10_by_15 : decode cX10_by 15 = .ok (.iconst (-1), 1) := by decide +kernel
theorem dX10_by_16 : decode cX10_by 16 = .ok (.invokevirtual 44, 3) := by decide +kernel
theorem dX10_by_19 : decode cX10_by 19 = .ok (.ireturn, 1) := by decide +kernel
theorem dX10_by_20 : decode cX10_by 20 = .ok (.aload_n 0, 1) := by decide +kernel
theorem dX10_by_21 : decode cX10_by 21 = .ok (.getfield 19, 3) := by decide +kernel
theorem dX10_by_24 : decode cX10_by 24 = .ok (.iload_n 1, 1) := by decide +kernel
theorem dX10_by_25 : decode cX10_by 25 = .ok (.invokevirtual 143, 3) := by decide +kernel
theorem dX10_by_28 : decode cX10_by 28 = .ok (.istore_n 2, 1) := by decide +kernel
theorem dX10_by_29 : decode cX10_by 29 = .ok (.iload_n 2, 1) := by decide +kernel
theorem dX10_by_30 : decode cX10_by 30 = .ok (.ifCond .ge 11, 3) := by decide +kernel
theorem dX10_by_33 : decode cX10_by 33 = .ok (.aload_n 0, 1) := by decide +kernel
theorem dX10_by_34 : decode cX10_by 34 = .ok (.iload_n 2, 1) := by decide +kernel
theorem dX10_by_35 : decode cX10_by 35 = .ok (.invokevirtual 44, 3) := by decide +kernel
theorem dX10_by_38 : decode cX10_by 38 = .ok (.goto 4, 3) := by decide +kernel
theorem dX10_by_41 : decode cX10_by 41 = .ok (.iload_n 2, 1) := by decide +kernel
theorem dX10_by_42 : decode cX10_by 42 = .ok (.ireturn, 1) := by decide +kernel
set_option maxRecDepth 20000 in
theorem ggX10_counts_X1_isOne : GoodIn wsX10_counts wsX1_isOne := goodIn_r _ [5, 6, 56, 57, 58, 59, 60] (by decide +kernel) (by decide +kernel)
set_option maxRecDepth 20000 in
theorem gX10_counts_X1_isOne_n107 : GoodIn wsX10_counts (wsX1_isOne) := ggX10_counts_X1_isOne
set_option maxRecDepth 20000 in
theorem ggX10_counts_X10_finding : GoodIn wsX10_counts wsX10_finding := goodIn_r _ [11, 12, 41, 42, 43, 44, 45, 46, 47] (by decide +kernel) (by decide +kernel)
set_option maxRecDepth 20000 in
theorem gX10_counts_X10_finding : GoodIn wsX10_counts (wsV RX10 44 RX10 yX10_finding wsX10_finding) := goodIn_app (goodIn_of _ (by decide +kernel)) ggX10_counts_X10_finding
set_option maxRecDepth 20000 in
theorem ggX10_counts_X0_isCounted : GoodIn wsX10_counts wsX0_isCounted := goodIn_r _ [16, 17, 18, 19, 14, 20, 21, 22, 23, 24, 10, 25, 26, 27, 28, 29, 30, 31, 32, 33, 34, 35, 36, 37, 38, 39, 40, 48, 49, 50, 51, 52, 53, 54, 55, 56, 57, 58, 59, 60, 61, 62, 63, 64] (by decide +kernel) (by decide +kernel)
set_option maxRecDepth 20000 in
theorem gX10_counts_X0_isCounted_n146 : GoodIn wsX10_counts (wsX0_isCounted) := ggX10_counts_X0_isCounted
theorem dX10_counts_0 : decode cX10_counts 0 = .ok (.aload_n 0, 1) := by decide +kernel
theorem dX10_counts_1 : decode cX10_counts 1 = .ok (.getfield 19, 3) := by decide +kernel
theorem dX10_counts_4 : decode cX10_counts 4 = .ok (.getfield 103, 3) := by decide +kernel
theorem dX10_counts_7 : decode cX10_counts 7 = .ok (.iload_n 1, 1) := by decide +kernel
theorem dX10_counts_8 : decode cX10_counts 8 = .ok (.invokevirtual 107, 3) := by decide +kernel
theorem dX10_counts_11 : decode cX10_counts 11 = .ok (.ifCond .ne 9, 3) := by decide +kernel
theorem dX10_counts_14 : decode cX10_counts 14 = .ok (.aload_n 0, 1) := by decide +kernel
theorem dX10_counts_15 : decode cX10_counts 15 = .ok (.iconst (-1), 1) := by decide +kernel
theorem dX10_counts_16 : decode cX10_counts 16 = .ok (.invokevirtual 44, 3) := by decide +kernel
theorem dX10_counts_19 : decode cX10_counts 19 = .ok (.ireturn, 1) := by decide +kernel
theorem dX10_counts_20 : decode cX10_counts 20 = .ok (.aload_n 0, 1) := by decide +kernel
theorem dX10_counts_21 : decode cX10_counts 21 = .ok (.getfield 19, 3) := by decide +kernel
theorem dX10_counts_24 : decode cX10_counts 24 = .ok (.iload_n 1, 1) := by decide +kernel
theorem dX10_counts_25 : decode cX10_counts 25 = .ok (.invokevirtual 146, 3) := by decide +kernel
theorem dX10_counts_28 : decode cX10_counts 28 = .ok (.ifCond .eq 7, 3) := by decide +kernel
theorem dX10_counts_31 : decode cX10_counts 31 = .ok (.iconst 1, 1) := by decide +kernel
theorem dX10_counts_32 : decode cX10_counts 32 = .ok (.goto 4, 3) := by decide +kernel
theorem dX10_counts_35 : decode cX10_counts 35 = .ok (.iconst 0, 1) := by decide +kernel
theorem dX10_counts_36 : decode cX10_counts 36 = .ok (.ireturn, 1) := by decide +kernel
set_option maxRecDepth 20000 in
theorem ggX10_finds_X10_isWithin : GoodIn wsX10_finds wsX10_isWithin := goodIn_r _ [5] (by decide +kernel) (by decide +kernel)
set_option maxRecDepth 20000 in
theorem gX10_finds_X10_isWithin : GoodIn wsX10_finds (va_wsS RX10 40 yX10_isWithin wsX10_isWithin) := goodIn_app (goodIn_of _ (by decide +kernel)) ggX10_finds_X10_isWithin
set_option maxRecDepth 20000 in
theorem ggX10_finds_X10_finding : GoodIn wsX10_finds wsX10_finding := goodIn_r _ [9, 10, 41, 42, 43, 44, 45, 46, 47] (by decide +kernel) (by decide +kernel)
set_option maxRecDepth 20000 in
theorem gX10_finds_X10_finding : GoodIn wsX10_finds (wsV RX10 44 RX10 yX10_finding wsX10_finding) := goodIn_app (goodIn_of _ (by decide +kernel)) ggX10_finds_X10_finding
set_option maxRecDepth 20000 in
theorem ggX10_finds_X0_isOfSort : GoodIn wsX10_finds wsX0_isOfSort := goodIn_r _ [14, 15, 16, 17, 12, 18, 19, 20, 21, 22, 23, 24, 25, 26, 27, 28, 29, 4, 30, 31, 32, 33, 34, 35, 36, 37, 38, 39, 40, 3, 5, 48, 49, 50, 51, 52, 53, 54, 55, 61, 62, 63, 64, 56, 57, 58, 59, 60] (by decide +kernel) (by decide +kernel)
set_option maxRecDepth 20000 in
theorem gX10_finds_X0_isOfSort_n149 : GoodIn wsX10_finds (wsX0_isOfSort) := ggX10_finds_X0_isOfSort
theorem dX10_finds_0 : decode cX10_finds 0 = .ok (.iload_n 1, 1) := by decide +kernel
theorem dX10_finds_1 : decode cX10_finds 1 = .ok (.iconst 0, 1) := by decide +kernel
theorem dX10_finds_2 : decode cX10_finds 2 = .ok (.iconst 3, 1) := by decide +kernel
theorem dX10_finds_3 : decode cX10_finds 3 = .ok (.invokestatic 40, 3) := by decide +kernel
theorem dX10_finds_6 : decode cX10_finds 6 = .ok (.ifCond .ne 9, 3) := by decide +kernel
theorem dX10_finds_9 : decode cX10_finds 9 = .ok (.aload_n 0, 1) := by decide +kernel
theorem dX10_finds_10 : decode cX10_finds 10 = .ok (.iconst (-1), 1) := by decide +kernel
theorem dX10_finds_11 : decode cX10_finds 11 = .ok (.invokevirtual 44, 3) := by decide +kernel
theorem dX10_finds_14 : decode cX10_finds 14 = .ok (.ireturn, 1) := by decide +kernel
theorem dX10_finds_15 : decode cX10_finds 15 = .ok (.iconst 0, 1) := by decide +kernel
theorem dX10_finds_16 : decode cX10_finds 16 = .ok (.istore_n 2, 1) := by decide +kernel
theorem dX10_finds_17 : decode cX10_finds 17 = .ok (.iconst 0, 1) := by decide +kernel
theorem dX10_finds_18 : decode cX10_finds 18 = .ok (.istore_n 3, 1) := by decide +kernel
theorem dX10_finds_19 : decode cX10_finds 19 = .ok (.iload_n 3, 1) := by decide +kernel
theorem dX10_finds_20 : decode cX10_finds 20 = .ok (.aload_n 0, 1) := by decide +kernel
theorem dX10_finds_21 : decode cX10_finds 21 = .ok (.getfield 19, 3) := by decide +kernel
theorem dX10_finds_24 : decode cX10_finds 24 = .ok (.getfield 103, 3) := by decide +kernel
theorem dX10_finds_27 : decode cX10_finds 27 = .ok (.getfield 133, 3) := by decide +kernel
theorem dX10_finds_30 : decode cX10_finds 30 = .ok (.if_icmp .ge 24, 3) := by decide +kernel
theorem dX10_finds_33 : decode cX10_finds 33 = .ok (.aload_n 0, 1) := by decide +kernel
theorem dX10_finds_34 : decode cX10_finds 34 = .ok (.getfield 19, 3) := by decide +kernel
theorem dX10_finds_37 : decode cX10_finds 37 = .ok (.iload_n 3, 1) := by decide +kernel
theorem dX10_finds_38 : decode cX10_finds 38 = .ok (.iload_n 1, 1) := by decide +kernel
theorem dX10_finds_39 : decode cX10_finds 39 = .ok (.invokevirtual 149, 3) := by decide +kernel
theorem dX10_finds_42 : decode cX10_finds 42 = .ok (.ifCond .eq 6, 3) := by decide +kernel
theorem dX10_finds_45 : decode cX10_finds 45 = .ok (.iinc 2 1, 3) := by decide +kernel
theorem dX10_finds_48 : decode cX10_finds 48 = .ok (.iinc 3 1, 3) := by decide +kernel
theorem dX10_finds_51 : decode cX10_finds 51 = .ok (.goto (-32), 3) := by decide +kernel
theorem dX10_finds_54 : decode cX10_finds 54 = .ok (.iload_n 2, 1) := by decide +kernel
theorem dX10_finds_55 : decode cX10_finds 55 = .ok (.ireturn, 1) := by decide +kernel
set_option maxRecDepth 20000 in
theorem ggX10_drop_X1_isOne : GoodIn wsX10_drop wsX1_isOne := goodIn_r _ [5, 6, 35, 36, 37, 38, 39] (by decide +kernel) (by decide +kernel)
set_option maxRecDepth 20000 in
theorem gX10_drop_X1_isOne_n107 : GoodIn wsX10_drop (wsX1_isOne) := ggX10_drop_X1_isOne
set_option maxRecDepth 20000 in
theorem ggX10_drop_X10_finding : GoodIn wsX10_drop wsX10_finding := goodIn_r _ [11, 12, 20, 21, 22, 23, 24, 25, 26] (by decide +kernel) (by decide +kernel)
set_option maxRecDepth 20000 in
theorem gX10_drop_X10_finding : GoodIn wsX10_drop (wsV RX10 44 RX10 yX10_finding wsX10_finding) := goodIn_app (goodIn_of _ (by decide +kernel)) ggX10_drop_X10_finding
set_option maxRecDepth 20000 in
theorem ggX10_drop_X1_remove : GoodIn wsX10_drop wsX1_remove := goodIn_r _ [15, 6, 16, 17, 18, 19, 35, 36, 37, 38, 39] (by decide +kernel) (by decide +kernel)
set_option maxRecDepth 20000 in
theorem gX10_drop_X1_remove_n152 : GoodIn wsX10_drop (wsX1_remove) := ggX10_drop_X1_remove
theorem dX10_drop_0 : decode cX10_drop 0 = .ok (.aload_n 0, 1) := by decide +kernel
theorem dX10_drop_1 : decode cX10_drop 1 = .ok (.getfield 19, 3) := by decide +kernel
theorem dX10_drop_4 : decode cX10_drop 4 = .ok (.getfield 103, 3) := by decide +kernel
theorem dX10_drop_7 : decode cX10_drop 7 = .ok (.iload_n 1, 1) := by decide +kernel
theorem dX10_drop_8 : decode cX10_drop 8 = .ok (.invokevirtual 107, 3) := by decide +kernel
theorem dX10_drop_11 : decode cX10_drop 11 = .ok (.ifCond .ne 9, 3) := by decide +kernel
theorem dX10_drop_14 : decode cX10_drop 14 = .ok (.aload_n 0, 1) := by decide +kernel
theorem dX10_drop_15 : decode cX10_drop 15 = .ok (.iconst (-1), 1) := by decide +kernel
theorem dX10_drop_16 : decode cX10_drop 16 = .ok (.invokevirtual 44, 3) := by decide +kernel
theorem dX10_drop_19 : decode cX10_drop 19 = .ok (.ireturn, 1) := by decide +kernel
theorem dX10_drop_20 : decode cX10_drop 20 = .ok (.aload_n 0, 1) := by decide +kernel
theorem dX10_drop_21 : decode cX10_drop 21 = .ok (.getfield 19, 3) := by decide +kernel
theorem dX10_drop_24 : decode cX10_drop 24 = .ok (.getfield 103, 3) := by decide +kernel
theorem dX10_drop_27 : decode cX10_drop 27 = .ok (.iload_n 1, 1) := by decide +kernel
theorem dX10_drop_28 : decode cX10_drop 28 = .ok (.invokevirtual 152, 3) := by decide +kernel
theorem dX10_drop_31 : decode cX10_drop 31 = .ok (.aload_n 0, 1) := by decide +kernel
theorem dX10_drop_32 : decode cX10_drop 32 = .ok (.getfield 19, 3) := by decide +kernel
theorem dX10_drop_35 : decode cX10_drop 35 = .ok (.getfield 103, 3) := by decide +kernel
theorem dX10_drop_38 : decode cX10_drop 38 = .ok (.getfield 133, 3) := by decide +kernel
theorem dX10_drop_41 : decode cX10_drop 41 = .ok (.ireturn, 1) := by decide +kernel
set_option maxRecDepth 20000 in
theorem ggX10_today_X10_isDay : GoodIn wsX10_today wsX10_isDay := goodIn_r _ [5, 6, 7, 4, 8] (by decide +kernel) (by decide +kernel)
set_option maxRecDepth 20000 in
theorem gX10_today_X10_isDay : GoodIn wsX10_today (va_wsS RX10 127 yX10_isDay wsX10_isDay) := goodIn_app (goodIn_of _ (by decide +kernel)) ggX10_today_X10_isDay
set_option maxRecDepth 20000 in
theorem ggX10_today_X10_finding : GoodIn wsX10_today wsX10_finding := goodIn_r _ [12, 13, 14, 15, 16, 17, 18, 19, 20] (by decide +kernel) (by decide +kernel)
set_option maxRecDepth 20000 in
theorem gX10_today_X10_finding : GoodIn wsX10_today (wsV RX10 44 RX10 yX10_finding wsX10_finding) := goodIn_app (goodIn_of _ (by decide +kernel)) ggX10_today_X10_finding
theorem dX10_today_0 : decode cX10_today 0 = .ok (.iload_n 1, 1) := by decide +kernel
theorem dX10_today_1 : decode cX10_today 1 = .ok (.invokestatic 127, 3) := by decide +kernel
theorem dX10_today_4 : decode cX10_today 4 = .ok (.ifCond .ne 9, 3) := by decide +kernel
theorem dX10_today_7 : decode cX10_today 7 = .ok (.aload_n 0, 1) := by decide +kernel
theorem dX10_today_8 : decode cX10_today 8 = .ok (.iconst (-1), 1) := by decide +kernel
theorem dX10_today_9 : decode cX10_today 9 = .ok (.invokevirtual 44, 3) := by decide +kernel
theorem dX10_today_12 : decode cX10_today 12 = .ok (.ireturn, 1) := by decide +kernel
theorem dX10_today_13 : decode cX10_today 13 = .ok (.aload_n 0, 1) := by decide +kernel
theorem dX10_today_14 : decode cX10_today 14 = .ok (.getfield 19, 3) := by decide +kernel
theorem dX10_today_17 : decode cX10_today 17 = .ok (.getfield 153, 3) := by decide +kernel
theorem dX10_today_20 : decode cX10_today 20 = .ok (.istore_n 2, 1) := by decide +kernel
theorem dX10_today_21 : decode cX10_today 21 = .ok (.aload_n 0, 1) := by decide +kernel
theorem dX10_today_22 : decode cX10_today 22 = .ok (.getfield 19, 3) := by decide +kernel
theorem dX10_today_25 : decode cX10_today 25 = .ok (.iload_n 1, 1) := by decide +kernel
theorem dX10_today_26 : decode cX10_today 26 = .ok (.putfield 153, 3) := by decide +kernel
theorem dX10_today_29 : decode cX10_today 29 = .ok (.iload_n 2, 1) := by decide +kernel
theorem dX10_today_30 : decode cX10_today 30 = .ok (.ireturn, 1) := by decide +kernel
set_option maxRecDepth 20000 in
theorem ggX10_kept_X10_isWithin : GoodIn wsX10_kept wsX10_isWithin := goodIn_r _ [5] (by decide +kernel) (by decide +kernel)
set_option maxRecDepth 20000 in
theorem gX10_kept_X10_isWithin : GoodIn wsX10_kept (va_wsS RX10 40 yX10_isWithin wsX10_isWithin) := goodIn_app (goodIn_of _ (by decide +kernel)) ggX10_kept_X10_isWithin
set_option maxRecDepth 20000 in
theorem ggX10_kept_X10_finding : GoodIn wsX10_kept wsX10_finding := goodIn_r _ [9, 10, 11, 12, 13, 14, 15, 16, 17] (by decide +kernel) (by decide +kernel)
set_option maxRecDepth 20000 in
theorem gX10_kept_X10_finding : GoodIn wsX10_kept (wsV RX10 44 RX10 yX10_finding wsX10_finding) := goodIn_app (goodIn_of _ (by decide +kernel)) ggX10_kept_X10_finding
theorem dX10_kept_0 : decode cX10_kept 0 = .ok (.iload_n 1, 1) := by decide +kernel
theorem dX10_kept_1 : decode cX10_kept 1 = .ok (.iconst 0, 1) := by decide +kernel
theorem dX10_kept_2 : decode cX10_kept 2 = .ok (.sipush 999, 3) := by decide +kernel
theorem dX10_kept_5 : decode cX10_kept 5 = .ok (.invokestatic 40, 3) := by decide +kernel
theorem dX10_kept_8 : decode cX10_kept 8 = .ok (.ifCond .ne 9, 3) := by decide +kernel
theorem dX10_kept_11 : decode cX10_kept 11 = .ok (.aload_n 0, 1) := by decide +kernel
theorem dX10_kept_12 : decode cX10_kept 12 = .ok (.iconst (-1), 1) := by decide +kernel
theorem dX10_kept_13 : decode cX10_kept 13 = .ok (.invokevirtual 44, 3) := by decide +kernel
theorem dX10_kept_16 : decode cX10_kept 16 = .ok (.ireturn, 1) := by decide +kernel
theorem dX10_kept_17 : decode cX10_kept 17 = .ok (.aload_n 0, 1) := by decide +kernel
theorem dX10_kept_18 : decode cX10_kept 18 = .ok (.getfield 19, 3) := by decide +kernel
theorem dX10_kept_21 : decode cX10_kept 21 = .ok (.getfield 156, 3) := by decide +kernel
theorem dX10_kept_24 : decode cX10_kept 24 = .ok (.istore_n 2, 1) := by decide +kernel
theorem dX10_kept_25 : decode cX10_kept 25 = .ok (.aload_n 0, 1) := by decide +kernel
theorem dX10_kept_26 : decode cX10_kept 26 = .ok (.getfield 19, 3) := by decide +kernel
theorem dX10_kept_29 : decode cX10_kept 29 = .ok (.iload_n 1, 1) := by decide +kernel
theorem dX10_kept_30 : decode cX10_kept 30 = .ok (.putfield 156, 3) := by decide +kernel
theorem dX10_kept_33 : decode cX10_kept 33 = .ok (.iload_n 2, 1) := by decide +kernel
theorem dX10_kept_34 : decode cX10_kept 34 = .ok (.ireturn, 1) := by decide +kernel
set_option maxRecDepth 20000 in
theorem ggX10_has_X3_isOne : GoodIn wsX10_has wsX3_isOne := goodIn_r _ [6, 7, 106, 107, 108] (by decide +kernel) (by decide +kernel)
set_option maxRecDepth 20000 in
theorem gX10_has_X3_isOne_n123 : GoodIn wsX10_has (wsX3_isOne) := ggX10_has_X3_isOne
set_option maxRecDepth 20000 in
theorem ggX10_has_X6_isOne : GoodIn wsX10_has wsX6_isOne := goodIn_r _ [11, 12, 109, 110, 111, 112] (by decide +kernel) (by decide +kernel)
set_option maxRecDepth 20000 in
theorem gX10_has_X6_isOne_n74 : GoodIn wsX10_has (wsX6_isOne) := ggX10_has_X6_isOne
set_option maxRecDepth 20000 in
theorem ggX10_has_X10_finding : GoodIn wsX10_has wsX10_finding := goodIn_r _ [17, 18, 91, 92, 93, 94, 95, 96, 97] (by decide +kernel) (by decide +kernel)
set_option maxRecDepth 20000 in
theorem gX10_has_X10_finding : GoodIn wsX10_has (wsV RX10 44 RX10 yX10_finding wsX10_finding) := goodIn_app (goodIn_of _ (by decide +kernel)) ggX10_has_X10_finding
set_option maxRecDepth 20000 in
theorem ggX10_has_X2_fill : GoodIn wsX10_has wsX2_fill := goodIn_r _ [22, 23, 24, 25, 26, 27, 28, 29, 30, 31, 32, 33, 34, 35, 16, 36, 37, 38, 39, 40, 41, 42, 43, 44, 45, 46, 47, 48, 49, 50, 51, 52, 53, 20, 54, 55, 56, 57, 58, 59, 60, 61, 62, 63, 64, 65, 66, 9, 67, 68, 69, 70, 71, 72, 73, 74, 75, 76, 77, 78, 79, 80, 81, 82, 83, 84, 85, 86, 87, 88, 89, 90, 113, 98, 99, 100, 101, 102, 103, 104, 105, 114, 115, 116, 117, 118, 106, 107, 108, 119, 120, 121, 122, 109, 110, 111, 112] (by decide +kernel) (by decide +kernel)
set_option maxRecDepth 20000 in
theorem gX10_has_X2_fill_n159 : GoodIn wsX10_has (wsX2_fill) := ggX10_has_X2_fill
set_option maxRecDepth 20000 in
theorem ggX10_has_X2_versionAt : GoodIn wsX10_has wsX2_versionAt := goodIn_r _ [83, 23, 59, 60, 20, 61, 113] (by decide +kernel) (by decide +kernel)
set_option maxRecDepth 20000 in
theorem gX10_has_X2_versionAt_n163 : GoodIn wsX10_has (wsX2_versionAt) := ggX10_has_X2_versionAt
theorem dX10_has_0 : decode cX10_has 0 = .ok (.aload_n 0, 1) := by decide +kernel
theorem dX10_has_1 : decode cX10_has 1 = .ok (.getfield 19, 3) := by decide +kernel
theorem dX10_has_4 : decode cX10_has 4 = .ok (.getfield 113, 3) := by decide +kernel
theorem dX10_has_7 : decode cX10_has 7 = .ok (.iload_n 1, 1) := by decide +kernel
theorem dX10_has_8 : decode cX10_has 8 = .ok (.invokevirtual 123, 3) := by decide +kernel
theorem dX10_has_11 : decode cX10_has 11 = .ok (.ifCond .eq 17, 3) := by decide +kernel
theorem dX10_has_14 : decode cX10_has 14 = .ok (.aload_n 0, 1) := by decide +kernel
theorem dX10_has_15 : decode cX10_has 15 = .ok (.getfield 19, 3) := by decide +kernel
theorem dX10_has_18 : decode cX10_has 18 = .ok (.getfield 64, 3) := by decide +kernel
theorem dX10_has_21 : decode cX10_has 21 = .ok (.iload_n 2, 1) := by decide +kernel
theorem dX10_has_22 : decode cX10_has 22 = .ok (.invokevirtual 74, 3) := by decide +kernel
theorem dX10_has_25 : decode cX10_has 25 = .ok (.ifCond .ne 9, 3) := by decide +kernel
theorem dX10_has_28 : decode cX10_has 28 = .ok (.aload_n 0, 1) := by decide +kernel
theorem dX10_has_29 : decode cX10_has 29 = .ok (.iconst (-1), 1) := by decide +kernel
theorem dX10_has_30 : decode cX10_has 30 = .ok (.invokevirtual 44, 3) := by decide +kernel
theorem dX10_has_33 : decode cX10_has 33 = .ok (.ireturn, 1) := by decide +kernel
theorem dX10_has_34 : decode cX10_has 34 = .ok (.aload_n 0, 1) := by decide +kernel
theorem dX10_has_35 : decode cX10_has 35 = .ok (.getfield 29, 3) := by decide +kernel
theorem dX10_has_38 : decode cX10_has 38 = .ok (.aload_n 0, 1) := by decide +kernel
theorem dX10_has_39 : decode cX10_has 39 = .ok (.getfield 19, 3) := by decide +kernel
theorem dX10_has_42 : decode cX10_has 42 = .ok (.invokevirtual 159, 3) := by decide +kernel
theorem dX10_has_45 : decode cX10_has 45 = .ok (.aload_n 0, 1) := by decide +kernel
theorem dX10_has_46 : decode cX10_has 46 = .ok (.getfield 29, 3) := by decide +kernel
theorem dX10_has_49 : decode cX10_has 49 = .ok (.iload_n 1, 1) := by decide +kernel
theorem dX10_has_50 : decode cX10_has 50 = .ok (.iload_n 2, 1) := by decide +kernel
theorem dX10_has_51 : decode cX10_has 51 = .ok (.invokevirtual 163, 3) := by decide +kernel
theorem dX10_has_54 : decode cX10_has 54 = .ok (.istore_n 3, 1) := by decide +kernel
theorem dX10_has_55 : decode cX10_has 55 = .ok (.iload_n 3, 1) := by decide +kernel
theorem dX10_has_56 : decode cX10_has 56 = .ok (.ifCond .ne 12, 3) := by decide +kernel
theorem dX10_has_59 : decode cX10_has 59 = .ok (.aload_n 0, 1) := by decide +kernel
theorem dX10_has_60 : decode cX10_has 60 = .ok (.bipush (-2), 2) := by decide +kernel
theorem dX10_has_62 : decode cX10_has 62 = .ok (.invokevirtual 44, 3) := by decide +kernel
theorem dX10_has_65 : decode cX10_has 65 = .ok (.goto 4, 3) := by decide +kernel
theorem dX10_has_68 : decode cX10_has 68 = .ok (.iload_n 3, 1) := by decide +kernel
theorem dX10_has_69 : decode cX10_has 69 = .ok (.ireturn, 1) := by decide +kernel
set_option maxRecDepth 20000 in
theorem ggX10_measure_X6_isOne : GoodIn wsX10_measure wsX6_isOne := goodIn_r _ [6, 7, 134, 135, 136, 137] (by decide +kernel) (by decide +kernel)
set_option maxRecDepth 20000 in
theorem gX10_measure_X6_isOne_n74 : GoodIn wsX10_measure (wsX6_isOne) := ggX10_measure_X6_isOne
set_option maxRecDepth 20000 in
theorem ggX10_measure_X10_isMeasure : GoodIn wsX10_measure wsX10_isMeasure := goodIn_r _ [11, 12, 13, 10, 14] (by decide +kernel) (by decide +kernel)
set_option maxRecDepth 20000 in
theorem gX10_measure_X10_isMeasure : GoodIn wsX10_measure (va_wsS RX10 166 yX10_isMeasure wsX10_isMeasure) := goodIn_app (goodIn_of _ (by decide +kernel)) ggX10_measure_X10_isMeasure
set_option maxRecDepth 20000 in
theorem ggX10_measure_X10_finding : GoodIn wsX10_measure wsX10_finding := goodIn_r _ [18, 19, 119, 120, 121, 122, 123, 124, 125] (by decide +kernel) (by decide +kernel)
set_option maxRecDepth 20000 in
theorem gX10_measure_X10_finding : GoodIn wsX10_measure (wsV RX10 44 RX10 yX10_finding wsX10_finding) := goodIn_app (goodIn_of _ (by decide +kernel)) ggX10_measure_X10_finding
set_option maxRecDepth 20000 in
theorem ggX10_measure_X2_fill : GoodIn wsX10_measure wsX2_fill := goodIn_r _ [23, 24, 25, 26, 27, 28, 29, 30, 31, 32, 33, 34, 35, 13, 10, 14, 36, 37, 38, 39, 40, 41, 42, 43, 44, 45, 46, 47, 48, 49, 50, 51, 52, 21, 53, 54, 55, 56, 57, 58, 59, 60, 61, 62, 63, 64, 65, 4, 66, 67, 68, 69, 70, 71, 72, 73, 74, 75, 76, 77, 78, 79, 80, 81, 82, 83, 84, 85, 86, 87, 88, 89, 138, 126, 127, 128, 129, 130, 131, 132, 133, 139, 140, 141, 142, 143, 144, 145, 146, 147, 148, 149, 150, 134, 135, 136, 137] (by decide +kernel) (by decide +kernel)
set_option maxRecDepth 20000 in
theorem gX10_measure_X2_fill_n159 : GoodIn wsX10_measure (wsX2_fill) := ggX10_measure_X2_fill
set_option maxRecDepth 20000 in
theorem ggX10_measure_X10_measured : GoodIn wsX10_measure wsX10_measured := goodIn_r _ [93, 2, 1, 94, 21, 95, 96, 79, 80, 81, 82, 24, 58, 59, 60, 97, 98, 99, 83, 84, 85, 86, 87, 88, 89, 100, 101, 102, 103, 104, 105, 106, 107, 108, 109, 110, 111, 112, 113, 114, 115, 116, 117, 118, 119, 120, 121, 122, 123, 124, 125, 126, 127, 128, 129, 130, 131, 132, 133, 144, 145, 146, 138, 151, 152, 153, 154, 155] (by decide +kernel) (by decide +kernel)
set_option maxRecDepth 20000 in
theorem gX10_measure_X10_measured : GoodIn wsX10_measure (wsV RX10 169 RX10 yX10_measured wsX10_measured) := goodIn_app (goodIn_of _ (by decide +kernel)) ggX10_measure_X10_measured
theorem dX10_measure_0 : decode cX10_measure 0 = .ok (.aload_n 0, 1) := by decide +kernel
theorem dX10_measure_1 : decode cX10_measure 1 = .ok (.getfield 19, 3) := by decide +kernel
theorem dX10_measure_4 : decode cX10_measure 4 = .ok (.getfield 64, 3) := by decide +kernel
theorem dX10_measure_7 : decode cX10_measure 7 = .ok (.iload_n 1, 1) := by decide +kernel
theorem dX10_measure_8 : decode cX10_measure 8 = .ok (.invokevirtual 74, 3) := by decide +kernel
theorem dX10_measure_11 : decode cX10_measure 11 = .ok (.ifCond .eq 10, 3) := by decide +kernel
theorem dX10_measure_14 : decode cX10_measure 14 = .ok (.iload_n 2, 1) := by decide +kernel
theorem dX10_measure_15 : decode cX10_measure 15 = .ok (.invokestatic 166, 3) := by decide +kernel
theorem dX10_measure_18 : decode cX10_measure 18 = .ok (.ifCond .ne 9, 3) := by decide +kernel
theorem dX10_measure_21 : decode cX10_measure 21 = .ok (.aload_n 0, 1) := by decide +kernel
theorem dX10_measure_22 : decode cX10_measure 22 = .ok (.iconst (-1), 1) := by decide +kernel
theorem dX10_measure_23 : decode cX10_measure 23 = .ok (.invokevirtual 44, 3) := by decide +kernel
theorem dX10_measure_26 : decode cX10_measure 26 = .ok (.ireturn, 1) := by decide +kernel
theorem dX10_measure_27 : decode cX10_measure 27 = .ok (.aload_n 0, 1) := by decide +kernel
theorem dX10_measure_28 : decode cX10_measure 28 = .ok (.getfield 29, 3) := by decide +kernel
theorem dX10_measure_31 : decode cX10_measure 31 = .ok (.aload_n 0, 1) := by decide +kernel
theorem dX10_measure_32 : decode cX10_measure 32 = .ok (.getfield 19, 3) := by decide +kernel
theorem dX10_measure_35 : decode cX10_measure 35 = .ok (.invokevirtual 159, 3) := by decide +kernel
theorem dX10_measure_38 : decode cX10_measure 38 = .ok (.aload_n 0, 1) := by decide +kernel
theorem dX10_measure_39 : decode cX10_measure 39 = .ok (.iload_n 1, 1) := by decide +kernel
theorem dX10_measure_40 : decode cX10_measure 40 = .ok (.iload_n 2, 1) := by decide +kernel
theorem dX10_measure_41 : decode cX10_measure 41 = .ok (.invokevirtual 169, 3) := by decide +kernel
theorem dX10_measure_44 : decode cX10_measure 44 = .ok (.ireturn, 1) := by decide +kernel
set_option maxRecDepth 20000 in
theorem ggX10_all_X10_isMeasure : GoodIn wsX10_all wsX10_isMeasure := goodIn_r _ [6, 7, 8, 5, 9] (by decide +kernel) (by decide +kernel)
set_option maxRecDepth 20000 in
theorem gX10_all_X10_isMeasure : GoodIn wsX10_all (va_wsS RX10 166 yX10_isMeasure wsX10_isMeasure) := goodIn_app (goodIn_of _ (by decide +kernel)) ggX10_all_X10_isMeasure
set_option maxRecDepth 20000 in
theorem ggX10_all_X10_finding : GoodIn wsX10_all wsX10_finding := goodIn_r _ [13, 14, 115, 116, 117, 118, 119, 120, 121] (by decide +kernel) (by decide +kernel)
set_option maxRecDepth 20000 in
theorem gX10_all_X10_finding : GoodIn wsX10_all (wsV RX10 44 RX10 yX10_finding wsX10_finding) := goodIn_app (goodIn_of _ (by decide +kernel)) ggX10_all_X10_finding
set_option maxRecDepth 20000 in
theorem ggX10_all_X2_fill : GoodIn wsX10_all wsX2_fill := goodIn_r _ [18, 19, 20, 21, 22, 23, 24, 25, 26, 27, 28, 29, 30, 8, 5, 9, 31, 32, 33, 34, 35, 36, 37, 38, 39, 40, 41, 42, 43, 44, 45, 46, 47, 16, 48, 49, 50, 51, 52, 53, 54, 55, 56, 57, 58, 59, 60, 61, 62, 63, 64, 65, 66, 67, 68, 69, 70, 71, 72, 73, 74, 75, 76, 77, 78, 79, 80, 81, 82, 83, 84, 85, 134, 122, 123, 124, 125, 126, 127, 128, 129, 135, 136, 137, 138, 139, 140, 141, 142, 143, 144, 145, 146, 130, 131, 132, 133] (by decide +kernel) (by decide +kernel)
set_option maxRecDepth 20000 in
theorem gX10_all_X2_fill_n159 : GoodIn wsX10_all (wsX2_fill) := ggX10_all_X2_fill
set_option maxRecDepth 20000 in
theorem ggX10_all_X10_measured : GoodIn wsX10_all wsX10_measured := goodIn_r _ [89, 1, 2, 90, 16, 91, 92, 75, 76, 77, 78, 19, 53, 54, 55, 93, 94, 95, 79, 80, 81, 82, 83, 84, 85, 96, 97, 98, 99, 100, 101, 102, 103, 104, 105, 106, 107, 108, 109, 110, 111, 112, 113, 114, 115, 116, 117, 118, 119, 120, 121, 122, 123, 124, 125, 126, 127, 128, 129, 140, 141, 142, 134, 147, 148, 149, 150, 151] (by decide +kernel) (by decide +kernel)
set_option maxRecDepth 20000 in
theorem gX10_all_X10_measured : GoodIn wsX10_all (wsV RX10 169 RX10 yX10_measured wsX10_measured) := goodIn_app (goodIn_of _ (by decide +kernel)) ggX10_all_X10_measured
theorem dX10_all_0 : decode cX10_all 0 = .ok (.iload_n 1, 1) := by decide +kernel
theorem dX10_all_1 : decode cX10_all 1 = .ok (.invokestatic 166, 3) := by decide +kernel
theorem dX10_all_4 : decode cX10_all 4 = .ok (.ifCond .ne 9, 3) := by decide +kernel
theorem dX10_all_7 : decode cX10_all 7 = .ok (.aload_n 0, 1) := by decide +kernel
theorem dX10_all_8 : decode cX10_all 8 = .ok (.iconst (-1), 1) := by decide +kernel
theorem dX10_all_9 : decode cX10_all 9 = .ok (.invokevirtual 44, 3) := by decide +kernel
theorem dX10_all_12 : decode cX10_all 12 = .ok (.ireturn, 1) := by decide +kernel
theorem dX10_all_13 : decode cX10_all 13 = .ok (.aload_n 0, 1) := by decide +kernel
theorem dX10_all_14 : decode cX10_all 14 = .ok (.getfield 29, 3) := by decide +kernel
theorem dX10_all_17 : decode cX10_all 17 = .ok (.aload_n 0, 1) := by decide +kernel
theorem dX10_all_18 : decode cX10_all 18 = .ok (.getfield 19, 3) := by decide +kernel
theorem dX10_all_21 : decode cX10_all 21 = .ok (.invokevirtual 159, 3) := by decide +kernel
theorem dX10_all_24 : decode cX10_all 24 = .ok (.iconst 0, 1) := by decide +kernel
theorem dX10_all_25 : decode cX10_all 25 = .ok (.istore_n 2, 1) := by decide +kernel
theorem dX10_all_26 : decode cX10_all 26 = .ok (.iconst 0, 1) := by decide +kernel
theorem dX10_all_27 : decode cX10_all 27 = .ok (.istore_n 3, 1) := by decide +kernel
theorem dX10_all_28 : decode cX10_all 28 = .ok (.iload_n 3, 1) := by decide +kernel
theorem dX10_all_29 : decode cX10_all 29 = .ok (.aload_n 0, 1) := by decide +kernel
theorem dX10_all_30 : decode cX10_all 30 = .ok (.getfield 19, 3) := by decide +kernel
theorem dX10_all_33 : decode cX10_all 33 = .ok (.getfield 64, 3) := by decide +kernel
theorem dX10_all_36 : decode cX10_all 36 = .ok (.getfield 68, 3) := by decide +kernel
theorem dX10_all_39 : decode cX10_all 39 = .ok (.if_icmp .ge 18, 3) := by decide +kernel
theorem dX10_all_42 : decode cX10_all 42 = .ok (.iload_n 2, 1) := by decide +kernel
theorem dX10_all_43 : decode cX10_all 43 = .ok (.aload_n 0, 1) := by decide +kernel
theorem dX10_all_44 : decode cX10_all 44 = .ok (.iload_n 3, 1) := by decide +kernel
theorem dX10_all_45 : decode cX10_all 45 = .ok (.iload_n 1, 1) := by decide +kernel
theorem dX10_all_46 : decode cX10_all 46 = .ok (.invokevirtual 169, 3) := by decide +kernel
theorem dX10_all_49 : decode cX10_all 49 = .ok (.iadd, 1) := by decide +kernel
theorem dX10_all_50 : decode cX10_all 50 = .ok (.istore_n 2, 1) := by decide +kernel
theorem dX10_all_51 : decode cX10_all 51 = .ok (.iinc 3 1, 3) := by decide +kernel
theorem dX10_all_54 : decode cX10_all 54 = .ok (.goto (-26), 3) := by decide +kernel
theorem dX10_all_57 : decode cX10_all 57 = .ok (.iload_n 2, 1) := by decide +kernel
theorem dX10_all_58 : decode cX10_all 58 = .ok (.ireturn, 1) := by decide +kernel
set_option maxRecDepth 20000 in
theorem ggX10_use_X10_isTick : GoodIn wsX10_use wsX10_isTick := goodIn_r _ [5, 6, 7, 4, 8] (by decide +kernel) (by decide +kernel)
set_option maxRecDepth 20000 in
theorem gX10_use_X10_isTick : GoodIn wsX10_use (va_wsS RX10 172 yX10_isTick wsX10_isTick) := goodIn_app (goodIn_of _ (by decide +kernel)) ggX10_use_X10_isTick
set_option maxRecDepth 20000 in
theorem ggX10_use_X10_isWithin : GoodIn wsX10_use wsX10_isWithin := goodIn_r _ [8] (by decide +kernel) (by decide +kernel)
set_option maxRecDepth 20000 in
theorem gX10_use_X10_isWithin : GoodIn wsX10_use (va_wsS RX10 40 yX10_isWithin wsX10_isWithin) := goodIn_app (goodIn_of _ (by decide +kernel)) ggX10_use_X10_isWithin
set_option maxRecDepth 20000 in
theorem ggX10_use_X6_isOne : GoodIn wsX10_use wsX6_isOne := goodIn_r _ [12, 13, 48, 49, 50, 51] (by decide +kernel) (by decide +kernel)
set_option maxRecDepth 20000 in
theorem gX10_use_X6_isOne_n74 : GoodIn wsX10_use (wsX6_isOne) := ggX10_use_X6_isOne
set_option maxRecDepth 20000 in
theorem ggX10_use_X10_finding : GoodIn wsX10_use wsX10_finding := goodIn_r _ [17, 18, 28, 29, 30, 31, 32, 33, 34] (by decide +kernel) (by decide +kernel)
set_option maxRecDepth 20000 in
theorem gX10_use_X10_finding : GoodIn wsX10_use (wsV RX10 44 RX10 yX10_finding wsX10_finding) := goodIn_app (goodIn_of _ (by decide +kernel)) ggX10_use_X10_finding
set_option maxRecDepth 20000 in
theorem ggX10_use_X9_add : GoodIn wsX10_use wsX9_add := goodIn_r _ [22, 23, 24, 25, 26, 27, 43, 44, 45, 46, 47] (by decide +kernel) (by decide +kernel)
set_option maxRecDepth 20000 in
theorem gX10_use_X9_add_n182 : GoodIn wsX10_use (wsX9_add) := ggX10_use_X9_add
theorem dX10_use_0 : decode cX10_use 0 = .ok (.iload_n 3, 1) := by decide +kernel
theorem dX10_use_1 : decode cX10_use 1 = .ok (.invokestatic 172, 3) := by decide +kernel
theorem dX10_use_4 : decode cX10_use 4 = .ok (.ifCond .eq 21, 3) := by decide +kernel
theorem dX10_use_7 : decode cX10_use 7 = .ok (.iload 4, 2) := by decide +kernel
theorem dX10_use_9 : decode cX10_use 9 = .ok (.invokestatic 172, 3) := by decide +kernel
theorem dX10_use_12 : decode cX10_use 12 = .ok (.ifCond .eq 13, 3) := by decide +kernel
theorem dX10_use_15 : decode cX10_use 15 = .ok (.iload_n 3, 1) := by decide +kernel
theorem dX10_use_16 : decode cX10_use 16 = .ok (.iload 4, 2) := by decide +kernel
theorem dX10_use_18 : decode cX10_use 18 = .ok (.if_icmp .ge 7, 3) := by decide +kernel
theorem dX10_use_21 : decode cX10_use 21 = .ok (.iconst 1, 1) := by decide +kernel
theorem dX10_use_22 : decode cX10_use 22 = .ok (.goto 4, 3) := by decide +kernel
theorem dX10_use_25 : decode cX10_use 25 = .ok (.iconst 0, 1) := by decide +kernel
theorem dX10_use_26 : decode cX10_use 26 = .ok (.istore 5, 2) := by decide +kernel
theorem dX10_use_28 : decode cX10_use 28 = .ok (.iload_n 1, 1) := by decide +kernel
theorem dX10_use_29 : decode cX10_use 29 = .ok (.iconst 0, 1) := by decide +kernel
theorem dX10_use_30 : decode cX10_use 30 = .ok (.bipush 9, 2) := by decide +kernel
theorem dX10_use_32 : decode cX10_use 32 = .ok (.invokestatic 40, 3) := by decide +kernel
theorem dX10_use_35 : decode cX10_use 35 = .ok (.ifCond .eq 22, 3) := by decide +kernel
theorem dX10_use_38 : decode cX10_use 38 = .ok (.aload_n 0, 1) := by decide +kernel
theorem dX10_use_39 : decode cX10_use 39 = .ok (.getfield 19, 3) := by decide +kernel
theorem dX10_use_42 : decode cX10_use 42 = .ok (.getfield 64, 3) := by decide +kernel
theorem dX10_use_45 : decode cX10_use 45 = .ok (.iload_n 2, 1) := by decide +kernel
theorem dX10_use_46 : decode cX10_use 46 = .ok (.invokevirtual 74, 3) := by decide +kernel
theorem dX10_use_49 : decode cX10_use 49 = .ok (.ifCond .eq 8, 3) := by decide +kernel
theorem dX10_use_52 : decode cX10_use 52 = .ok (.iload 5, 2) := by decide +kernel
theorem dX10_use_54 : decode cX10_use 54 = .ok (.ifCond .ne 9, 3) := by decide +kernel
theorem dX10_use_57 : decode cX10_use 57 = .ok (.aload_n 0, 1) := by decide +kernel
theorem dX10_use_58 : decode cX10_use 58 = .ok (.iconst (-1), 1) := by decide +kernel
theorem dX10_use_59 : decode cX10_use 59 = .ok (.invokevirtual 44, 3) := by decide +kernel
theorem dX10_use_62 : decode cX10_use 62 = .ok (.ireturn, 1) := by decide +kernel
theorem dX10_use_63 : decode cX10_use 63 = .ok (.aload_n 0, 1) := by decide +kernel
theorem dX10_use_64 : decode cX10_use 64 = .ok (.getfield 19, 3) := by decide +kernel
theorem dX10_use_67 : decode cX10_use 67 = .ok (.getfield 175, 3) := by decide +kernel
theorem dX10_use_70 : decode cX10_use 70 = .ok (.getfield 179, 3) := by decide +kernel
theorem dX10_use_73 : decode cX10_use 73 = .ok (.bipush 30, 2) := by decide +kernel
theorem dX10_use_75 : decode cX10_use 75 = .ok (.if_icmp .lt 10, 3) := by decide +kernel
theorem dX10_use_78 : decode cX10_use 78 = .ok (.aload_n 0, 1) := by decide +kernel
theorem dX10_use_79 : decode cX10_use 79 = .ok (.bipush (-3), 2) := by decide +kernel
theorem dX10_use_81 : decode cX10_use 81 = .ok (.invokevirtual 44, 3) := by decide +kernel
theorem dX10_use_84 : decode cX10_use 84 = .ok (.ireturn, 1) := by decide +kernel
theorem dX10_use_85 : decode cX10_use 85 = .ok (.aload_n 0, 1) := by decide +kernel
theorem dX10_use_86 : decode cX10_use 86 = .ok (.getfield 19, 3) := by decide +kernel
theorem dX10_use_89 : decode cX10_use 89 = .ok (.getfield 175, 3) := by decide +kernel
theorem dX10_use_92 : decode cX10_use 92 = .ok (.iload_n 1, 1) := by decide +kernel
theorem dX10_use_93 : decode cX10_use 93 = .ok (.iload_n 2, 1) := by decide +kernel
theorem dX10_use_94 : decode cX10_use 94 = .ok (.iload_n 3, 1) := by decide +kernel
theorem dX10_use_95 : decode cX10_use 95 = .ok (.iload 4, 2) := by decide +kernel
theorem dX10_use_97 : decode cX10_use 97 = .ok (.invokevirtual 182, 3) := by decide +kernel
theorem dX10_use_100 : decode cX10_use 100 = .ok (.ireturn, 1) := by decide +kernel
set_option maxRecDepth 20000 in
theorem ggX10_at_X6_isOne : GoodIn wsX10_at wsX6_isOne := goodIn_r _ [5, 6, 42, 43, 44, 45] (by decide +kernel) (by decide +kernel)
set_option maxRecDepth 20000 in
theorem gX10_at_X6_isOne_n74 : GoodIn wsX10_at (wsX6_isOne) := ggX10_at_X6_isOne
set_option maxRecDepth 20000 in
theorem ggX10_at_X10_isTick : GoodIn wsX10_at wsX10_isTick := goodIn_r _ [10, 11, 12, 9, 13] (by decide +kernel) (by decide +kernel)
set_option maxRecDepth 20000 in
theorem gX10_at_X10_isTick : GoodIn wsX10_at (va_wsS RX10 172 yX10_isTick wsX10_isTick) := goodIn_app (goodIn_of _ (by decide +kernel)) ggX10_at_X10_isTick
set_option maxRecDepth 20000 in
theorem ggX10_at_X10_finding : GoodIn wsX10_at wsX10_finding := goodIn_r _ [17, 18, 27, 28, 29, 30, 31, 32, 33] (by decide +kernel) (by decide +kernel)
set_option maxRecDepth 20000 in
theorem gX10_at_X10_finding : GoodIn wsX10_at (wsV RX10 44 RX10 yX10_finding wsX10_finding) := goodIn_app (goodIn_of _ (by decide +kernel)) ggX10_at_X10_finding
set_option maxRecDepth 20000 in
theorem ggX10_at_X9_howManyAt : GoodIn wsX10_at wsX9_howManyAt := goodIn_r _ [22, 23, 24, 25, 26, 46, 47, 48, 49, 50] (by decide +kernel) (by decide +kernel)
set_option maxRecDepth 20000 in
theorem gX10_at_X9_howManyAt_n185 : GoodIn wsX10_at (wsX9_howManyAt) := ggX10_at_X9_howManyAt
theorem dX10_at_0 : decode cX10_at 0 = .ok (.aload_n 0, 1) := by decide +kernel
theorem dX10_at_1 : decode cX10_at 1 = .ok (.getfield 19, 3) := by decide +kernel
theorem dX10_at_4 : decode cX10_at 4 = .ok (.getfield 64, 3) := by decide +kernel
theorem dX10_at_7 : decode cX10_at 7 = .ok (.iload_n 1, 1) := by decide +kernel
theorem dX10_at_8 : decode cX10_at 8 = .ok (.invokevirtual 74, 3) := by decide +kernel
theorem dX10_at_11 : decode cX10_at 11 = .ok (.ifCond .eq 10, 3) := by decide +kernel
theorem dX10_at_14 : decode cX10_at 14 = .ok (.iload_n 2, 1) := by decide +kernel
theorem dX10_at_15 : decode cX10_at 15 = .ok (.invokestatic 172, 3) := by decide +kernel
theorem dX10_at_18 : decode cX10_at 18 = .ok (.ifCond .ne 9, 3) := by decide +kernel
theorem dX10_at_21 : decode cX10_at 21 = .ok (.aload_n 0, 1) := by decide +kernel
theorem dX10_at_22 : decode cX10_at 22 = .ok (.iconst (-1), 1) := by decide +kernel
theorem dX10_at_23 : decode cX10_at 23 = .ok (.invokevirtual 44, 3) := by decide +kernel
theorem dX10_at_26 : decode cX10_at 26 = .ok (.ireturn, 1) := by decide +kernel
theorem dX10_at_27 : decode cX10_at 27 = .ok (.aload_n 0, 1) := by decide +kernel
theorem dX10_at_28 : decode cX10_at 28 = .ok (.getfield 19, 3) := by decide +kernel
theorem dX10_at_31 : decode cX10_at 31 = .ok (.getfield 175, 3) := by decide +kernel
theorem dX10_at_34 : decode cX10_at 34 = .ok (.iload_n 1, 1) := by decide +kernel
theorem dX10_at_35 : decode cX10_at 35 = .ok (.iload_n 2, 1) := by decide +kernel
theorem dX10_at_36 : decode cX10_at 36 = .ok (.invokevirtual 185, 3) := by decide +kernel
theorem dX10_at_39 : decode cX10_at 39 = .ok (.ireturn, 1) := by decide +kernel
set_option maxRecDepth 20000 in
theorem ggX10_peak_X6_isOne : GoodIn wsX10_peak wsX6_isOne := goodIn_r _ [5, 6, 40, 41, 42, 43] (by decide +kernel) (by decide +kernel)
set_option maxRecDepth 20000 in
theorem gX10_peak_X6_isOne_n74 : GoodIn wsX10_peak (wsX6_isOne) := ggX10_peak_X6_isOne
set_option maxRecDepth 20000 in
theorem ggX10_peak_X10_finding : GoodIn wsX10_peak wsX10_finding := goodIn_r _ [11, 12, 25, 26, 27, 28, 29, 30, 31] (by decide +kernel) (by decide +kernel)
set_option maxRecDepth 20000 in
theorem gX10_peak_X10_finding : GoodIn wsX10_peak (wsV RX10 44 RX10 yX10_finding wsX10_finding) := goodIn_app (goodIn_of _ (by decide +kernel)) ggX10_peak_X10_finding
set_option maxRecDepth 20000 in
theorem ggX10_peak_X9_peakTick : GoodIn wsX10_peak wsX9_peakTick := goodIn_r _ [16, 17, 18, 19, 20, 21, 22, 14, 23, 24, 44, 45, 46, 47, 48] (by decide +kernel) (by decide +kernel)
set_option maxRecDepth 20000 in
theorem gX10_peak_X9_peakTick_n188 : GoodIn wsX10_peak (wsX9_peakTick) := ggX10_peak_X9_peakTick
theorem dX10_peak_0 : decode cX10_peak 0 = .ok (.aload_n 0, 1) := by decide +kernel
theorem dX10_peak_1 : decode cX10_peak 1 = .ok (.getfield 19, 3) := by decide +kernel
theorem dX10_peak_4 : decode cX10_peak 4 = .ok (.getfield 64, 3) := by decide +kernel
theorem dX10_peak_7 : decode cX10_peak 7 = .ok (.iload_n 1, 1) := by decide +kernel
theorem dX10_peak_8 : decode cX10_peak 8 = .ok (.invokevirtual 74, 3) := by decide +kernel
theorem dX10_peak_11 : decode cX10_peak 11 = .ok (.ifCond .ne 9, 3) := by decide +kernel
theorem dX10_peak_14 : decode cX10_peak 14 = .ok (.aload_n 0, 1) := by decide +kernel
theorem dX10_peak_15 : decode cX10_peak 15 = .ok (.iconst (-1), 1) := by decide +kernel
theorem dX10_peak_16 : decode cX10_peak 16 = .ok (.invokevirtual 44, 3) := by decide +kernel
theorem dX10_peak_19 : decode cX10_peak 19 = .ok (.ireturn, 1) := by decide +kernel
theorem dX10_peak_20 : decode cX10_peak 20 = .ok (.aload_n 0, 1) := by decide +kernel
theorem dX10_peak_21 : decode cX10_peak 21 = .ok (.getfield 19, 3) := by decide +kernel
theorem dX10_peak_24 : decode cX10_peak 24 = .ok (.getfield 175, 3) := by decide +kernel
theorem dX10_peak_27 : decode cX10_peak 27 = .ok (.iload_n 1, 1) := by decide +kernel
theorem dX10_peak_28 : decode cX10_peak 28 = .ok (.invokevirtual 188, 3) := by decide +kernel
theorem dX10_peak_31 : decode cX10_peak 31 = .ok (.istore_n 2, 1) := by decide +kernel
theorem dX10_peak_32 : decode cX10_peak 32 = .ok (.iload_n 2, 1) := by decide +kernel
theorem dX10_peak_33 : decode cX10_peak 33 = .ok (.ifCond .ge 12, 3) := by decide +kernel
theorem dX10_peak_36 : decode cX10_peak 36 = .ok (.aload_n 0, 1) := by decide +kernel
theorem dX10_peak_37 : decode cX10_peak 37 = .ok (.bipush (-2), 2) := by decide +kernel
theorem dX10_peak_39 : decode cX10_peak 39 = .ok (.invokevirtual 44, 3) := by decide +kernel
theorem dX10_peak_42 : decode cX10_peak 42 = .ok (.goto 4, 3) := by decide +kernel
theorem dX10_peak_45 : decode cX10_peak 45 = .ok (.iload_n 2, 1) := by decide +kernel
theorem dX10_peak_46 : decode cX10_peak 46 = .ok (.ireturn, 1) := by decide +kernel
set_option maxRecDepth 20000 in
theorem ggX10_right_X10_isDay : GoodIn wsX10_right wsX10_isDay := goodIn_r _ [5, 6, 7, 4, 8] (by decide +kernel) (by decide +kernel)
set_option maxRecDepth 20000 in
theorem gX10_right_X10_isDay : GoodIn wsX10_right (va_wsS RX10 127 yX10_isDay wsX10_isDay) := goodIn_app (goodIn_of _ (by decide +kernel)) ggX10_right_X10_isDay
set_option maxRecDepth 20000 in
theorem ggX10_right_X6_isOne : GoodIn wsX10_right wsX6_isOne := goodIn_r _ [12, 13, 55, 56, 57, 58] (by decide +kernel) (by decide +kernel)
set_option maxRecDepth 20000 in
theorem gX10_right_X6_isOne_n74 : GoodIn wsX10_right (wsX6_isOne) := ggX10_right_X6_isOne
set_option maxRecDepth 20000 in
theorem ggX10_right_X10_isVersion : GoodIn wsX10_right wsX10_isVersion := goodIn_r _ [16, 6, 7, 4, 8] (by decide +kernel) (by decide +kernel)
set_option maxRecDepth 20000 in
theorem gX10_right_X10_isVersion : GoodIn wsX10_right (va_wsS RX10 130 yX10_isVersion wsX10_isVersion) := goodIn_app (goodIn_of _ (by decide +kernel)) ggX10_right_X10_isVersion
set_option maxRecDepth 20000 in
theorem ggX10_right_X10_finding : GoodIn wsX10_right wsX10_finding := goodIn_r _ [20, 21, 33, 34, 35, 36, 37, 38, 39] (by decide +kernel) (by decide +kernel)
set_option maxRecDepth 20000 in
theorem gX10_right_X10_finding : GoodIn wsX10_right (wsV RX10 44 RX10 yX10_finding wsX10_finding) := goodIn_app (goodIn_of _ (by decide +kernel)) ggX10_right_X10_finding
set_option maxRecDepth 20000 in
theorem ggX10_right_X10_isWithin : GoodIn wsX10_right wsX10_isWithin := goodIn_r _ [8] (by decide +kernel) (by decide +kernel)
set_option maxRecDepth 20000 in
theorem gX10_right_X10_isWithin : GoodIn wsX10_right (va_wsS RX10 40 yX10_isWithin wsX10_isWithin) := goodIn_app (goodIn_of _ (by decide +kernel)) ggX10_right_X10_isWithin
set_option maxRecDepth 20000 in
theorem ggX10_right_X7_add : GoodIn wsX10_right wsX7_add := goodIn_r _ [25, 26, 27, 28, 29, 30, 31, 32, 48, 49, 50, 51, 52, 53, 54] (by decide +kernel) (by decide +kernel)
set_option maxRecDepth 20000 in
theorem gX10_right_X7_add_n198 : GoodIn wsX10_right (wsX7_add) := ggX10_right_X7_add
theorem dX10_right_0 : decode cX10_right 0 = .ok (.iload 5, 2) := by decide +kernel
theorem dX10_right_2 : decode cX10_right 2 = .ok (.invokestatic 127, 3) := by decide +kernel
theorem dX10_right_5 : decode cX10_right 5 = .ok (.ifCond .eq 22, 3) := by decide +kernel
theorem dX10_right_8 : decode cX10_right 8 = .ok (.iload 6, 2) := by decide +kernel
theorem dX10_right_10 : decode cX10_right 10 = .ok (.invokestatic 127, 3) := by decide +kernel
theorem dX10_right_13 : decode cX10_right 13 = .ok (.ifCond .eq 14, 3) := by decide +kernel
theorem dX10_right_16 : decode cX10_right 16 = .ok (.iload 5, 2) := by decide +kernel
theorem dX10_right_18 : decode cX10_right 18 = .ok (.iload 6, 2) := by decide +kernel
theorem dX10_right_20 : decode cX10_right 20 = .ok (.if_icmp .gt 7, 3) := by decide +kernel
theorem dX10_right_23 : decode cX10_right 23 = .ok (.iconst 1, 1) := by decide +kernel
theorem dX10_right_24 : decode cX10_right 24 = .ok (.goto 4, 3) := by decide +kernel
theorem dX10_right_27 : decode cX10_right 27 = .ok (.iconst 0, 1) := by decide +kernel
theorem dX10_right_28 : decode cX10_right 28 = .ok (.istore 7, 2) := by decide +kernel
theorem dX10_right_30 : decode cX10_right 30 = .ok (.aload_n 0, 1) := by decide +kernel
theorem dX10_right_31 : decode cX10_right 31 = .ok (.getfield 19, 3) := by decide +kernel
theorem dX10_right_34 : decode cX10_right 34 = .ok (.getfield 64, 3) := by decide +kernel
theorem dX10_right_37 : decode cX10_right 37 = .ok (.iload_n 1, 1) := by decide +kernel
theorem dX10_right_38 : decode cX10_right 38 = .ok (.invokevirtual 74, 3) := by decide +kernel
theorem dX10_right_41 : decode cX10_right 41 = .ok (.ifCond .eq 15, 3) := by decide +kernel
theorem dX10_right_44 : decode cX10_right 44 = .ok (.iload_n 2, 1) := by decide +kernel
theorem dX10_right_45 : decode cX10_right 45 = .ok (.invokestatic 130, 3) := by decide +kernel
theorem dX10_right_48 : decode cX10_right 48 = .ok (.ifCond .eq 8, 3) := by decide +kernel
theorem dX10_right_51 : decode cX10_right 51 = .ok (.iload 7, 2) := by decide +kernel
theorem dX10_right_53 : decode cX10_right 53 = .ok (.ifCond .ne 9, 3) := by decide +kernel
theorem dX10_right_56 : decode cX10_right 56 = .ok (.aload_n 0, 1) := by decide +kernel
theorem dX10_right_57 : decode cX10_right 57 = .ok (.iconst (-1), 1) := by decide +kernel
theorem dX10_right_58 : decode cX10_right 58 = .ok (.invokevirtual 44, 3) := by decide +kernel
theorem dX10_right_61 : decode cX10_right 61 = .ok (.ireturn, 1) := by decide +kernel
theorem dX10_right_62 : decode cX10_right 62 = .ok (.iload_n 3, 1) := by decide +kernel
theorem dX10_right_63 : decode cX10_right 63 = .ok (.iconst 0, 1) := by decide +kernel
theorem dX10_right_64 : decode cX10_right 64 = .ok (.bipush 40, 2) := by decide +kernel
theorem dX10_right_66 : decode cX10_right 66 = .ok (.invokestatic 40, 3) := by decide +kernel
theorem dX10_right_69 : decode cX10_right 69 = .ok (.ifCond .eq 15, 3) := by decide +kernel
theorem dX10_right_72 : decode cX10_right 72 = .ok (.iload 4, 2) := by decide +kernel
theorem dX10_right_74 : decode cX10_right 74 = .ok (.iconst 0, 1) := by decide +kernel
theorem dX10_right_75 : decode cX10_right 75 = .ok (.sipush 1000, 3) := by decide +kernel
theorem dX10_right_78 : decode cX10_right 78 = .ok (.invokestatic 40, 3) := by decide +kernel
theorem dX10_right_81 : decode cX10_right 81 = .ok (.ifCond .ne 9, 3) := by decide +kernel
theorem dX10_right_84 : decode cX10_right 84 = .ok (.aload_n 0, 1) := by decide +kernel
theorem dX10_right_85 : decode cX10_right 85 = .ok (.iconst (-1), 1) := by decide +kernel
theorem dX10_right_86 : decode cX10_right 86 = .ok (.invokevirtual 44, 3) := by decide +kernel
theorem dX10_right_89 : decode cX10_right 89 = .ok (.ireturn, 1) := by decide +kernel
theorem dX10_right_90 : decode cX10_right 90 = .ok (.aload_n 0, 1) := by decide +kernel
theorem dX10_right_91 : decode cX10_right 91 = .ok (.getfield 19, 3) := by decide +kernel
theorem dX10_right_94 : decode cX10_right 94 = .ok (.getfield 191, 3) := by decide +kernel
theorem dX10_right_97 : decode cX10_right 97 = .ok (.getfield 195, 3) := by decide +kernel
theorem dX10_right_100 : decode cX10_right 100 = .ok (.bipush 10, 2) := by decide +kernel
theorem dX10_right_102 : decode cX10_right 102 = .ok (.if_icmp .lt 10, 3) := by decide +kernel
theorem dX10_right_105 : decode cX10_right 105 = .ok (.aload_n 0, 1) := by decide +kernel
theorem dX10_right_106 : decode cX10_right 106 = .ok (.bipush (-3), 2) := by decide +kernel
theorem dX10_right_108 : decode cX10_right 108 = .ok (.invokevirtual 44, 3) := by decide +kernel
theorem dX10_right_111 : decode cX10_right 111 = .ok (.ireturn, 1) := by decide +kernel
theorem dX10_right_112 : decode cX10_right 112 = .ok (.aload_n 0, 1) := by decide +kernel
theorem dX10_right_113 : decode cX10_right 113 = .ok (.getfield 19, 3) := by decide +kernel
theorem dX10_right_116 : decode cX10_right 116 = .ok (.getfield 191, 3) := by decide +kernel
theorem dX10_right_119 : decode cX10_right 119 = .ok (.iload_n 1, 1) := by decide +kernel
theorem dX10_right_120 : decode cX10_right 120 = .ok (.iload_n 2, 1) := by decide +kernel
theorem dX10_right_121 : decode cX10_right 121 = .ok (.iload_n 3, 1) := by decide +kernel
theorem dX10_right_122 : decode cX10_right 122 = .ok (.iload 4, 2) := by decide +kernel
theorem dX10_right_124 : decode cX10_right 124 = .ok (.iload 5, 2) := by decide +kernel
theorem dX10_right_126 : decode cX10_right 126 = .ok (.iload 6, 2) := by decide +kernel
theorem dX10_right_128 : decode cX10_right 128 = .ok (.invokevirtual 198, 3) := by decide +kernel
theorem dX10_right_131 : decode cX10_right 131 = .ok (.ireturn, 1) := by decide +kernel
set_option maxRecDepth 20000 in
theorem ggX10_amount_X7_isOne : GoodIn wsX10_amount wsX7_isOne := goodIn_r _ [5, 6, 31, 32, 33, 34, 35, 36, 37] (by decide +kernel) (by decide +kernel)
set_option maxRecDepth 20000 in
theorem gX10_amount_X7_isOne_n201 : GoodIn wsX10_amount (wsX7_isOne) := ggX10_amount_X7_isOne
set_option maxRecDepth 20000 in
theorem ggX10_amount_X10_isWithin : GoodIn wsX10_amount wsX10_isWithin := goodIn_r _ [10] (by decide +kernel) (by decide +kernel)
set_option maxRecDepth 20000 in
theorem gX10_amount_X10_isWithin : GoodIn wsX10_amount (va_wsS RX10 40 yX10_isWithin wsX10_isWithin) := goodIn_app (goodIn_of _ (by decide +kernel)) ggX10_amount_X10_isWithin
set_option maxRecDepth 20000 in
theorem ggX10_amount_X10_finding : GoodIn wsX10_amount wsX10_finding := goodIn_r _ [14, 15, 16, 17, 18, 19, 20, 21, 22] (by decide +kernel) (by decide +kernel)
set_option maxRecDepth 20000 in
theorem gX10_amount_X10_finding : GoodIn wsX10_amount (wsV RX10 44 RX10 yX10_finding wsX10_finding) := goodIn_app (goodIn_of _ (by decide +kernel)) ggX10_amount_X10_finding
theorem dX10_amount_0 : decode cX10_amount 0 = .ok (.aload_n 0, 1) := by decide +kernel
theorem dX10_amount_1 : decode cX10_amount 1 = .ok (.getfield 19, 3) := by decide +kernel
theorem dX10_amount_4 : decode cX10_amount 4 = .ok (.getfield 191, 3) := by decide +kernel
theorem dX10_amount_7 : decode cX10_amount 7 = .ok (.iload_n 1, 1) := by decide +kernel
theorem dX10_amount_8 : decode cX10_amount 8 = .ok (.invokevirtual 201, 3) := by decide +kernel
theorem dX10_amount_11 : decode cX10_amount 11 = .ok (.ifCond .eq 13, 3) := by decide +kernel
theorem dX10_amount_14 : decode cX10_amount 14 = .ok (.iload_n 2, 1) := by decide +kernel
theorem dX10_amount_15 : decode cX10_amount 15 = .ok (.iconst 0, 1) := by decide +kernel
theorem dX10_amount_16 : decode cX10_amount 16 = .ok (.bipush 40, 2) := by decide +kernel
theorem dX10_amount_18 : decode cX10_amount 18 = .ok (.invokestatic 40, 3) := by decide +kernel
theorem dX10_amount_21 : decode cX10_amount 21 = .ok (.ifCond .ne 9, 3) := by decide +kernel
theorem dX10_amount_24 : decode cX10_amount 24 = .ok (.aload_n 0, 1) := by decide +kernel
theorem dX10_amount_25 : decode cX10_amount 25 = .ok (.iconst (-1), 1) := by decide +kernel
theorem dX10_amount_26 : decode cX10_amount 26 = .ok (.invokevirtual 44, 3) := by decide +kernel
theorem dX10_amount_29 : decode cX10_amount 29 = .ok (.ireturn, 1) := by decide +kernel
theorem dX10_amount_30 : decode cX10_amount 30 = .ok (.aload_n 0, 1) := by decide +kernel
theorem dX10_amount_31 : decode cX10_amount 31 = .ok (.getfield 19, 3) := by decide +kernel
theorem dX10_amount_34 : decode cX10_amount 34 = .ok (.getfield 191, 3) := by decide +kernel
theorem dX10_amount_37 : decode cX10_amount 37 = .ok (.getfield 202, 3) := by decide +kernel
theorem dX10_amount_40 : decode cX10_amount 40 = .ok (.iload_n 1, 1) := by decide +kernel
theorem dX10_amount_41 : decode cX10_amount 41 = .ok (.iaload, 1) := by decide +kernel
theorem dX10_amount_42 : decode cX10_amount 42 = .ok (.istore_n 3, 1) := by decide +kernel
theorem dX10_amount_43 : decode cX10_amount 43 = .ok (.aload_n 0, 1) := by decide +kernel
theorem dX10_amount_44 : decode cX10_amount 44 = .ok (.getfield 19, 3) := by decide +kernel
theorem dX10_amount_47 : decode cX10_amount 47 = .ok (.getfield 191, 3) := by decide +kernel
theorem dX10_amount_50 : decode cX10_amount 50 = .ok (.getfield 202, 3) := by decide +kernel
theorem dX10_amount_53 : decode cX10_amount 53 = .ok (.iload_n 1, 1) := by decide +kernel
theorem dX10_amount_54 : decode cX10_amount 54 = .ok (.iload_n 2, 1) := by decide +kernel
theorem dX10_amount_55 : decode cX10_amount 55 = .ok (.iastore, 1) := by decide +kernel
theorem dX10_amount_56 : decode cX10_amount 56 = .ok (.iload_n 3, 1) := by decide +kernel
theorem dX10_amount_57 : decode cX10_amount 57 = .ok (.ireturn, 1) := by decide +kernel
set_option maxRecDepth 20000 in
theorem ggX10_may_X7_isOne : GoodIn wsX10_may wsX7_isOne := goodIn_r _ [6, 7, 116, 117, 118, 119, 120, 121, 122] (by decide +kernel) (by decide +kernel)
set_option maxRecDepth 20000 in
theorem gX10_may_X7_isOne_n201 : GoodIn wsX10_may (wsX7_isOne) := ggX10_may_X7_isOne
set_option maxRecDepth 20000 in
theorem ggX10_may_X3_isOne : GoodIn wsX10_may wsX3_isOne := goodIn_r _ [11, 12, 123, 124, 125] (by decide +kernel) (by decide +kernel)
set_option maxRecDepth 20000 in
theorem gX10_may_X3_isOne_n123 : GoodIn wsX10_may (wsX3_isOne) := ggX10_may_X3_isOne
set_option maxRecDepth 20000 in
theorem ggX10_may_X10_finding : GoodIn wsX10_may wsX10_finding := goodIn_r _ [17, 18, 101, 102, 103, 104, 105, 106, 107] (by decide +kernel) (by decide +kernel)
set_option maxRecDepth 20000 in
theorem gX10_may_X10_finding : GoodIn wsX10_may (wsV RX10 44 RX10 yX10_finding wsX10_finding) := goodIn_app (goodIn_of _ (by decide +kernel)) ggX10_may_X10_finding
set_option maxRecDepth 20000 in
theorem ggX10_may_X2_fill : GoodIn wsX10_may wsX2_fill := goodIn_r _ [22, 23, 24, 25, 26, 27, 28, 29, 30, 31, 32, 33, 34, 35, 16, 36, 37, 38, 39, 40, 41, 42, 43, 44, 45, 46, 47, 48, 49, 50, 51, 52, 53, 20, 54, 55, 56, 57, 58, 59, 60, 61, 62, 63, 64, 65, 66, 67, 68, 69, 70, 71, 72, 73, 74, 75, 76, 77, 78, 79, 80, 81, 82, 83, 84, 85, 86, 87, 88, 89, 90, 91, 126, 108, 109, 110, 111, 112, 113, 114, 115, 127, 128, 129, 130, 131, 123, 124, 125, 132, 133, 134, 135, 136, 137, 138, 139] (by decide +kernel) (by decide +kernel)
set_option maxRecDepth 20000 in
theorem gX10_may_X2_fill_n159 : GoodIn wsX10_may (wsX2_fill) := ggX10_may_X2_fill
set_option maxRecDepth 20000 in
theorem ggX10_may_X2_versionAt : GoodIn wsX10_may wsX2_versionAt := goodIn_r _ [84, 23, 59, 60, 20, 61, 126] (by decide +kernel) (by decide +kernel)
set_option maxRecDepth 20000 in
theorem gX10_may_X2_versionAt_n163 : GoodIn wsX10_may (wsX2_versionAt) := ggX10_may_X2_versionAt
set_option maxRecDepth 20000 in
theorem ggX10_may_X6_isFree : GoodIn wsX10_may wsX6_isFree := goodIn_r _ [94, 70, 136, 137, 138, 139] (by decide +kernel) (by decide +kernel)
set_option maxRecDepth 20000 in
theorem gX10_may_X6_isFree_n207 : GoodIn wsX10_may (wsX6_isFree) := ggX10_may_X6_isFree
set_option maxRecDepth 20000 in
theorem ggX10_may_X7_isServing : GoodIn wsX10_may wsX7_isServing := goodIn_r _ [97, 98, 99, 100, 35, 16, 36, 116, 117, 118, 119, 120, 121, 122] (by decide +kernel) (by decide +kernel)
set_option maxRecDepth 20000 in
theorem gX10_may_X7_isServing_n210 : GoodIn wsX10_may (wsX7_isServing) := ggX10_may_X7_isServing
theorem dX10_may_0 : decode cX10_may 0 = .ok (.aload_n 0, 1) := by decide +kernel
theorem dX10_may_1 : decode cX10_may 1 = .ok (.getfield 19, 3) := by decide +kernel
theorem dX10_may_4 : decode cX10_may 4 = .ok (.getfield 191, 3) := by decide +kernel
theorem dX10_may_7 : decode cX10_may 7 = .ok (.iload_n 1, 1) := by decide +kernel
theorem dX10_may_8 : decode cX10_may 8 = .ok (.invokevirtual 201, 3) := by decide +kernel
theorem dX10_may_11 : decode cX10_may 11 = .ok (.ifCond .eq 17, 3) := by decide +kernel
theorem dX10_may_14 : decode cX10_may 14 = .ok (.aload_n 0, 1) := by decide +kernel
theorem dX10_may_15 : decode cX10_may 15 = .ok (.getfield 19, 3) := by decide +kernel
theorem dX10_may_18 : decode cX10_may 18 = .ok (.getfield 113, 3) := by decide +kernel
theorem dX10_may_21 : decode cX10_may 21 = .ok (.iload_n 2, 1) := by decide +kernel
theorem dX10_may_22 : decode cX10_may 22 = .ok (.invokevirtual 123, 3) := by decide +kernel
theorem dX10_may_25 : decode cX10_may 25 = .ok (.ifCond .ne 9, 3) := by decide +kernel
theorem dX10_may_28 : decode cX10_may 28 = .ok (.aload_n 0, 1) := by decide +kernel
theorem dX10_may_29 : decode cX10_may 29 = .ok (.iconst (-1), 1) := by decide +kernel
theorem dX10_may_30 : decode cX10_may 30 = .ok (.invokevirtual 44, 3) := by decide +kernel
theorem dX10_may_33 : decode cX10_may 33 = .ok (.ireturn, 1) := by decide +kernel
theorem dX10_may_34 : decode cX10_may 34 = .ok (.aload_n 0, 1) := by decide +kernel
theorem dX10_may_35 : decode cX10_may 35 = .ok (.getfield 29, 3) := by decide +kernel
theorem dX10_may_38 : decode cX10_may 38 = .ok (.aload_n 0, 1) := by decide +kernel
theorem dX10_may_39 : decode cX10_may 39 = .ok (.getfield 19, 3) := by decide +kernel
theorem dX10_may_42 : decode cX10_may 42 = .ok (.invokevirtual 159, 3) := by decide +kernel
theorem dX10_may_45 : decode cX10_may 45 = .ok (.aload_n 0, 1) := by decide +kernel
theorem dX10_may_46 : decode cX10_may 46 = .ok (.getfield 19, 3) := by decide +kernel
theorem dX10_may_49 : decode cX10_may 49 = .ok (.getfield 191, 3) := by decide +kernel
theorem dX10_may_52 : decode cX10_may 52 = .ok (.getfield 205, 3) := by decide +kernel
theorem dX10_may_55 : decode cX10_may 55 = .ok (.iload_n 1, 1) := by decide +kernel
theorem dX10_may_56 : decode cX10_may 56 = .ok (.iaload, 1) := by decide +kernel
theorem dX10_may_57 : decode cX10_may 57 = .ok (.istore_n 3, 1) := by decide +kernel
theorem dX10_may_58 : decode cX10_may 58 = .ok (.aload_n 0, 1) := by decide +kernel
theorem dX10_may_59 : decode cX10_may 59 = .ok (.getfield 29, 3) := by decide +kernel
theorem dX10_may_62 : decode cX10_may 62 = .ok (.iload_n 2, 1) := by decide +kernel
theorem dX10_may_63 : decode cX10_may 63 = .ok (.iload_n 3, 1) := by decide +kernel
theorem dX10_may_64 : decode cX10_may 64 = .ok (.invokevirtual 163, 3) := by decide +kernel
theorem dX10_may_67 : decode cX10_may 67 = .ok (.istore 4, 2) := by decide +kernel
theorem dX10_may_69 : decode cX10_may 69 = .ok (.iload 4, 2) := by decide +kernel
theorem dX10_may_71 : decode cX10_may 71 = .ok (.ifCond .eq 17, 3) := by decide +kernel
theorem dX10_may_74 : decode cX10_may 74 = .ok (.aload_n 0, 1) := by decide +kernel
theorem dX10_may_75 : decode cX10_may 75 = .ok (.getfield 19, 3) := by decide +kernel
theorem dX10_may_78 : decode cX10_may 78 = .ok (.getfield 64, 3) := by decide +kernel
theorem dX10_may_81 : decode cX10_may 81 = .ok (.iload_n 3, 1) := by decide +kernel
theorem dX10_may_82 : decode cX10_may 82 = .ok (.invokevirtual 207, 3) := by decide +kernel
theorem dX10_may_85 : decode cX10_may 85 = .ok (.ifCond .eq 10, 3) := by decide +kernel
theorem dX10_may_88 : decode cX10_may 88 = .ok (.aload_n 0, 1) := by decide +kernel
theorem dX10_may_89 : decode cX10_may 89 = .ok (.bipush (-2), 2) := by decide +kernel
theorem dX10_may_91 : decode cX10_may 91 = .ok (.invokevirtual 44, 3) := by decide +kernel
theorem dX10_may_94 : decode cX10_may 94 = .ok (.ireturn, 1) := by decide +kernel
theorem dX10_may_95 : decode cX10_may 95 = .ok (.aload_n 0, 1) := by decide +kernel
theorem dX10_may_96 : decode cX10_may 96 = .ok (.getfield 19, 3) := by decide +kernel
theorem dX10_may_99 : decode cX10_may 99 = .ok (.getfield 191, 3) := by decide +kernel
theorem dX10_may_102 : decode cX10_may 102 = .ok (.iload_n 1, 1) := by decide +kernel
theorem dX10_may_103 : decode cX10_may 103 = .ok (.iload 4, 2) := by decide +kernel
theorem dX10_may_105 : decode cX10_may 105 = .ok (.aload_n 0, 1) := by decide +kernel
theorem dX10_may_106 : decode cX10_may 106 = .ok (.getfield 19, 3) := by decide +kernel
theorem dX10_may_109 : decode cX10_may 109 = .ok (.getfield 153, 3) := by decide +kernel
theorem dX10_may_112 : decode cX10_may 112 = .ok (.invokevirtual 210, 3) := by decide +kernel
theorem dX10_may_115 : decode cX10_may 115 = .ok (.ifCond .eq 7, 3) := by decide +kernel
theorem dX10_may_118 : decode cX10_may 118 = .ok (.iconst 1, 1) := by decide +kernel
theorem dX10_may_119 : decode cX10_may 119 = .ok (.goto 4, 3) := by decide +kernel
theorem dX10_may_122 : decode cX10_may 122 = .ok (.iconst 0, 1) := by decide +kernel
theorem dX10_may_123 : decode cX10_may 123 = .ok (.ireturn, 1) := by decide +kernel
set_option maxRecDepth 20000 in
theorem ggX10_needs_X2_fill : GoodIn wsX10_needs wsX2_fill := goodIn_r _ [6, 7, 8, 9, 10, 11, 12, 13, 14, 15, 16, 17, 18, 19, 20, 21, 22, 23, 24, 25, 26, 27, 28, 29, 30, 31, 32, 33, 34, 35, 36, 37, 38, 4, 39, 40, 41, 42, 43, 44, 45, 46, 47, 48, 49, 50, 51, 52, 53, 54, 55, 56, 57, 58, 59, 60, 61, 62, 63, 64, 65, 66, 67, 68, 69, 70, 71, 72, 73, 74, 75, 76, 128, 116, 117, 118, 119, 120, 121, 122, 123, 129, 130, 131, 132, 133, 134, 135, 136, 137, 138, 139, 140, 124, 125, 126, 127] (by decide +kernel) (by decide +kernel)
set_option maxRecDepth 20000 in
theorem gX10_needs_X2_fill_n159 : GoodIn wsX10_needs (wsX2_fill) := ggX10_needs_X2_fill
set_option maxRecDepth 20000 in
theorem ggX10_needs_X6_isFree : GoodIn wsX10_needs wsX6_isFree := goodIn_r _ [79, 55, 124, 125, 126, 127] (by decide +kernel) (by decide +kernel)
set_option maxRecDepth 20000 in
theorem gX10_needs_X6_isFree_n207 : GoodIn wsX10_needs (wsX6_isFree) := ggX10_needs_X6_isFree
set_option maxRecDepth 20000 in
theorem ggX10_needs_X10_measured : GoodIn wsX10_needs wsX10_measured := goodIn_r _ [83, 1, 2, 84, 4, 85, 86, 66, 67, 68, 69, 7, 44, 45, 46, 87, 88, 89, 70, 71, 72, 73, 74, 75, 76, 90, 91, 92, 93, 94, 95, 96, 97, 98, 99, 100, 101, 102, 103, 104, 105, 106, 107, 108, 109, 110, 111, 112, 113, 114, 115, 116, 117, 118, 119, 120, 121, 122, 123, 134, 135, 136, 128, 141, 142, 143, 144, 145] (by decide +kernel) (by decide +kernel)
set_option maxRecDepth 20000 in
theorem gX10_needs_X10_measured : GoodIn wsX10_needs (wsV RX10 169 RX10 yX10_measured wsX10_measured) := goodIn_app (goodIn_of _ (by decide +kernel)) ggX10_needs_X10_measured
theorem dX10_needs_0 : decode cX10_needs 0 = .ok (.aload_n 0, 1) := by decide +kernel
theorem dX10_needs_1 : decode cX10_needs 1 = .ok (.getfield 29, 3) := by decide +kernel
theorem dX10_needs_4 : decode cX10_needs 4 = .ok (.aload_n 0, 1) := by decide +kernel
theorem dX10_needs_5 : decode cX10_needs 5 = .ok (.getfield 19, 3) := by decide +kernel
theorem dX10_needs_8 : decode cX10_needs 8 = .ok (.invokevirtual 159, 3) := by decide +kernel
theorem dX10_needs_11 : decode cX10_needs 11 = .ok (.iconst 0, 1) := by decide +kernel
theorem dX10_needs_12 : decode cX10_needs 12 = .ok (.istore_n 1, 1) := by decide +kernel
theorem dX10_needs_13 : decode cX10_needs 13 = .ok (.iconst 0, 1) := by decide +kernel
theorem dX10_needs_14 : decode cX10_needs 14 = .ok (.istore_n 2, 1) := by decide +kernel
theorem dX10_needs_15 : decode cX10_needs 15 = .ok (.iload_n 2, 1) := by decide +kernel
theorem dX10_needs_16 : decode cX10_needs 16 = .ok (.aload_n 0, 1) := by decide +kernel
theorem dX10_needs_17 : decode cX10_needs 17 = .ok (.getfield 19, 3) := by decide +kernel
theorem dX10_needs_20 : decode cX10_needs 20 = .ok (.getfield 64, 3) := by decide +kernel
theorem dX10_needs_23 : decode cX10_needs 23 = .ok (.getfield 68, 3) := by decide +kernel
theorem dX10_needs_26 : decode cX10_needs 26 = .ok (.if_icmp .ge 32, 3) := by decide +kernel
theorem dX10_needs_29 : decode cX10_needs 29 = .ok (.aload_n 0, 1) := by decide +kernel
theorem dX10_needs_30 : decode cX10_needs 30 = .ok (.getfield 19, 3) := by decide +kernel
theorem dX10_needs_33 : decode cX10_needs 33 = .ok (.getfield 64, 3) := by decide +kernel
theorem dX10_needs_36 : decode cX10_needs 36 = .ok (.iload_n 2, 1) := by decide +kernel
theorem dX10_needs_37 : decode cX10_needs 37 = .ok (.invokevirtual 207, 3) := by decide +kernel
theorem dX10_needs_40 : decode cX10_needs 40 = .ok (.ifCond .ne 12, 3) := by decide +kernel
theorem dX10_needs_43 : decode cX10_needs 43 = .ok (.iload_n 1, 1) := by decide +kernel
theorem dX10_needs_44 : decode cX10_needs 44 = .ok (.aload_n 0, 1) := by decide +kernel
theorem dX10_needs_45 : decode cX10_needs 45 = .ok (.iload_n 2, 1) := by decide +kernel
theorem dX10_needs_46 : decode cX10_needs 46 = .ok (.iconst 0, 1) := by decide +kernel
theorem dX10_needs_47 : decode cX10_needs 47 = .ok (.invokevirtual 169, 3) := by decide +kernel
theorem dX10_needs_50 : decode cX10_needs 50 = .ok (.iadd, 1) := by decide +kernel
theorem dX10_needs_51 : decode cX10_needs 51 = .ok (.istore_n 1, 1) := by decide +kernel
theorem dX10_needs_52 : decode cX10_needs 52 = .ok (.iinc 2 1, 3) := by decide +kernel
theorem dX10_needs_55 : decode cX10_needs 55 = .ok (.goto (-40), 3) := by decide +kernel
theorem dX10_needs_58 : decode cX10_needs 58 = .ok (.iload_n 1, 1) := by decide +kernel
theorem dX10_needs_59 : decode cX10_needs 59 = .ok (.ireturn, 1) := by decide +kernel
set_option maxRecDepth 20000 in
theorem ggX10_lack_X2_fill : GoodIn wsX10_lack wsX2_fill := goodIn_r _ [6, 7, 8, 9, 10, 11, 12, 13, 14, 15, 16, 17, 18, 19, 20, 21, 22, 23, 24, 25, 26, 27, 28, 29, 30, 31, 32, 33, 34, 35, 36, 37, 38, 4, 39, 40, 41, 42, 43, 44, 45, 46, 47, 48, 49, 50, 51, 52, 53, 54, 55, 56, 57, 58, 59, 60, 61, 62, 63, 64, 65, 66, 67, 68, 69, 70, 71, 72, 73, 74, 75, 76, 122, 114, 115, 116, 117, 118, 119, 120, 121, 123, 124, 125, 126, 127, 128, 129, 130, 131, 132, 133, 134, 135, 136, 137, 138] (by decide +kernel) (by decide +kernel)
set_option maxRecDepth 20000 in
theorem gX10_lack_X2_fill_n159 : GoodIn wsX10_lack (wsX2_fill) := ggX10_lack_X2_fill
set_option maxRecDepth 20000 in
theorem ggX10_lack_X10_lackOn : GoodIn wsX10_lack wsX10_lackOn := goodIn_r _ [80, 81, 2, 1, 82, 83, 84, 85, 86, 87, 88, 19, 20, 21, 89, 90, 91, 92, 93, 94, 95, 96, 52, 97, 98, 55, 67, 4, 68, 69, 7, 44, 45, 46, 99, 100, 101, 102, 103, 104, 105, 106, 107, 108, 109, 110, 111, 112, 113, 114, 115, 116, 117, 118, 119, 120, 121, 139, 140, 141, 142, 143, 144, 145, 146, 147, 148, 135, 136, 137, 138, 128, 129, 130, 122] (by decide +kernel) (by decide +kernel)
set_option maxRecDepth 20000 in
theorem gX10_lack_X10_lackOn : GoodIn wsX10_lack (wsV RX10 213 RX10 yX10_lackOn wsX10_lackOn) := goodIn_app (goodIn_of _ (by decide +kernel)) ggX10_lack_X10_lackOn
theorem dX10_lack_0 : decode cX10_lack 0 = .ok (.aload_n 0, 1) := by decide +kernel
theorem dX10_lack_1 : decode cX10_lack 1 = .ok (.getfield 29, 3) := by decide +kernel
theorem dX10_lack_4 : decode cX10_lack 4 = .ok (.aload_n 0, 1) := by decide +kernel
theorem dX10_lack_5 : decode cX10_lack 5 = .ok (.getfield 19, 3) := by decide +kernel
theorem dX10_lack_8 : decode cX10_lack 8 = .ok (.invokevirtual 159, 3) := by decide +kernel
theorem dX10_lack_11 : decode cX10_lack 11 = .ok (.aload_n 0, 1) := by decide +kernel
theorem dX10_lack_12 : decode cX10_lack 12 = .ok (.aload_n 0, 1) := by decide +kernel
theorem dX10_lack_13 : decode cX10_lack 13 = .ok (.getfield 19, 3) := by decide +kernel
theorem dX10_lack_16 : decode cX10_lack 16 = .ok (.getfield 153, 3) := by decide +kernel
theorem dX10_lack_19 : decode cX10_lack 19 = .ok (.invokevirtual 213, 3) := by decide +kernel
theorem dX10_lack_22 : decode cX10_lack 22 = .ok (.ireturn, 1) := by decide +kernel
set_option maxRecDepth 20000 in
theorem ggX10_cost_X2_fill : GoodIn wsX10_cost wsX2_fill := goodIn_r _ [7, 8, 9, 10, 11, 12, 13, 14, 15, 16, 17, 18, 19, 20, 21, 22, 23, 24, 25, 26, 27, 28, 29, 30, 31, 32, 33, 34, 35, 36, 37, 38, 39, 5, 40, 41, 42, 43, 44, 45, 46, 47, 48, 49, 50, 51, 52, 53, 54, 55, 56, 57, 58, 59, 60, 61, 62, 63, 64, 65, 66, 67, 68, 69, 70, 71, 72, 73, 74, 75, 76, 77, 121, 110, 111, 112, 113, 114, 115, 116, 117, 122, 123, 124, 125, 126, 127, 128, 129, 130, 131, 132, 133, 134, 135, 136, 137] (by decide +kernel) (by decide +kernel)
set_option maxRecDepth 20000 in
theorem gX10_cost_X2_fill_n159 : GoodIn wsX10_cost (wsX2_fill) := ggX10_cost_X2_fill
set_option maxRecDepth 20000 in
theorem ggX10_cost_X5_begin : GoodIn wsX10_cost wsX5_begin := goodIn_r _ [81, 82, 83, 84, 20, 21, 22, 118, 119, 120, 138, 139, 140, 141, 142, 143, 144] (by decide +kernel) (by decide +kernel)
set_option maxRecDepth 20000 in
theorem gX10_cost_X5_begin_n216 : GoodIn wsX10_cost (wsX5_begin) := ggX10_cost_X5_begin
set_option maxRecDepth 20000 in
theorem ggX10_cost_X5_serveAll : GoodIn wsX10_cost wsX5_serveAll := goodIn_r _ [87, 88, 89, 90, 79, 91, 92, 53, 93, 94, 56, 68, 5, 69, 70, 8, 45, 46, 47, 95, 96, 97, 98, 82, 84, 83, 99, 100, 101, 102, 110, 111, 112, 113, 114, 115, 116, 117, 134, 135, 136, 137, 127, 128, 129, 121, 118, 119, 120, 138, 139, 140, 141, 142, 143, 144] (by decide +kernel) (by decide +kernel)
set_option maxRecDepth 20000 in
theorem gX10_cost_X5_serveAll_n220 : GoodIn wsX10_cost (wsX5_serveAll) := ggX10_cost_X5_serveAll
theorem dX10_cost_0 : decode cX10_cost 0 = .ok (.aload_n 0, 1) := by decide +kernel
theorem dX10_cost_1 : decode cX10_cost 1 = .ok (.getfield 29, 3) := by decide +kernel
theorem dX10_cost_4 : decode cX10_cost 4 = .ok (.aload_n 0, 1) := by decide +kernel
theorem dX10_cost_5 : decode cX10_cost 5 = .ok (.getfield 19, 3) := by decide +kernel
theorem dX10_cost_8 : decode cX10_cost 8 = .ok (.invokevirtual 159, 3) := by decide +kernel
theorem dX10_cost_11 : decode cX10_cost 11 = .ok (.aload_n 0, 1) := by decide +kernel
theorem dX10_cost_12 : decode cX10_cost 12 = .ok (.getfield 36, 3) := by decide +kernel
theorem dX10_cost_15 : decode cX10_cost 15 = .ok (.aload_n 0, 1) := by decide +kernel
theorem dX10_cost_16 : decode cX10_cost 16 = .ok (.getfield 19, 3) := by decide +kernel
theorem dX10_cost_19 : decode cX10_cost 19 = .ok (.getfield 191, 3) := by decide +kernel
theorem dX10_cost_22 : decode cX10_cost 22 = .ok (.aload_n 0, 1) := by decide +kernel
theorem dX10_cost_23 : decode cX10_cost 23 = .ok (.getfield 19, 3) := by decide +kernel
theorem dX10_cost_26 : decode cX10_cost 26 = .ok (.getfield 153, 3) := by decide +kernel
theorem dX10_cost_29 : decode cX10_cost 29 = .ok (.invokevirtual 216, 3) := by decide +kernel
theorem dX10_cost_32 : decode cX10_cost 32 = .ok (.aload_n 0, 1) := by decide +kernel
theorem dX10_cost_33 : decode cX10_cost 33 = .ok (.getfield 36, 3) := by decide +kernel
theorem dX10_cost_36 : decode cX10_cost 36 = .ok (.aload_n 0, 1) := by decide +kernel
theorem dX10_cost_37 : decode cX10_cost 37 = .ok (.getfield 19, 3) := by decide +kernel
theorem dX10_cost_40 : decode cX10_cost 40 = .ok (.aload_n 0, 1) := by decide +kernel
theorem dX10_cost_41 : decode cX10_cost 41 = .ok (.getfield 29, 3) := by decide +kernel
theorem dX10_cost_44 : decode cX10_cost 44 = .ok (.invokevirtual 220, 3) := by decide +kernel
theorem dX10_cost_47 : decode cX10_cost 47 = .ok (.aload_n 0, 1) := by decide +kernel
theorem dX10_cost_48 : decode cX10_cost 48 = .ok (.getfield 36, 3) := by decide +kernel
theorem dX10_cost_51 : decode cX10_cost 51 = .ok (.getfield 224, 3) := by decide +kernel
theorem dX10_cost_54 : decode cX10_cost 54 = .ok (.ireturn, 1) := by decide +kernel
set_option maxRecDepth 20000 in
theorem ggX10_of_X6_isOne : GoodIn wsX10_of wsX6_isOne := goodIn_r _ [7, 8, 126, 127, 128, 129] (by decide +kernel) (by decide +kernel)
set_option maxRecDepth 20000 in
theorem gX10_of_X6_isOne_n74 : GoodIn wsX10_of (wsX6_isOne) := ggX10_of_X6_isOne
set_option maxRecDepth 20000 in
theorem ggX10_of_X10_finding : GoodIn wsX10_of wsX10_finding := goodIn_r _ [13, 14, 108, 109, 110, 111, 112, 113, 114] (by decide +kernel) (by decide +kernel)
set_option maxRecDepth 20000 in
theorem gX10_of_X10_finding : GoodIn wsX10_of (wsV RX10 44 RX10 yX10_finding wsX10_finding) := goodIn_app (goodIn_of _ (by decide +kernel)) ggX10_of_X10_finding
set_option maxRecDepth 20000 in
theorem ggX10_of_X2_fill : GoodIn wsX10_of wsX2_fill := goodIn_r _ [18, 19, 20, 21, 22, 23, 24, 25, 26, 27, 28, 29, 30, 31, 12, 32, 33, 34, 35, 36, 37, 38, 39, 40, 41, 42, 43, 44, 45, 46, 47, 48, 49, 16, 50, 51, 52, 53, 54, 55, 56, 57, 58, 59, 60, 61, 62, 5, 63, 64, 65, 66, 67, 68, 69, 70, 71, 72, 73, 74, 75, 76, 77, 78, 79, 80, 81, 82, 83, 84, 85, 86, 130, 115, 116, 117, 118, 119, 120, 121, 122, 131, 132, 133, 134, 135, 136, 137, 138, 139, 140, 141, 142, 126, 127, 128, 129] (by decide +kernel) (by decide +kernel)
set_option maxRecDepth 20000 in
theorem gX10_of_X2_fill_n159 : GoodIn wsX10_of (wsX2_fill) := ggX10_of_X2_fill
set_option maxRecDepth 20000 in
theorem ggX10_of_X5_begin : GoodIn wsX10_of wsX5_begin := goodIn_r _ [90, 91, 92, 93, 31, 12, 32, 123, 124, 125, 143, 144, 145, 146, 147, 148, 149] (by decide +kernel) (by decide +kernel)
set_option maxRecDepth 20000 in
theorem gX10_of_X5_begin_n216 : GoodIn wsX10_of (wsX5_begin) := ggX10_of_X5_begin
