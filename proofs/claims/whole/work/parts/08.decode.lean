set_option maxRecDepth 20000 in
theorem gX8_stillMany_X8_isStill : GoodIn wsX8_stillMany (wsV RX8 168 RX8 yX8_isStill wsX8_isStill) := goodIn_app (goodIn_of _ (by decide +kernel)) ggX8_stillMany_X8_isStill
theorem dX8_stillMany_0 : decode cX8_stillMany 0 = .ok (.iconst 0, 1) := by decide +kernel
theorem dX8_stillMany_1 : decode cX8_stillMany 1 = .ok (.istore_n 1, 1) := by decide +kernel
theorem dX8_stillMany_2 : decode cX8_stillMany 2 = .ok (.iconst 0, 1) := by decide +kernel
theorem dX8_stillMany_3 : decode cX8_stillMany 3 = .ok (.istore_n 2, 1) := by decide +kernel
theorem dX8_stillMany_4 : decode cX8_stillMany 4 = .ok (.iload_n 2, 1) := by decide +kernel
theorem dX8_stillMany_5 : decode cX8_stillMany 5 = .ok (.aload_n 0, 1) := by decide +kernel
theorem dX8_stillMany_6 : decode cX8_stillMany 6 = .ok (.invokevirtual 151, 3) := by decide +kernel
theorem dX8_stillMany_9 : decode cX8_stillMany 9 = .ok (.if_icmp .ge 25, 3) := by decide +kernel
theorem dX8_stillMany_12 : decode cX8_stillMany 12 = .ok (.iload_n 1, 1) := by decide +kernel
theorem dX8_stillMany_13 : decode cX8_stillMany 13 = .ok (.aload_n 0, 1) := by decide +kernel
theorem dX8_stillMany_14 : decode cX8_stillMany 14 = .ok (.iload_n 2, 1) := by decide +kernel
theorem dX8_stillMany_15 : decode cX8_stillMany 15 = .ok (.invokevirtual 168, 3) := by decide +kernel
theorem dX8_stillMany_18 : decode cX8_stillMany 18 = .ok (.ifCond .eq 7, 3) := by decide +kernel
theorem dX8_stillMany_21 : decode cX8_stillMany 21 = .ok (.iconst 1, 1) := by decide +kernel
theorem dX8_stillMany_22 : decode cX8_stillMany 22 = .ok (.goto 4, 3) := by decide +kernel
theorem dX8_stillMany_25 : decode cX8_stillMany 25 = .ok (.iconst 0, 1) := by decide +kernel
theorem dX8_stillMany_26 : decode cX8_stillMany 26 = .ok (.iadd, 1) := by decide +kernel
theorem dX8_stillMany_27 : decode cX8_stillMany 27 = .ok (.istore_n 1, 1) := by decide +kernel
theorem dX8_stillMany_28 : decode cX8_stillMany 28 = .ok (.iinc 2 1, 3) := by decide +kernel
theorem dX8_stillMany_31 : decode cX8_stillMany 31 = .ok (.goto (-27), 3) := by decide +kernel
theorem dX8_stillMany_34 : decode cX8_stillMany 34 = .ok (.iload_n 1, 1) := by decide +kernel
theorem dX8_stillMany_35 : decode cX8_stillMany 35 = .ok (.ireturn, 1) := by decide +kernel
set_option maxRecDepth 20000 in
theorem ggX8_nearest_X8_cells : GoodIn wsX8_nearest wsX8_cells := goodIn_r _ [6, 1, 12, 13, 14, 15, 16, 17, 18, 19, 20, 21, 22, 23, 24, 25, 26, 27, 28, 29, 30, 31, 32, 33, 34, 35, 36, 37, 38, 39, 40, 41, 42] (by decide +kernel) (by decide +kernel)
set_option maxRecDepth 20000 in
theorem gX8_nearest_X8_cells : GoodIn wsX8_nearest (wsV RX8 151 RX8 yX8_cells wsX8_cells) := goodIn_app (goodIn_of _ (by decide +kernel)) ggX8_nearest_X8_cells
set_option maxRecDepth 20000 in
theorem ggX8_nearest_X8_isStill : GoodIn wsX8_nearest wsX8_isStill := goodIn_r _ [10, 11, 1, 12, 13, 14, 15, 16, 17, 18, 19, 20, 21, 22, 23, 24, 25, 26, 27, 28, 29, 30, 31, 32, 33, 34, 35, 36, 37, 38, 39, 40, 41, 42] (by decide +kernel) (by decide +kernel)
set_option maxRecDepth 20000 in
theorem gX8_nearest_X8_isStill : GoodIn wsX8_nearest (wsV RX8 168 RX8 yX8_isStill wsX8_isStill) := goodIn_app (goodIn_of _ (by decide +kernel)) ggX8_nearest_X8_isStill
theorem dX8_nearest_0 : decode cX8_nearest 0 = .ok (.bipush 100, 2) := by decide +kernel
theorem dX8_nearest_2 : decode cX8_nearest 2 = .ok (.istore_n 3, 1) := by decide +kernel
theorem dX8_nearest_3 : decode cX8_nearest 3 = .ok (.iconst 0, 1) := by decide +kernel
theorem dX8_nearest_4 : decode cX8_nearest 4 = .ok (.istore 4, 2) := by decide +kernel
theorem dX8_nearest_6 : decode cX8_nearest 6 = .ok (.iload 4, 2) := by decide +kernel
theorem dX8_nearest_8 : decode cX8_nearest 8 = .ok (.aload_n 0, 1) := by decide +kernel
theorem dX8_nearest_9 : decode cX8_nearest 9 = .ok (.invokevirtual 151, 3) := by decide +kernel
theorem dX8_nearest_12 : decode cX8_nearest 12 = .ok (.if_icmp .ge 130, 3) := by decide +kernel
theorem dX8_nearest_15 : decode cX8_nearest 15 = .ok (.iload_n 1, 1) := by decide +kernel
theorem dX8_nearest_16 : decode cX8_nearest 16 = .ok (.aload_n 0, 1) := by decide +kernel
theorem dX8_nearest_17 : decode cX8_nearest 17 = .ok (.getfield 13, 3) := by decide +kernel
theorem dX8_nearest_20 : decode cX8_nearest 20 = .ok (.iconst 0, 1) := by decide +kernel
theorem dX8_nearest_21 : decode cX8_nearest 21 = .ok (.iaload, 1) := by decide +kernel
theorem dX8_nearest_22 : decode cX8_nearest 22 = .ok (.irem, 1) := by decide +kernel
theorem dX8_nearest_23 : decode cX8_nearest 23 = .ok (.iload 4, 2) := by decide +kernel
theorem dX8_nearest_25 : decode cX8_nearest 25 = .ok (.aload_n 0, 1) := by decide +kernel
theorem dX8_nearest_26 : decode cX8_nearest 26 = .ok (.getfield 13, 3) := by decide +kernel
theorem dX8_nearest_29 : decode cX8_nearest 29 = .ok (.iconst 0, 1) := by decide +kernel
theorem dX8_nearest_30 : decode cX8_nearest 30 = .ok (.iaload, 1) := by decide +kernel
theorem dX8_nearest_31 : decode cX8_nearest 31 = .ok (.irem, 1) := by decide +kernel
theorem dX8_nearest_32 : decode cX8_nearest 32 = .ok (.isub, 1) := by decide +kernel
theorem dX8_nearest_33 : decode cX8_nearest 33 = .ok (.istore 5, 2) := by decide +kernel
theorem dX8_nearest_35 : decode cX8_nearest 35 = .ok (.iload_n 1, 1) := by decide +kernel
theorem dX8_nearest_36 : decode cX8_nearest 36 = .ok (.aload_n 0, 1) := by decide +kernel
theorem dX8_nearest_37 : decode cX8_nearest 37 = .ok (.getfield 13, 3) := by decide +kernel
theorem dX8_nearest_40 : decode cX8_nearest 40 = .ok (.iconst 0, 1) := by decide +kernel
theorem dX8_nearest_41 : decode cX8_nearest 41 = .ok (.iaload, 1) := by decide +kernel
theorem dX8_nearest_42 : decode cX8_nearest 42 = .ok (.idiv, 1) := by decide +kernel
theorem dX8_nearest_43 : decode cX8_nearest 43 = .ok (.iload 4, 2) := by decide +kernel
theorem dX8_nearest_45 : decode cX8_nearest 45 = .ok (.aload_n 0, 1) := by decide +kernel
theorem dX8_nearest_46 : decode cX8_nearest 46 = .ok (.getfield 13, 3) := by decide +kernel
theorem dX8_nearest_49 : decode cX8_nearest 49 = .ok (.iconst 0, 1) := by decide +kernel
theorem dX8_nearest_50 : decode cX8_nearest 50 = .ok (.iaload, 1) := by decide +kernel
theorem dX8_nearest_51 : decode cX8_nearest 51 = .ok (.idiv, 1) := by decide +kernel
theorem dX8_nearest_52 : decode cX8_nearest 52 = .ok (.isub, 1) := by decide +kernel
theorem dX8_nearest_53 : decode cX8_nearest 53 = .ok (.istore 6, 2) := by decide +kernel
theorem dX8_nearest_55 : decode cX8_nearest 55 = .ok (.iload 5, 2) := by decide +kernel
theorem dX8_nearest_57 : decode cX8_nearest 57 = .ok (.ifCond .ge 9, 3) := by decide +kernel
theorem dX8_nearest_60 : decode cX8_nearest 60 = .ok (.iload 5, 2) := by decide +kernel
theorem dX8_nearest_62 : decode cX8_nearest 62 = .ok (.ineg, 1) := by decide +kernel
theorem dX8_nearest_63 : decode cX8_nearest 63 = .ok (.goto 5, 3) := by decide +kernel
theorem dX8_nearest_66 : decode cX8_nearest 66 = .ok (.iload 5, 2) := by decide +kernel
theorem dX8_nearest_68 : decode cX8_nearest 68 = .ok (.iload 6, 2) := by decide +kernel
theorem dX8_nearest_70 : decode cX8_nearest 70 = .ok (.ifCond .ge 9, 3) := by decide +kernel
theorem dX8_nearest_73 : decode cX8_nearest 73 = .ok (.iload 6, 2) := by decide +kernel
theorem dX8_nearest_75 : decode cX8_nearest 75 = .ok (.ineg, 1) := by decide +kernel
theorem dX8_nearest_76 : decode cX8_nearest 76 = .ok (.goto 5, 3) := by decide +kernel
theorem dX8_nearest_79 : decode cX8_nearest 79 = .ok (.iload 6, 2) := by decide +kernel
theorem dX8_nearest_81 : decode cX8_nearest 81 = .ok (.iadd, 1) := by decide +kernel
theorem dX8_nearest_82 : decode cX8_nearest 82 = .ok (.istore 7, 2) := by decide +kernel
theorem dX8_nearest_84 : decode cX8_nearest 84 = .ok (.iload_n 2, 1) := by decide +kernel
theorem dX8_nearest_85 : decode cX8_nearest 85 = .ok (.ifCond .eq 12, 3) := by decide +kernel
theorem dX8_nearest_88 : decode cX8_nearest 88 = .ok (.aload_n 0, 1) := by decide +kernel
theorem dX8_nearest_89 : decode cX8_nearest 89 = .ok (.iload 4, 2) := by decide +kernel
theorem dX8_nearest_91 : decode cX8_nearest 91 = .ok (.invokevirtual 168, 3) := by decide +kernel
theorem dX8_nearest_94 : decode cX8_nearest 94 = .ok (.goto 22, 3) := by decide +kernel
theorem dX8_nearest_97 : decode cX8_nearest 97 = .ok (.aload_n 0, 1) := by decide +kernel
theorem dX8_nearest_98 : decode cX8_nearest 98 = .ok (.getfield 13, 3) := by decide +kernel
theorem dX8_nearest_101 : decode cX8_nearest 101 = .ok (.bipush 9, 2) := by decide +kernel
theorem dX8_nearest_103 : decode cX8_nearest 103 = .ok (.iload 4, 2) := by decide +kernel
theorem dX8_nearest_105 : decode cX8_nearest 105 = .ok (.iadd, 1) := by decide +kernel
theorem dX8_nearest_106 : decode cX8_nearest 106 = .ok (.iaload, 1) := by decide +kernel
theorem dX8_nearest_107 : decode cX8_nearest 107 = .ok (.iconst 1, 1) := by decide +kernel
theorem dX8_nearest_108 : decode cX8_nearest 108 = .ok (.if_icmp .ne 7, 3) := by decide +kernel
theorem dX8_nearest_111 : decode cX8_nearest 111 = .ok (.iconst 1, 1) := by decide +kernel
theorem dX8_nearest_112 : decode cX8_nearest 112 = .ok (.goto 4, 3) := by decide +kernel
theorem dX8_nearest_115 : decode cX8_nearest 115 = .ok (.iconst 0, 1) := by decide +kernel
theorem dX8_nearest_116 : decode cX8_nearest 116 = .ok (.istore 8, 2) := by decide +kernel
theorem dX8_nearest_118 : decode cX8_nearest 118 = .ok (.iload 8, 2) := by decide +kernel
theorem dX8_nearest_120 : decode cX8_nearest 120 = .ok (.ifCond .eq 14, 3) := by decide +kernel
theorem dX8_nearest_123 : decode cX8_nearest 123 = .ok (.iload 7, 2) := by decide +kernel
theorem dX8_nearest_125 : decode cX8_nearest 125 = .ok (.iload_n 3, 1) := by decide +kernel
theorem dX8_nearest_126 : decode cX8_nearest 126 = .ok (.if_icmp .ge 8, 3) := by decide +kernel
theorem dX8_nearest_129 : decode cX8_nearest 129 = .ok (.iload 7, 2) := by decide +kernel
theorem dX8_nearest_131 : decode cX8_nearest 131 = .ok (.goto 4, 3) := by decide +kernel
theorem dX8_nearest_134 : decode cX8_nearest 134 = .ok (.iload_n 3, 1) := by decide +kernel
theorem dX8_nearest_135 : decode cX8_nearest 135 = .ok (.istore_n 3, 1) := by decide +kernel
theorem dX8_nearest_136 : decode cX8_nearest 136 = .ok (.iinc 4 1, 3) := by decide +kernel
theorem dX8_nearest_139 : decode cX8_nearest 139 = .ok (.goto (-133), 3) := by decide +kernel
theorem dX8_nearest_142 : decode cX8_nearest 142 = .ok (.iload_n 3, 1) := by decide +kernel
theorem dX8_nearest_143 : decode cX8_nearest 143 = .ok (.ireturn, 1) := by decide +kernel
set_option maxRecDepth 20000 in
theorem ggX8_apart_X8_figure : GoodIn wsX8_apart wsX8_figure := goodIn_r _ [6, 1, 7, 8, 9, 5, 10, 24, 25, 26, 27, 28, 29, 30, 31, 32, 33, 34, 35, 36, 37, 38, 39, 40, 41, 42, 43, 44, 45, 46, 47, 48, 49, 50, 51, 52, 53, 54] (by decide +kernel) (by decide +kernel)
set_option maxRecDepth 20000 in
theorem gX8_apart_X8_figure : GoodIn wsX8_apart (wsV RX8 205 RX8 yX8_figure wsX8_figure) := goodIn_app (goodIn_of _ (by decide +kernel)) ggX8_apart_X8_figure
set_option maxRecDepth 20000 in
theorem ggX8_apart_X8_stillMany : GoodIn wsX8_apart wsX8_stillMany := goodIn_r _ [14, 7, 8, 9, 5, 10, 1, 15, 16, 17, 18, 19, 24, 25, 26, 27, 28, 29, 30, 31, 32, 33, 34, 35, 36, 37, 38, 39, 40, 41, 42, 43, 44, 45, 46, 47, 48, 49, 50, 51, 52, 53, 54] (by decide +kernel) (by decide +kernel)
set_option maxRecDepth 20000 in
theorem gX8_apart_X8_stillMany : GoodIn wsX8_apart (wsV RX8 215 RX8 yX8_stillMany wsX8_stillMany) := goodIn_app (goodIn_of _ (by decide +kernel)) ggX8_apart_X8_stillMany
set_option maxRecDepth 20000 in
theorem ggX8_apart_X8_cells : GoodIn wsX8_apart wsX8_cells := goodIn_r _ [10, 1, 24, 25, 26, 27, 28, 29, 30, 31, 32, 33, 34, 35, 36, 37, 38, 39, 40, 41, 42, 43, 44, 45, 46, 47, 48, 49, 50, 51, 52, 53, 54] (by decide +kernel) (by decide +kernel)
set_option maxRecDepth 20000 in
theorem gX8_apart_X8_cells : GoodIn wsX8_apart (wsV RX8 151 RX8 yX8_cells wsX8_cells) := goodIn_app (goodIn_of _ (by decide +kernel)) ggX8_apart_X8_cells
set_option maxRecDepth 20000 in
theorem ggX8_apart_X8_nearest : GoodIn wsX8_apart wsX8_nearest := goodIn_r _ [23, 1, 7, 8, 9, 5, 10, 15, 16, 17, 18, 19, 24, 25, 26, 27, 28, 29, 30, 31, 32, 33, 34, 35, 36, 37, 38, 39, 40, 41, 42, 43, 44, 45, 46, 47, 48, 49, 50, 51, 52, 53, 54] (by decide +kernel) (by decide +kernel)
set_option maxRecDepth 20000 in
theorem gX8_apart_X8_nearest : GoodIn wsX8_apart (wsV RX8 218 RX8 yX8_nearest wsX8_nearest) := goodIn_app (goodIn_of _ (by decide +kernel)) ggX8_apart_X8_nearest
set_option maxRecDepth 20000 in
theorem ggX8_apart_X8_isStill : GoodIn wsX8_apart wsX8_isStill := goodIn_r _ [18, 19, 1, 24, 25, 26, 27, 28, 29, 30, 31, 32, 33, 34, 35, 36, 37, 38, 39, 40, 41, 42, 43, 44, 45, 46, 47, 48, 49, 50, 51, 52, 53, 54] (by decide +kernel) (by decide +kernel)
set_option maxRecDepth 20000 in
theorem gX8_apart_X8_isStill : GoodIn wsX8_apart (wsV RX8 168 RX8 yX8_isStill wsX8_isStill) := goodIn_app (goodIn_of _ (by decide +kernel)) ggX8_apart_X8_isStill
theorem dX8_apart_0 : decode cX8_apart 0 = .ok (.aload_n 0, 1) := by decide +kernel
theorem dX8_apart_1 : decode cX8_apart 1 = .ok (.invokevirtual 205, 3) := by decide +kernel
theorem dX8_apart_4 : decode cX8_apart 4 = .ok (.ifCond .eq 10, 3) := by decide +kernel
theorem dX8_apart_7 : decode cX8_apart 7 = .ok (.aload_n 0, 1) := by decide +kernel
theorem dX8_apart_8 : decode cX8_apart 8 = .ok (.invokevirtual 215, 3) := by decide +kernel
theorem dX8_apart_11 : decode cX8_apart 11 = .ok (.ifCond .ne 6, 3) := by decide +kernel
theorem dX8_apart_14 : decode cX8_apart 14 = .ok (.bipush (-9), 2) := by decide +kernel
theorem dX8_apart_16 : decode cX8_apart 16 = .ok (.ireturn, 1) := by decide +kernel
theorem dX8_apart_17 : decode cX8_apart 17 = .ok (.iconst 0, 1) := by decide +kernel
theorem dX8_apart_18 : decode cX8_apart 18 = .ok (.istore_n 1, 1) := by decide +kernel
theorem dX8_apart_19 : decode cX8_apart 19 = .ok (.iconst 0, 1) := by decide +kernel
theorem dX8_apart_20 : decode cX8_apart 20 = .ok (.istore_n 2, 1) := by decide +kernel
theorem dX8_apart_21 : decode cX8_apart 21 = .ok (.iload_n 2, 1) := by decide +kernel
theorem dX8_apart_22 : decode cX8_apart 22 = .ok (.aload_n 0, 1) := by decide +kernel
theorem dX8_apart_23 : decode cX8_apart 23 = .ok (.invokevirtual 151, 3) := by decide +kernel
theorem dX8_apart_26 : decode cX8_apart 26 = .ok (.if_icmp .ge 56, 3) := by decide +kernel
theorem dX8_apart_29 : decode cX8_apart 29 = .ok (.iload_n 1, 1) := by decide +kernel
theorem dX8_apart_30 : decode cX8_apart 30 = .ok (.aload_n 0, 1) := by decide +kernel
theorem dX8_apart_31 : decode cX8_apart 31 = .ok (.getfield 13, 3) := by decide +kernel
theorem dX8_apart_34 : decode cX8_apart 34 = .ok (.bipush 9, 2) := by decide +kernel
theorem dX8_apart_36 : decode cX8_apart 36 = .ok (.iload_n 2, 1) := by decide +kernel
theorem dX8_apart_37 : decode cX8_apart 37 = .ok (.iadd, 1) := by decide +kernel
theorem dX8_apart_38 : decode cX8_apart 38 = .ok (.iaload, 1) := by decide +kernel
theorem dX8_apart_39 : decode cX8_apart 39 = .ok (.iconst 1, 1) := by decide +kernel
theorem dX8_apart_40 : decode cX8_apart 40 = .ok (.if_icmp .ne 12, 3) := by decide +kernel
theorem dX8_apart_43 : decode cX8_apart 43 = .ok (.aload_n 0, 1) := by decide +kernel
theorem dX8_apart_44 : decode cX8_apart 44 = .ok (.iload_n 2, 1) := by decide +kernel
theorem dX8_apart_45 : decode cX8_apart 45 = .ok (.iconst 1, 1) := by decide +kernel
theorem dX8_apart_46 : decode cX8_apart 46 = .ok (.invokevirtual 218, 3) := by decide +kernel
theorem dX8_apart_49 : decode cX8_apart 49 = .ok (.goto 4, 3) := by decide +kernel
theorem dX8_apart_52 : decode cX8_apart 52 = .ok (.iconst 0, 1) := by decide +kernel
theorem dX8_apart_53 : decode cX8_apart 53 = .ok (.iadd, 1) := by decide +kernel
theorem dX8_apart_54 : decode cX8_apart 54 = .ok (.istore_n 1, 1) := by decide +kernel
theorem dX8_apart_55 : decode cX8_apart 55 = .ok (.iload_n 1, 1) := by decide +kernel
theorem dX8_apart_56 : decode cX8_apart 56 = .ok (.aload_n 0, 1) := by decide +kernel
theorem dX8_apart_57 : decode cX8_apart 57 = .ok (.iload_n 2, 1) := by decide +kernel
theorem dX8_apart_58 : decode cX8_apart 58 = .ok (.invokevirtual 168, 3) := by decide +kernel
theorem dX8_apart_61 : decode cX8_apart 61 = .ok (.ifCond .eq 12, 3) := by decide +kernel
theorem dX8_apart_64 : decode cX8_apart 64 = .ok (.aload_n 0, 1) := by decide +kernel
theorem dX8_apart_65 : decode cX8_apart 65 = .ok (.iload_n 2, 1) := by decide +kernel
theorem dX8_apart_66 : decode cX8_apart 66 = .ok (.iconst 0, 1) := by decide +kernel
theorem dX8_apart_67 : decode cX8_apart 67 = .ok (.invokevirtual 218, 3) := by decide +kernel
theorem dX8_apart_70 : decode cX8_apart 70 = .ok (.goto 4, 3) := by decide +kernel
theorem dX8_apart_73 : decode cX8_apart 73 = .ok (.iconst 0, 1) := by decide +kernel
theorem dX8_apart_74 : decode cX8_apart 74 = .ok (.iadd, 1) := by decide +kernel
theorem dX8_apart_75 : decode cX8_apart 75 = .ok (.istore_n 1, 1) := by decide +kernel
theorem dX8_apart_76 : decode cX8_apart 76 = .ok (.iinc 2 1, 3) := by decide +kernel
theorem dX8_apart_79 : decode cX8_apart 79 = .ok (.goto (-58), 3) := by decide +kernel
theorem dX8_apart_82 : decode cX8_apart 82 = .ok (.iload_n 1, 1) := by decide +kernel
theorem dX8_apart_83 : decode cX8_apart 83 = .ok (.ireturn, 1) := by decide +kernel
set_option maxRecDepth 20000 in
theorem ggX8_still_X8_in : GoodIn wsX8_still wsX8_in := goodIn_r _ [6] (by decide +kernel) (by decide +kernel)
set_option maxRecDepth 20000 in
theorem gX8_still_X8_in : GoodIn wsX8_still (va_wsS RX8 61 yX8_in wsX8_in) := goodIn_app (goodIn_of _ (by decide +kernel)) ggX8_still_X8_in
set_option maxRecDepth 20000 in
theorem ggX8_still_X8_runs : GoodIn wsX8_still wsX8_runs := goodIn_r _ [10, 11, 12, 13, 14, 15, 16, 17, 5, 18, 19, 20, 21, 22, 23, 2, 24, 25, 26, 27, 28, 29, 30, 31, 32, 33, 34, 35, 3, 4, 6, 60, 61, 62, 63, 64, 65, 66, 67, 68, 69, 70, 71, 72, 73, 74, 75, 76, 77, 78, 79, 80, 81, 82, 83, 84, 85, 86, 87, 88, 89, 90] (by decide +kernel) (by decide +kernel)
set_option maxRecDepth 20000 in
theorem gX8_still_X8_runs : GoodIn wsX8_still (wsV RX8 175 RX8 yX8_runs wsX8_runs) := goodIn_app (goodIn_of _ (by decide +kernel)) ggX8_still_X8_runs
set_option maxRecDepth 20000 in
theorem ggX8_still_X8_stillMany : GoodIn wsX8_still wsX8_stillMany := goodIn_r _ [39, 24, 25, 26, 5, 27, 2, 40, 41, 42, 43, 14, 60, 61, 62, 63, 64, 65, 66, 67, 68, 69, 70, 71, 72, 73, 74, 75, 76, 77, 78, 79, 80, 81, 82, 83, 84, 85, 86, 87, 88, 89, 90] (by decide +kernel) (by decide +kernel)
set_option maxRecDepth 20000 in
theorem gX8_still_X8_stillMany : GoodIn wsX8_still (wsV RX8 215 RX8 yX8_stillMany wsX8_stillMany) := goodIn_app (goodIn_of _ (by decide +kernel)) ggX8_still_X8_stillMany
set_option maxRecDepth 20000 in
theorem ggX8_still_X8_likeness : GoodIn wsX8_still wsX8_likeness := goodIn_r _ [47, 2, 24, 25, 26, 5, 27, 40, 41, 42, 43, 14, 60, 61, 62, 63, 64, 65, 66, 67, 68, 69, 70, 71, 72, 73, 74, 75, 76, 77, 78, 79, 80, 81, 82, 83, 84, 85, 86, 87, 88, 89, 90] (by decide +kernel) (by decide +kernel)
set_option maxRecDepth 20000 in
theorem gX8_still_X8_likeness : GoodIn wsX8_still (wsV RX8 222 RX8 yX8_likeness wsX8_likeness) := goodIn_app (goodIn_of _ (by decide +kernel)) ggX8_still_X8_likeness
set_option maxRecDepth 20000 in
theorem ggX8_still_X8_apart : GoodIn wsX8_still wsX8_apart := goodIn_r _ [51, 2, 52, 53, 54, 5, 55, 24, 25, 26, 27, 36, 37, 38, 39, 40, 41, 42, 43, 14, 56, 57, 58, 59, 60, 61, 62, 63, 64, 65, 66, 67, 68, 69, 70, 71, 72, 73, 74, 75, 76, 77, 78, 79, 80, 81, 82, 83, 84, 85, 86, 87, 88, 89, 90] (by decide +kernel) (by decide +kernel)
set_option maxRecDepth 20000 in
theorem gX8_still_X8_apart : GoodIn wsX8_still (wsV RX8 225 RX8 yX8_apart wsX8_apart) := goodIn_app (goodIn_of _ (by decide +kernel)) ggX8_still_X8_apart
theorem dX8_still_0 : decode cX8_still 0 = .ok (.iload_n 1, 1) := by decide +kernel
theorem dX8_still_1 : decode cX8_still 1 = .ok (.i2l, 1) := by decide +kernel
theorem dX8_still_2 : decode cX8_still 2 = .ok (.lconst 0, 1) := by decide +kernel
theorem dX8_still_3 : decode cX8_still 3 = .ok (.ldc2_w 190, 3) := by decide +kernel
theorem dX8_still_6 : decode cX8_still 6 = .ok (.invokestatic 61, 3) := by decide +kernel
theorem dX8_still_9 : decode cX8_still 9 = .ok (.ifCond .ne 5, 3) := by decide +kernel
theorem dX8_still_12 : decode cX8_still 12 = .ok (.iconst (-1), 1) := by decide +kernel
theorem dX8_still_13 : decode cX8_still 13 = .ok (.ireturn, 1) := by decide +kernel
theorem dX8_still_14 : decode cX8_still 14 = .ok (.aload_n 0, 1) := by decide +kernel
theorem dX8_still_15 : decode cX8_still 15 = .ok (.aload_n 0, 1) := by decide +kernel
theorem dX8_still_16 : decode cX8_still 16 = .ok (.getfield 13, 3) := by decide +kernel
theorem dX8_still_19 : decode cX8_still 19 = .ok (.bipush 6, 2) := by decide +kernel
theorem dX8_still_21 : decode cX8_still 21 = .ok (.iaload, 1) := by decide +kernel
theorem dX8_still_22 : decode cX8_still 22 = .ok (.invokevirtual 175, 3) := by decide +kernel
theorem dX8_still_25 : decode cX8_still 25 = .ok (.iload_n 1, 1) := by decide +kernel
theorem dX8_still_26 : decode cX8_still 26 = .ok (.ifCond .ne 10, 3) := by decide +kernel
theorem dX8_still_29 : decode cX8_still 29 = .ok (.aload_n 0, 1) := by decide +kernel
theorem dX8_still_30 : decode cX8_still 30 = .ok (.invokevirtual 215, 3) := by decide +kernel
theorem dX8_still_33 : decode cX8_still 33 = .ok (.goto 19, 3) := by decide +kernel
theorem dX8_still_36 : decode cX8_still 36 = .ok (.iload_n 1, 1) := by decide +kernel
theorem dX8_still_37 : decode cX8_still 37 = .ok (.iconst 1, 1) := by decide +kernel
theorem dX8_still_38 : decode cX8_still 38 = .ok (.if_icmp .ne 10, 3) := by decide +kernel
theorem dX8_still_41 : decode cX8_still 41 = .ok (.aload_n 0, 1) := by decide +kernel
theorem dX8_still_42 : decode cX8_still 42 = .ok (.invokevirtual 222, 3) := by decide +kernel
theorem dX8_still_45 : decode cX8_still 45 = .ok (.goto 7, 3) := by decide +kernel
theorem dX8_still_48 : decode cX8_still 48 = .ok (.aload_n 0, 1) := by decide +kernel
theorem dX8_still_49 : decode cX8_still 49 = .ok (.invokevirtual 225, 3) := by decide +kernel
theorem dX8_still_52 : decode cX8_still 52 = .ok (.ireturn, 1) := by decide +kernel
set_option maxRecDepth 20000 in
theorem ggX8_best_X8_in : GoodIn wsX8_best wsX8_in := goodIn_r _ [4] (by decide +kernel) (by decide +kernel)
set_option maxRecDepth 20000 in
theorem gX8_best_X8_in : GoodIn wsX8_best (va_wsS RX8 61 yX8_in wsX8_in) := goodIn_app (goodIn_of _ (by decide +kernel)) ggX8_best_X8_in
set_option maxRecDepth 20000 in
theorem ggX8_best_X8_runs : GoodIn wsX8_best wsX8_runs := goodIn_r _ [8, 9, 10, 11, 12, 13, 14, 15, 3, 16, 17, 18, 19, 20, 21, 22, 23, 24, 25, 26, 27, 28, 29, 30, 31, 32, 33, 34, 1, 2, 4, 43, 44, 45, 46, 47, 48, 49, 50, 51, 52, 53, 54, 55, 56, 57, 58, 59, 60, 61, 62, 63, 64, 65, 66, 67, 68, 69, 70, 71, 72, 73] (by decide +kernel) (by decide +kernel)
set_option maxRecDepth 20000 in
theorem gX8_best_X8_runs : GoodIn wsX8_best (wsV RX8 175 RX8 yX8_runs wsX8_runs) := goodIn_app (goodIn_of _ (by decide +kernel)) ggX8_best_X8_runs
set_option maxRecDepth 20000 in
theorem ggX8_best_X8_likeness : GoodIn wsX8_best wsX8_likeness := goodIn_r _ [38, 22, 23, 24, 25, 3, 26, 39, 40, 41, 42, 12, 43, 44, 45, 46, 47, 48, 49, 50, 51, 52, 53, 54, 55, 56, 57, 58, 59, 60, 61, 62, 63, 64, 65, 66, 67, 68, 69, 70, 71, 72, 73] (by decide +kernel) (by decide +kernel)
set_option maxRecDepth 20000 in
theorem gX8_best_X8_likeness : GoodIn wsX8_best (wsV RX8 222 RX8 yX8_likeness wsX8_likeness) := goodIn_app (goodIn_of _ (by decide +kernel)) ggX8_best_X8_likeness
theorem dX8_best_0 : decode cX8_best 0 = .ok (.iload_n 1, 1) := by decide +kernel
theorem dX8_best_1 : decode cX8_best 1 = .ok (.i2l, 1) := by decide +kernel
theorem dX8_best_2 : decode cX8_best 2 = .ok (.lconst 0, 1) := by decide +kernel
theorem dX8_best_3 : decode cX8_best 3 = .ok (.lconst 1, 1) := by decide +kernel
theorem dX8_best_4 : decode cX8_best 4 = .ok (.invokestatic 61, 3) := by decide +kernel
theorem dX8_best_7 : decode cX8_best 7 = .ok (.ifCond .ne 5, 3) := by decide +kernel
theorem dX8_best_10 : decode cX8_best 10 = .ok (.iconst (-1), 1) := by decide +kernel
theorem dX8_best_11 : decode cX8_best 11 = .ok (.ireturn, 1) := by decide +kernel
theorem dX8_best_12 : decode cX8_best 12 = .ok (.iconst 0, 1) := by decide +kernel
theorem dX8_best_13 : decode cX8_best 13 = .ok (.istore_n 2, 1) := by decide +kernel
theorem dX8_best_14 : decode cX8_best 14 = .ok (.iconst (-1), 1) := by decide +kernel
theorem dX8_best_15 : decode cX8_best 15 = .ok (.istore_n 3, 1) := by decide +kernel
theorem dX8_best_16 : decode cX8_best 16 = .ok (.iconst 2, 1) := by decide +kernel
theorem dX8_best_17 : decode cX8_best 17 = .ok (.istore 4, 2) := by decide +kernel
theorem dX8_best_19 : decode cX8_best 19 = .ok (.iload 4, 2) := by decide +kernel
theorem dX8_best_21 : decode cX8_best 21 = .ok (.bipush 21, 2) := by decide +kernel
theorem dX8_best_23 : decode cX8_best 23 = .ok (.if_icmp .ge 47, 3) := by decide +kernel
theorem dX8_best_26 : decode cX8_best 26 = .ok (.aload_n 0, 1) := by decide +kernel
theorem dX8_best_27 : decode cX8_best 27 = .ok (.iload 4, 2) := by decide +kernel
theorem dX8_best_29 : decode cX8_best 29 = .ok (.invokevirtual 175, 3) := by decide +kernel
theorem dX8_best_32 : decode cX8_best 32 = .ok (.aload_n 0, 1) := by decide +kernel
theorem dX8_best_33 : decode cX8_best 33 = .ok (.invokevirtual 222, 3) := by decide +kernel
theorem dX8_best_36 : decode cX8_best 36 = .ok (.istore 5, 2) := by decide +kernel
theorem dX8_best_38 : decode cX8_best 38 = .ok (.iload 5, 2) := by decide +kernel
theorem dX8_best_40 : decode cX8_best 40 = .ok (.iload_n 3, 1) := by decide +kernel
theorem dX8_best_41 : decode cX8_best 41 = .ok (.if_icmp .le 8, 3) := by decide +kernel
theorem dX8_best_44 : decode cX8_best 44 = .ok (.iload 4, 2) := by decide +kernel
theorem dX8_best_46 : decode cX8_best 46 = .ok (.goto 4, 3) := by decide +kernel
theorem dX8_best_49 : decode cX8_best 49 = .ok (.iload_n 2, 1) := by decide +kernel
theorem dX8_best_50 : decode cX8_best 50 = .ok (.istore_n 2, 1) := by decide +kernel
theorem dX8_best_51 : decode cX8_best 51 = .ok (.iload 5, 2) := by decide +kernel
theorem dX8_best_53 : decode cX8_best 53 = .ok (.iload_n 3, 1) := by decide +kernel
theorem dX8_best_54 : decode cX8_best 54 = .ok (.if_icmp .le 8, 3) := by decide +kernel
theorem dX8_best_57 : decode cX8_best 57 = .ok (.iload 5, 2) := by decide +kernel
theorem dX8_best_59 : decode cX8_best 59 = .ok (.goto 4, 3) := by decide +kernel
theorem dX8_best_62 : decode cX8_best 62 = .ok (.iload_n 3, 1) := by decide +kernel
theorem dX8_best_63 : decode cX8_best 63 = .ok (.istore_n 3, 1) := by decide +kernel
theorem dX8_best_64 : decode cX8_best 64 = .ok (.iinc 4 1, 3) := by decide +kernel
theorem dX8_best_67 : decode cX8_best 67 = .ok (.goto (-48), 3) := by decide +kernel
theorem dX8_best_70 : decode cX8_best 70 = .ok (.iload_n 1, 1) := by decide +kernel
theorem dX8_best_71 : decode cX8_best 71 = .ok (.ifCond .ne 7, 3) := by decide +kernel
theorem dX8_best_74 : decode cX8_best 74 = .ok (.iload_n 2, 1) := by decide +kernel
theorem dX8_best_75 : decode cX8_best 75 = .ok (.goto 4, 3) := by decide +kernel
theorem dX8_best_78 : decode cX8_best 78 = .ok (.iload_n 3, 1) := by decide +kernel
theorem dX8_best_79 : decode cX8_best 79 = .ok (.ireturn, 1) := by decide +kernel
set_option maxRecDepth 20000 in
theorem ggX8_lies_X8_tries : GoodIn wsX8_lies wsX8_tries := goodIn_r _ [6, 7, 1, 8, 9, 10, 5, 11, 12, 13, 14, 15, 16, 17, 18, 19, 20, 21, 22, 23, 24, 25, 26, 27, 28, 29, 30, 31, 32, 33, 34, 35, 36, 37, 38, 39, 53, 54, 55, 56, 57, 58, 59, 60, 61, 62, 63, 64, 65, 66, 67, 68, 69, 70, 71, 72, 73, 74, 75, 76, 77, 78, 79, 80, 81, 82, 83] (by decide +kernel) (by decide +kernel)
set_option maxRecDepth 20000 in
theorem gX8_lies_X8_tries : GoodIn wsX8_lies (wsV RX8 181 RX8 yX8_tries wsX8_tries) := goodIn_app (goodIn_of _ (by decide +kernel)) ggX8_lies_X8_tries
set_option maxRecDepth 20000 in
theorem ggX8_lies_X8_shakesOnce : GoodIn wsX8_lies wsX8_shakesOnce := goodIn_r _ [43, 44, 25, 26, 27, 5, 28, 7, 45, 46, 47, 48, 15, 49, 50, 51, 52, 33, 34, 35, 36, 37, 38, 39, 53, 54, 55, 56, 57, 58, 59, 60, 61, 62, 63, 64, 65, 66, 67, 68, 69, 70, 71, 72, 73, 74, 75, 76, 77, 78, 79, 80, 81, 82, 83] (by decide +kernel) (by decide +kernel)
set_option maxRecDepth 20000 in
theorem gX8_lies_X8_shakesOnce : GoodIn wsX8_lies (wsV RX8 184 RX8 yX8_shakesOnce wsX8_shakesOnce) := goodIn_app (goodIn_of _ (by decide +kernel)) ggX8_lies_X8_shakesOnce
theorem dX8_lies_0 : decode cX8_lies 0 = .ok (.aload_n 0, 1) := by decide +kernel
theorem dX8_lies_1 : decode cX8_lies 1 = .ok (.invokevirtual 181, 3) := by decide +kernel
theorem dX8_lies_4 : decode cX8_lies 4 = .ok (.iconst 0, 1) := by decide +kernel
theorem dX8_lies_5 : decode cX8_lies 5 = .ok (.istore_n 1, 1) := by decide +kernel
theorem dX8_lies_6 : decode cX8_lies 6 = .ok (.iload_n 1, 1) := by decide +kernel
theorem dX8_lies_7 : decode cX8_lies 7 = .ok (.bipush 100, 2) := by decide +kernel
theorem dX8_lies_9 : decode cX8_lies 9 = .ok (.if_icmp .ge 23, 3) := by decide +kernel
theorem dX8_lies_12 : decode cX8_lies 12 = .ok (.aload_n 0, 1) := by decide +kernel
theorem dX8_lies_13 : decode cX8_lies 13 = .ok (.aload_n 0, 1) := by decide +kernel
theorem dX8_lies_14 : decode cX8_lies 14 = .ok (.getfield 49, 3) := by decide +kernel
theorem dX8_lies_17 : decode cX8_lies 17 = .ok (.iconst 0, 1) := by decide +kernel
theorem dX8_lies_18 : decode cX8_lies 18 = .ok (.invokevirtual 184, 3) := by decide +kernel
theorem dX8_lies_21 : decode cX8_lies 21 = .ok (.ifCond .ne 5, 3) := by decide +kernel
theorem dX8_lies_24 : decode cX8_lies 24 = .ok (.iload_n 1, 1) := by decide +kernel
theorem dX8_lies_25 : decode cX8_lies 25 = .ok (.ireturn, 1) := by decide +kernel
theorem dX8_lies_26 : decode cX8_lies 26 = .ok (.iinc 1 1, 3) := by decide +kernel
theorem dX8_lies_29 : decode cX8_lies 29 = .ok (.goto (-23), 3) := by decide +kernel
theorem dX8_lies_32 : decode cX8_lies 32 = .ok (.bipush (-9), 2) := by decide +kernel
theorem dX8_lies_34 : decode cX8_lies 34 = .ok (.ireturn, 1) := by decide +kernel
set_option maxRecDepth 20000 in
theorem ggX8_sees_X8_in : GoodIn wsX8_sees wsX8_in := goodIn_r _ [8] (by decide +kernel) (by decide +kernel)
set_option maxRecDepth 20000 in
theorem gX8_sees_X8_in : GoodIn wsX8_sees (va_wsS RX8 61 yX8_in wsX8_in) := goodIn_app (goodIn_of _ (by decide +kernel)) ggX8_sees_X8_in
theorem dX8_sees_0 : decode cX8_sees 0 = .ok (.iload_n 1, 1) := by decide +kernel
theorem dX8_sees_1 : decode cX8_sees 1 = .ok (.i2l, 1) := by decide +kernel
theorem dX8_sees_2 : decode cX8_sees 2 = .ok (.lconst 0, 1) := by decide +kernel
theorem dX8_sees_3 : decode cX8_sees 3 = .ok (.ldc2_w 228, 3) := by decide +kernel
theorem dX8_sees_6 : decode cX8_sees 6 = .ok (.invokestatic 61, 3) := by decide +kernel
theorem dX8_sees_9 : decode cX8_sees 9 = .ok (.ifCond .eq 13, 3) := by decide +kernel
theorem dX8_sees_12 : decode cX8_sees 12 = .ok (.iload_n 2, 1) := by decide +kernel
theorem dX8_sees_13 : decode cX8_sees 13 = .ok (.i2l, 1) := by decide +kernel
theorem dX8_sees_14 : decode cX8_sees 14 = .ok (.lconst 0, 1) := by decide +kernel
theorem dX8_sees_15 : decode cX8_sees 15 = .ok (.lconst 1, 1) := by decide +kernel
theorem dX8_sees_16 : decode cX8_sees 16 = .ok (.invokestatic 61, 3) := by decide +kernel
theorem dX8_sees_19 : decode cX8_sees 19 = .ok (.ifCond .ne 5, 3) := by decide +kernel
theorem dX8_sees_22 : decode cX8_sees 22 = .ok (.iconst (-1), 1) := by decide +kernel
theorem dX8_sees_23 : decode cX8_sees 23 = .ok (.ireturn, 1) := by decide +kernel
theorem dX8_sees_24 : decode cX8_sees 24 = .ok (.aload_n 0, 1) := by decide +kernel
theorem dX8_sees_25 : decode cX8_sees 25 = .ok (.getfield 230, 3) := by decide +kernel
theorem dX8_sees_28 : decode cX8_sees 28 = .ok (.bipush 6, 2) := by decide +kernel
theorem dX8_sees_30 : decode cX8_sees 30 = .ok (.if_icmp .ne 6, 3) := by decide +kernel
theorem dX8_sees_33 : decode cX8_sees 33 = .ok (.bipush (-3), 2) := by decide +kernel
theorem dX8_sees_35 : decode cX8_sees 35 = .ok (.ireturn, 1) := by decide +kernel
theorem dX8_sees_36 : decode cX8_sees 36 = .ok (.aload_n 0, 1) := by decide +kernel
theorem dX8_sees_37 : decode cX8_sees 37 = .ok (.getfield 25, 3) := by decide +kernel
theorem dX8_sees_40 : decode cX8_sees 40 = .ok (.aload_n 0, 1) := by decide +kernel
theorem dX8_sees_41 : decode cX8_sees 41 = .ok (.getfield 230, 3) := by decide +kernel
theorem dX8_sees_44 : decode cX8_sees 44 = .ok (.iload_n 1, 1) := by decide +kernel
theorem dX8_sees_45 : decode cX8_sees 45 = .ok (.iastore, 1) := by decide +kernel
theorem dX8_sees_46 : decode cX8_sees 46 = .ok (.aload_n 0, 1) := by decide +kernel
theorem dX8_sees_47 : decode cX8_sees 47 = .ok (.getfield 28, 3) := by decide +kernel
theorem dX8_sees_50 : decode cX8_sees 50 = .ok (.aload_n 0, 1) := by decide +kernel
theorem dX8_sees_51 : decode cX8_sees 51 = .ok (.getfield 230, 3) := by decide +kernel
theorem dX8_sees_54 : decode cX8_sees 54 = .ok (.iload_n 2, 1) := by decide +kernel
theorem dX8_sees_55 : decode cX8_sees 55 = .ok (.iastore, 1) := by decide +kernel
theorem dX8_sees_56 : decode cX8_sees 56 = .ok (.aload_n 0, 1) := by decide +kernel
theorem dX8_sees_57 : decode cX8_sees 57 = .ok (.dup, 1) := by decide +kernel
theorem dX8_sees_58 : decode cX8_sees 58 = .ok (.getfield 230, 3) := by decide +kernel
theorem dX8_sees_61 : decode cX8_sees 61 = .ok (.iconst 1, 1) := by decide +kernel
theorem dX8_sees_62 : decode cX8_sees 62 = .ok (.iadd, 1) := by decide +kernel
theorem dX8_sees_63 : decode cX8_sees 63 = .ok (.putfield 230, 3) := by decide +kernel
theorem dX8_sees_66 : decode cX8_sees 66 = .ok (.aload_n 0, 1) := by decide +kernel
theorem dX8_sees_67 : decode cX8_sees 67 = .ok (.getfield 230, 3) := by decide +kernel
theorem dX8_sees_70 : decode cX8_sees 70 = .ok (.ireturn, 1) := by decide +kernel
theorem dX8_forget_0 : decode cX8_forget 0 = .ok (.aload_n 0, 1) := by decide +kernel
theorem dX8_forget_1 : decode cX8_forget 1 = .ok (.getfield 230, 3) := by decide +kernel
theorem dX8_forget_4 : decode cX8_forget 4 = .ok (.istore_n 1, 1) := by decide +kernel
theorem dX8_forget_5 : decode cX8_forget 5 = .ok (.aload_n 0, 1) := by decide +kernel
theorem dX8_forget_6 : decode cX8_forget 6 = .ok (.iconst 0, 1) := by decide +kernel
theorem dX8_forget_7 : decode cX8_forget 7 = .ok (.putfield 230, 3) := by decide +kernel
theorem dX8_forget_10 : decode cX8_forget 10 = .ok (.iload_n 1, 1) := by decide +kernel
theorem dX8_forget_11 : decode cX8_forget 11 = .ok (.ireturn, 1) := by decide +kernel
set_option maxRecDepth 20000 in
theorem ggX8_finds_X8_runs : GoodIn wsX8_finds wsX8_runs := goodIn_r _ [11, 12, 13, 14, 15, 16, 17, 18, 10, 19, 20, 21, 22, 23, 24, 25, 26, 27, 28, 29, 30, 31, 32, 33, 34, 35, 36, 37, 38, 39, 40, 45, 46, 47, 48, 49, 50, 51, 52, 53, 54, 55, 56, 57, 58, 59, 60, 61, 62, 63, 64, 65, 66, 67, 68, 69, 70, 71, 72, 73, 74, 75] (by decide +kernel) (by decide +kernel)
set_option maxRecDepth 20000 in
theorem gX8_finds_X8_runs : GoodIn wsX8_finds (wsV RX8 175 RX8 yX8_runs wsX8_runs) := goodIn_app (goodIn_of _ (by decide +kernel)) ggX8_finds_X8_runs
set_option maxRecDepth 20000 in
theorem ggX8_finds_X8_cells : GoodIn wsX8_finds wsX8_cells := goodIn_r _ [29, 25, 45, 46, 47, 48, 49, 50, 51, 52, 53, 54, 55, 56, 57, 58, 59, 60, 61, 62, 63, 64, 65, 66, 67, 68, 69, 70, 71, 72, 73, 74, 75] (by decide +kernel) (by decide +kernel)
set_option maxRecDepth 20000 in
theorem gX8_finds_X8_cells : GoodIn wsX8_finds (wsV RX8 151 RX8 yX8_cells wsX8_cells) := goodIn_app (goodIn_of _ (by decide +kernel)) ggX8_finds_X8_cells
set_option maxRecDepth 20000 in
theorem ggX8_finds_X8_isStill : GoodIn wsX8_finds wsX8_isStill := goodIn_r _ [44, 15, 25, 45, 46, 47, 48, 49, 50, 51, 52, 53, 54, 55, 56, 57, 58, 59, 60, 61, 62, 63, 64, 65, 66, 67, 68, 69, 70, 71, 72, 73, 74, 75] (by decide +kernel) (by decide +kernel)
set_option maxRecDepth 20000 in
theorem gX8_finds_X8_isStill : GoodIn wsX8_finds (wsV RX8 168 RX8 yX8_isStill wsX8_isStill) := goodIn_app (goodIn_of _ (by decide +kernel)) ggX8_finds_X8_isStill
theorem dX8_finds_0 : decode cX8_finds 0 = .ok (.aload_n 0, 1) := by decide +kernel
theorem dX8_finds_1 : decode cX8_finds 1 = .ok (.iconst 0, 1) := by decide +kernel
theorem dX8_finds_2 : decode cX8_finds 2 = .ok (.putfield 233, 3) := by decide +kernel
theorem dX8_finds_5 : decode cX8_finds 5 = .ok (.aload_n 0, 1) := by decide +kernel
theorem dX8_finds_6 : decode cX8_finds 6 = .ok (.bipush (-9), 2) := by decide +kernel
theorem dX8_finds_8 : decode cX8_finds 8 = .ok (.putfield 236, 3) := by decide +kernel
theorem dX8_finds_11 : decode cX8_finds 11 = .ok (.iconst 0, 1) := by decide +kernel
theorem dX8_finds_12 : decode cX8_finds 12 = .ok (.istore_n 1, 1) := by decide +kernel
theorem dX8_finds_13 : decode cX8_finds 13 = .ok (.iload_n 1, 1) := by decide +kernel
theorem dX8_finds_14 : decode cX8_finds 14 = .ok (.bipush 36, 2) := by decide +kernel
theorem dX8_finds_16 : decode cX8_finds 16 = .ok (.if_icmp .ge 16, 3) := by decide +kernel
theorem dX8_finds_19 : decode cX8_finds 19 = .ok (.aload_n 0, 1) := by decide +kernel
theorem dX8_finds_20 : decode cX8_finds 20 = .ok (.getfield 52, 3) := by decide +kernel
theorem dX8_finds_23 : decode cX8_finds 23 = .ok (.iload_n 1, 1) := by decide +kernel
theorem dX8_finds_24 : decode cX8_finds 24 = .ok (.iconst 0, 1) := by decide +kernel
theorem dX8_finds_25 : decode cX8_finds 25 = .ok (.iastore, 1) := by decide +kernel
theorem dX8_finds_26 : decode cX8_finds 26 = .ok (.iinc 1 1, 3) := by decide +kernel
theorem dX8_finds_29 : decode cX8_finds 29 = .ok (.goto (-16), 3) := by decide +kernel
theorem dX8_finds_32 : decode cX8_finds 32 = .ok (.iconst 2, 1) := by decide +kernel
theorem dX8_finds_33 : decode cX8_finds 33 = .ok (.istore_n 1, 1) := by decide +kernel
theorem dX8_finds_34 : decode cX8_finds 34 = .ok (.iload_n 1, 1) := by decide +kernel
theorem dX8_finds_35 : decode cX8_finds 35 = .ok (.bipush 21, 2) := by decide +kernel
theorem dX8_finds_37 : decode cX8_finds 37 = .ok (.if_icmp .ge 168, 3) := by decide +kernel
theorem dX8_finds_40 : decode cX8_finds 40 = .ok (.aload_n 0, 1) := by decide +kernel
theorem dX8_finds_41 : decode cX8_finds 41 = .ok (.iload_n 1, 1) := by decide +kernel
theorem dX8_finds_42 : decode cX8_finds 42 = .ok (.invokevirtual 175, 3) := by decide +kernel
theorem dX8_finds_45 : decode cX8_finds 45 = .ok (.iconst 1, 1) := by decide +kernel
theorem dX8_finds_46 : decode cX8_finds 46 = .ok (.istore_n 2, 1) := by decide +kernel
theorem dX8_finds_47 : decode cX8_finds 47 = .ok (.iconst 0, 1) := by decide +kernel
theorem dX8_finds_48 : decode cX8_finds 48 = .ok (.istore_n 3, 1) := by decide +kernel
theorem dX8_finds_49 : decode cX8_finds 49 = .ok (.iload_n 3, 1) := by decide +kernel
theorem dX8_finds_50 : decode cX8_finds 50 = .ok (.aload_n 0, 1) := by decide +kernel
theorem dX8_finds_51 : decode cX8_finds 51 = .ok (.getfield 230, 3) := by decide +kernel
theorem dX8_finds_54 : decode cX8_finds 54 = .ok (.if_icmp .ge 60, 3) := by decide +kernel
theorem dX8_finds_57 : decode cX8_finds 57 = .ok (.iload_n 2, 1) := by decide +kernel
theorem dX8_finds_58 : decode cX8_finds 58 = .ok (.ifCond .eq 56, 3) := by decide +kernel
theorem dX8_finds_61 : decode cX8_finds 61 = .ok (.aload_n 0, 1) := by decide +kernel
theorem dX8_finds_62 : decode cX8_finds 62 = .ok (.getfield 25, 3) := by decide +kernel
theorem dX8_finds_65 : decode cX8_finds 65 = .ok (.iload_n 3, 1) := by decide +kernel
theorem dX8_finds_66 : decode cX8_finds 66 = .ok (.iaload, 1) := by decide +kernel
theorem dX8_finds_67 : decode cX8_finds 67 = .ok (.aload_n 0, 1) := by decide +kernel
theorem dX8_finds_68 : decode cX8_finds 68 = .ok (.invokevirtual 151, 3) := by decide +kernel
theorem dX8_finds_71 : decode cX8_finds 71 = .ok (.if_icmp .ge 35, 3) := by decide +kernel
theorem dX8_finds_74 : decode cX8_finds 74 = .ok (.aload_n 0, 1) := by decide +kernel
theorem dX8_finds_75 : decode cX8_finds 75 = .ok (.aload_n 0, 1) := by decide +kernel
theorem dX8_finds_76 : decode cX8_finds 76 = .ok (.getfield 25, 3) := by decide +kernel
theorem dX8_finds_79 : decode cX8_finds 79 = .ok (.iload_n 3, 1) := by decide +kernel
theorem dX8_finds_80 : decode cX8_finds 80 = .ok (.iaload, 1) := by decide +kernel
theorem dX8_finds_81 : decode cX8_finds 81 = .ok (.invokevirtual 168, 3) := by decide +kernel
theorem dX8_finds_84 : decode cX8_finds 84 = .ok (.aload_n 0, 1) := by decide +kernel
theorem dX8_finds_85 : decode cX8_finds 85 = .ok (.getfield 28, 3) := by decide +kernel
theorem dX8_finds_88 : decode cX8_finds 88 = .ok (.iload_n 3, 1) := by decide +kernel
theorem dX8_finds_89 : decode cX8_finds 89 = .ok (.iaload, 1) := by decide +kernel
theorem dX8_finds_90 : decode cX8_finds 90 = .ok (.iconst 1, 1) := by decide +kernel
theorem dX8_finds_91 : decode cX8_finds 91 = .ok (.if_icmp .ne 7, 3) := by decide +kernel
theorem dX8_finds_94 : decode cX8_finds 94 = .ok (.iconst 1, 1) := by decide +kernel
theorem dX8_finds_95 : decode cX8_finds 95 = .ok (.goto 4, 3) := by decide +kernel
theorem dX8_finds_98 : decode cX8_finds 98 = .ok (.iconst 0, 1) := by decide +kernel
theorem dX8_finds_99 : decode cX8_finds 99 = .ok (.if_icmp .ne 7, 3) := by decide +kernel
theorem dX8_finds_102 : decode cX8_finds 102 = .ok (.iconst 1, 1) := by decide +kernel
theorem dX8_finds_103 : decode cX8_finds 103 = .ok (.goto 4, 3) := by decide +kernel
theorem dX8_finds_106 : decode cX8_finds 106 = .ok (.iconst 0, 1) := by decide +kernel
theorem dX8_finds_107 : decode cX8_finds 107 = .ok (.istore_n 2, 1) := by decide +kernel
theorem dX8_finds_108 : decode cX8_finds 108 = .ok (.iinc 3 1, 3) := by decide +kernel
theorem dX8_finds_111 : decode cX8_finds 111 = .ok (.goto (-62), 3) := by decide +kernel
theorem dX8_finds_114 : decode cX8_finds 114 = .ok (.aload_n 0, 1) := by decide +kernel
theorem dX8_finds_115 : decode cX8_finds 115 = .ok (.dup, 1) := by decide +kernel
theorem dX8_finds_116 : decode cX8_finds 116 = .ok (.getfield 233, 3) := by decide +kernel
theorem dX8_finds_119 : decode cX8_finds 119 = .ok (.iload_n 2, 1) := by decide +kernel
theorem dX8_finds_120 : decode cX8_finds 120 = .ok (.ifCond .eq 7, 3) := by decide +kernel
theorem dX8_finds_123 : decode cX8_finds 123 = .ok (.iconst 1, 1) := by decide +kernel
theorem dX8_finds_124 : decode cX8_finds 124 = .ok (.goto 4, 3) := by decide +kernel
theorem dX8_finds_127 : decode cX8_finds 127 = .ok (.iconst 0, 1) := by decide +kernel
theorem dX8_finds_128 : decode cX8_finds 128 = .ok (.iadd, 1) := by decide +kernel
theorem dX8_finds_129 : decode cX8_finds 129 = .ok (.putfield 233, 3) := by decide +kernel
theorem dX8_finds_132 : decode cX8_finds 132 = .ok (.aload_n 0, 1) := by decide +kernel
theorem dX8_finds_133 : decode cX8_finds 133 = .ok (.iload_n 2, 1) := by decide +kernel
theorem dX8_finds_134 : decode cX8_finds 134 = .ok (.ifCond .eq 16, 3) := by decide +kernel
theorem dX8_finds_137 : decode cX8_finds 137 = .ok (.aload_n 0, 1) := by decide +kernel
theorem dX8_finds_138 : decode cX8_finds 138 = .ok (.getfield 236, 3) := by decide +kernel
theorem dX8_finds_141 : decode cX8_finds 141 = .ok (.bipush (-9), 2) := by decide +kernel
theorem dX8_finds_143 : decode cX8_finds 143 = .ok (.if_icmp .ne 7, 3) := by decide +kernel
theorem dX8_finds_146 : decode cX8_finds 146 = .ok (.iload_n 1, 1) := by decide +kernel
theorem dX8_finds_147 : decode cX8_finds 147 = .ok (.goto 7, 3) := by decide +kernel
theorem dX8_finds_150 : decode cX8_finds 150 = .ok (.aload_n 0, 1) := by decide +kernel
theorem dX8_finds_151 : decode cX8_finds 151 = .ok (.getfield 236, 3) := by decide +kernel
theorem dX8_finds_154 : decode cX8_finds 154 = .ok (.putfield 236, 3) := by decide +kernel
theorem dX8_finds_157 : decode cX8_finds 157 = .ok (.iconst 0, 1) := by decide +kernel
theorem dX8_finds_158 : decode cX8_finds 158 = .ok (.istore_n 3, 1) := by decide +kernel
theorem dX8_finds_159 : decode cX8_finds 159 = .ok (.iload_n 3, 1) := by decide +kernel
theorem dX8_finds_160 : decode cX8_finds 160 = .ok (.aload_n 0, 1) := by decide +kernel
theorem dX8_finds_161 : decode cX8_finds 161 = .ok (.invokevirtual 151, 3) := by decide +kernel
theorem dX8_finds_164 : decode cX8_finds 164 = .ok (.if_icmp .ge 35, 3) := by decide +kernel
theorem dX8_finds_167 : decode cX8_finds 167 = .ok (.iload_n 2, 1) := by decide +kernel
theorem dX8_finds_168 : decode cX8_finds 168 = .ok (.ifCond .eq 31, 3) := by decide +kernel
theorem dX8_finds_171 : decode cX8_finds 171 = .ok (.aload_n 0, 1) := by decide +kernel
theorem dX8_finds_172 : decode cX8_finds 172 = .ok (.getfield 52, 3) := by decide +kernel
theorem dX8_finds_175 : decode cX8_finds 175 = .ok (.iload_n 3, 1) := by decide +kernel
theorem dX8_finds_176 : decode cX8_finds 176 = .ok (.dup2, 1) := by decide +kernel
theorem dX8_finds_177 : decode cX8_finds 177 = .ok (.iaload, 1) := by decide +kernel
theorem dX8_finds_178 : decode cX8_finds 178 = .ok (.aload_n 0, 1) := by decide +kernel
theorem dX8_finds_179 : decode cX8_finds 179 = .ok (.iload_n 3, 1) := by decide +kernel
theorem dX8_finds_180 : decode cX8_finds 180 = .ok (.invokevirtual 168, 3) := by decide +kernel
theorem dX8_finds_183 : decode cX8_finds 183 = .ok (.ifCond .eq 7, 3) := by decide +kernel
theorem dX8_finds_186 : decode cX8_finds 186 = .ok (.iconst 1, 1) := by decide +kernel
theorem dX8_finds_187 : decode cX8_finds 187 = .ok (.goto 4, 3) := by decide +kernel
theorem dX8_finds_190 : decode cX8_finds 190 = .ok (.iconst 0, 1) := by decide +kernel
theorem dX8_finds_191 : decode cX8_finds 191 = .ok (.iadd, 1) := by decide +kernel
theorem dX8_finds_192 : decode cX8_finds 192 = .ok (.iastore, 1) := by decide +kernel
theorem dX8_finds_193 : decode cX8_finds 193 = .ok (.iinc 3 1, 3) := by decide +kernel
theorem dX8_finds_196 : decode cX8_finds 196 = .ok (.goto (-37), 3) := by decide +kernel
theorem dX8_finds_199 : decode cX8_finds 199 = .ok (.iinc 1 1, 3) := by decide +kernel
theorem dX8_finds_202 : decode cX8_finds 202 = .ok (.goto (-168), 3) := by decide +kernel
theorem dX8_finds_205 : decode cX8_finds 205 = .ok (.return_, 1) := by decide +kernel
set_option maxRecDepth 20000 in
theorem ggX8_which_X8_in : GoodIn wsX8_which wsX8_in := goodIn_r _ [6] (by decide +kernel) (by decide +kernel)
set_option maxRecDepth 20000 in
theorem gX8_which_X8_in : GoodIn wsX8_which (va_wsS RX8 61 yX8_in wsX8_in) := goodIn_app (goodIn_of _ (by decide +kernel)) ggX8_which_X8_in
set_option maxRecDepth 20000 in
theorem ggX8_which_X8_finds : GoodIn wsX8_which wsX8_finds := goodIn_r _ [10, 1, 2, 11, 12, 13, 14, 15, 16, 17, 5, 18, 19, 20, 21, 22, 23, 24, 25, 26, 27, 28, 29, 30, 31, 32, 33, 34, 35, 36, 37, 38, 39, 40, 41, 42, 43, 44, 3, 4, 6, 45, 46, 47, 48, 49, 50, 51, 52, 53, 54, 55, 56, 57, 58, 59, 60, 61, 62, 63, 64, 65, 66, 67, 68, 69, 70, 71, 72, 73, 74, 75, 76, 77, 78, 79] (by decide +kernel) (by decide +kernel)
set_option maxRecDepth 20000 in
theorem gX8_which_X8_finds : GoodIn wsX8_which (wsV RX8 239 RX8 yX8_finds wsX8_finds) := goodIn_app (goodIn_of _ (by decide +kernel)) ggX8_which_X8_finds
theorem dX8_which_0 : decode cX8_which 0 = .ok (.iload_n 1, 1) := by decide +kernel
theorem dX8_which_1 : decode cX8_which 1 = .ok (.i2l, 1) := by decide +kernel
theorem dX8_which_2 : decode cX8_which 2 = .ok (.lconst 0, 1) := by decide +kernel
theorem dX8_which_3 : decode cX8_which 3 = .ok (.lconst 1, 1) := by decide +kernel
theorem dX8_which_4 : decode cX8_which 4 = .ok (.invokestatic 61, 3) := by decide +kernel
theorem dX8_which_7 : decode cX8_which 7 = .ok (.ifCond .ne 5, 3) := by decide +kernel
theorem dX8_which_10 : decode cX8_which 10 = .ok (.iconst (-1), 1) := by decide +kernel
theorem dX8_which_11 : decode cX8_which 11 = .ok (.ireturn, 1) := by decide +kernel
theorem dX8_which_12 : decode cX8_which 12 = .ok (.aload_n 0, 1) := by decide +kernel
theorem dX8_which_13 : decode cX8_which 13 = .ok (.invokevirtual 239, 3) := by decide +kernel
theorem dX8_which_16 : decode cX8_which 16 = .ok (.iload_n 1, 1) := by decide +kernel
theorem dX8_which_17 : decode cX8_which 17 = .ok (.ifCond .ne 10, 3) := by decide +kernel
theorem dX8_which_20 : decode cX8_which 20 = .ok (.aload_n 0, 1) := by decide +kernel
theorem dX8_which_21 : decode cX8_which 21 = .ok (.getfield 233, 3) := by decide +kernel
theorem dX8_which_24 : decode cX8_which 24 = .ok (.goto 7, 3) := by decide +kernel
theorem dX8_which_27 : decode cX8_which 27 = .ok (.aload_n 0, 1) := by decide +kernel
theorem dX8_which_28 : decode cX8_which 28 = .ok (.getfield 236, 3) := by decide +kernel
theorem dX8_which_31 : decode cX8_which 31 = .ok (.ireturn, 1) := by decide +kernel
set_option maxRecDepth 20000 in
theorem ggX8_look_X8_finds : GoodIn wsX8_look wsX8_finds := goodIn_r _ [7, 1, 8, 2, 9, 10, 11, 12, 13, 14, 6, 15, 16, 17, 18, 19, 20, 21, 22, 23, 24, 25, 26, 27, 28, 29, 30, 31, 32, 33, 34, 35, 36, 37, 38, 39, 40, 41, 42, 43, 44, 45, 46, 47, 48, 49, 50, 51, 52, 53, 54, 55, 56, 57, 58, 59, 60, 61, 62, 63, 64, 65, 66, 67, 68, 69, 70, 71, 72, 73, 74, 75, 76, 77, 78, 79] (by decide +kernel) (by decide +kernel)
set_option maxRecDepth 20000 in
theorem gX8_look_X8_finds : GoodIn wsX8_look (wsV RX8 239 RX8 yX8_finds wsX8_finds) := goodIn_app (goodIn_of _ (by decide +kernel)) ggX8_look_X8_finds
set_option maxRecDepth 20000 in
theorem ggX8_look_X8_cells : GoodIn wsX8_look wsX8_cells := goodIn_r _ [33, 29, 49, 50, 51, 52, 53, 54, 55, 56, 57, 58, 59, 60, 61, 62, 63, 64, 65, 66, 67, 68, 69, 70, 71, 72, 73, 74, 75, 76, 77, 78, 79] (by decide +kernel) (by decide +kernel)
set_option maxRecDepth 20000 in
theorem gX8_look_X8_cells : GoodIn wsX8_look (wsV RX8 151 RX8 yX8_cells wsX8_cells) := goodIn_app (goodIn_of _ (by decide +kernel)) ggX8_look_X8_cells
theorem dX8_look_0 : decode cX8_look 0 = .ok (.aload_n 0, 1) := by decide +kernel
theorem dX8_look_1 : decode cX8_look 1 = .ok (.invokevirtual 239, 3) := by decide +kernel
theorem dX8_look_4 : decode cX8_look 4 = .ok (.bipush (-9), 2) := by decide +kernel
theorem dX8_look_6 : decode cX8_look 6 = .ok (.istore_n 1, 1) := by decide +kernel
theorem dX8_look_7 : decode cX8_look 7 = .ok (.bipush 100, 2) := by decide +kernel
theorem dX8_look_9 : decode cX8_look 9 = .ok (.istore_n 2, 1) := by decide +kernel
theorem dX8_look_10 : decode cX8_look 10 = .ok (.iconst 0, 1) := by decide +kernel
theorem dX8_look_11 : decode cX8_look 11 = .ok (.istore_n 3, 1) := by decide +kernel
theorem dX8_look_12 : decode cX8_look 12 = .ok (.iload_n 3, 1) := by decide +kernel
theorem dX8_look_13 : decode cX8_look 13 = .ok (.aload_n 0, 1) := by decide +kernel
theorem dX8_look_14 : decode cX8_look 14 = .ok (.invokevirtual 151, 3) := by decide +kernel
theorem dX8_look_17 : decode cX8_look 17 = .ok (.if_icmp .ge 79, 3) := by decide +kernel
theorem dX8_look_20 : decode cX8_look 20 = .ok (.aload_n 0, 1) := by decide +kernel
theorem dX8_look_21 : decode cX8_look 21 = .ok (.getfield 233, 3) := by decide +kernel
theorem dX8_look_24 : decode cX8_look 24 = .ok (.iconst 1, 1) := by decide +kernel
theorem dX8_look_25 : decode cX8_look 25 = .ok (.if_icmp .le 71, 3) := by decide +kernel
theorem dX8_look_28 : decode cX8_look 28 = .ok (.aload_n 0, 1) := by decide +kernel
theorem dX8_look_29 : decode cX8_look 29 = .ok (.getfield 233, 3) := by decide +kernel
theorem dX8_look_32 : decode cX8_look 32 = .ok (.aload_n 0, 1) := by decide +kernel
theorem dX8_look_33 : decode cX8_look 33 = .ok (.getfield 52, 3) := by decide +kernel
theorem dX8_look_36 : decode cX8_look 36 = .ok (.iload_n 3, 1) := by decide +kernel
theorem dX8_look_37 : decode cX8_look 37 = .ok (.iaload, 1) := by decide +kernel
theorem dX8_look_38 : decode cX8_look 38 = .ok (.isub, 1) := by decide +kernel
theorem dX8_look_39 : decode cX8_look 39 = .ok (.istore 4, 2) := by decide +kernel
theorem dX8_look_41 : decode cX8_look 41 = .ok (.aload_n 0, 1) := by decide +kernel
theorem dX8_look_42 : decode cX8_look 42 = .ok (.getfield 52, 3) := by decide +kernel
theorem dX8_look_45 : decode cX8_look 45 = .ok (.iload_n 3, 1) := by decide +kernel
theorem dX8_look_46 : decode cX8_look 46 = .ok (.iaload, 1) := by decide +kernel
theorem dX8_look_47 : decode cX8_look 47 = .ok (.iload 4, 2) := by decide +kernel
theorem dX8_look_49 : decode cX8_look 49 = .ok (.if_icmp .le 12, 3) := by decide +kernel
theorem dX8_look_52 : decode cX8_look 52 = .ok (.aload_n 0, 1) := by decide +kernel
theorem dX8_look_53 : decode cX8_look 53 = .ok (.getfield 52, 3) := by decide +kernel
theorem dX8_look_56 : decode cX8_look 56 = .ok (.iload_n 3, 1) := by decide +kernel
theorem dX8_look_57 : decode cX8_look 57 = .ok (.iaload, 1) := by decide +kernel
theorem dX8_look_58 : decode cX8_look 58 = .ok (.goto 5, 3) := by decide +kernel
theorem dX8_look_61 : decode cX8_look 61 = .ok (.iload 4, 2) := by decide +kernel
theorem dX8_look_63 : decode cX8_look 63 = .ok (.istore 5, 2) := by decide +kernel
theorem dX8_look_65 : decode cX8_look 65 = .ok (.iload 5, 2) := by decide +kernel
theorem dX8_look_67 : decode cX8_look 67 = .ok (.iload_n 2, 1) := by decide +kernel
theorem dX8_look_68 : decode cX8_look 68 = .ok (.if_icmp .ge 7, 3) := by decide +kernel
theorem dX8_look_71 : decode cX8_look 71 = .ok (.iload_n 3, 1) := by decide +kernel
theorem dX8_look_72 : decode cX8_look 72 = .ok (.goto 4, 3) := by decide +kernel
theorem dX8_look_75 : decode cX8_look 75 = .ok (.iload_n 1, 1) := by decide +kernel
theorem dX8_look_76 : decode cX8_look 76 = .ok (.istore_n 1, 1) := by decide +kernel
theorem dX8_look_77 : decode cX8_look 77 = .ok (.iload 5, 2) := by decide +kernel
theorem dX8_look_79 : decode cX8_look 79 = .ok (.iload_n 2, 1) := by decide +kernel
theorem dX8_look_80 : decode cX8_look 80 = .ok (.if_icmp .ge 8, 3) := by decide +kernel
theorem dX8_look_83 : decode cX8_look 83 = .ok (.iload 5, 2) := by decide +kernel
theorem dX8_look_85 : decode cX8_look 85 = .ok (.goto 4, 3) := by decide +kernel
theorem dX8_look_88 : decode cX8_look 88 = .ok (.iload_n 2, 1) := by decide +kernel
theorem dX8_look_89 : decode cX8_look 89 = .ok (.istore_n 2, 1) := by decide +kernel
theorem dX8_look_90 : decode cX8_look 90 = .ok (.iinc 3 1, 3) := by decide +kernel
theorem dX8_look_93 : decode cX8_look 93 = .ok (.goto (-81), 3) := by decide +kernel
theorem dX8_look_96 : decode cX8_look 96 = .ok (.iload_n 1, 1) := by decide +kernel
theorem dX8_look_97 : decode cX8_look 97 = .ok (.ireturn, 1) := by decide +kernel
set_option maxRecDepth 20000 in
theorem ggX8_keep_X8_in : GoodIn wsX8_keep wsX8_in := goodIn_r _ [8] (by decide +kernel) (by decide +kernel)
set_option maxRecDepth 20000 in
theorem gX8_keep_X8_in : GoodIn wsX8_keep (va_wsS RX8 61 yX8_in wsX8_in) := goodIn_app (goodIn_of _ (by decide +kernel)) ggX8_keep_X8_in
set_option maxRecDepth 20000 in
theorem ggX8_keep_X8_cells : GoodIn wsX8_keep wsX8_cells := goodIn_r _ [12, 2, 13, 14, 15, 16, 17, 18, 19, 20, 21, 22, 23, 24, 25, 26, 27, 28, 29, 30, 31, 32, 33, 34, 35, 36, 37, 38, 39, 40, 41, 42, 43] (by decide +kernel) (by decide +kernel)
set_option maxRecDepth 20000 in
theorem gX8_keep_X8_cells : GoodIn wsX8_keep (wsV RX8 151 RX8 yX8_cells wsX8_cells) := goodIn_app (goodIn_of _ (by decide +kernel)) ggX8_keep_X8_cells
theorem dX8_keep_0 : decode cX8_keep 0 = .ok (.iload_n 1, 1) := by decide +kernel
theorem dX8_keep_1 : decode cX8_keep 1 = .ok (.i2l, 1) := by decide +kernel
theorem dX8_keep_2 : decode cX8_keep 2 = .ok (.lconst 0, 1) := by decide +kernel
theorem dX8_keep_3 : decode cX8_keep 3 = .ok (.lconst 1, 1) := by decide +kernel
theorem dX8_keep_4 : decode cX8_keep 4 = .ok (.invokestatic 61, 3) := by decide +kernel
theorem dX8_keep_7 : decode cX8_keep 7 = .ok (.ifCond .ne 5, 3) := by decide +kernel
theorem dX8_keep_10 : decode cX8_keep 10 = .ok (.iconst (-1), 1) := by decide +kernel
theorem dX8_keep_11 : decode cX8_keep 11 = .ok (.ireturn, 1) := by decide +kernel
theorem dX8_keep_12 : decode cX8_keep 12 = .ok (.iconst 0, 1) := by decide +kernel
theorem dX8_keep_13 : decode cX8_keep 13 = .ok (.istore_n 2, 1) := by decide +kernel
theorem dX8_keep_14 : decode cX8_keep 14 = .ok (.iload_n 2, 1) := by decide +kernel
theorem dX8_keep_15 : decode cX8_keep 15 = .ok (.bipush 81, 2) := by decide +kernel
theorem dX8_keep_17 : decode cX8_keep 17 = .ok (.if_icmp .ge 26, 3) := by decide +kernel
theorem dX8_keep_20 : decode cX8_keep 20 = .ok (.aload_n 0, 1) := by decide +kernel
theorem dX8_keep_21 : decode cX8_keep 21 = .ok (.getfield 22, 3) := by decide +kernel
theorem dX8_keep_24 : decode cX8_keep 24 = .ok (.bipush 81, 2) := by decide +kernel
theorem dX8_keep_26 : decode cX8_keep 26 = .ok (.iload_n 1, 1) := by decide +kernel
theorem dX8_keep_27 : decode cX8_keep 27 = .ok (.imul, 1) := by decide +kernel
theorem dX8_keep_28 : decode cX8_keep 28 = .ok (.iload_n 2, 1) := by decide +kernel
theorem dX8_keep_29 : decode cX8_keep 29 = .ok (.iadd, 1) := by decide +kernel
theorem dX8_keep_30 : decode cX8_keep 30 = .ok (.aload_n 0, 1) := by decide +kernel
theorem dX8_keep_31 : decode cX8_keep 31 = .ok (.getfield 13, 3) := by decide +kernel
theorem dX8_keep_34 : decode cX8_keep 34 = .ok (.iload_n 2, 1) := by decide +kernel
theorem dX8_keep_35 : decode cX8_keep 35 = .ok (.iaload, 1) := by decide +kernel
theorem dX8_keep_36 : decode cX8_keep 36 = .ok (.iastore, 1) := by decide +kernel
theorem dX8_keep_37 : decode cX8_keep 37 = .ok (.iinc 2 1, 3) := by decide +kernel
theorem dX8_keep_40 : decode cX8_keep 40 = .ok (.goto (-26), 3) := by decide +kernel
theorem dX8_keep_43 : decode cX8_keep 43 = .ok (.aload_n 0, 1) := by decide +kernel
theorem dX8_keep_44 : decode cX8_keep 44 = .ok (.aload_n 0, 1) := by decide +kernel
theorem dX8_keep_45 : decode cX8_keep 45 = .ok (.getfield 242, 3) := by decide +kernel
theorem dX8_keep_48 : decode cX8_keep 48 = .ok (.ifCond .ne 7, 3) := by decide +kernel
theorem dX8_keep_51 : decode cX8_keep 51 = .ok (.iload_n 1, 1) := by decide +kernel
theorem dX8_keep_52 : decode cX8_keep 52 = .ok (.ifCond .ne 7, 3) := by decide +kernel
theorem dX8_keep_55 : decode cX8_keep 55 = .ok (.iconst 1, 1) := by decide +kernel
theorem dX8_keep_56 : decode cX8_keep 56 = .ok (.goto 4, 3) := by decide +kernel
theorem dX8_keep_59 : decode cX8_keep 59 = .ok (.iconst 0, 1) := by decide +kernel
theorem dX8_keep_60 : decode cX8_keep 60 = .ok (.putfield 242, 3) := by decide +kernel
theorem dX8_keep_63 : decode cX8_keep 63 = .ok (.aload_n 0, 1) := by decide +kernel
theorem dX8_keep_64 : decode cX8_keep 64 = .ok (.aload_n 0, 1) := by decide +kernel
theorem dX8_keep_65 : decode cX8_keep 65 = .ok (.getfield 245, 3) := by decide +kernel
theorem dX8_keep_68 : decode cX8_keep 68 = .ok (.ifCond .ne 8, 3) := by decide +kernel
theorem dX8_keep_71 : decode cX8_keep 71 = .ok (.iload_n 1, 1) := by decide +kernel
theorem dX8_keep_72 : decode cX8_keep 72 = .ok (.iconst 1, 1) := by decide +kernel
theorem dX8_keep_73 : decode cX8_keep 73 = .ok (.if_icmp .ne 7, 3) := by decide +kernel
theorem dX8_keep_76 : decode cX8_keep 76 = .ok (.iconst 1, 1) := by decide +kernel
theorem dX8_keep_77 : decode cX8_keep 77 = .ok (.goto 4, 3) := by decide +kernel
theorem dX8_keep_80 : decode cX8_keep 80 = .ok (.iconst 0, 1) := by decide +kernel
theorem dX8_keep_81 : decode cX8_keep 81 = .ok (.putfield 245, 3) := by decide +kernel
theorem dX8_keep_84 : decode cX8_keep 84 = .ok (.aload_n 0, 1) := by decide +kernel
theorem dX8_keep_85 : decode cX8_keep 85 = .ok (.invokevirtual 151, 3) := by decide +kernel
theorem dX8_keep_88 : decode cX8_keep 88 = .ok (.ireturn, 1) := by decide +kernel
set_option maxRecDepth 20000 in
theorem ggX8_back_X8_in : GoodIn wsX8_back wsX8_in := goodIn_r _ [9] (by decide +kernel) (by decide +kernel)
set_option maxRecDepth 20000 in
theorem gX8_back_X8_in : GoodIn wsX8_back (va_wsS RX8 61 yX8_in wsX8_in) := goodIn_app (goodIn_of _ (by decide +kernel)) ggX8_back_X8_in
set_option maxRecDepth 20000 in
theorem ggX8_back_X8_cells : GoodIn wsX8_back wsX8_cells := goodIn_r _ [13, 3, 14, 15, 16, 17, 18, 19, 20, 21, 22, 23, 24, 25, 26, 27, 28, 29, 30, 31, 32, 33, 34, 35, 36, 37, 38, 39, 40, 41, 42, 43, 44] (by decide +kernel) (by decide +kernel)
set_option maxRecDepth 20000 in
theorem gX8_back_X8_cells : GoodIn wsX8_back (wsV RX8 151 RX8 yX8_cells wsX8_cells) := goodIn_app (goodIn_of _ (by decide +kernel)) ggX8_back_X8_cells
theorem dX8_back_0 : decode cX8_back 0 = .ok (.iload_n 1, 1) := by decide +kernel
theorem dX8_back_1 : decode cX8_back 1 = .ok (.i2l, 1) := by decide +kernel
theorem dX8_back_2 : decode cX8_back 2 = .ok (.lconst 0, 1) := by decide +kernel
theorem dX8_back_3 : decode cX8_back 3 = .ok (.lconst 1, 1) := by decide +kernel
theorem dX8_back_4 : decode cX8_back 4 = .ok (.invokestatic 61, 3) := by decide +kernel
theorem dX8_back_7 : decode cX8_back 7 = .ok (.ifCond .ne 5, 3) := by decide +kernel
theorem dX8_back_10 : decode cX8_back 10 = .ok (.iconst (-1), 1) := by decide +kernel
theorem dX8_back_11 : decode cX8_back 11 = .ok (.ireturn, 1) := by decide +kernel
theorem dX8_back_12 : decode cX8_back 12 = .ok (.iload_n 1, 1) := by decide +kernel
theorem dX8_back_13 : decode cX8_back 13 = .ok (.ifCond .ne 13, 3) := by decide +kernel
theorem dX8_back_16 : decode cX8_back 16 = .ok (.aload_n 0, 1) := by decide +kernel
theorem dX8_back_17 : decode cX8_back 17 = .ok (.getfield 242, 3) := by decide +kernel
theorem dX8_back_20 : decode cX8_back 20 = .ok (.ifCond .ne 16, 3) := by decide +kernel
theorem dX8_back_23 : decode cX8_back 23 = .ok (.goto 10, 3) := by decide +kernel
theorem dX8_back_26 : decode cX8_back 26 = .ok (.aload_n 0, 1) := by decide +kernel
theorem dX8_back_27 : decode cX8_back 27 = .ok (.getfield 245, 3) := by decide +kernel
theorem dX8_back_30 : decode cX8_back 30 = .ok (.ifCond .ne 6, 3) := by decide +kernel
theorem dX8_back_33 : decode cX8_back 33 = .ok (.bipush (-2), 2) := by decide +kernel
theorem dX8_back_35 : decode cX8_back 35 = .ok (.ireturn, 1) := by decide +kernel
theorem dX8_back_36 : decode cX8_back 36 = .ok (.iconst 0, 1) := by decide +kernel
theorem dX8_back_37 : decode cX8_back 37 = .ok (.istore_n 2, 1) := by decide +kernel
theorem dX8_back_38 : decode cX8_back 38 = .ok (.iload_n 2, 1) := by decide +kernel
theorem dX8_back_39 : decode cX8_back 39 = .ok (.bipush 81, 2) := by decide +kernel
theorem dX8_back_41 : decode cX8_back 41 = .ok (.if_icmp .ge 26, 3) := by decide +kernel
theorem dX8_back_44 : decode cX8_back 44 = .ok (.aload_n 0, 1) := by decide +kernel
theorem dX8_back_45 : decode cX8_back 45 = .ok (.getfield 13, 3) := by decide +kernel
theorem dX8_back_48 : decode cX8_back 48 = .ok (.iload_n 2, 1) := by decide +kernel
theorem dX8_back_49 : decode cX8_back 49 = .ok (.aload_n 0, 1) := by decide +kernel
theorem dX8_back_50 : decode cX8_back 50 = .ok (.getfield 22, 3) := by decide +kernel
theorem dX8_back_53 : decode cX8_back 53 = .ok (.bipush 81, 2) := by decide +kernel
theorem dX8_back_55 : decode cX8_back 55 = .ok (.iload_n 1, 1) := by decide +kernel
theorem dX8_back_56 : decode cX8_back 56 = .ok (.imul, 1) := by decide +kernel
theorem dX8_back_57 : decode cX8_back 57 = .ok (.iload_n 2, 1) := by decide +kernel
theorem dX8_back_58 : decode cX8_back 58 = .ok (.iadd, 1) := by decide +kernel
theorem dX8_back_59 : decode cX8_back 59 = .ok (.iaload, 1) := by decide +kernel
theorem dX8_back_60 : decode cX8_back 60 = .ok (.iastore, 1) := by decide +kernel
theorem dX8_back_61 : decode cX8_back 61 = .ok (.iinc 2 1, 3) := by decide +kernel
theorem dX8_back_64 : decode cX8_back 64 = .ok (.goto (-26), 3) := by decide +kernel
theorem dX8_back_67 : decode cX8_back 67 = .ok (.aload_n 0, 1) := by decide +kernel
theorem dX8_back_68 : decode cX8_back 68 = .ok (.iconst 0, 1) := by decide +kernel
theorem dX8_back_69 : decode cX8_back 69 = .ok (.putfield 165, 3) := by decide +kernel
theorem dX8_back_72 : decode cX8_back 72 = .ok (.aload_n 0, 1) := by decide +kernel
theorem dX8_back_73 : decode cX8_back 73 = .ok (.invokevirtual 151, 3) := by decide +kernel
theorem dX8_back_76 : decode cX8_back 76 = .ok (.ireturn, 1) := by decide +kernel
set_option maxRecDepth 20000 in
theorem ggX8_count_X8_cells : GoodIn wsX8_count wsX8_cells := goodIn_r _ [9, 1, 14, 15, 16, 17, 18, 19, 20, 21, 22, 23, 24, 25, 26, 27, 28, 29, 30, 31, 32, 33, 34, 35, 36, 37, 38, 39, 40, 41, 42, 43, 44] (by decide +kernel) (by decide +kernel)
set_option maxRecDepth 20000 in
theorem gX8_count_X8_cells : GoodIn wsX8_count (wsV RX8 151 RX8 yX8_cells wsX8_cells) := goodIn_app (goodIn_of _ (by decide +kernel)) ggX8_count_X8_cells
set_option maxRecDepth 20000 in
theorem ggX8_count_X8_figure : GoodIn wsX8_count wsX8_figure := goodIn_r _ [13, 1, 5, 6, 7, 8, 9, 14, 15, 16, 17, 18, 19, 20, 21, 22, 23, 24, 25, 26, 27, 28, 29, 30, 31, 32, 33, 34, 35, 36, 37, 38, 39, 40, 41, 42, 43, 44] (by decide +kernel) (by decide +kernel)
set_option maxRecDepth 20000 in
theorem gX8_count_X8_figure : GoodIn wsX8_count (wsV RX8 205 RX8 yX8_figure wsX8_figure) := goodIn_app (goodIn_of _ (by decide +kernel)) ggX8_count_X8_figure
theorem dX8_count_0 : decode cX8_count 0 = .ok (.iconst 0, 1) := by decide +kernel
theorem dX8_count_1 : decode cX8_count 1 = .ok (.istore_n 2, 1) := by decide +kernel
theorem dX8_count_2 : decode cX8_count 2 = .ok (.iconst 0, 1) := by decide +kernel
theorem dX8_count_3 : decode cX8_count 3 = .ok (.istore_n 3, 1) := by decide +kernel
theorem dX8_count_4 : decode cX8_count 4 = .ok (.iconst 0, 1) := by decide +kernel
theorem dX8_count_5 : decode cX8_count 5 = .ok (.istore 4, 2) := by decide +kernel
theorem dX8_count_7 : decode cX8_count 7 = .ok (.iload 4, 2) := by decide +kernel
theorem dX8_count_9 : decode cX8_count 9 = .ok (.aload_n 0, 1) := by decide +kernel
theorem dX8_count_10 : decode cX8_count 10 = .ok (.invokevirtual 151, 3) := by decide +kernel
theorem dX8_count_13 : decode cX8_count 13 = .ok (.if_icmp .ge 59, 3) := by decide +kernel
theorem dX8_count_16 : decode cX8_count 16 = .ok (.aload_n 0, 1) := by decide +kernel
theorem dX8_count_17 : decode cX8_count 17 = .ok (.getfield 13, 3) := by decide +kernel
theorem dX8_count_20 : decode cX8_count 20 = .ok (.bipush 45, 2) := by decide +kernel
theorem dX8_count_22 : decode cX8_count 22 = .ok (.iload 4, 2) := by decide +kernel
theorem dX8_count_24 : decode cX8_count 24 = .ok (.iadd, 1) := by decide +kernel
theorem dX8_count_25 : decode cX8_count 25 = .ok (.iaload, 1) := by decide +kernel
theorem dX8_count_26 : decode cX8_count 26 = .ok (.iload_n 2, 1) := by decide +kernel
theorem dX8_count_27 : decode cX8_count 27 = .ok (.if_icmp .le 16, 3) := by decide +kernel
theorem dX8_count_30 : decode cX8_count 30 = .ok (.aload_n 0, 1) := by decide +kernel
theorem dX8_count_31 : decode cX8_count 31 = .ok (.getfield 13, 3) := by decide +kernel
theorem dX8_count_34 : decode cX8_count 34 = .ok (.bipush 45, 2) := by decide +kernel
theorem dX8_count_36 : decode cX8_count 36 = .ok (.iload 4, 2) := by decide +kernel
theorem dX8_count_38 : decode cX8_count 38 = .ok (.iadd, 1) := by decide +kernel
theorem dX8_count_39 : decode cX8_count 39 = .ok (.iaload, 1) := by decide +kernel
theorem dX8_count_40 : decode cX8_count 40 = .ok (.goto 4, 3) := by decide +kernel
theorem dX8_count_43 : decode cX8_count 43 = .ok (.iload_n 2, 1) := by decide +kernel
theorem dX8_count_44 : decode cX8_count 44 = .ok (.istore_n 2, 1) := by decide +kernel
theorem dX8_count_45 : decode cX8_count 45 = .ok (.iload_n 3, 1) := by decide +kernel
theorem dX8_count_46 : decode cX8_count 46 = .ok (.aload_n 0, 1) := by decide +kernel
theorem dX8_count_47 : decode cX8_count 47 = .ok (.getfield 13, 3) := by decide +kernel
theorem dX8_count_50 : decode cX8_count 50 = .ok (.bipush 45, 2) := by decide +kernel
theorem dX8_count_52 : decode cX8_count 52 = .ok (.iload 4, 2) := by decide +kernel
theorem dX8_count_54 : decode cX8_count 54 = .ok (.iadd, 1) := by decide +kernel
theorem dX8_count_55 : decode cX8_count 55 = .ok (.iaload, 1) := by decide +kernel
theorem dX8_count_56 : decode cX8_count 56 = .ok (.ifCond .ne 7, 3) := by decide +kernel
theorem dX8_count_59 : decode cX8_count 59 = .ok (.iconst 1, 1) := by decide +kernel
theorem dX8_count_60 : decode cX8_count 60 = .ok (.goto 4, 3) := by decide +kernel
theorem dX8_count_63 : decode cX8_count 63 = .ok (.iconst 0, 1) := by decide +kernel
theorem dX8_count_64 : decode cX8_count 64 = .ok (.iadd, 1) := by decide +kernel
theorem dX8_count_65 : decode cX8_count 65 = .ok (.istore_n 3, 1) := by decide +kernel
theorem dX8_count_66 : decode cX8_count 66 = .ok (.iinc 4 1, 3) := by decide +kernel
theorem dX8_count_69 : decode cX8_count 69 = .ok (.goto (-62), 3) := by decide +kernel
theorem dX8_count_72 : decode cX8_count 72 = .ok (.iload_n 1, 1) := by decide +kernel
theorem dX8_count_73 : decode cX8_count 73 = .ok (.tableswitch 78 0 7 #[47, 47, 54, 59, 61, 63, 68, 73], 47) := by decide +kernel
theorem dX8_count_120 : decode cX8_count 120 = .ok (.aload_n 0, 1) := by decide +kernel
theorem dX8_count_121 : decode cX8_count 121 = .ok (.getfield 13, 3) := by decide +kernel
theorem dX8_count_124 : decode cX8_count 124 = .ok (.iload_n 1, 1) := by decide +kernel
theorem dX8_count_125 : decode cX8_count 125 = .ok (.iaload, 1) := by decide +kernel
theorem dX8_count_126 : decode cX8_count 126 = .ok (.ireturn, 1) := by decide +kernel
theorem dX8_count_127 : decode cX8_count 127 = .ok (.aload_n 0, 1) := by decide +kernel
theorem dX8_count_128 : decode cX8_count 128 = .ok (.invokevirtual 205, 3) := by decide +kernel
theorem dX8_count_131 : decode cX8_count 131 = .ok (.ireturn, 1) := by decide +kernel
theorem dX8_count_132 : decode cX8_count 132 = .ok (.iload_n 2, 1) := by decide +kernel
theorem dX8_count_133 : decode cX8_count 133 = .ok (.ireturn, 1) := by decide +kernel
theorem dX8_count_134 : decode cX8_count 134 = .ok (.iload_n 3, 1) := by decide +kernel
theorem dX8_count_135 : decode cX8_count 135 = .ok (.ireturn, 1) := by decide +kernel
theorem dX8_count_136 : decode cX8_count 136 = .ok (.aload_n 0, 1) := by decide +kernel
theorem dX8_count_137 : decode cX8_count 137 = .ok (.getfield 230, 3) := by decide +kernel
theorem dX8_count_140 : decode cX8_count 140 = .ok (.ireturn, 1) := by decide +kernel
theorem dX8_count_141 : decode cX8_count 141 = .ok (.aload_n 0, 1) := by decide +kernel
theorem dX8_count_142 : decode cX8_count 142 = .ok (.getfield 65, 3) := by decide +kernel
theorem dX8_count_145 : decode cX8_count 145 = .ok (.ireturn, 1) := by decide +kernel
theorem dX8_count_146 : decode cX8_count 146 = .ok (.aload_n 0, 1) := by decide +kernel
theorem dX8_count_147 : decode cX8_count 147 = .ok (.getfield 165, 3) := by decide +kernel
theorem dX8_count_150 : decode cX8_count 150 = .ok (.ireturn, 1) := by decide +kernel
theorem dX8_count_151 : decode cX8_count 151 = .ok (.iconst (-1), 1) := by decide +kernel
theorem dX8_count_152 : decode cX8_count 152 = .ok (.ireturn, 1) := by decide +kernel
theorem dJ9_abs_0f7a4_0 : decode cJ9_abs_0f7a4 0 = .ok (.iload_n 0, 1) := by decide +kernel
theorem dJ9_abs_0f7a4_1 : decode cJ9_abs_0f7a4 1 = .ok (.ifCond .ge 8, 3) := by decide +kernel
theorem dJ9_abs_0f7a4_4 : decode cJ9_abs_0f7a4 4 = .ok (.iload_n 0, 1) := by decide +kernel
theorem dJ9_abs_0f7a4_5 : decode cJ9_abs_0f7a4 5 = .ok (.ineg, 1) := by decide +kernel
theorem dJ9_abs_0f7a4_6 : decode cJ9_abs_0f7a4 6 = .ok (.goto 4, 3) := by decide +kernel
theorem dJ9_abs_0f7a4_9 : decode cJ9_abs_0f7a4 9 = .ok (.iload_n 0, 1) := by decide +kernel
theorem dJ9_abs_0f7a4_10 : decode cJ9_abs_0f7a4 10 = .ok (.ireturn, 1) := by decide +kernel
theorem dJ9_max_7cf53_0 : decode cJ9_max_7cf53 0 = .ok (.iload_n 0, 1) := by decide +kernel
theorem dJ9_max_7cf53_1 : decode cJ9_max_7cf53 1 = .ok (.iload_n 1, 1) := by decide +kernel
theorem dJ9_max_7cf53_2 : decode cJ9_max_7cf53 2 = .ok (.if_icmp .lt 7, 3) := by decide +kernel
theorem dJ9_max_7cf53_5 : decode cJ9_max_7cf53 5 = .ok (.iload_n 0, 1) := by decide +kernel
theorem dJ9_max_7cf53_6 : decode cJ9_max_7cf53 6 = .ok (.goto 4, 3) := by decide +kernel
theorem dJ9_max_7cf53_9 : decode cJ9_max_7cf53 9 = .ok (.iload_n 1, 1) := by decide +kernel
theorem dJ9_max_7cf53_10 : decode cJ9_max_7cf53 10 = .ok (.ireturn, 1) := by decide +kernel
theorem dJ9_min_7cf53_0 : decode cJ9_min_7cf53 0 = .ok (.iload_n 0, 1) := by decide +kernel
theorem dJ9_min_7cf53_1 : decode cJ9_min_7cf53 1 = .ok (.iload_n 1, 1) := by decide +kernel
theorem dJ9_min_7cf53_2 : decode cJ9_min_7cf53 2 = .ok (.if_icmp .gt 7, 3) := by decide +kernel
theorem dJ9_min_7cf53_5 : decode cJ9_min_7cf53 5 = .ok (.iload_n 0, 1) := by decide +kernel
theorem dJ9_min_7cf53_6 : decode cJ9_min_7cf53 6 = .ok (.goto 4, 3) := by decide +kernel
theorem dJ9_min_7cf53_9 : decode cJ9_min_7cf53 9 = .ok (.iload_n 1, 1) := by decide +kernel
theorem dJ9_min_7cf53_10 : decode cJ9_min_7cf53 10 = .ok (.ireturn, 1) := by decide +kernel
set_option maxRecDepth 20000 in
theorem ggJ0_length_8abf5_J0_coder_7d493 : GoodIn wsJ0_length_8abf5 wsJ0_coder_7d493 := goodIn_r _ [6, 7, 8] (by decide +kernel) (by decide +kernel)
set_option maxRecDepth 20000 in
theorem gJ0_length_8abf5_J0_coder_7d493 : GoodIn wsJ0_length_8abf5 (wsV RJ0 335 RJ0 yJ0_coder_7d493 wsJ0_coder_7d493) := goodIn_app (goodIn_of _ (by decide +kernel)) ggJ0_length_8abf5_J0_coder_7d493
theorem dJ0_length_8abf5_0 : decode cJ0_length_8abf5 0 = .ok (.aload_n 0, 1) := by decide +kernel
theorem dJ0_length_8abf5_1 : decode cJ0_length_8abf5 1 = .ok (.getfield 9, 3) := by decide +kernel
theorem dJ0_length_8abf5_4 : decode cJ0_length_8abf5 4 = .ok (.arraylength, 1) := by decide +kernel
theorem dJ0_length_8abf5_5 : decode cJ0_length_8abf5 5 = .ok (.aload_n 0, 1) := by decide +kernel
theorem dJ0_length_8abf5_6 : decode cJ0_length_8abf5 6 = .ok (.invokevirtual 335, 3) := by decide +kernel
theorem dJ0_length_8abf5_9 : decode cJ0_length_8abf5 9 = .ok (.ishr, 1) := by decide +kernel
theorem dJ0_length_8abf5_10 : decode cJ0_length_8abf5 10 = .ok (.ireturn, 1) := by decide +kernel
set_option maxRecDepth 20000 in
theorem ggJ0_charAt_5068e_J0_isLatin1_aae02 : GoodIn wsJ0_charAt_5068e wsJ0_isLatin1_aae02 := goodIn_r _ [6, 7, 8] (by decide +kernel) (by decide +kernel)
set_option maxRecDepth 20000 in
theorem gJ0_charAt_5068e_J0_isLatin1_aae02 : GoodIn wsJ0_charAt_5068e (wsV RJ0 492 RJ0 yJ0_isLatin1_aae02 wsJ0_isLatin1_aae02) := goodIn_app (goodIn_of _ (by decide +kernel)) ggJ0_charAt_5068e_J0_isLatin1_aae02
set_option maxRecDepth 20000 in
theorem ggJ0_charAt_5068e_J1_charAt_3b067 : GoodIn wsJ0_charAt_5068e wsJ1_charAt_3b067 := goodIn_r _ [12, 13, 14, 5, 15, 16, 17, 18, 19, 20] (by decide +kernel) (by decide +kernel)
set_option maxRecDepth 20000 in
theorem gJ0_charAt_5068e_J1_charAt_3b067 : GoodIn wsJ0_charAt_5068e (va_wsS RJ0 495 yJ1_charAt_3b067 wsJ1_charAt_3b067) := goodIn_app (goodIn_of _ (by decide +kernel)) ggJ0_charAt_5068e_J1_charAt_3b067
set_option maxRecDepth 20000 in
theorem ggJ0_charAt_5068e_J2_charAt_3b067 : GoodIn wsJ0_charAt_5068e wsJ2_charAt_3b067 := goodIn_r _ [24, 25, 26, 23, 27, 28, 29, 30, 31, 14, 5, 15, 16, 17, 18, 19, 20, 32, 33, 34, 35, 36, 37] (by decide +kernel) (by decide +kernel)
set_option maxRecDepth 20000 in
theorem gJ0_charAt_5068e_J2_charAt_3b067 : GoodIn wsJ0_charAt_5068e (va_wsS RJ0 498 yJ2_charAt_3b067 wsJ2_charAt_3b067) := goodIn_app (goodIn_of _ (by decide +kernel)) ggJ0_charAt_5068e_J2_charAt_3b067
theorem dJ0_charAt_5068e_0 : decode cJ0_charAt_5068e 0 = .ok (.aload_n 0, 1) := by decide +kernel
theorem dJ0_charAt_5068e_1 : decode cJ0_charAt_5068e 1 = .ok (.invokevirtual 492, 3) := by decide +kernel
theorem dJ0_charAt_5068e_4 : decode cJ0_charAt_5068e 4 = .ok (.ifCond .eq 12, 3) := by decide +kernel
theorem dJ0_charAt_5068e_7 : decode cJ0_charAt_5068e 7 = .ok (.aload_n 0, 1) := by decide +kernel
theorem dJ0_charAt_5068e_8 : decode cJ0_charAt_5068e 8 = .ok (.getfield 9, 3) := by decide +kernel
theorem dJ0_charAt_5068e_11 : decode cJ0_charAt_5068e 11 = .ok (.iload_n 1, 1) := by decide +kernel
theorem dJ0_charAt_5068e_12 : decode cJ0_charAt_5068e 12 = .ok (.invokestatic 495, 3) := by decide +kernel
theorem dJ0_charAt_5068e_15 : decode cJ0_charAt_5068e 15 = .ok (.ireturn, 1) := by decide +kernel
theorem dJ0_charAt_5068e_16 : decode cJ0_charAt_5068e 16 = .ok (.aload_n 0, 1) := by decide +kernel
theorem dJ0_charAt_5068e_17 : decode cJ0_charAt_5068e 17 = .ok (.getfield 9, 3) := by decide +kernel
theorem dJ0_charAt_5068e_20 : decode cJ0_charAt_5068e 20 = .ok (.iload_n 1, 1) := by decide +kernel
theorem dJ0_charAt_5068e_21 : decode cJ0_charAt_5068e 21 = .ok (.invokestatic 498, 3) := by decide +kernel
theorem dJ0_charAt_5068e_24 : decode cJ0_charAt_5068e 24 = .ok (.ireturn, 1) := by decide +kernel
theorem dJ0_coder_7d493_0 : decode cJ0_coder_7d493 0 = .ok (.getstatic 38, 3) := by decide +kernel
theorem dJ0_coder_7d493_3 : decode cJ0_coder_7d493 3 = .ok (.ifCond .eq 10, 3) := by decide +kernel
theorem dJ0_coder_7d493_6 : decode cJ0_coder_7d493 6 = .ok (.aload_n 0, 1) := by decide +kernel
theorem dJ0_coder_7d493_7 : decode cJ0_coder_7d493 7 = .ok (.getfield 15, 3) := by decide +kernel
theorem dJ0_coder_7d493_10 : decode cJ0_coder_7d493 10 = .ok (.goto 4, 3) := by decide +kernel
theorem dJ0_coder_7d493_13 : decode cJ0_coder_7d493 13 = .ok (.iconst 1, 1) := by decide +kernel
theorem dJ0_coder_7d493_14 : decode cJ0_coder_7d493 14 = .ok (.ireturn, 1) := by decide +kernel
theorem dJ0_isLatin1_aae02_0 : decode cJ0_isLatin1_aae02 0 = .ok (.getstatic 38, 3) := by decide +kernel
theorem dJ0_isLatin1_aae02_3 : decode cJ0_isLatin1_aae02 3 = .ok (.ifCond .eq 14, 3) := by decide +kernel
theorem dJ0_isLatin1_aae02_6 : decode cJ0_isLatin1_aae02 6 = .ok (.aload_n 0, 1) := by decide +kernel
theorem dJ0_isLatin1_aae02_7 : decode cJ0_isLatin1_aae02 7 = .ok (.getfield 15, 3) := by decide +kernel
theorem dJ0_isLatin1_aae02_10 : decode cJ0_isLatin1_aae02 10 = .ok (.ifCond .ne 7, 3) := by decide +kernel
theorem dJ0_isLatin1_aae02_13 : decode cJ0_isLatin1_aae02 13 = .ok (.iconst 1, 1) := by decide +kernel
theorem dJ0_isLatin1_aae02_14 : decode cJ0_isLatin1_aae02 14 = .ok (.goto 4, 3) := by decide +kernel
theorem dJ0_isLatin1_aae02_17 : decode cJ0_isLatin1_aae02 17 = .ok (.iconst 0, 1) := by decide +kernel
theorem dJ0_isLatin1_aae02_18 : decode cJ0_isLatin1_aae02 18 = .ok (.ireturn, 1) := by decide +kernel
set_option maxRecDepth 20000 in
theorem ggJ0_checkIndex_df160_J3_checkIndex_8e157 : GoodIn wsJ0_checkIndex_df160 wsJ3_checkIndex_8e157 := goodIn_r _ [5] (by decide +kernel) (by decide +kernel)
set_option maxRecDepth 20000 in
theorem gJ0_checkIndex_df160_J3_checkIndex_8e157 : GoodIn wsJ0_checkIndex_df160 (va_wsS RJ0 1059 yJ3_checkIndex_8e157 wsJ3_checkIndex_8e157) := goodIn_app (goodIn_of _ (by decide +kernel)) ggJ0_checkIndex_df160_J3_checkIndex_8e157
theorem dJ0_checkIndex_df160_0 : decode cJ0_checkIndex_df160 0 = .ok (.iload_n 0, 1) := by decide +kernel
theorem dJ0_checkIndex_df160_1 : decode cJ0_checkIndex_df160 1 = .ok (.iload_n 1, 1) := by decide +kernel
theorem dJ0_checkIndex_df160_2 : decode cJ0_checkIndex_df160 2 = .ok (.getstatic 1053, 3) := by decide +kernel
theorem dJ0_checkIndex_df160_5 : decode cJ0_checkIndex_df160 5 = .ok (.invokestatic 1059, 3) := by decide +kernel
theorem dJ0_checkIndex_df160_8 : decode cJ0_checkIndex_df160 8 = .ok (.pop, 1) := by decide +kernel
theorem dJ0_checkIndex_df160_9 : decode cJ0_checkIndex_df160 9 = .ok (.return_, 1) := by decide +kernel
set_option maxRecDepth 20000 in
theorem ggJ1_charAt_3b067_J0_checkIndex_df160 : GoodIn wsJ1_charAt_3b067 wsJ0_checkIndex_df160 := goodIn_r _ [4, 5, 6, 7, 8, 9] (by decide +kernel) (by decide +kernel)
set_option maxRecDepth 20000 in
theorem gJ1_charAt_3b067_J0_checkIndex_df160 : GoodIn wsJ1_charAt_3b067 (va_wsS RJ1 9 yJ0_checkIndex_df160 wsJ0_checkIndex_df160) := goodIn_app (goodIn_of _ (by decide +kernel)) ggJ1_charAt_3b067_J0_checkIndex_df160
theorem dJ1_charAt_3b067_0 : decode cJ1_charAt_3b067 0 = .ok (.iload_n 1, 1) := by decide +kernel
theorem dJ1_charAt_3b067_1 : decode cJ1_charAt_3b067 1 = .ok (.aload_n 0, 1) := by decide +kernel
theorem dJ1_charAt_3b067_2 : decode cJ1_charAt_3b067 2 = .ok (.arraylength, 1) := by decide +kernel
theorem dJ1_charAt_3b067_3 : decode cJ1_charAt_3b067 3 = .ok (.invokestatic 9, 3) := by decide +kernel
theorem dJ1_charAt_3b067_6 : decode cJ1_charAt_3b067 6 = .ok (.aload_n 0, 1) := by decide +kernel
theorem dJ1_charAt_3b067_7 : decode cJ1_charAt_3b067 7 = .ok (.iload_n 1, 1) := by decide +kernel
theorem dJ1_charAt_3b067_8 : decode cJ1_charAt_3b067 8 = .ok (.baload, 1) := by decide +kernel
theorem dJ1_charAt_3b067_9 : decode cJ1_charAt_3b067 9 = .ok (.sipush 255, 3) := by decide +kernel
theorem dJ1_charAt_3b067_12 : decode cJ1_charAt_3b067 12 = .ok (.iand, 1) := by decide +kernel
theorem dJ1_charAt_3b067_13 : decode cJ1_charAt_3b067 13 = .ok (.i2c, 1) := by decide +kernel
theorem dJ1_charAt_3b067_14 : decode cJ1_charAt_3b067 14 = .ok (.ireturn, 1) := by decide +kernel
set_option maxRecDepth 20000 in
theorem ggJ2_getChar_3b067_J2_length_9d52b : GoodIn wsJ2_getChar_3b067 wsJ2_length_9d52b := goodIn_r _ [7] (by decide +kernel) (by decide +kernel)
set_option maxRecDepth 20000 in
theorem gJ2_getChar_3b067_J2_length_9d52b : GoodIn wsJ2_getChar_3b067 (va_wsS RJ2 48 yJ2_length_9d52b wsJ2_length_9d52b) := goodIn_app (goodIn_of _ (by decide +kernel)) ggJ2_getChar_3b067_J2_length_9d52b
theorem dJ2_getChar_3b067_0 : decode cJ2_getChar_3b067 0 = .ok (.getstatic 44, 3) := by decide +kernel
theorem dJ2_getChar_3b067_3 : decode cJ2_getChar_3b067 3 = .ok (.ifCond .ne 25, 3) := by decide +kernel
theorem dJ2_getChar_3b067_6 : decode cJ2_getChar_3b067 6 = .ok (.iload_n 1, 1) := by decide +kernel
theorem dJ2_getChar_3b067_7 : decode cJ2_getChar_3b067 7 = .ok (.ifCond .lt 11, 3) := by decide +kernel
theorem dJ2_getChar_3b067_10 : decode cJ2_getChar_3b067 10 = .ok (.iload_n 1, 1) := by decide +kernel
theorem dJ2_getChar_3b067_11 : decode cJ2_getChar_3b067 11 = .ok (.aload_n 0, 1) := by decide +kernel
theorem dJ2_getChar_3b067_12 : decode cJ2_getChar_3b067 12 = .ok (.invokestatic 48, 3) := by decide +kernel
theorem dJ2_getChar_3b067_15 : decode cJ2_getChar_3b067 15 = .ok (.if_icmp .lt 13, 3) := by decide +kernel
theorem dJ2_getChar_3b067_18 : decode cJ2_getChar_3b067 18 = .ok (.new 52, 3) := by decide +kernel
theorem dJ2_getChar_3b067_21 : decode cJ2_getChar_3b067 21 = .ok (.dup, 1) := by decide +kernel
theorem dJ2_getChar_3b067_22 : decode cJ2_getChar_3b067 22 = .ok (.ldc 54, 2) := by decide +kernel
theorem dJ2_getChar_3b067_24 : decode cJ2_getChar_3b067 24 = .ok (.invokespecial 56, 3) := by decide +kernel
theorem dJ2_getChar_3b067_27 : decode cJ2_getChar_3b067 27 = .ok (.athrow, 1) := by decide +kernel
theorem dJ2_getChar_3b067_28 : decode cJ2_getChar_3b067 28 = .ok (.iload_n 1, 1) := by decide +kernel
theorem dJ2_getChar_3b067_29 : decode cJ2_getChar_3b067 29 = .ok (.iconst 1, 1) := by decide +kernel
theorem dJ2_getChar_3b067_30 : decode cJ2_getChar_3b067 30 = .ok (.ishl, 1) := by decide +kernel
theorem dJ2_getChar_3b067_31 : decode cJ2_getChar_3b067 31 = .ok (.istore_n 1, 1) := by decide +kernel
theorem dJ2_getChar_3b067_32 : decode cJ2_getChar_3b067 32 = .ok (.aload_n 0, 1) := by decide +kernel
theorem dJ2_getChar_3b067_33 : decode cJ2_getChar_3b067 33 = .ok (.iload_n 1, 1) := by decide +kernel
theorem dJ2_getChar_3b067_34 : decode cJ2_getChar_3b067 34 = .ok (.iinc 1 1, 3) := by decide +kernel
theorem dJ2_getChar_3b067_37 : decode cJ2_getChar_3b067 37 = .ok (.baload, 1) := by decide +kernel
theorem dJ2_getChar_3b067_38 : decode cJ2_getChar_3b067 38 = .ok (.sipush 255, 3) := by decide +kernel
theorem dJ2_getChar_3b067_41 : decode cJ2_getChar_3b067 41 = .ok (.iand, 1) := by decide +kernel
theorem dJ2_getChar_3b067_42 : decode cJ2_getChar_3b067 42 = .ok (.getstatic 59, 3) := by decide +kernel
theorem dJ2_getChar_3b067_45 : decode cJ2_getChar_3b067 45 = .ok (.ishl, 1) := by decide +kernel
theorem dJ2_getChar_3b067_46 : decode cJ2_getChar_3b067 46 = .ok (.aload_n 0, 1) := by decide +kernel
theorem dJ2_getChar_3b067_47 : decode cJ2_getChar_3b067 47 = .ok (.iload_n 1, 1) := by decide +kernel
theorem dJ2_getChar_3b067_48 : decode cJ2_getChar_3b067 48 = .ok (.baload, 1) := by decide +kernel
theorem dJ2_getChar_3b067_49 : decode cJ2_getChar_3b067 49 = .ok (.sipush 255, 3) := by decide +kernel
theorem dJ2_getChar_3b067_52 : decode cJ2_getChar_3b067 52 = .ok (.iand, 1) := by decide +kernel
theorem dJ2_getChar_3b067_53 : decode cJ2_getChar_3b067 53 = .ok (.getstatic 63, 3) := by decide +kernel
theorem dJ2_getChar_3b067_56 : decode cJ2_getChar_3b067 56 = .ok (.ishl, 1) := by decide +kernel
theorem dJ2_getChar_3b067_57 : decode cJ2_getChar_3b067 57 = .ok (.ior, 1) := by decide +kernel
theorem dJ2_getChar_3b067_58 : decode cJ2_getChar_3b067 58 = .ok (.i2c, 1) := by decide +kernel
theorem dJ2_getChar_3b067_59 : decode cJ2_getChar_3b067 59 = .ok (.ireturn, 1) := by decide +kernel
theorem dJ2_length_9d52b_0 : decode cJ2_length_9d52b 0 = .ok (.aload_n 0, 1) := by decide +kernel
theorem dJ2_length_9d52b_1 : decode cJ2_length_9d52b 1 = .ok (.arraylength, 1) := by decide +kernel
theorem dJ2_length_9d52b_2 : decode cJ2_length_9d52b 2 = .ok (.iconst 1, 1) := by decide +kernel
theorem dJ2_length_9d52b_3 : decode cJ2_length_9d52b 3 = .ok (.ishr, 1) := by decide +kernel
theorem dJ2_length_9d52b_4 : decode cJ2_length_9d52b 4 = .ok (.ireturn, 1) := by decide +kernel
set_option maxRecDepth 20000 in
theorem ggJ2_charAt_3b067_J2_checkIndex_2214a : GoodIn wsJ2_charAt_3b067 wsJ2_checkIndex_2214a := goodIn_r _ [4, 5, 6, 3, 7, 8, 9, 10, 11, 12, 13, 14, 15, 16] (by decide +kernel) (by decide +kernel)
set_option maxRecDepth 20000 in
theorem gJ2_charAt_3b067_J2_checkIndex_2214a : GoodIn wsJ2_charAt_3b067 (va_wsS RJ2 67 yJ2_checkIndex_2214a wsJ2_checkIndex_2214a) := goodIn_app (goodIn_of _ (by decide +kernel)) ggJ2_charAt_3b067_J2_checkIndex_2214a
set_option maxRecDepth 20000 in
theorem ggJ2_charAt_3b067_J2_getChar_3b067 : GoodIn wsJ2_charAt_3b067 wsJ2_getChar_3b067 := goodIn_r _ [19, 20, 21, 22, 5, 6, 3, 7] (by decide +kernel) (by decide +kernel)
set_option maxRecDepth 20000 in
theorem gJ2_charAt_3b067_J2_getChar_3b067 : GoodIn wsJ2_charAt_3b067 (va_wsS RJ2 71 yJ2_getChar_3b067 wsJ2_getChar_3b067) := goodIn_app (goodIn_of _ (by decide +kernel)) ggJ2_charAt_3b067_J2_getChar_3b067
theorem dJ2_charAt_3b067_0 : decode cJ2_charAt_3b067 0 = .ok (.iload_n 1, 1) := by decide +kernel
theorem dJ2_charAt_3b067_1 : decode cJ2_charAt_3b067 1 = .ok (.aload_n 0, 1) := by decide +kernel
theorem dJ2_charAt_3b067_2 : decode cJ2_charAt_3b067 2 = .ok (.invokestatic 67, 3) := by decide +kernel
theorem dJ2_charAt_3b067_5 : decode cJ2_charAt_3b067 5 = .ok (.aload_n 0, 1) := by decide +kernel
theorem dJ2_charAt_3b067_6 : decode cJ2_charAt_3b067 6 = .ok (.iload_n 1, 1) := by decide +kernel
theorem dJ2_charAt_3b067_7 : decode cJ2_charAt_3b067 7 = .ok (.invokestatic 71, 3) := by decide +kernel
theorem dJ2_charAt_3b067_10 : decode cJ2_charAt_3b067 10 = .ok (.ireturn, 1) := by decide +kernel
set_option maxRecDepth 20000 in
theorem ggJ2_checkIndex_2214a_J2_length_9d52b : GoodIn wsJ2_checkIndex_2214a wsJ2_length_9d52b := goodIn_r _ [4] (by decide +kernel) (by decide +kernel)
set_option maxRecDepth 20000 in
theorem gJ2_checkIndex_2214a_J2_length_9d52b : GoodIn wsJ2_checkIndex_2214a (va_wsS RJ2 48 yJ2_length_9d52b wsJ2_length_9d52b) := goodIn_app (goodIn_of _ (by decide +kernel)) ggJ2_checkIndex_2214a_J2_length_9d52b
set_option maxRecDepth 20000 in
theorem ggJ2_checkIndex_2214a_J0_checkIndex_df160 : GoodIn wsJ2_checkIndex_2214a wsJ0_checkIndex_df160 := goodIn_r _ [8, 9, 10, 11, 12, 13] (by decide +kernel) (by decide +kernel)
set_option maxRecDepth 20000 in
theorem gJ2_checkIndex_2214a_J0_checkIndex_df160 : GoodIn wsJ2_checkIndex_2214a (va_wsS RJ2 414 yJ0_checkIndex_df160 wsJ0_checkIndex_df160) := goodIn_app (goodIn_of _ (by decide +kernel)) ggJ2_checkIndex_2214a_J0_checkIndex_df160
theorem dJ2_checkIndex_2214a_0 : decode cJ2_checkIndex_2214a 0 = .ok (.iload_n 0, 1) := by decide +kernel
theorem dJ2_checkIndex_2214a_1 : decode cJ2_checkIndex_2214a 1 = .ok (.aload_n 1, 1) := by decide +kernel
theorem dJ2_checkIndex_2214a_2 : decode cJ2_checkIndex_2214a 2 = .ok (.invokestatic 48, 3) := by decide +kernel
theorem dJ2_checkIndex_2214a_5 : decode cJ2_checkIndex_2214a 5 = .ok (.invokestatic 414, 3) := by decide +kernel
theorem dJ2_checkIndex_2214a_8 : decode cJ2_checkIndex_2214a 8 = .ok (.return_, 1) := by decide +kernel
theorem dJ7_fill_53178_0 : decode cJ7_fill_53178 0 = .ok (.iconst 0, 1) := by decide +kernel
theorem dJ7_fill_53178_1 : decode cJ7_fill_53178 1 = .ok (.istore_n 2, 1) := by decide +kernel
theorem dJ7_fill_53178_2 : decode cJ7_fill_53178 2 = .ok (.aload_n 0, 1) := by decide +kernel
theorem dJ7_fill_53178_3 : decode cJ7_fill_53178 3 = .ok (.arraylength, 1) := by decide +kernel
theorem dJ7_fill_53178_4 : decode cJ7_fill_53178 4 = .ok (.istore_n 3, 1) := by decide +kernel
theorem dJ7_fill_53178_5 : decode cJ7_fill_53178 5 = .ok (.iload_n 2, 1) := by decide +kernel
theorem dJ7_fill_53178_6 : decode cJ7_fill_53178 6 = .ok (.iload_n 3, 1) := by decide +kernel
theorem dJ7_fill_53178_7 : decode cJ7_fill_53178 7 = .ok (.if_icmp .ge 13, 3) := by decide +kernel
theorem dJ7_fill_53178_10 : decode cJ7_fill_53178 10 = .ok (.aload_n 0, 1) := by decide +kernel
theorem dJ7_fill_53178_11 : decode cJ7_fill_53178 11 = .ok (.iload_n 2, 1) := by decide +kernel
theorem dJ7_fill_53178_12 : decode cJ7_fill_53178 12 = .ok (.iload_n 1, 1) := by decide +kernel
theorem dJ7_fill_53178_13 : decode cJ7_fill_53178 13 = .ok (.iastore, 1) := by decide +kernel
theorem dJ7_fill_53178_14 : decode cJ7_fill_53178 14 = .ok (.iinc 2 1, 3) := by decide +kernel
theorem dJ7_fill_53178_17 : decode cJ7_fill_53178 17 = .ok (.goto (-12), 3) := by decide +kernel
theorem dJ7_fill_53178_20 : decode cJ7_fill_53178 20 = .ok (.return_, 1) := by decide +kernel
theorem dJ3_checkIndex_8e157_0 : decode cJ3_checkIndex_8e157 0 = .ok (.iload_n 0, 1) := by decide +kernel
theorem dJ3_checkIndex_8e157_1 : decode cJ3_checkIndex_8e157 1 = .ok (.ifCond .lt 8, 3) := by decide +kernel
theorem dJ3_checkIndex_8e157_4 : decode cJ3_checkIndex_8e157 4 = .ok (.iload_n 0, 1) := by decide +kernel
theorem dJ3_checkIndex_8e157_5 : decode cJ3_checkIndex_8e157 5 = .ok (.iload_n 1, 1) := by decide +kernel
theorem dJ3_checkIndex_8e157_6 : decode cJ3_checkIndex_8e157 6 = .ok (.if_icmp .lt 10, 3) := by decide +kernel
theorem dJ3_checkIndex_8e157_9 : decode cJ3_checkIndex_8e157 9 = .ok (.aload_n 2, 1) := by decide +kernel
theorem dJ3_checkIndex_8e157_10 : decode cJ3_checkIndex_8e157 10 = .ok (.iload_n 0, 1) := by decide +kernel
theorem dJ3_checkIndex_8e157_11 : decode cJ3_checkIndex_8e157 11 = .ok (.iload_n 1, 1) := by decide +kernel
theorem dJ3_checkIndex_8e157_12 : decode cJ3_checkIndex_8e157 12 = .ok (.invokestatic 95, 3) := by decide +kernel
theorem dJ3_checkIndex_8e157_15 : decode cJ3_checkIndex_8e157 15 = .ok (.athrow, 1) := by decide +kernel
theorem dJ3_checkIndex_8e157_16 : decode cJ3_checkIndex_8e157 16 = .ok (.iload_n 0, 1) := by decide +kernel
theorem dJ3_checkIndex_8e157_17 : decode cJ3_checkIndex_8e157 17 = .ok (.ireturn, 1) := by decide +kernel
theorem dL_law_0 : decode cL_law 0 = .ok (.new 7, 3) := by decide +kernel
theorem dL_law_3 : decode cL_law 3 = .ok (.dup, 1) := by decide +kernel
theorem dL_law_4 : decode cL_law 4 = .ok (.invokespecial 9, 3) := by decide +kernel
theorem dL_law_7 : decode cL_law 7 = .ok (.astore_n 1, 1) := by decide +kernel
theorem dL_law_8 : decode cL_law 8 = .ok (.new 10, 3) := by decide +kernel
theorem dL_law_11 : decode cL_law 11 = .ok (.dup, 1) := by decide +kernel
theorem dL_law_12 : decode cL_law 12 = .ok (.invokespecial 12, 3) := by decide +kernel
theorem dL_law_15 : decode cL_law 15 = .ok (.astore_n 2, 1) := by decide +kernel
theorem dL_law_16 : decode cL_law 16 = .ok (.iconst 0, 1) := by decide +kernel
theorem dL_law_17 : decode cL_law 17 = .ok (.istore_n 3, 1) := by decide +kernel
theorem dL_law_18 : decode cL_law 18 = .ok (.iload_n 3, 1) := by decide +kernel
theorem dL_law_19 : decode cL_law 19 = .ok (.aload_n 0, 1) := by decide +kernel
theorem dL_law_20 : decode cL_law 20 = .ok (.arraylength, 1) := by decide +kernel
theorem dL_law_21 : decode cL_law 21 = .ok (.iconst 4, 1) := by decide +kernel
theorem dL_law_22 : decode cL_law 22 = .ok (.isub, 1) := by decide +kernel
theorem dL_law_23 : decode cL_law 23 = .ok (.if_icmp .gt 645, 3) := by decide +kernel
theorem dL_law_26 : decode cL_law 26 = .ok (.aload_n 0, 1) := by decide +kernel
theorem dL_law_27 : decode cL_law 27 = .ok (.iload_n 3, 1) := by decide +kernel
theorem dL_law_28 : decode cL_law 28 = .ok (.iaload, 1) := by decide +kernel
theorem dL_law_29 : decode cL_law 29 = .ok (.bipush 31, 2) := by decide +kernel
theorem dL_law_31 : decode cL_law 31 = .ok (.iand, 1) := by decide +kernel
theorem dL_law_32 : decode cL_law 32 = .ok (.tableswitch 630 0 21 #[104, 127, 140, 153, 176, 209, 242, 285, 298, 311, 354, 377, 420, 443, 466, 479, 512, 525, 548, 561, 584, 607], 104) := by decide +kernel
theorem dL_law_136 : decode cL_law 136 = .ok (.aload_n 1, 1) := by decide +kernel
theorem dL_law_137 : decode cL_law 137 = .ok (.aload_n 0, 1) := by decide +kernel
theorem dL_law_138 : decode cL_law 138 = .ok (.iload_n 3, 1) := by decide +kernel
theorem dL_law_139 : decode cL_law 139 = .ok (.iconst 1, 1) := by decide +kernel
theorem dL_law_140 : decode cL_law 140 = .ok (.iadd, 1) := by decide +kernel
theorem dL_law_141 : decode cL_law 141 = .ok (.iaload, 1) := by decide +kernel
theorem dL_law_142 : decode cL_law 142 = .ok (.invokevirtual 13, 3) := by decide +kernel
theorem dL_law_145 : decode cL_law 145 = .ok (.aload_n 2, 1) := by decide +kernel
theorem dL_law_146 : decode cL_law 146 = .ok (.aload_n 0, 1) := by decide +kernel
theorem dL_law_147 : decode cL_law 147 = .ok (.iload_n 3, 1) := by decide +kernel
theorem dL_law_148 : decode cL_law 148 = .ok (.iconst 1, 1) := by decide +kernel
theorem dL_law_149 : decode cL_law 149 = .ok (.iadd, 1) := by decide +kernel
