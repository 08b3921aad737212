theorem dX7_init_112 : decode cX7_init 112 = .ok (.aastore, 1) := by decide +kernel
theorem dX7_init_113 : decode cX7_init 113 = .ok (.iinc 1 1, 3) := by decide +kernel
theorem dX7_init_116 : decode cX7_init 116 = .ok (.goto (-21), 3) := by decide +kernel
theorem dX7_init_119 : decode cX7_init 119 = .ok (.return_, 1) := by decide +kernel
set_option maxRecDepth 20000 in
theorem ggX7_type_X6_add : GoodIn wsX7_type wsX6_add := goodIn_r _ [5, 6, 7, 21, 22, 23, 24, 25] (by decide +kernel) (by decide +kernel)
set_option maxRecDepth 20000 in
theorem gX7_type_X6_add_n67 : GoodIn wsX7_type (wsX6_add) := ggX7_type_X6_add
theorem dX7_type_0 : decode cX7_type 0 = .ok (.iload_n 1, 1) := by decide +kernel
theorem dX7_type_1 : decode cX7_type 1 = .ok (.ifCond .lt 10, 3) := by decide +kernel
theorem dX7_type_4 : decode cX7_type 4 = .ok (.iload_n 1, 1) := by decide +kernel
theorem dX7_type_5 : decode cX7_type 5 = .ok (.sipush 255, 3) := by decide +kernel
theorem dX7_type_8 : decode cX7_type 8 = .ok (.if_icmp .le 5, 3) := by decide +kernel
theorem dX7_type_11 : decode cX7_type 11 = .ok (.iconst (-1), 1) := by decide +kernel
theorem dX7_type_12 : decode cX7_type 12 = .ok (.ireturn, 1) := by decide +kernel
theorem dX7_type_13 : decode cX7_type 13 = .ok (.aload_n 0, 1) := by decide +kernel
theorem dX7_type_14 : decode cX7_type 14 = .ok (.getfield 34, 3) := by decide +kernel
theorem dX7_type_17 : decode cX7_type 17 = .ok (.getfield 63, 3) := by decide +kernel
theorem dX7_type_20 : decode cX7_type 20 = .ok (.iload_n 1, 1) := by decide +kernel
theorem dX7_type_21 : decode cX7_type 21 = .ok (.invokevirtual 67, 3) := by decide +kernel
theorem dX7_type_24 : decode cX7_type 24 = .ok (.ifCond .eq 16, 3) := by decide +kernel
theorem dX7_type_27 : decode cX7_type 27 = .ok (.aload_n 0, 1) := by decide +kernel
theorem dX7_type_28 : decode cX7_type 28 = .ok (.getfield 34, 3) := by decide +kernel
theorem dX7_type_31 : decode cX7_type 31 = .ok (.getfield 63, 3) := by decide +kernel
theorem dX7_type_34 : decode cX7_type 34 = .ok (.getfield 73, 3) := by decide +kernel
theorem dX7_type_37 : decode cX7_type 37 = .ok (.goto 5, 3) := by decide +kernel
theorem dX7_type_40 : decode cX7_type 40 = .ok (.bipush (-3), 2) := by decide +kernel
theorem dX7_type_42 : decode cX7_type 42 = .ok (.ireturn, 1) := by decide +kernel
theorem dX7_clear_0 : decode cX7_clear 0 = .ok (.aload_n 0, 1) := by decide +kernel
theorem dX7_clear_1 : decode cX7_clear 1 = .ok (.getfield 34, 3) := by decide +kernel
theorem dX7_clear_4 : decode cX7_clear 4 = .ok (.getfield 63, 3) := by decide +kernel
theorem dX7_clear_7 : decode cX7_clear 7 = .ok (.getfield 73, 3) := by decide +kernel
theorem dX7_clear_10 : decode cX7_clear 10 = .ok (.istore_n 1, 1) := by decide +kernel
theorem dX7_clear_11 : decode cX7_clear 11 = .ok (.aload_n 0, 1) := by decide +kernel
theorem dX7_clear_12 : decode cX7_clear 12 = .ok (.getfield 34, 3) := by decide +kernel
theorem dX7_clear_15 : decode cX7_clear 15 = .ok (.getfield 63, 3) := by decide +kernel
theorem dX7_clear_18 : decode cX7_clear 18 = .ok (.iconst 0, 1) := by decide +kernel
theorem dX7_clear_19 : decode cX7_clear 19 = .ok (.putfield 73, 3) := by decide +kernel
theorem dX7_clear_22 : decode cX7_clear 22 = .ok (.iload_n 1, 1) := by decide +kernel
theorem dX7_clear_23 : decode cX7_clear 23 = .ok (.ireturn, 1) := by decide +kernel
set_option maxRecDepth 20000 in
theorem ggX7_tells_X5_readAll : GoodIn wsX7_tells wsX5_readAll := goodIn_r _ [7, 8, 9, 10, 11, 5, 12, 13, 14, 15, 16, 17, 18, 19, 20, 21, 22, 23, 24, 25, 26, 27, 28, 29, 30, 31, 32, 33, 34, 35, 36, 37, 38, 39, 40, 41, 42, 43, 44, 45, 46, 47, 48, 49, 50, 51, 52, 53, 54, 55, 56, 57, 58, 59, 60, 61, 62, 63, 64, 65, 66, 67, 68, 69, 70, 71, 72, 73, 74, 75, 76, 77, 78, 79, 80, 81, 82, 83, 84, 85, 86, 87, 88, 89, 90, 91, 92, 93, 94, 95, 96, 97, 98, 99, 100, 101, 102, 103, 104, 105, 106, 107, 108, 109, 110, 111, 112, 113, 114, 115, 116, 117, 118, 119, 120, 121, 122, 123, 124, 125, 126, 127, 128, 129, 130, 131, 132, 133, 134, 135, 136, 137, 138, 139, 140, 141, 164, 165, 166, 167, 168, 169, 170, 171, 172, 173, 174, 175, 176, 177] (by decide +kernel) (by decide +kernel)
set_option maxRecDepth 20000 in
theorem gX7_tells_X5_readAll_n77 : GoodIn wsX7_tells (wsX5_readAll) := ggX7_tells_X5_readAll
set_option maxRecDepth 20000 in
theorem ggX7_tells_X0_record : GoodIn wsX7_tells wsX0_record := goodIn_r _ [145, 146, 147, 148, 149, 150, 143, 151, 152, 22, 153, 154, 25, 26, 27, 28, 29, 30, 31, 32, 41, 178, 179, 173, 174, 175, 176, 177] (by decide +kernel) (by decide +kernel)
set_option maxRecDepth 20000 in
theorem gX7_tells_X0_record_n81 : GoodIn wsX7_tells (wsX0_record) := ggX7_tells_X0_record
set_option maxRecDepth 20000 in
theorem ggX7_tells_X2_takeFrom : GoodIn wsX7_tells wsX2_takeFrom := goodIn_r _ [154, 25, 26, 27, 28, 29, 30, 31, 32, 41, 173, 174, 175, 176, 177] (by decide +kernel) (by decide +kernel)
set_option maxRecDepth 20000 in
theorem gX7_tells_X2_takeFrom_n86 : GoodIn wsX7_tells (wsX2_takeFrom) := ggX7_tells_X2_takeFrom
theorem dX7_tells_0 : decode cX7_tells 0 = .ok (.aload_n 0, 1) := by decide +kernel
theorem dX7_tells_1 : decode cX7_tells 1 = .ok (.getfield 34, 3) := by decide +kernel
theorem dX7_tells_4 : decode cX7_tells 4 = .ok (.invokevirtual 77, 3) := by decide +kernel
theorem dX7_tells_7 : decode cX7_tells 7 = .ok (.istore_n 1, 1) := by decide +kernel
theorem dX7_tells_8 : decode cX7_tells 8 = .ok (.iload_n 1, 1) := by decide +kernel
theorem dX7_tells_9 : decode cX7_tells 9 = .ok (.ifCond .ge 5, 3) := by decide +kernel
theorem dX7_tells_12 : decode cX7_tells 12 = .ok (.iload_n 1, 1) := by decide +kernel
theorem dX7_tells_13 : decode cX7_tells 13 = .ok (.ireturn, 1) := by decide +kernel
theorem dX7_tells_14 : decode cX7_tells 14 = .ok (.aload_n 0, 1) := by decide +kernel
theorem dX7_tells_15 : decode cX7_tells 15 = .ok (.getfield 19, 3) := by decide +kernel
theorem dX7_tells_18 : decode cX7_tells 18 = .ok (.aload_n 0, 1) := by decide +kernel
theorem dX7_tells_19 : decode cX7_tells 19 = .ok (.getfield 10, 3) := by decide +kernel
theorem dX7_tells_22 : decode cX7_tells 22 = .ok (.invokevirtual 81, 3) := by decide +kernel
theorem dX7_tells_25 : decode cX7_tells 25 = .ok (.aload_n 0, 1) := by decide +kernel
theorem dX7_tells_26 : decode cX7_tells 26 = .ok (.getfield 10, 3) := by decide +kernel
theorem dX7_tells_29 : decode cX7_tells 29 = .ok (.aload_n 0, 1) := by decide +kernel
theorem dX7_tells_30 : decode cX7_tells 30 = .ok (.getfield 34, 3) := by decide +kernel
theorem dX7_tells_33 : decode cX7_tells 33 = .ok (.getfield 85, 3) := by decide +kernel
theorem dX7_tells_36 : decode cX7_tells 36 = .ok (.invokevirtual 86, 3) := by decide +kernel
theorem dX7_tells_39 : decode cX7_tells 39 = .ok (.aload_n 0, 1) := by decide +kernel
theorem dX7_tells_40 : decode cX7_tells 40 = .ok (.getfield 34, 3) := by decide +kernel
theorem dX7_tells_43 : decode cX7_tells 43 = .ok (.getfield 63, 3) := by decide +kernel
theorem dX7_tells_46 : decode cX7_tells 46 = .ok (.iconst 0, 1) := by decide +kernel
theorem dX7_tells_47 : decode cX7_tells 47 = .ok (.putfield 73, 3) := by decide +kernel
theorem dX7_tells_50 : decode cX7_tells 50 = .ok (.iload_n 1, 1) := by decide +kernel
theorem dX7_tells_51 : decode cX7_tells 51 = .ok (.ireturn, 1) := by decide +kernel
set_option maxRecDepth 20000 in
theorem ggX7_shakes_X3_takeFrom : GoodIn wsX7_shakes wsX3_takeFrom := goodIn_r _ [7, 8, 9, 10, 11, 12, 120, 121, 122, 123, 124, 125, 126] (by decide +kernel) (by decide +kernel)
set_option maxRecDepth 20000 in
theorem gX7_shakes_X3_takeFrom_n89 : GoodIn wsX7_shakes (wsX3_takeFrom) := ggX7_shakes_X3_takeFrom
set_option maxRecDepth 20000 in
theorem ggX7_shakes_X7_motionNow : GoodIn wsX7_shakes wsX7_motionNow := goodIn_r _ [17, 18, 2, 19, 20, 21, 22, 23, 24, 25, 26, 27, 28, 29, 30, 31, 32, 33, 34, 35, 36, 10, 11, 12, 37, 38, 39, 40, 41, 42, 43, 44, 45, 46, 47, 48, 49, 50, 51, 52, 53, 54, 55, 56, 57, 58, 59, 60, 61, 62, 63, 64, 65, 66, 67, 68, 69, 70, 71, 72, 73, 74, 75, 76, 111, 112, 113, 114, 115, 116, 117, 118, 119, 120, 121, 122, 123, 124, 127, 128, 129, 130, 131, 132, 133, 134] (by decide +kernel) (by decide +kernel)
set_option maxRecDepth 20000 in
theorem gX7_shakes_X7_motionNow : GoodIn wsX7_shakes (wsV RX7 90 RX7 yX7_motionNow wsX7_motionNow) := goodIn_app (goodIn_of _ (by decide +kernel)) ggX7_shakes_X7_motionNow
set_option maxRecDepth 20000 in
theorem ggX7_shakes_X3_shakeOnce : GoodIn wsX7_shakes wsX3_shakeOnce := goodIn_r _ [79, 80, 8, 9, 10, 11, 12, 81, 49, 50, 51, 82, 83, 5, 84, 85, 68, 86, 87, 88, 89, 90, 91, 71, 72, 125, 126, 120, 121, 122, 123, 124] (by decide +kernel) (by decide +kernel)
set_option maxRecDepth 20000 in
theorem gX7_shakes_X3_shakeOnce_n94 : GoodIn wsX7_shakes (wsX3_shakeOnce) := ggX7_shakes_X3_shakeOnce
set_option maxRecDepth 20000 in
theorem ggX7_shakes_X0_record : GoodIn wsX7_shakes wsX0_record := goodIn_r _ [95, 96, 97, 98, 99, 100, 93, 101, 102, 68, 103, 104, 71, 72, 88, 105, 10, 11, 12, 106, 107, 135, 136, 120, 121, 122, 123, 124] (by decide +kernel) (by decide +kernel)
set_option maxRecDepth 20000 in
theorem gX7_shakes_X0_record_n81 : GoodIn wsX7_shakes (wsX0_record) := ggX7_shakes_X0_record
set_option maxRecDepth 20000 in
theorem ggX7_shakes_X3_layOn : GoodIn wsX7_shakes wsX3_layOn := goodIn_r _ [110, 8, 9, 10, 11, 12, 125, 126, 120, 121, 122, 123, 124] (by decide +kernel) (by decide +kernel)
set_option maxRecDepth 20000 in
theorem gX7_shakes_X3_layOn_n98 : GoodIn wsX7_shakes (wsX3_layOn) := ggX7_shakes_X3_layOn
theorem dX7_shakes_0 : decode cX7_shakes 0 = .ok (.iload_n 1, 1) := by decide +kernel
theorem dX7_shakes_1 : decode cX7_shakes 1 = .ok (.iconst 1, 1) := by decide +kernel
theorem dX7_shakes_2 : decode cX7_shakes 2 = .ok (.if_icmp .lt 9, 3) := by decide +kernel
theorem dX7_shakes_5 : decode cX7_shakes 5 = .ok (.iload_n 1, 1) := by decide +kernel
theorem dX7_shakes_6 : decode cX7_shakes 6 = .ok (.bipush 20, 2) := by decide +kernel
theorem dX7_shakes_8 : decode cX7_shakes 8 = .ok (.if_icmp .le 5, 3) := by decide +kernel
theorem dX7_shakes_11 : decode cX7_shakes 11 = .ok (.iconst (-1), 1) := by decide +kernel
theorem dX7_shakes_12 : decode cX7_shakes 12 = .ok (.ireturn, 1) := by decide +kernel
theorem dX7_shakes_13 : decode cX7_shakes 13 = .ok (.aload_n 0, 1) := by decide +kernel
theorem dX7_shakes_14 : decode cX7_shakes 14 = .ok (.getfield 48, 3) := by decide +kernel
theorem dX7_shakes_17 : decode cX7_shakes 17 = .ok (.aload_n 0, 1) := by decide +kernel
theorem dX7_shakes_18 : decode cX7_shakes 18 = .ok (.getfield 10, 3) := by decide +kernel
theorem dX7_shakes_21 : decode cX7_shakes 21 = .ok (.invokevirtual 89, 3) := by decide +kernel
theorem dX7_shakes_24 : decode cX7_shakes 24 = .ok (.aload_n 0, 1) := by decide +kernel
theorem dX7_shakes_25 : decode cX7_shakes 25 = .ok (.invokevirtual 90, 3) := by decide +kernel
theorem dX7_shakes_28 : decode cX7_shakes 28 = .ok (.astore_n 2, 1) := by decide +kernel
theorem dX7_shakes_29 : decode cX7_shakes 29 = .ok (.iconst 0, 1) := by decide +kernel
theorem dX7_shakes_30 : decode cX7_shakes 30 = .ok (.istore_n 3, 1) := by decide +kernel
theorem dX7_shakes_31 : decode cX7_shakes 31 = .ok (.iconst 0, 1) := by decide +kernel
theorem dX7_shakes_32 : decode cX7_shakes 32 = .ok (.istore 4, 2) := by decide +kernel
theorem dX7_shakes_34 : decode cX7_shakes 34 = .ok (.iload 4, 2) := by decide +kernel
theorem dX7_shakes_36 : decode cX7_shakes 36 = .ok (.iload_n 1, 1) := by decide +kernel
theorem dX7_shakes_37 : decode cX7_shakes 37 = .ok (.if_icmp .ge 24, 3) := by decide +kernel
theorem dX7_shakes_40 : decode cX7_shakes 40 = .ok (.iload_n 3, 1) := by decide +kernel
theorem dX7_shakes_41 : decode cX7_shakes 41 = .ok (.aload_n 0, 1) := by decide +kernel
theorem dX7_shakes_42 : decode cX7_shakes 42 = .ok (.getfield 48, 3) := by decide +kernel
theorem dX7_shakes_45 : decode cX7_shakes 45 = .ok (.aload_n 0, 1) := by decide +kernel
theorem dX7_shakes_46 : decode cX7_shakes 46 = .ok (.getfield 10, 3) := by decide +kernel
theorem dX7_shakes_49 : decode cX7_shakes 49 = .ok (.aload_n 2, 1) := by decide +kernel
theorem dX7_shakes_50 : decode cX7_shakes 50 = .ok (.invokevirtual 94, 3) := by decide +kernel
theorem dX7_shakes_53 : decode cX7_shakes 53 = .ok (.iadd, 1) := by decide +kernel
theorem dX7_shakes_54 : decode cX7_shakes 54 = .ok (.istore_n 3, 1) := by decide +kernel
theorem dX7_shakes_55 : decode cX7_shakes 55 = .ok (.iinc 4 1, 3) := by decide +kernel
theorem dX7_shakes_58 : decode cX7_shakes 58 = .ok (.goto (-24), 3) := by decide +kernel
theorem dX7_shakes_61 : decode cX7_shakes 61 = .ok (.iload_n 3, 1) := by decide +kernel
theorem dX7_shakes_62 : decode cX7_shakes 62 = .ok (.ifCond .ne 6, 3) := by decide +kernel
theorem dX7_shakes_65 : decode cX7_shakes 65 = .ok (.bipush (-2), 2) := by decide +kernel
theorem dX7_shakes_67 : decode cX7_shakes 67 = .ok (.ireturn, 1) := by decide +kernel
theorem dX7_shakes_68 : decode cX7_shakes 68 = .ok (.aload_n 0, 1) := by decide +kernel
theorem dX7_shakes_69 : decode cX7_shakes 69 = .ok (.getfield 19, 3) := by decide +kernel
theorem dX7_shakes_72 : decode cX7_shakes 72 = .ok (.aload_n 0, 1) := by decide +kernel
theorem dX7_shakes_73 : decode cX7_shakes 73 = .ok (.getfield 10, 3) := by decide +kernel
theorem dX7_shakes_76 : decode cX7_shakes 76 = .ok (.invokevirtual 81, 3) := by decide +kernel
theorem dX7_shakes_79 : decode cX7_shakes 79 = .ok (.aload_n 0, 1) := by decide +kernel
theorem dX7_shakes_80 : decode cX7_shakes 80 = .ok (.getfield 48, 3) := by decide +kernel
theorem dX7_shakes_83 : decode cX7_shakes 83 = .ok (.aload_n 0, 1) := by decide +kernel
theorem dX7_shakes_84 : decode cX7_shakes 84 = .ok (.getfield 10, 3) := by decide +kernel
theorem dX7_shakes_87 : decode cX7_shakes 87 = .ok (.invokevirtual 98, 3) := by decide +kernel
theorem dX7_shakes_90 : decode cX7_shakes 90 = .ok (.iload_n 3, 1) := by decide +kernel
theorem dX7_shakes_91 : decode cX7_shakes 91 = .ok (.ireturn, 1) := by decide +kernel
set_option maxRecDepth 20000 in
theorem ggX7_sets_X7_change : GoodIn wsX7_sets wsX7_change := goodIn_r _ [7, 8, 9, 10, 11, 12, 13, 14, 15, 16, 17, 18, 19, 20, 21, 22, 23, 24, 25, 26, 27, 28, 29, 30, 31, 32, 33, 34, 35, 36, 37, 38, 39, 40, 41, 42, 43, 44, 45, 46, 47, 48] (by decide +kernel) (by decide +kernel)
set_option maxRecDepth 20000 in
theorem gX7_sets_X7_change : GoodIn wsX7_sets (wsV RX7 107 RX7 yX7_change wsX7_change) := goodIn_app (goodIn_of _ (by decide +kernel)) ggX7_sets_X7_change
theorem dX7_sets_0 : decode cX7_sets 0 = .ok (.iload_n 1, 1) := by decide +kernel
theorem dX7_sets_1 : decode cX7_sets 1 = .ok (.ifCond .lt 27, 3) := by decide +kernel
theorem dX7_sets_4 : decode cX7_sets 4 = .ok (.iload_n 1, 1) := by decide +kernel
theorem dX7_sets_5 : decode cX7_sets 5 = .ok (.bipush 6, 2) := by decide +kernel
theorem dX7_sets_7 : decode cX7_sets 7 = .ok (.if_icmp .ge 21, 3) := by decide +kernel
theorem dX7_sets_10 : decode cX7_sets 10 = .ok (.iload_n 2, 1) := by decide +kernel
theorem dX7_sets_11 : decode cX7_sets 11 = .ok (.getstatic 101, 3) := by decide +kernel
theorem dX7_sets_14 : decode cX7_sets 14 = .ok (.iload_n 1, 1) := by decide +kernel
theorem dX7_sets_15 : decode cX7_sets 15 = .ok (.iaload, 1) := by decide +kernel
theorem dX7_sets_16 : decode cX7_sets 16 = .ok (.if_icmp .lt 12, 3) := by decide +kernel
theorem dX7_sets_19 : decode cX7_sets 19 = .ok (.iload_n 2, 1) := by decide +kernel
theorem dX7_sets_20 : decode cX7_sets 20 = .ok (.getstatic 104, 3) := by decide +kernel
theorem dX7_sets_23 : decode cX7_sets 23 = .ok (.iload_n 1, 1) := by decide +kernel
theorem dX7_sets_24 : decode cX7_sets 24 = .ok (.iaload, 1) := by decide +kernel
theorem dX7_sets_25 : decode cX7_sets 25 = .ok (.if_icmp .le 5, 3) := by decide +kernel
theorem dX7_sets_28 : decode cX7_sets 28 = .ok (.iconst (-1), 1) := by decide +kernel
theorem dX7_sets_29 : decode cX7_sets 29 = .ok (.ireturn, 1) := by decide +kernel
theorem dX7_sets_30 : decode cX7_sets 30 = .ok (.aload_n 0, 1) := by decide +kernel
theorem dX7_sets_31 : decode cX7_sets 31 = .ok (.iload_n 1, 1) := by decide +kernel
theorem dX7_sets_32 : decode cX7_sets 32 = .ok (.iload_n 2, 1) := by decide +kernel
theorem dX7_sets_33 : decode cX7_sets 33 = .ok (.invokevirtual 107, 3) := by decide +kernel
theorem dX7_sets_36 : decode cX7_sets 36 = .ok (.ireturn, 1) := by decide +kernel
set_option maxRecDepth 20000 in
theorem ggX7_drives_X2_cellAt : GoodIn wsX7_drives wsX2_cellAt := goodIn_r _ [5, 6, 7, 43, 44, 45, 46, 47] (by decide +kernel) (by decide +kernel)
set_option maxRecDepth 20000 in
theorem gX7_drives_X2_cellAt_n111 : GoodIn wsX7_drives (wsX2_cellAt) := ggX7_drives_X2_cellAt
set_option maxRecDepth 20000 in
theorem ggX7_drives_X7_change : GoodIn wsX7_drives wsX7_change := goodIn_r _ [12, 1, 13, 14, 15, 16, 17, 18, 19, 20, 21, 22, 23, 24, 3, 25, 26, 6, 7, 27, 28, 29, 30, 31, 32, 33, 34, 35, 36, 37, 38, 39, 40, 41, 42, 43, 44, 45, 46, 47, 48, 49] (by decide +kernel) (by decide +kernel)
set_option maxRecDepth 20000 in
theorem gX7_drives_X7_change : GoodIn wsX7_drives (wsV RX7 107 RX7 yX7_change wsX7_change) := goodIn_app (goodIn_of _ (by decide +kernel)) ggX7_drives_X7_change
theorem dX7_drives_0 : decode cX7_drives 0 = .ok (.aload_n 0, 1) := by decide +kernel
theorem dX7_drives_1 : decode cX7_drives 1 = .ok (.getfield 10, 3) := by decide +kernel
theorem dX7_drives_4 : decode cX7_drives 4 = .ok (.iload_n 1, 1) := by decide +kernel
theorem dX7_drives_5 : decode cX7_drives 5 = .ok (.iload_n 2, 1) := by decide +kernel
theorem dX7_drives_6 : decode cX7_drives 6 = .ok (.invokevirtual 111, 3) := by decide +kernel
theorem dX7_drives_9 : decode cX7_drives 9 = .ok (.istore_n 3, 1) := by decide +kernel
theorem dX7_drives_10 : decode cX7_drives 10 = .ok (.iload_n 3, 1) := by decide +kernel
theorem dX7_drives_11 : decode cX7_drives 11 = .ok (.ifCond .ge 7, 3) := by decide +kernel
theorem dX7_drives_14 : decode cX7_drives 14 = .ok (.iconst (-1), 1) := by decide +kernel
theorem dX7_drives_15 : decode cX7_drives 15 = .ok (.goto 10, 3) := by decide +kernel
theorem dX7_drives_18 : decode cX7_drives 18 = .ok (.aload_n 0, 1) := by decide +kernel
theorem dX7_drives_19 : decode cX7_drives 19 = .ok (.bipush 6, 2) := by decide +kernel
theorem dX7_drives_21 : decode cX7_drives 21 = .ok (.iload_n 3, 1) := by decide +kernel
theorem dX7_drives_22 : decode cX7_drives 22 = .ok (.invokevirtual 107, 3) := by decide +kernel
theorem dX7_drives_25 : decode cX7_drives 25 = .ok (.ireturn, 1) := by decide +kernel
set_option maxRecDepth 20000 in
theorem ggX7_draws_X2_cellAt : GoodIn wsX7_draws wsX2_cellAt := goodIn_r _ [6, 7, 8, 45, 46, 47, 48, 49] (by decide +kernel) (by decide +kernel)
set_option maxRecDepth 20000 in
theorem gX7_draws_X2_cellAt_n111 : GoodIn wsX7_draws (wsX2_cellAt) := ggX7_draws_X2_cellAt
set_option maxRecDepth 20000 in
theorem ggX7_draws_X0_record : GoodIn wsX7_draws wsX0_record := goodIn_r _ [12, 13, 14, 15, 16, 17, 10, 18, 19, 4, 20, 21, 7, 8, 22, 23, 24, 25, 26, 27, 28, 50, 51, 45, 46, 47, 48, 49] (by decide +kernel) (by decide +kernel)
set_option maxRecDepth 20000 in
theorem gX7_draws_X0_record_n81 : GoodIn wsX7_draws (wsX0_record) := ggX7_draws_X0_record
set_option maxRecDepth 20000 in
theorem ggX7_draws_X2_cellsOfFigure : GoodIn wsX7_draws wsX2_cellsOfFigure := goodIn_r _ [31, 27, 32, 33, 34, 4, 35, 7, 8, 45, 46, 47, 48, 49] (by decide +kernel) (by decide +kernel)
set_option maxRecDepth 20000 in
theorem gX7_draws_X2_cellsOfFigure_n117 : GoodIn wsX7_draws (wsX2_cellsOfFigure) := ggX7_draws_X2_cellsOfFigure
theorem dX7_draws_0 : decode cX7_draws 0 = .ok (.aload_n 0, 1) := by decide +kernel
theorem dX7_draws_1 : decode cX7_draws 1 = .ok (.getfield 10, 3) := by decide +kernel
theorem dX7_draws_4 : decode cX7_draws 4 = .ok (.iload_n 1, 1) := by decide +kernel
theorem dX7_draws_5 : decode cX7_draws 5 = .ok (.iload_n 2, 1) := by decide +kernel
theorem dX7_draws_6 : decode cX7_draws 6 = .ok (.invokevirtual 111, 3) := by decide +kernel
theorem dX7_draws_9 : decode cX7_draws 9 = .ok (.istore 4, 2) := by decide +kernel
theorem dX7_draws_11 : decode cX7_draws 11 = .ok (.iload 4, 2) := by decide +kernel
theorem dX7_draws_13 : decode cX7_draws 13 = .ok (.ifCond .lt 12, 3) := by decide +kernel
theorem dX7_draws_16 : decode cX7_draws 16 = .ok (.iload_n 3, 1) := by decide +kernel
theorem dX7_draws_17 : decode cX7_draws 17 = .ok (.ifCond .lt 8, 3) := by decide +kernel
theorem dX7_draws_20 : decode cX7_draws 20 = .ok (.iload_n 3, 1) := by decide +kernel
theorem dX7_draws_21 : decode cX7_draws 21 = .ok (.iconst 1, 1) := by decide +kernel
theorem dX7_draws_22 : decode cX7_draws 22 = .ok (.if_icmp .le 5, 3) := by decide +kernel
theorem dX7_draws_25 : decode cX7_draws 25 = .ok (.iconst (-1), 1) := by decide +kernel
theorem dX7_draws_26 : decode cX7_draws 26 = .ok (.ireturn, 1) := by decide +kernel
theorem dX7_draws_27 : decode cX7_draws 27 = .ok (.aload_n 0, 1) := by decide +kernel
theorem dX7_draws_28 : decode cX7_draws 28 = .ok (.getfield 10, 3) := by decide +kernel
theorem dX7_draws_31 : decode cX7_draws 31 = .ok (.getfield 114, 3) := by decide +kernel
theorem dX7_draws_34 : decode cX7_draws 34 = .ok (.iload 4, 2) := by decide +kernel
theorem dX7_draws_36 : decode cX7_draws 36 = .ok (.iaload, 1) := by decide +kernel
theorem dX7_draws_37 : decode cX7_draws 37 = .ok (.iload_n 3, 1) := by decide +kernel
theorem dX7_draws_38 : decode cX7_draws 38 = .ok (.if_icmp .ne 6, 3) := by decide +kernel
theorem dX7_draws_41 : decode cX7_draws 41 = .ok (.bipush (-2), 2) := by decide +kernel
theorem dX7_draws_43 : decode cX7_draws 43 = .ok (.ireturn, 1) := by decide +kernel
theorem dX7_draws_44 : decode cX7_draws 44 = .ok (.aload_n 0, 1) := by decide +kernel
theorem dX7_draws_45 : decode cX7_draws 45 = .ok (.getfield 19, 3) := by decide +kernel
theorem dX7_draws_48 : decode cX7_draws 48 = .ok (.aload_n 0, 1) := by decide +kernel
theorem dX7_draws_49 : decode cX7_draws 49 = .ok (.getfield 10, 3) := by decide +kernel
theorem dX7_draws_52 : decode cX7_draws 52 = .ok (.invokevirtual 81, 3) := by decide +kernel
theorem dX7_draws_55 : decode cX7_draws 55 = .ok (.aload_n 0, 1) := by decide +kernel
theorem dX7_draws_56 : decode cX7_draws 56 = .ok (.getfield 10, 3) := by decide +kernel
theorem dX7_draws_59 : decode cX7_draws 59 = .ok (.getfield 114, 3) := by decide +kernel
theorem dX7_draws_62 : decode cX7_draws 62 = .ok (.iload 4, 2) := by decide +kernel
theorem dX7_draws_64 : decode cX7_draws 64 = .ok (.iload_n 3, 1) := by decide +kernel
theorem dX7_draws_65 : decode cX7_draws 65 = .ok (.iastore, 1) := by decide +kernel
theorem dX7_draws_66 : decode cX7_draws 66 = .ok (.aload_n 0, 1) := by decide +kernel
theorem dX7_draws_67 : decode cX7_draws 67 = .ok (.getfield 10, 3) := by decide +kernel
theorem dX7_draws_70 : decode cX7_draws 70 = .ok (.invokevirtual 117, 3) := by decide +kernel
theorem dX7_draws_73 : decode cX7_draws 73 = .ok (.ireturn, 1) := by decide +kernel
set_option maxRecDepth 20000 in
theorem ggX7_sands_X2_cells : GoodIn wsX7_sands wsX2_cells := goodIn_r _ [6, 7, 8, 49, 50, 51, 52, 53] (by decide +kernel) (by decide +kernel)
set_option maxRecDepth 20000 in
theorem gX7_sands_X2_cells_n120 : GoodIn wsX7_sands (wsX2_cells) := ggX7_sands_X2_cells
set_option maxRecDepth 20000 in
theorem ggX7_sands_X2_cellsWithGrains : GoodIn wsX7_sands wsX2_cellsWithGrains := goodIn_r _ [11, 12, 13, 3, 5, 4, 6, 7, 8, 49, 50, 51, 52, 53] (by decide +kernel) (by decide +kernel)
set_option maxRecDepth 20000 in
theorem gX7_sands_X2_cellsWithGrains_n123 : GoodIn wsX7_sands (wsX2_cellsWithGrains) := ggX7_sands_X2_cellsWithGrains
set_option maxRecDepth 20000 in
theorem ggX7_sands_X0_record : GoodIn wsX7_sands wsX0_record := goodIn_r _ [17, 18, 19, 20, 21, 22, 15, 23, 24, 4, 25, 26, 7, 8, 27, 28, 29, 30, 31, 32, 12, 54, 55, 49, 50, 51, 52, 53] (by decide +kernel) (by decide +kernel)
set_option maxRecDepth 20000 in
theorem gX7_sands_X0_record_n81 : GoodIn wsX7_sands (wsX0_record) := ggX7_sands_X0_record
set_option maxRecDepth 20000 in
theorem ggX7_sands_X2_layGrains : GoodIn wsX7_sands wsX2_layGrains := goodIn_r _ [35, 12, 36, 37, 38, 39, 49, 50, 51, 52, 53] (by decide +kernel) (by decide +kernel)
set_option maxRecDepth 20000 in
theorem gX7_sands_X2_layGrains_n127 : GoodIn wsX7_sands (wsX2_layGrains) := ggX7_sands_X2_layGrains
theorem dX7_sands_0 : decode cX7_sands 0 = .ok (.aload_n 0, 1) := by decide +kernel
theorem dX7_sands_1 : decode cX7_sands 1 = .ok (.getfield 10, 3) := by decide +kernel
theorem dX7_sands_4 : decode cX7_sands 4 = .ok (.invokevirtual 120, 3) := by decide +kernel
theorem dX7_sands_7 : decode cX7_sands 7 = .ok (.aload_n 0, 1) := by decide +kernel
theorem dX7_sands_8 : decode cX7_sands 8 = .ok (.getfield 10, 3) := by decide +kernel
theorem dX7_sands_11 : decode cX7_sands 11 = .ok (.iconst 1, 1) := by decide +kernel
theorem dX7_sands_12 : decode cX7_sands 12 = .ok (.invokevirtual 123, 3) := by decide +kernel
theorem dX7_sands_15 : decode cX7_sands 15 = .ok (.isub, 1) := by decide +kernel
theorem dX7_sands_16 : decode cX7_sands 16 = .ok (.istore_n 1, 1) := by decide +kernel
theorem dX7_sands_17 : decode cX7_sands 17 = .ok (.iload_n 1, 1) := by decide +kernel
theorem dX7_sands_18 : decode cX7_sands 18 = .ok (.ifCond .ne 6, 3) := by decide +kernel
theorem dX7_sands_21 : decode cX7_sands 21 = .ok (.bipush (-2), 2) := by decide +kernel
theorem dX7_sands_23 : decode cX7_sands 23 = .ok (.ireturn, 1) := by decide +kernel
theorem dX7_sands_24 : decode cX7_sands 24 = .ok (.aload_n 0, 1) := by decide +kernel
theorem dX7_sands_25 : decode cX7_sands 25 = .ok (.getfield 19, 3) := by decide +kernel
theorem dX7_sands_28 : decode cX7_sands 28 = .ok (.aload_n 0, 1) := by decide +kernel
theorem dX7_sands_29 : decode cX7_sands 29 = .ok (.getfield 10, 3) := by decide +kernel
theorem dX7_sands_32 : decode cX7_sands 32 = .ok (.invokevirtual 81, 3) := by decide +kernel
theorem dX7_sands_35 : decode cX7_sands 35 = .ok (.aload_n 0, 1) := by decide +kernel
theorem dX7_sands_36 : decode cX7_sands 36 = .ok (.getfield 10, 3) := by decide +kernel
theorem dX7_sands_39 : decode cX7_sands 39 = .ok (.invokevirtual 127, 3) := by decide +kernel
theorem dX7_sands_42 : decode cX7_sands 42 = .ok (.iload_n 1, 1) := by decide +kernel
theorem dX7_sands_43 : decode cX7_sands 43 = .ok (.ireturn, 1) := by decide +kernel
set_option maxRecDepth 20000 in
theorem ggX7_undo_X0_takeBack : GoodIn wsX7_undo wsX0_takeBack := goodIn_r _ [6, 7, 8, 9, 10, 11, 12, 13, 14, 15, 16, 17, 18, 19, 20, 21, 31, 32, 33, 34, 35, 36, 37] (by decide +kernel) (by decide +kernel)
set_option maxRecDepth 20000 in
theorem gX7_undo_X0_takeBack_n130 : GoodIn wsX7_undo (wsX0_takeBack) := ggX7_undo_X0_takeBack
theorem dX7_undo_0 : decode cX7_undo 0 = .ok (.aload_n 0, 1) := by decide +kernel
theorem dX7_undo_1 : decode cX7_undo 1 = .ok (.getfield 19, 3) := by decide +kernel
theorem dX7_undo_4 : decode cX7_undo 4 = .ok (.aload_n 0, 1) := by decide +kernel
theorem dX7_undo_5 : decode cX7_undo 5 = .ok (.getfield 10, 3) := by decide +kernel
theorem dX7_undo_8 : decode cX7_undo 8 = .ok (.invokevirtual 130, 3) := by decide +kernel
theorem dX7_undo_11 : decode cX7_undo 11 = .ok (.ifCond .eq 13, 3) := by decide +kernel
theorem dX7_undo_14 : decode cX7_undo 14 = .ok (.aload_n 0, 1) := by decide +kernel
theorem dX7_undo_15 : decode cX7_undo 15 = .ok (.getfield 19, 3) := by decide +kernel
theorem dX7_undo_18 : decode cX7_undo 18 = .ok (.getfield 134, 3) := by decide +kernel
theorem dX7_undo_21 : decode cX7_undo 21 = .ok (.goto 5, 3) := by decide +kernel
theorem dX7_undo_24 : decode cX7_undo 24 = .ok (.bipush (-2), 2) := by decide +kernel
theorem dX7_undo_26 : decode cX7_undo 26 = .ok (.ireturn, 1) := by decide +kernel
set_option maxRecDepth 20000 in
theorem ggX7_cell_X2_cellAt : GoodIn wsX7_cell wsX2_cellAt := goodIn_r _ [5, 6, 7, 85, 86, 87, 88, 89] (by decide +kernel) (by decide +kernel)
set_option maxRecDepth 20000 in
theorem gX7_cell_X2_cellAt_n111 : GoodIn wsX7_cell (wsX2_cellAt) := ggX7_cell_X2_cellAt
set_option maxRecDepth 20000 in
theorem ggX7_cell_X7_motionNow : GoodIn wsX7_cell wsX7_motionNow := goodIn_r _ [12, 13, 1, 14, 15, 16, 17, 18, 19, 20, 21, 22, 23, 24, 25, 26, 27, 28, 29, 30, 31, 32, 33, 34, 35, 36, 37, 38, 39, 40, 41, 42, 43, 44, 45, 46, 47, 48, 49, 50, 51, 52, 53, 54, 55, 56, 57, 58, 59, 60, 61, 62, 63, 64, 65, 3, 66, 67, 6, 7, 68, 69, 70, 71, 76, 77, 78, 79, 80, 81, 82, 83, 84, 85, 86, 87, 88, 89, 90, 91, 92, 93, 94, 95, 96, 97] (by decide +kernel) (by decide +kernel)
set_option maxRecDepth 20000 in
theorem gX7_cell_X7_motionNow : GoodIn wsX7_cell (wsV RX7 90 RX7 yX7_motionNow wsX7_motionNow) := goodIn_app (goodIn_of _ (by decide +kernel)) ggX7_cell_X7_motionNow
set_option maxRecDepth 20000 in
theorem ggX7_cell_X2_isStill : GoodIn wsX7_cell wsX2_isStill := goodIn_r _ [74, 75, 85, 86, 87, 88, 89] (by decide +kernel) (by decide +kernel)
set_option maxRecDepth 20000 in
theorem gX7_cell_X2_isStill_n137 : GoodIn wsX7_cell (wsX2_isStill) := ggX7_cell_X2_isStill
theorem dX7_cell_0 : decode cX7_cell 0 = .ok (.aload_n 0, 1) := by decide +kernel
theorem dX7_cell_1 : decode cX7_cell 1 = .ok (.getfield 10, 3) := by decide +kernel
theorem dX7_cell_4 : decode cX7_cell 4 = .ok (.iload_n 1, 1) := by decide +kernel
theorem dX7_cell_5 : decode cX7_cell 5 = .ok (.iload_n 2, 1) := by decide +kernel
theorem dX7_cell_6 : decode cX7_cell 6 = .ok (.invokevirtual 111, 3) := by decide +kernel
theorem dX7_cell_9 : decode cX7_cell 9 = .ok (.istore 4, 2) := by decide +kernel
theorem dX7_cell_11 : decode cX7_cell 11 = .ok (.iload 4, 2) := by decide +kernel
theorem dX7_cell_13 : decode cX7_cell 13 = .ok (.ifCond .ge 5, 3) := by decide +kernel
theorem dX7_cell_16 : decode cX7_cell 16 = .ok (.iconst (-1), 1) := by decide +kernel
theorem dX7_cell_17 : decode cX7_cell 17 = .ok (.ireturn, 1) := by decide +kernel
theorem dX7_cell_18 : decode cX7_cell 18 = .ok (.iload_n 3, 1) := by decide +kernel
theorem dX7_cell_19 : decode cX7_cell 19 = .ok (.tableswitch 81 0 3 #[29, 37, 59, 70], 29) := by decide +kernel
theorem dX7_cell_48 : decode cX7_cell 48 = .ok (.aload_n 0, 1) := by decide +kernel
theorem dX7_cell_49 : decode cX7_cell 49 = .ok (.invokevirtual 90, 3) := by decide +kernel
theorem dX7_cell_52 : decode cX7_cell 52 = .ok (.iload 4, 2) := by decide +kernel
theorem dX7_cell_54 : decode cX7_cell 54 = .ok (.iaload, 1) := by decide +kernel
theorem dX7_cell_55 : decode cX7_cell 55 = .ok (.ireturn, 1) := by decide +kernel
theorem dX7_cell_56 : decode cX7_cell 56 = .ok (.aload_n 0, 1) := by decide +kernel
theorem dX7_cell_57 : decode cX7_cell 57 = .ok (.getfield 10, 3) := by decide +kernel
theorem dX7_cell_60 : decode cX7_cell 60 = .ok (.aload_n 0, 1) := by decide +kernel
theorem dX7_cell_61 : decode cX7_cell 61 = .ok (.invokevirtual 90, 3) := by decide +kernel
theorem dX7_cell_64 : decode cX7_cell 64 = .ok (.iload 4, 2) := by decide +kernel
theorem dX7_cell_66 : decode cX7_cell 66 = .ok (.invokevirtual 137, 3) := by decide +kernel
theorem dX7_cell_69 : decode cX7_cell 69 = .ok (.ifCond .eq 7, 3) := by decide +kernel
theorem dX7_cell_72 : decode cX7_cell 72 = .ok (.iconst 1, 1) := by decide +kernel
theorem dX7_cell_73 : decode cX7_cell 73 = .ok (.goto 4, 3) := by decide +kernel
theorem dX7_cell_76 : decode cX7_cell 76 = .ok (.iconst 0, 1) := by decide +kernel
theorem dX7_cell_77 : decode cX7_cell 77 = .ok (.ireturn, 1) := by decide +kernel
theorem dX7_cell_78 : decode cX7_cell 78 = .ok (.aload_n 0, 1) := by decide +kernel
theorem dX7_cell_79 : decode cX7_cell 79 = .ok (.getfield 10, 3) := by decide +kernel
theorem dX7_cell_82 : decode cX7_cell 82 = .ok (.getfield 141, 3) := by decide +kernel
theorem dX7_cell_85 : decode cX7_cell 85 = .ok (.iload 4, 2) := by decide +kernel
theorem dX7_cell_87 : decode cX7_cell 87 = .ok (.iaload, 1) := by decide +kernel
theorem dX7_cell_88 : decode cX7_cell 88 = .ok (.ireturn, 1) := by decide +kernel
theorem dX7_cell_89 : decode cX7_cell 89 = .ok (.aload_n 0, 1) := by decide +kernel
theorem dX7_cell_90 : decode cX7_cell 90 = .ok (.getfield 10, 3) := by decide +kernel
theorem dX7_cell_93 : decode cX7_cell 93 = .ok (.getfield 114, 3) := by decide +kernel
theorem dX7_cell_96 : decode cX7_cell 96 = .ok (.iload 4, 2) := by decide +kernel
theorem dX7_cell_98 : decode cX7_cell 98 = .ok (.iaload, 1) := by decide +kernel
theorem dX7_cell_99 : decode cX7_cell 99 = .ok (.ireturn, 1) := by decide +kernel
theorem dX7_cell_100 : decode cX7_cell 100 = .ok (.iconst (-1), 1) := by decide +kernel
theorem dX7_cell_101 : decode cX7_cell 101 = .ok (.ireturn, 1) := by decide +kernel
theorem dX7_setting_0 : decode cX7_setting 0 = .ok (.iload_n 1, 1) := by decide +kernel
theorem dX7_setting_1 : decode cX7_setting 1 = .ok (.ifCond .lt 9, 3) := by decide +kernel
theorem dX7_setting_4 : decode cX7_setting 4 = .ok (.iload_n 1, 1) := by decide +kernel
theorem dX7_setting_5 : decode cX7_setting 5 = .ok (.bipush 7, 2) := by decide +kernel
theorem dX7_setting_7 : decode cX7_setting 7 = .ok (.if_icmp .lt 7, 3) := by decide +kernel
theorem dX7_setting_10 : decode cX7_setting 10 = .ok (.iconst (-1), 1) := by decide +kernel
theorem dX7_setting_11 : decode cX7_setting 11 = .ok (.goto 12, 3) := by decide +kernel
theorem dX7_setting_14 : decode cX7_setting 14 = .ok (.aload_n 0, 1) := by decide +kernel
theorem dX7_setting_15 : decode cX7_setting 15 = .ok (.getfield 10, 3) := by decide +kernel
theorem dX7_setting_18 : decode cX7_setting 18 = .ok (.getfield 144, 3) := by decide +kernel
theorem dX7_setting_21 : decode cX7_setting 21 = .ok (.iload_n 1, 1) := by decide +kernel
theorem dX7_setting_22 : decode cX7_setting 22 = .ok (.iaload, 1) := by decide +kernel
theorem dX7_setting_23 : decode cX7_setting 23 = .ok (.ireturn, 1) := by decide +kernel
set_option maxRecDepth 20000 in
theorem ggX7_height_X2_cellAt : GoodIn wsX7_height wsX2_cellAt := goodIn_r _ [7, 8, 9, 51, 52, 53, 54, 55] (by decide +kernel) (by decide +kernel)
set_option maxRecDepth 20000 in
theorem gX7_height_X2_cellAt_n111 : GoodIn wsX7_height (wsX2_cellAt) := ggX7_height_X2_cellAt
set_option maxRecDepth 20000 in
theorem ggX7_height_X1_heightBehind : GoodIn wsX7_height wsX1_heightBehind := goodIn_r _ [13, 14, 15, 16, 17, 11, 18, 19, 20, 21, 22, 23, 24, 25, 26, 27, 28, 29, 30, 31, 32, 33, 34, 35, 36, 37, 38, 39, 5, 40, 41, 8, 9, 51, 52, 53, 54, 55, 56, 57, 58, 59, 60, 61, 62, 63] (by decide +kernel) (by decide +kernel)
set_option maxRecDepth 20000 in
theorem gX7_height_X1_heightBehind_n148 : GoodIn wsX7_height (wsX1_heightBehind) := ggX7_height_X1_heightBehind
theorem dX7_height_0 : decode cX7_height 0 = .ok (.aload_n 0, 1) := by decide +kernel
theorem dX7_height_1 : decode cX7_height 1 = .ok (.getfield 10, 3) := by decide +kernel
theorem dX7_height_4 : decode cX7_height 4 = .ok (.iload_n 1, 1) := by decide +kernel
theorem dX7_height_5 : decode cX7_height 5 = .ok (.iload_n 2, 1) := by decide +kernel
theorem dX7_height_6 : decode cX7_height 6 = .ok (.invokevirtual 111, 3) := by decide +kernel
theorem dX7_height_9 : decode cX7_height 9 = .ok (.istore 4, 2) := by decide +kernel
theorem dX7_height_11 : decode cX7_height 11 = .ok (.iload 4, 2) := by decide +kernel
theorem dX7_height_13 : decode cX7_height 13 = .ok (.ifCond .lt 13, 3) := by decide +kernel
theorem dX7_height_16 : decode cX7_height 16 = .ok (.iload_n 3, 1) := by decide +kernel
theorem dX7_height_17 : decode cX7_height 17 = .ok (.ifCond .lt 9, 3) := by decide +kernel
theorem dX7_height_20 : decode cX7_height 20 = .ok (.iload_n 3, 1) := by decide +kernel
theorem dX7_height_21 : decode cX7_height 21 = .ok (.bipush 60, 2) := by decide +kernel
theorem dX7_height_23 : decode cX7_height 23 = .ok (.if_icmp .le 6, 3) := by decide +kernel
theorem dX7_height_26 : decode cX7_height 26 = .ok (.ldc 147, 2) := by decide +kernel
theorem dX7_height_28 : decode cX7_height 28 = .ok (.ireturn, 1) := by decide +kernel
theorem dX7_height_29 : decode cX7_height 29 = .ok (.aload_n 0, 1) := by decide +kernel
theorem dX7_height_30 : decode cX7_height 30 = .ok (.getfield 41, 3) := by decide +kernel
theorem dX7_height_33 : decode cX7_height 33 = .ok (.aload_n 0, 1) := by decide +kernel
theorem dX7_height_34 : decode cX7_height 34 = .ok (.getfield 10, 3) := by decide +kernel
theorem dX7_height_37 : decode cX7_height 37 = .ok (.iload 4, 2) := by decide +kernel
theorem dX7_height_39 : decode cX7_height 39 = .ok (.iload_n 3, 1) := by decide +kernel
theorem dX7_height_40 : decode cX7_height 40 = .ok (.invokevirtual 148, 3) := by decide +kernel
theorem dX7_height_43 : decode cX7_height 43 = .ok (.ireturn, 1) := by decide +kernel
set_option maxRecDepth 20000 in
theorem ggX7_still_X7_motionNow : GoodIn wsX7_still wsX7_motionNow := goodIn_r _ [6, 7, 1, 8, 9, 10, 11, 12, 13, 14, 15, 16, 17, 18, 19, 20, 21, 22, 23, 24, 25, 26, 27, 28, 29, 30, 31, 32, 33, 34, 35, 36, 37, 38, 39, 40, 41, 42, 43, 44, 45, 46, 47, 48, 49, 50, 51, 52, 53, 54, 55, 56, 57, 58, 59, 60, 61, 62, 63, 64, 65, 66, 67, 68, 98, 99, 100, 101, 102, 103, 104, 105, 106, 107, 108, 109, 110, 111, 112, 113, 114, 115, 116, 117, 118, 119] (by decide +kernel) (by decide +kernel)
set_option maxRecDepth 20000 in
theorem gX7_still_X7_motionNow : GoodIn wsX7_still (wsV RX7 90 RX7 yX7_motionNow wsX7_motionNow) := goodIn_app (goodIn_of _ (by decide +kernel)) ggX7_still_X7_motionNow
set_option maxRecDepth 20000 in
theorem ggX7_still_X2_stillCells : GoodIn wsX7_still wsX2_stillCells := goodIn_r _ [71, 72, 59, 61, 60, 62, 63, 64, 73, 74, 75, 76, 77, 107, 108, 109, 110, 111] (by decide +kernel) (by decide +kernel)
set_option maxRecDepth 20000 in
theorem gX7_still_X2_stillCells_n152 : GoodIn wsX7_still (wsX2_stillCells) := ggX7_still_X2_stillCells
set_option maxRecDepth 20000 in
theorem ggX7_still_X2_likeness : GoodIn wsX7_still wsX2_likeness := goodIn_r _ [80, 81, 72, 59, 61, 60, 62, 63, 64, 73, 74, 75, 76, 77, 107, 108, 109, 110, 111] (by decide +kernel) (by decide +kernel)
set_option maxRecDepth 20000 in
theorem gX7_still_X2_likeness_n156 : GoodIn wsX7_still (wsX2_likeness) := ggX7_still_X2_likeness
set_option maxRecDepth 20000 in
theorem ggX7_still_X2_apart : GoodIn wsX7_still wsX2_apart := goodIn_r _ [84, 64, 63, 81, 85, 86, 87, 60, 88, 72, 59, 61, 62, 89, 69, 70, 71, 73, 74, 75, 76, 77, 90, 91, 92, 93, 94, 95, 50, 96, 97, 49, 51, 107, 108, 109, 110, 111] (by decide +kernel) (by decide +kernel)
set_option maxRecDepth 20000 in
theorem gX7_still_X2_apart_n159 : GoodIn wsX7_still (wsX2_apart) := ggX7_still_X2_apart
theorem dX7_still_0 : decode cX7_still 0 = .ok (.iload_n 1, 1) := by decide +kernel
theorem dX7_still_1 : decode cX7_still 1 = .ok (.tableswitch 63 0 2 #[27, 39, 51], 27) := by decide +kernel
theorem dX7_still_28 : decode cX7_still 28 = .ok (.aload_n 0, 1) := by decide +kernel
theorem dX7_still_29 : decode cX7_still 29 = .ok (.getfield 10, 3) := by decide +kernel
theorem dX7_still_32 : decode cX7_still 32 = .ok (.aload_n 0, 1) := by decide +kernel
theorem dX7_still_33 : decode cX7_still 33 = .ok (.invokevirtual 90, 3) := by decide +kernel
theorem dX7_still_36 : decode cX7_still 36 = .ok (.invokevirtual 152, 3) := by decide +kernel
theorem dX7_still_39 : decode cX7_still 39 = .ok (.ireturn, 1) := by decide +kernel
theorem dX7_still_40 : decode cX7_still 40 = .ok (.aload_n 0, 1) := by decide +kernel
theorem dX7_still_41 : decode cX7_still 41 = .ok (.getfield 10, 3) := by decide +kernel
theorem dX7_still_44 : decode cX7_still 44 = .ok (.aload_n 0, 1) := by decide +kernel
theorem dX7_still_45 : decode cX7_still 45 = .ok (.invokevirtual 90, 3) := by decide +kernel
theorem dX7_still_48 : decode cX7_still 48 = .ok (.invokevirtual 156, 3) := by decide +kernel
theorem dX7_still_51 : decode cX7_still 51 = .ok (.ireturn, 1) := by decide +kernel
theorem dX7_still_52 : decode cX7_still 52 = .ok (.aload_n 0, 1) := by decide +kernel
theorem dX7_still_53 : decode cX7_still 53 = .ok (.getfield 10, 3) := by decide +kernel
theorem dX7_still_56 : decode cX7_still 56 = .ok (.aload_n 0, 1) := by decide +kernel
theorem dX7_still_57 : decode cX7_still 57 = .ok (.invokevirtual 90, 3) := by decide +kernel
theorem dX7_still_60 : decode cX7_still 60 = .ok (.invokevirtual 159, 3) := by decide +kernel
theorem dX7_still_63 : decode cX7_still 63 = .ok (.ireturn, 1) := by decide +kernel
theorem dX7_still_64 : decode cX7_still 64 = .ok (.iconst (-1), 1) := by decide +kernel
theorem dX7_still_65 : decode cX7_still 65 = .ok (.ireturn, 1) := by decide +kernel
set_option maxRecDepth 20000 in
theorem ggX7_best_X1_by : GoodIn wsX7_best wsX1_by := goodIn_r _ [6, 7, 8, 9, 10, 11, 4, 12, 13, 14, 15, 16, 17, 18, 19, 20, 21, 22, 23, 24, 25, 26, 27, 28, 29, 30, 31, 32, 33, 34, 35, 36, 37, 38, 39, 40, 41, 42, 43, 44, 45, 46, 47, 48, 49, 50, 51, 52, 53, 54, 55, 56, 57, 58, 59, 60, 61, 62, 63, 83, 84, 85, 86, 87, 88, 89, 90, 91, 92, 93, 94, 95] (by decide +kernel) (by decide +kernel)
set_option maxRecDepth 20000 in
theorem gX7_best_X1_by_n162 : GoodIn wsX7_best (wsX1_by) := ggX7_best_X1_by
set_option maxRecDepth 20000 in
theorem ggX7_best_X2_likeness : GoodIn wsX7_best wsX2_likeness := goodIn_r _ [66, 67, 68, 54, 56, 55, 57, 58, 59, 69, 70, 71, 72, 73, 91, 92, 93, 94, 95] (by decide +kernel) (by decide +kernel)
set_option maxRecDepth 20000 in
theorem gX7_best_X2_likeness_n156 : GoodIn wsX7_best (wsX2_likeness) := ggX7_best_X2_likeness
theorem dX7_best_0 : decode cX7_best 0 = .ok (.iload_n 1, 1) := by decide +kernel
theorem dX7_best_1 : decode cX7_best 1 = .ok (.ifCond .lt 8, 3) := by decide +kernel
theorem dX7_best_4 : decode cX7_best 4 = .ok (.iload_n 1, 1) := by decide +kernel
theorem dX7_best_5 : decode cX7_best 5 = .ok (.iconst 1, 1) := by decide +kernel
theorem dX7_best_6 : decode cX7_best 6 = .ok (.if_icmp .le 5, 3) := by decide +kernel
theorem dX7_best_9 : decode cX7_best 9 = .ok (.iconst (-1), 1) := by decide +kernel
theorem dX7_best_10 : decode cX7_best 10 = .ok (.ireturn, 1) := by decide +kernel
theorem dX7_best_11 : decode cX7_best 11 = .ok (.iconst 2, 1) := by decide +kernel
theorem dX7_best_12 : decode cX7_best 12 = .ok (.istore_n 2, 1) := by decide +kernel
theorem dX7_best_13 : decode cX7_best 13 = .ok (.iconst (-1), 1) := by decide +kernel
theorem dX7_best_14 : decode cX7_best 14 = .ok (.istore_n 3, 1) := by decide +kernel
theorem dX7_best_15 : decode cX7_best 15 = .ok (.iconst 2, 1) := by decide +kernel
theorem dX7_best_16 : decode cX7_best 16 = .ok (.istore 4, 2) := by decide +kernel
theorem dX7_best_18 : decode cX7_best 18 = .ok (.iload 4, 2) := by decide +kernel
theorem dX7_best_20 : decode cX7_best 20 = .ok (.bipush 20, 2) := by decide +kernel
theorem dX7_best_22 : decode cX7_best 22 = .ok (.if_icmp .gt 43, 3) := by decide +kernel
theorem dX7_best_25 : decode cX7_best 25 = .ok (.aload_n 0, 1) := by decide +kernel
theorem dX7_best_26 : decode cX7_best 26 = .ok (.getfield 10, 3) := by decide +kernel
theorem dX7_best_29 : decode cX7_best 29 = .ok (.aload_n 0, 1) := by decide +kernel
theorem dX7_best_30 : decode cX7_best 30 = .ok (.getfield 41, 3) := by decide +kernel
theorem dX7_best_33 : decode cX7_best 33 = .ok (.aload_n 0, 1) := by decide +kernel
theorem dX7_best_34 : decode cX7_best 34 = .ok (.getfield 10, 3) := by decide +kernel
theorem dX7_best_37 : decode cX7_best 37 = .ok (.iload 4, 2) := by decide +kernel
theorem dX7_best_39 : decode cX7_best 39 = .ok (.invokevirtual 162, 3) := by decide +kernel
theorem dX7_best_42 : decode cX7_best 42 = .ok (.invokevirtual 156, 3) := by decide +kernel
theorem dX7_best_45 : decode cX7_best 45 = .ok (.istore 5, 2) := by decide +kernel
theorem dX7_best_47 : decode cX7_best 47 = .ok (.iload 5, 2) := by decide +kernel
theorem dX7_best_49 : decode cX7_best 49 = .ok (.iload_n 3, 1) := by decide +kernel
theorem dX7_best_50 : decode cX7_best 50 = .ok (.if_icmp .le 9, 3) := by decide +kernel
theorem dX7_best_53 : decode cX7_best 53 = .ok (.iload 5, 2) := by decide +kernel
theorem dX7_best_55 : decode cX7_best 55 = .ok (.istore_n 3, 1) := by decide +kernel
theorem dX7_best_56 : decode cX7_best 56 = .ok (.iload 4, 2) := by decide +kernel
theorem dX7_best_58 : decode cX7_best 58 = .ok (.istore_n 2, 1) := by decide +kernel
theorem dX7_best_59 : decode cX7_best 59 = .ok (.iinc 4 1, 3) := by decide +kernel
theorem dX7_best_62 : decode cX7_best 62 = .ok (.goto (-44), 3) := by decide +kernel
theorem dX7_best_65 : decode cX7_best 65 = .ok (.iload_n 1, 1) := by decide +kernel
theorem dX7_best_66 : decode cX7_best 66 = .ok (.ifCond .ne 7, 3) := by decide +kernel
theorem dX7_best_69 : decode cX7_best 69 = .ok (.iload_n 2, 1) := by decide +kernel
theorem dX7_best_70 : decode cX7_best 70 = .ok (.goto 4, 3) := by decide +kernel
theorem dX7_best_73 : decode cX7_best 73 = .ok (.iload_n 3, 1) := by decide +kernel
theorem dX7_best_74 : decode cX7_best 74 = .ok (.ireturn, 1) := by decide +kernel
set_option maxRecDepth 20000 in
theorem ggX7_lies_X3_takeFrom : GoodIn wsX7_lies wsX3_takeFrom := goodIn_r _ [6, 7, 8, 9, 10, 11, 100, 101, 102, 103, 104, 105, 106] (by decide +kernel) (by decide +kernel)
set_option maxRecDepth 20000 in
theorem gX7_lies_X3_takeFrom_n89 : GoodIn wsX7_lies (wsX3_takeFrom) := ggX7_lies_X3_takeFrom
set_option maxRecDepth 20000 in
theorem ggX7_lies_X7_motionNow : GoodIn wsX7_lies wsX7_motionNow := goodIn_r _ [16, 17, 2, 18, 19, 20, 21, 22, 23, 24, 25, 26, 27, 28, 29, 30, 31, 32, 33, 34, 35, 9, 10, 11, 36, 37, 38, 39, 40, 41, 42, 43, 44, 45, 46, 47, 48, 49, 50, 51, 52, 53, 54, 55, 56, 57, 58, 59, 60, 61, 62, 63, 64, 65, 66, 67, 68, 69, 70, 71, 72, 73, 74, 75, 91, 92, 93, 94, 95, 96, 97, 98, 99, 100, 101, 102, 103, 104, 107, 108, 109, 110, 111, 112, 113, 114] (by decide +kernel) (by decide +kernel)
set_option maxRecDepth 20000 in
theorem gX7_lies_X7_motionNow : GoodIn wsX7_lies (wsV RX7 90 RX7 yX7_motionNow wsX7_motionNow) := goodIn_app (goodIn_of _ (by decide +kernel)) ggX7_lies_X7_motionNow
set_option maxRecDepth 20000 in
theorem ggX7_lies_X3_shakeOnce : GoodIn wsX7_lies wsX3_shakeOnce := goodIn_r _ [78, 79, 7, 8, 9, 10, 11, 80, 48, 49, 50, 81, 82, 4, 83, 84, 67, 85, 86, 87, 88, 89, 90, 70, 71, 105, 106, 100, 101, 102, 103, 104] (by decide +kernel) (by decide +kernel)
set_option maxRecDepth 20000 in
theorem gX7_lies_X3_shakeOnce_n94 : GoodIn wsX7_lies (wsX3_shakeOnce) := ggX7_lies_X3_shakeOnce
theorem dX7_lies_0 : decode cX7_lies 0 = .ok (.aload_n 0, 1) := by decide +kernel
theorem dX7_lies_1 : decode cX7_lies 1 = .ok (.getfield 48, 3) := by decide +kernel
theorem dX7_lies_4 : decode cX7_lies 4 = .ok (.aload_n 0, 1) := by decide +kernel
theorem dX7_lies_5 : decode cX7_lies 5 = .ok (.getfield 10, 3) := by decide +kernel
theorem dX7_lies_8 : decode cX7_lies 8 = .ok (.invokevirtual 89, 3) := by decide +kernel
theorem dX7_lies_11 : decode cX7_lies 11 = .ok (.aload_n 0, 1) := by decide +kernel
theorem dX7_lies_12 : decode cX7_lies 12 = .ok (.invokevirtual 90, 3) := by decide +kernel
theorem dX7_lies_15 : decode cX7_lies 15 = .ok (.astore_n 1, 1) := by decide +kernel
theorem dX7_lies_16 : decode cX7_lies 16 = .ok (.iconst 0, 1) := by decide +kernel
theorem dX7_lies_17 : decode cX7_lies 17 = .ok (.istore_n 2, 1) := by decide +kernel
theorem dX7_lies_18 : decode cX7_lies 18 = .ok (.iload_n 2, 1) := by decide +kernel
theorem dX7_lies_19 : decode cX7_lies 19 = .ok (.bipush 99, 2) := by decide +kernel
theorem dX7_lies_21 : decode cX7_lies 21 = .ok (.if_icmp .gt 26, 3) := by decide +kernel
theorem dX7_lies_24 : decode cX7_lies 24 = .ok (.aload_n 0, 1) := by decide +kernel
theorem dX7_lies_25 : decode cX7_lies 25 = .ok (.getfield 48, 3) := by decide +kernel
theorem dX7_lies_28 : decode cX7_lies 28 = .ok (.aload_n 0, 1) := by decide +kernel
theorem dX7_lies_29 : decode cX7_lies 29 = .ok (.getfield 10, 3) := by decide +kernel
theorem dX7_lies_32 : decode cX7_lies 32 = .ok (.aload_n 1, 1) := by decide +kernel
theorem dX7_lies_33 : decode cX7_lies 33 = .ok (.invokevirtual 94, 3) := by decide +kernel
theorem dX7_lies_36 : decode cX7_lies 36 = .ok (.ifCond .ne 5, 3) := by decide +kernel
theorem dX7_lies_39 : decode cX7_lies 39 = .ok (.iload_n 2, 1) := by decide +kernel
theorem dX7_lies_40 : decode cX7_lies 40 = .ok (.ireturn, 1) := by decide +kernel
theorem dX7_lies_41 : decode cX7_lies 41 = .ok (.iinc 2 1, 3) := by decide +kernel
theorem dX7_lies_44 : decode cX7_lies 44 = .ok (.goto (-26), 3) := by decide +kernel
theorem dX7_lies_47 : decode cX7_lies 47 = .ok (.bipush (-9), 2) := by decide +kernel
theorem dX7_lies_49 : decode cX7_lies 49 = .ok (.ireturn, 1) := by decide +kernel
set_option maxRecDepth 20000 in
theorem ggX7_sees_X4_add : GoodIn wsX7_sees wsX4_add := goodIn_r _ [5, 6, 7, 8, 18, 19, 20] (by decide +kernel) (by decide +kernel)
set_option maxRecDepth 20000 in
theorem gX7_sees_X4_add_n166 : GoodIn wsX7_sees (wsX4_add) := ggX7_sees_X4_add
theorem dX7_sees_0 : decode cX7_sees 0 = .ok (.iload_n 1, 1) := by decide +kernel
theorem dX7_sees_1 : decode cX7_sees 1 = .ok (.ifCond .lt 18, 3) := by decide +kernel
theorem dX7_sees_4 : decode cX7_sees 4 = .ok (.iload_n 1, 1) := by decide +kernel
theorem dX7_sees_5 : decode cX7_sees 5 = .ok (.bipush 36, 2) := by decide +kernel
theorem dX7_sees_7 : decode cX7_sees 7 = .ok (.if_icmp .ge 12, 3) := by decide +kernel
theorem dX7_sees_10 : decode cX7_sees 10 = .ok (.iload_n 2, 1) := by decide +kernel
theorem dX7_sees_11 : decode cX7_sees 11 = .ok (.ifCond .lt 8, 3) := by decide +kernel
theorem dX7_sees_14 : decode cX7_sees 14 = .ok (.iload_n 2, 1) := by decide +kernel
theorem dX7_sees_15 : decode cX7_sees 15 = .ok (.iconst 1, 1) := by decide +kernel
theorem dX7_sees_16 : decode cX7_sees 16 = .ok (.if_icmp .le 5, 3) := by decide +kernel
theorem dX7_sees_19 : decode cX7_sees 19 = .ok (.iconst (-1), 1) := by decide +kernel
theorem dX7_sees_20 : decode cX7_sees 20 = .ok (.ireturn, 1) := by decide +kernel
theorem dX7_sees_21 : decode cX7_sees 21 = .ok (.aload_n 0, 1) := by decide +kernel
theorem dX7_sees_22 : decode cX7_sees 22 = .ok (.getfield 55, 3) := by decide +kernel
theorem dX7_sees_25 : decode cX7_sees 25 = .ok (.iload_n 1, 1) := by decide +kernel
theorem dX7_sees_26 : decode cX7_sees 26 = .ok (.iload_n 2, 1) := by decide +kernel
theorem dX7_sees_27 : decode cX7_sees 27 = .ok (.invokevirtual 166, 3) := by decide +kernel
theorem dX7_sees_30 : decode cX7_sees 30 = .ok (.ifCond .eq 13, 3) := by decide +kernel
theorem dX7_sees_33 : decode cX7_sees 33 = .ok (.aload_n 0, 1) := by decide +kernel
theorem dX7_sees_34 : decode cX7_sees 34 = .ok (.getfield 55, 3) := by decide +kernel
theorem dX7_sees_37 : decode cX7_sees 37 = .ok (.getfield 169, 3) := by decide +kernel
theorem dX7_sees_40 : decode cX7_sees 40 = .ok (.goto 5, 3) := by decide +kernel
theorem dX7_sees_43 : decode cX7_sees 43 = .ok (.bipush (-3), 2) := by decide +kernel
theorem dX7_sees_45 : decode cX7_sees 45 = .ok (.ireturn, 1) := by decide +kernel
theorem dX7_forget_0 : decode cX7_forget 0 = .ok (.aload_n 0, 1) := by decide +kernel
theorem dX7_forget_1 : decode cX7_forget 1 = .ok (.getfield 55, 3) := by decide +kernel
theorem dX7_forget_4 : decode cX7_forget 4 = .ok (.getfield 169, 3) := by decide +kernel
theorem dX7_forget_7 : decode cX7_forget 7 = .ok (.istore_n 1, 1) := by decide +kernel
theorem dX7_forget_8 : decode cX7_forget 8 = .ok (.aload_n 0, 1) := by decide +kernel
theorem dX7_forget_9 : decode cX7_forget 9 = .ok (.getfield 55, 3) := by decide +kernel
theorem dX7_forget_12 : decode cX7_forget 12 = .ok (.iconst 0, 1) := by decide +kernel
theorem dX7_forget_13 : decode cX7_forget 13 = .ok (.putfield 169, 3) := by decide +kernel
theorem dX7_forget_16 : decode cX7_forget 16 = .ok (.iload_n 1, 1) := by decide +kernel
theorem dX7_forget_17 : decode cX7_forget 17 = .ok (.ireturn, 1) := by decide +kernel
set_option maxRecDepth 20000 in
theorem ggX7_which_X1_by : GoodIn wsX7_which wsX1_by := goodIn_r _ [7, 8, 9, 10, 11, 12, 5, 13, 14, 15, 16, 17, 18, 19, 20, 21, 22, 23, 24, 25, 26, 27, 28, 29, 30, 31, 32, 33, 34, 35, 36, 37, 38, 39, 40, 41, 42, 43, 44, 45, 46, 47, 48, 49, 50, 51, 52, 53, 54, 55, 56, 57, 58, 59, 60, 61, 62, 63, 64, 85, 86, 87, 88, 89, 90, 91, 92, 93, 94, 95, 96, 97] (by decide +kernel) (by decide +kernel)
set_option maxRecDepth 20000 in
theorem gX7_which_X1_by_n162 : GoodIn wsX7_which (wsX1_by) := ggX7_which_X1_by
set_option maxRecDepth 20000 in
theorem ggX7_which_X4_fits : GoodIn wsX7_which wsX4_fits := goodIn_r _ [68, 69, 70, 71, 55, 56, 57, 58, 59, 60, 72, 73, 74, 75, 98, 99, 100, 93, 94, 95, 96, 97] (by decide +kernel) (by decide +kernel)
set_option maxRecDepth 20000 in
theorem gX7_which_X4_fits_n172 : GoodIn wsX7_which (wsX4_fits) := ggX7_which_X4_fits
theorem dX7_which_0 : decode cX7_which 0 = .ok (.iload_n 1, 1) := by decide +kernel
theorem dX7_which_1 : decode cX7_which 1 = .ok (.ifCond .lt 8, 3) := by decide +kernel
theorem dX7_which_4 : decode cX7_which 4 = .ok (.iload_n 1, 1) := by decide +kernel
theorem dX7_which_5 : decode cX7_which 5 = .ok (.iconst 1, 1) := by decide +kernel
theorem dX7_which_6 : decode cX7_which 6 = .ok (.if_icmp .le 5, 3) := by decide +kernel
theorem dX7_which_9 : decode cX7_which 9 = .ok (.iconst (-1), 1) := by decide +kernel
theorem dX7_which_10 : decode cX7_which 10 = .ok (.ireturn, 1) := by decide +kernel
theorem dX7_which_11 : decode cX7_which 11 = .ok (.iconst 0, 1) := by decide +kernel
theorem dX7_which_12 : decode cX7_which 12 = .ok (.istore_n 2, 1) := by decide +kernel
theorem dX7_which_13 : decode cX7_which 13 = .ok (.bipush (-9), 2) := by decide +kernel
theorem dX7_which_15 : decode cX7_which 15 = .ok (.istore_n 3, 1) := by decide +kernel
theorem dX7_which_16 : decode cX7_which 16 = .ok (.iconst 2, 1) := by decide +kernel
theorem dX7_which_17 : decode cX7_which 17 = .ok (.istore 4, 2) := by decide +kernel
theorem dX7_which_19 : decode cX7_which 19 = .ok (.iload 4, 2) := by decide +kernel
theorem dX7_which_21 : decode cX7_which 21 = .ok (.bipush 20, 2) := by decide +kernel
theorem dX7_which_23 : decode cX7_which 23 = .ok (.if_icmp .gt 50, 3) := by decide +kernel
theorem dX7_which_26 : decode cX7_which 26 = .ok (.aload_n 0, 1) := by decide +kernel
theorem dX7_which_27 : decode cX7_which 27 = .ok (.getfield 55, 3) := by decide +kernel
theorem dX7_which_30 : decode cX7_which 30 = .ok (.aload_n 0, 1) := by decide +kernel
theorem dX7_which_31 : decode cX7_which 31 = .ok (.getfield 10, 3) := by decide +kernel
theorem dX7_which_34 : decode cX7_which 34 = .ok (.aload_n 0, 1) := by decide +kernel
theorem dX7_which_35 : decode cX7_which 35 = .ok (.getfield 41, 3) := by decide +kernel
theorem dX7_which_38 : decode cX7_which 38 = .ok (.aload_n 0, 1) := by decide +kernel
theorem dX7_which_39 : decode cX7_which 39 = .ok (.getfield 10, 3) := by decide +kernel
theorem dX7_which_42 : decode cX7_which 42 = .ok (.iload 4, 2) := by decide +kernel
theorem dX7_which_44 : decode cX7_which 44 = .ok (.invokevirtual 162, 3) := by decide +kernel
theorem dX7_which_47 : decode cX7_which 47 = .ok (.invokevirtual 172, 3) := by decide +kernel
theorem dX7_which_50 : decode cX7_which 50 = .ok (.ifCond .eq 17, 3) := by decide +kernel
theorem dX7_which_53 : decode cX7_which 53 = .ok (.iload_n 2, 1) := by decide +kernel
theorem dX7_which_54 : decode cX7_which 54 = .ok (.ifCond .ne 8, 3) := by decide +kernel
theorem dX7_which_57 : decode cX7_which 57 = .ok (.iload 4, 2) := by decide +kernel
theorem dX7_which_59 : decode cX7_which 59 = .ok (.goto 4, 3) := by decide +kernel
theorem dX7_which_62 : decode cX7_which 62 = .ok (.iload_n 3, 1) := by decide +kernel
theorem dX7_which_63 : decode cX7_which 63 = .ok (.istore_n 3, 1) := by decide +kernel
theorem dX7_which_64 : decode cX7_which 64 = .ok (.iinc 2 1, 3) := by decide +kernel
theorem dX7_which_67 : decode cX7_which 67 = .ok (.iinc 4 1, 3) := by decide +kernel
theorem dX7_which_70 : decode cX7_which 70 = .ok (.goto (-51), 3) := by decide +kernel
theorem dX7_which_73 : decode cX7_which 73 = .ok (.iload_n 1, 1) := by decide +kernel
theorem dX7_which_74 : decode cX7_which 74 = .ok (.ifCond .ne 7, 3) := by decide +kernel
theorem dX7_which_77 : decode cX7_which 77 = .ok (.iload_n 2, 1) := by decide +kernel
theorem dX7_which_78 : decode cX7_which 78 = .ok (.goto 4, 3) := by decide +kernel
theorem dX7_which_81 : decode cX7_which 81 = .ok (.iload_n 3, 1) := by decide +kernel
theorem dX7_which_82 : decode cX7_which 82 = .ok (.ireturn, 1) := by decide +kernel
set_option maxRecDepth 20000 in
theorem ggX7_look_X7_countStillBy : GoodIn wsX7_look wsX7_countStillBy := goodIn_r _ [11, 2, 12, 1, 13, 14, 15, 16, 17, 18, 19, 20, 21, 22, 23, 24, 25, 26, 27, 28, 29, 30, 31, 32, 33, 34, 35, 36, 37, 38, 39, 40, 41, 42, 43, 44, 45, 46, 47, 48, 49, 50, 51, 52, 53, 54, 55, 56, 5, 57, 58, 4, 6, 59, 60, 61, 62, 63, 64, 65, 66, 67, 68, 69, 70, 71, 72, 73, 74, 75, 76, 77, 78, 79, 80, 81, 82, 83, 84, 85, 86, 87, 88, 89, 90, 91, 92, 93, 94, 95, 96, 97, 98, 99, 100, 101, 102, 103, 104, 105, 106, 107, 108] (by decide +kernel) (by decide +kernel)
set_option maxRecDepth 20000 in
theorem gX7_look_X7_countStillBy : GoodIn wsX7_look (wsV RX7 176 RX7 yX7_countStillBy wsX7_countStillBy) := goodIn_app (goodIn_of _ (by decide +kernel)) ggX7_look_X7_countStillBy
set_option maxRecDepth 20000 in
theorem ggX7_look_X2_cells : GoodIn wsX7_look wsX2_cells := goodIn_r _ [66, 67, 68, 101, 102, 103, 104, 105] (by decide +kernel) (by decide +kernel)
set_option maxRecDepth 20000 in
theorem gX7_look_X2_cells_n120 : GoodIn wsX7_look (wsX2_cells) := ggX7_look_X2_cells
theorem dX7_look_0 : decode cX7_look 0 = .ok (.aload_n 0, 1) := by decide +kernel
theorem dX7_look_1 : decode cX7_look 1 = .ok (.invokevirtual 176, 3) := by decide +kernel
theorem dX7_look_4 : decode cX7_look 4 = .ok (.istore_n 1, 1) := by decide +kernel
theorem dX7_look_5 : decode cX7_look 5 = .ok (.iload_n 1, 1) := by decide +kernel
theorem dX7_look_6 : decode cX7_look 6 = .ok (.iconst 1, 1) := by decide +kernel
theorem dX7_look_7 : decode cX7_look 7 = .ok (.if_icmp .gt 6, 3) := by decide +kernel
theorem dX7_look_10 : decode cX7_look 10 = .ok (.bipush (-9), 2) := by decide +kernel
theorem dX7_look_12 : decode cX7_look 12 = .ok (.ireturn, 1) := by decide +kernel
theorem dX7_look_13 : decode cX7_look 13 = .ok (.iconst 0, 1) := by decide +kernel
theorem dX7_look_14 : decode cX7_look 14 = .ok (.istore_n 2, 1) := by decide +kernel
theorem dX7_look_15 : decode cX7_look 15 = .ok (.iload_n 1, 1) := by decide +kernel
theorem dX7_look_16 : decode cX7_look 16 = .ok (.iconst 1, 1) := by decide +kernel
theorem dX7_look_17 : decode cX7_look 17 = .ok (.iadd, 1) := by decide +kernel
theorem dX7_look_18 : decode cX7_look 18 = .ok (.istore_n 3, 1) := by decide +kernel
theorem dX7_look_19 : decode cX7_look 19 = .ok (.iconst 0, 1) := by decide +kernel
theorem dX7_look_20 : decode cX7_look 20 = .ok (.istore 4, 2) := by decide +kernel
theorem dX7_look_22 : decode cX7_look 22 = .ok (.iload 4, 2) := by decide +kernel
theorem dX7_look_24 : decode cX7_look 24 = .ok (.aload_n 0, 1) := by decide +kernel
theorem dX7_look_25 : decode cX7_look 25 = .ok (.getfield 10, 3) := by decide +kernel
theorem dX7_look_28 : decode cX7_look 28 = .ok (.invokevirtual 120, 3) := by decide +kernel
theorem dX7_look_31 : decode cX7_look 31 = .ok (.if_icmp .ge 42, 3) := by decide +kernel
theorem dX7_look_34 : decode cX7_look 34 = .ok (.aload_n 0, 1) := by decide +kernel
theorem dX7_look_35 : decode cX7_look 35 = .ok (.getfield 59, 3) := by decide +kernel
theorem dX7_look_38 : decode cX7_look 38 = .ok (.iload 4, 2) := by decide +kernel
theorem dX7_look_40 : decode cX7_look 40 = .ok (.iaload, 1) := by decide +kernel
theorem dX7_look_41 : decode cX7_look 41 = .ok (.iload_n 1, 1) := by decide +kernel
theorem dX7_look_42 : decode cX7_look 42 = .ok (.aload_n 0, 1) := by decide +kernel
theorem dX7_look_43 : decode cX7_look 43 = .ok (.getfield 59, 3) := by decide +kernel
theorem dX7_look_46 : decode cX7_look 46 = .ok (.iload 4, 2) := by decide +kernel
theorem dX7_look_48 : decode cX7_look 48 = .ok (.iaload, 1) := by decide +kernel
theorem dX7_look_49 : decode cX7_look 49 = .ok (.isub, 1) := by decide +kernel
theorem dX7_look_50 : decode cX7_look 50 = .ok (.invokestatic 179, 3) := by decide +kernel
theorem dX7_look_53 : decode cX7_look 53 = .ok (.istore 5, 2) := by decide +kernel
theorem dX7_look_55 : decode cX7_look 55 = .ok (.iload 5, 2) := by decide +kernel
theorem dX7_look_57 : decode cX7_look 57 = .ok (.iload_n 3, 1) := by decide +kernel
theorem dX7_look_58 : decode cX7_look 58 = .ok (.if_icmp .ge 9, 3) := by decide +kernel
theorem dX7_look_61 : decode cX7_look 61 = .ok (.iload 5, 2) := by decide +kernel
theorem dX7_look_63 : decode cX7_look 63 = .ok (.istore_n 3, 1) := by decide +kernel
theorem dX7_look_64 : decode cX7_look 64 = .ok (.iload 4, 2) := by decide +kernel
theorem dX7_look_66 : decode cX7_look 66 = .ok (.istore_n 2, 1) := by decide +kernel
theorem dX7_look_67 : decode cX7_look 67 = .ok (.iinc 4 1, 3) := by decide +kernel
theorem dX7_look_70 : decode cX7_look 70 = .ok (.goto (-48), 3) := by decide +kernel
theorem dX7_look_73 : decode cX7_look 73 = .ok (.iload_n 2, 1) := by decide +kernel
theorem dX7_look_74 : decode cX7_look 74 = .ok (.ireturn, 1) := by decide +kernel
set_option maxRecDepth 20000 in
theorem ggX7_keep_X2_takeFrom : GoodIn wsX7_keep wsX2_takeFrom := goodIn_r _ [7, 8, 9, 10, 11, 12, 13, 14, 15, 16, 29, 30, 31, 32, 33] (by decide +kernel) (by decide +kernel)
set_option maxRecDepth 20000 in
theorem gX7_keep_X2_takeFrom_n86 : GoodIn wsX7_keep (wsX2_takeFrom) := ggX7_keep_X2_takeFrom
set_option maxRecDepth 20000 in
theorem ggX7_keep_X2_cells : GoodIn wsX7_keep wsX2_cells := goodIn_r _ [19, 8, 9, 29, 30, 31, 32, 33] (by decide +kernel) (by decide +kernel)
set_option maxRecDepth 20000 in
theorem gX7_keep_X2_cells_n120 : GoodIn wsX7_keep (wsX2_cells) := ggX7_keep_X2_cells
theorem dX7_keep_0 : decode cX7_keep 0 = .ok (.iload_n 1, 1) := by decide +kernel
theorem dX7_keep_1 : decode cX7_keep 1 = .ok (.ifCond .lt 8, 3) := by decide +kernel
theorem dX7_keep_4 : decode cX7_keep 4 = .ok (.iload_n 1, 1) := by decide +kernel
theorem dX7_keep_5 : decode cX7_keep 5 = .ok (.iconst 2, 1) := by decide +kernel
theorem dX7_keep_6 : decode cX7_keep 6 = .ok (.if_icmp .lt 5, 3) := by decide +kernel
theorem dX7_keep_9 : decode cX7_keep 9 = .ok (.iconst (-1), 1) := by decide +kernel
theorem dX7_keep_10 : decode cX7_keep 10 = .ok (.ireturn, 1) := by decide +kernel
theorem dX7_keep_11 : decode cX7_keep 11 = .ok (.aload_n 0, 1) := by decide +kernel
theorem dX7_keep_12 : decode cX7_keep 12 = .ok (.getfield 23, 3) := by decide +kernel
theorem dX7_keep_15 : decode cX7_keep 15 = .ok (.iload_n 1, 1) := by decide +kernel
theorem dX7_keep_16 : decode cX7_keep 16 = .ok (.aaload, 1) := by decide +kernel
theorem dX7_keep_17 : decode cX7_keep 17 = .ok (.aload_n 0, 1) := by decide +kernel
theorem dX7_keep_18 : decode cX7_keep 18 = .ok (.getfield 10, 3) := by decide +kernel
theorem dX7_keep_21 : decode cX7_keep 21 = .ok (.invokevirtual 86, 3) := by decide +kernel
theorem dX7_keep_24 : decode cX7_keep 24 = .ok (.aload_n 0, 1) := by decide +kernel
theorem dX7_keep_25 : decode cX7_keep 25 = .ok (.getfield 27, 3) := by decide +kernel
theorem dX7_keep_28 : decode cX7_keep 28 = .ok (.iload_n 1, 1) := by decide +kernel
theorem dX7_keep_29 : decode cX7_keep 29 = .ok (.iconst 1, 1) := by decide +kernel
theorem dX7_keep_30 : decode cX7_keep 30 = .ok (.bastore, 1) := by decide +kernel
theorem dX7_keep_31 : decode cX7_keep 31 = .ok (.aload_n 0, 1) := by decide +kernel
theorem dX7_keep_32 : decode cX7_keep 32 = .ok (.getfield 10, 3) := by decide +kernel
theorem dX7_keep_35 : decode cX7_keep 35 = .ok (.invokevirtual 120, 3) := by decide +kernel
theorem dX7_keep_38 : decode cX7_keep 38 = .ok (.ireturn, 1) := by decide +kernel
set_option maxRecDepth 20000 in
theorem ggX7_back_X2_takeFrom : GoodIn wsX7_back wsX2_takeFrom := goodIn_r _ [8, 9, 10, 11, 12, 13, 14, 15, 16, 17, 32, 33, 34, 35, 36] (by decide +kernel) (by decide +kernel)
set_option maxRecDepth 20000 in
theorem gX7_back_X2_takeFrom_n86 : GoodIn wsX7_back (wsX2_takeFrom) := ggX7_back_X2_takeFrom
set_option maxRecDepth 20000 in
theorem ggX7_back_X2_cells : GoodIn wsX7_back wsX2_cells := goodIn_r _ [20, 9, 10, 32, 33, 34, 35, 36] (by decide +kernel) (by decide +kernel)
set_option maxRecDepth 20000 in
theorem gX7_back_X2_cells_n120 : GoodIn wsX7_back (wsX2_cells) := ggX7_back_X2_cells
theorem dX7_back_0 : decode cX7_back 0 = .ok (.iload_n 1, 1) := by decide +kernel
theorem dX7_back_1 : decode cX7_back 1 = .ok (.ifCond .lt 8, 3) := by decide +kernel
theorem dX7_back_4 : decode cX7_back 4 = .ok (.iload_n 1, 1) := by decide +kernel
theorem dX7_back_5 : decode cX7_back 5 = .ok (.iconst 2, 1) := by decide +kernel
theorem dX7_back_6 : decode cX7_back 6 = .ok (.if_icmp .lt 5, 3) := by decide +kernel
theorem dX7_back_9 : decode cX7_back 9 = .ok (.iconst (-1), 1) := by decide +kernel
theorem dX7_back_10 : decode cX7_back 10 = .ok (.ireturn, 1) := by decide +kernel
theorem dX7_back_11 : decode cX7_back 11 = .ok (.aload_n 0, 1) := by decide +kernel
theorem dX7_back_12 : decode cX7_back 12 = .ok (.getfield 27, 3) := by decide +kernel
theorem dX7_back_15 : decode cX7_back 15 = .ok (.iload_n 1, 1) := by decide +kernel
theorem dX7_back_16 : decode cX7_back 16 = .ok (.baload, 1) := by decide +kernel
theorem dX7_back_17 : decode cX7_back 17 = .ok (.ifCond .ne 6, 3) := by decide +kernel
theorem dX7_back_20 : decode cX7_back 20 = .ok (.bipush (-2), 2) := by decide +kernel
theorem dX7_back_22 : decode cX7_back 22 = .ok (.ireturn, 1) := by decide +kernel
theorem dX7_back_23 : decode cX7_back 23 = .ok (.aload_n 0, 1) := by decide +kernel
theorem dX7_back_24 : decode cX7_back 24 = .ok (.getfield 10, 3) := by decide +kernel
theorem dX7_back_27 : decode cX7_back 27 = .ok (.aload_n 0, 1) := by decide +kernel
theorem dX7_back_28 : decode cX7_back 28 = .ok (.getfield 23, 3) := by decide +kernel
theorem dX7_back_31 : decode cX7_back 31 = .ok (.iload_n 1, 1) := by decide +kernel
theorem dX7_back_32 : decode cX7_back 32 = .ok (.aaload, 1) := by decide +kernel
theorem dX7_back_33 : decode cX7_back 33 = .ok (.invokevirtual 86, 3) := by decide +kernel
theorem dX7_back_36 : decode cX7_back 36 = .ok (.aload_n 0, 1) := by decide +kernel
theorem dX7_back_37 : decode cX7_back 37 = .ok (.getfield 19, 3) := by decide +kernel
theorem dX7_back_40 : decode cX7_back 40 = .ok (.iconst 0, 1) := by decide +kernel
theorem dX7_back_41 : decode cX7_back 41 = .ok (.putfield 134, 3) := by decide +kernel
theorem dX7_back_44 : decode cX7_back 44 = .ok (.aload_n 0, 1) := by decide +kernel
theorem dX7_back_45 : decode cX7_back 45 = .ok (.getfield 10, 3) := by decide +kernel
theorem dX7_back_48 : decode cX7_back 48 = .ok (.invokevirtual 120, 3) := by decide +kernel
theorem dX7_back_51 : decode cX7_back 51 = .ok (.ireturn, 1) := by decide +kernel
set_option maxRecDepth 20000 in
theorem ggX7_count_X2_cellsOfFigure : GoodIn wsX7_count wsX2_cellsOfFigure := goodIn_r _ [8, 9, 10, 11, 12, 6, 13, 14, 15, 36, 37, 38, 39, 40] (by decide +kernel) (by decide +kernel)
set_option maxRecDepth 20000 in
theorem gX7_count_X2_cellsOfFigure_n117 : GoodIn wsX7_count (wsX2_cellsOfFigure) := ggX7_count_X2_cellsOfFigure
set_option maxRecDepth 20000 in
theorem ggX7_count_X2_mostGrains : GoodIn wsX7_count wsX2_mostGrains := goodIn_r _ [18, 19, 20, 21, 22, 23, 10, 11, 12, 6, 13, 14, 15, 36, 37, 38, 39, 40] (by decide +kernel) (by decide +kernel)
set_option maxRecDepth 20000 in
theorem gX7_count_X2_mostGrains_n190 : GoodIn wsX7_count (wsX2_mostGrains) := ggX7_count_X2_mostGrains
set_option maxRecDepth 20000 in
theorem ggX7_count_X2_cellsWithGrains : GoodIn wsX7_count wsX2_cellsWithGrains := goodIn_r _ [26, 19, 10, 11, 12, 6, 13, 14, 15, 36, 37, 38, 39, 40] (by decide +kernel) (by decide +kernel)
set_option maxRecDepth 20000 in
theorem gX7_count_X2_cellsWithGrains_n123 : GoodIn wsX7_count (wsX2_cellsWithGrains) := ggX7_count_X2_cellsWithGrains
theorem dX7_count_0 : decode cX7_count 0 = .ok (.iload_n 1, 1) := by decide +kernel
theorem dX7_count_1 : decode cX7_count 1 = .ok (.tableswitch 115 0 7 #[47, 55, 63, 71, 79, 88, 96, 107], 47) := by decide +kernel
theorem dX7_count_48 : decode cX7_count 48 = .ok (.aload_n 0, 1) := by decide +kernel
theorem dX7_count_49 : decode cX7_count 49 = .ok (.getfield 10, 3) := by decide +kernel
theorem dX7_count_52 : decode cX7_count 52 = .ok (.getfield 184, 3) := by decide +kernel
theorem dX7_count_55 : decode cX7_count 55 = .ok (.ireturn, 1) := by decide +kernel
theorem dX7_count_56 : decode cX7_count 56 = .ok (.aload_n 0, 1) := by decide +kernel
theorem dX7_count_57 : decode cX7_count 57 = .ok (.getfield 10, 3) := by decide +kernel
theorem dX7_count_60 : decode cX7_count 60 = .ok (.getfield 187, 3) := by decide +kernel
theorem dX7_count_63 : decode cX7_count 63 = .ok (.ireturn, 1) := by decide +kernel
theorem dX7_count_64 : decode cX7_count 64 = .ok (.aload_n 0, 1) := by decide +kernel
theorem dX7_count_65 : decode cX7_count 65 = .ok (.getfield 10, 3) := by decide +kernel
theorem dX7_count_68 : decode cX7_count 68 = .ok (.invokevirtual 117, 3) := by decide +kernel
theorem dX7_count_71 : decode cX7_count 71 = .ok (.ireturn, 1) := by decide +kernel
theorem dX7_count_72 : decode cX7_count 72 = .ok (.aload_n 0, 1) := by decide +kernel
theorem dX7_count_73 : decode cX7_count 73 = .ok (.getfield 10, 3) := by decide +kernel
theorem dX7_count_76 : decode cX7_count 76 = .ok (.invokevirtual 190, 3) := by decide +kernel
theorem dX7_count_79 : decode cX7_count 79 = .ok (.ireturn, 1) := by decide +kernel
theorem dX7_count_80 : decode cX7_count 80 = .ok (.aload_n 0, 1) := by decide +kernel
theorem dX7_count_81 : decode cX7_count 81 = .ok (.getfield 10, 3) := by decide +kernel
theorem dX7_count_84 : decode cX7_count 84 = .ok (.iconst 0, 1) := by decide +kernel
theorem dX7_count_85 : decode cX7_count 85 = .ok (.invokevirtual 123, 3) := by decide +kernel
theorem dX7_count_88 : decode cX7_count 88 = .ok (.ireturn, 1) := by decide +kernel
theorem dX7_count_89 : decode cX7_count 89 = .ok (.aload_n 0, 1) := by decide +kernel
theorem dX7_count_90 : decode cX7_count 90 = .ok (.getfield 55, 3) := by decide +kernel
theorem dX7_count_93 : decode cX7_count 93 = .ok (.getfield 169, 3) := by decide +kernel
theorem dX7_count_96 : decode cX7_count 96 = .ok (.ireturn, 1) := by decide +kernel
theorem dX7_count_97 : decode cX7_count 97 = .ok (.aload_n 0, 1) := by decide +kernel
theorem dX7_count_98 : decode cX7_count 98 = .ok (.getfield 34, 3) := by decide +kernel
theorem dX7_count_101 : decode cX7_count 101 = .ok (.getfield 63, 3) := by decide +kernel
theorem dX7_count_104 : decode cX7_count 104 = .ok (.getfield 73, 3) := by decide +kernel
theorem dX7_count_107 : decode cX7_count 107 = .ok (.ireturn, 1) := by decide +kernel
theorem dX7_count_108 : decode cX7_count 108 = .ok (.aload_n 0, 1) := by decide +kernel
theorem dX7_count_109 : decode cX7_count 109 = .ok (.getfield 19, 3) := by decide +kernel
theorem dX7_count_112 : decode cX7_count 112 = .ok (.getfield 134, 3) := by decide +kernel
theorem dX7_count_115 : decode cX7_count 115 = .ok (.ireturn, 1) := by decide +kernel
theorem dX7_count_116 : decode cX7_count 116 = .ok (.iconst (-1), 1) := by decide +kernel
theorem dX7_count_117 : decode cX7_count 117 = .ok (.ireturn, 1) := by decide +kernel
set_option maxRecDepth 20000 in
theorem ggX7_motionNow_X1_by : GoodIn wsX7_motionNow wsX1_by := goodIn_r _ [6, 7, 8, 9, 10, 11, 4, 12, 13, 14, 15, 16, 17, 18, 19, 20, 21, 22, 23, 24, 25, 26, 27, 28, 29, 30, 31, 32, 33, 34, 35, 36, 37, 38, 39, 40, 41, 42, 43, 44, 45, 46, 47, 48, 49, 50, 51, 52, 53, 54, 55, 56, 57, 58, 59, 60, 61, 62, 63, 78, 79, 80, 81, 82, 83, 84, 85, 73, 74, 75, 76, 77] (by decide +kernel) (by decide +kernel)
set_option maxRecDepth 20000 in
theorem gX7_motionNow_X1_by_n162 : GoodIn wsX7_motionNow (wsX1_by) := ggX7_motionNow_X1_by
theorem dX7_motionNow_0 : decode cX7_motionNow 0 = .ok (.aload_n 0, 1) := by decide +kernel
theorem dX7_motionNow_1 : decode cX7_motionNow 1 = .ok (.getfield 41, 3) := by decide +kernel
theorem dX7_motionNow_4 : decode cX7_motionNow 4 = .ok (.aload_n 0, 1) := by decide +kernel
theorem dX7_motionNow_5 : decode cX7_motionNow 5 = .ok (.getfield 10, 3) := by decide +kernel
theorem dX7_motionNow_8 : decode cX7_motionNow 8 = .ok (.aload_n 0, 1) := by decide +kernel
theorem dX7_motionNow_9 : decode cX7_motionNow 9 = .ok (.getfield 10, 3) := by decide +kernel
theorem dX7_motionNow_12 : decode cX7_motionNow 12 = .ok (.getfield 144, 3) := by decide +kernel
theorem dX7_motionNow_15 : decode cX7_motionNow 15 = .ok (.iconst 4, 1) := by decide +kernel
theorem dX7_motionNow_16 : decode cX7_motionNow 16 = .ok (.iaload, 1) := by decide +kernel
theorem dX7_motionNow_17 : decode cX7_motionNow 17 = .ok (.invokevirtual 162, 3) := by decide +kernel
theorem dX7_motionNow_20 : decode cX7_motionNow 20 = .ok (.areturn, 1) := by decide +kernel
set_option maxRecDepth 20000 in
theorem ggX7_change_X0_record : GoodIn wsX7_change wsX0_record := goodIn_r _ [6, 7, 8, 9, 10, 11, 4, 12, 13, 14, 15, 16, 17, 18, 19, 20, 21, 22, 23, 24, 25, 40, 41, 35, 36, 37, 38, 39] (by decide +kernel) (by decide +kernel)
set_option maxRecDepth 20000 in
theorem gX7_change_X0_record_n81 : GoodIn wsX7_change (wsX0_record) := ggX7_change_X0_record
theorem dX7_change_0 : decode cX7_change 0 = .ok (.aload_n 0, 1) := by decide +kernel
theorem dX7_change_1 : decode cX7_change 1 = .ok (.getfield 10, 3) := by decide +kernel
theorem dX7_change_4 : decode cX7_change 4 = .ok (.getfield 144, 3) := by decide +kernel
theorem dX7_change_7 : decode cX7_change 7 = .ok (.iload_n 1, 1) := by decide +kernel
theorem dX7_change_8 : decode cX7_change 8 = .ok (.iaload, 1) := by decide +kernel
theorem dX7_change_9 : decode cX7_change 9 = .ok (.istore_n 3, 1) := by decide +kernel
theorem dX7_change_10 : decode cX7_change 10 = .ok (.iload_n 3, 1) := by decide +kernel
theorem dX7_change_11 : decode cX7_change 11 = .ok (.iload_n 2, 1) := by decide +kernel
theorem dX7_change_12 : decode cX7_change 12 = .ok (.if_icmp .ne 6, 3) := by decide +kernel
theorem dX7_change_15 : decode cX7_change 15 = .ok (.bipush (-2), 2) := by decide +kernel
theorem dX7_change_17 : decode cX7_change 17 = .ok (.ireturn, 1) := by decide +kernel
theorem dX7_change_18 : decode cX7_change 18 = .ok (.aload_n 0, 1) := by decide +kernel
theorem dX7_change_19 : decode cX7_change 19 = .ok (.getfield 19, 3) := by decide +kernel
theorem dX7_change_22 : decode cX7_change 22 = .ok (.aload_n 0, 1) := by decide +kernel
theorem dX7_change_23 : decode cX7_change 23 = .ok (.getfield 10, 3) := by decide +kernel
theorem dX7_change_26 : decode cX7_change 26 = .ok (.invokevirtual 81, 3) := by decide +kernel
theorem dX7_change_29 : decode cX7_change 29 = .ok (.aload_n 0, 1) := by decide +kernel
theorem dX7_change_30 : decode cX7_change 30 = .ok (.getfield 10, 3) := by decide +kernel
theorem dX7_change_33 : decode cX7_change 33 = .ok (.getfield 144, 3) := by decide +kernel
theorem dX7_change_36 : decode cX7_change 36 = .ok (.iload_n 1, 1) := by decide +kernel
theorem dX7_change_37 : decode cX7_change 37 = .ok (.iload_n 2, 1) := by decide +kernel
theorem dX7_change_38 : decode cX7_change 38 = .ok (.iastore, 1) := by decide +kernel
theorem dX7_change_39 : decode cX7_change 39 = .ok (.iload_n 3, 1) := by decide +kernel
theorem dX7_change_40 : decode cX7_change 40 = .ok (.ireturn, 1) := by decide +kernel
set_option maxRecDepth 20000 in
theorem ggX7_countStillBy_J7_fill_53178 : GoodIn wsX7_countStillBy wsJ7_fill_53178 := goodIn_r _ [8] (by decide +kernel) (by decide +kernel)
set_option maxRecDepth 20000 in
theorem gX7_countStillBy_J7_fill_53178 : GoodIn wsX7_countStillBy (va_wsS RX7 193 yJ7_fill_53178 wsJ7_fill_53178) := goodIn_app (goodIn_of _ (by decide +kernel)) ggX7_countStillBy_J7_fill_53178
set_option maxRecDepth 20000 in
theorem ggX7_countStillBy_X1_by : GoodIn wsX7_countStillBy wsX1_by := goodIn_r _ [12, 13, 14, 15, 16, 17, 10, 18, 19, 20, 21, 22, 23, 24, 25, 26, 27, 28, 29, 30, 31, 32, 33, 34, 35, 36, 37, 38, 39, 40, 41, 6, 7, 8, 42, 43, 44, 45, 46, 47, 48, 49, 50, 51, 52, 53, 54, 55, 56, 57, 58, 59, 60, 61, 62, 63, 64, 65, 66, 87, 88, 89, 90, 91, 92, 93, 94, 95, 96, 97, 98, 99] (by decide +kernel) (by decide +kernel)
set_option maxRecDepth 20000 in
theorem gX7_countStillBy_X1_by_n162 : GoodIn wsX7_countStillBy (wsX1_by) := ggX7_countStillBy_X1_by
set_option maxRecDepth 20000 in
theorem ggX7_countStillBy_X4_fits : GoodIn wsX7_countStillBy wsX4_fits := goodIn_r _ [70, 71, 72, 73, 57, 58, 59, 60, 61, 62, 74, 75, 76, 77, 100, 101, 102, 95, 96, 97, 98, 99] (by decide +kernel) (by decide +kernel)
set_option maxRecDepth 20000 in
theorem gX7_countStillBy_X4_fits_n172 : GoodIn wsX7_countStillBy (wsX4_fits) := ggX7_countStillBy_X4_fits
set_option maxRecDepth 20000 in
theorem ggX7_countStillBy_X2_cells : GoodIn wsX7_countStillBy wsX2_cells := goodIn_r _ [60, 61, 62, 95, 96, 97, 98, 99] (by decide +kernel) (by decide +kernel)
set_option maxRecDepth 20000 in
theorem gX7_countStillBy_X2_cells_n120 : GoodIn wsX7_countStillBy (wsX2_cells) := ggX7_countStillBy_X2_cells
set_option maxRecDepth 20000 in
theorem ggX7_countStillBy_X2_isStill : GoodIn wsX7_countStillBy wsX2_isStill := goodIn_r _ [76, 77, 95, 96, 97, 98, 99] (by decide +kernel) (by decide +kernel)
set_option maxRecDepth 20000 in
theorem gX7_countStillBy_X2_isStill_n137 : GoodIn wsX7_countStillBy (wsX2_isStill) := ggX7_countStillBy_X2_isStill
theorem dX7_countStillBy_0 : decode cX7_countStillBy 0 = .ok (.aload_n 0, 1) := by decide +kernel
theorem dX7_countStillBy_1 : decode cX7_countStillBy 1 = .ok (.getfield 59, 3) := by decide +kernel
theorem dX7_countStillBy_4 : decode cX7_countStillBy 4 = .ok (.iconst 0, 1) := by decide +kernel
theorem dX7_countStillBy_5 : decode cX7_countStillBy 5 = .ok (.invokestatic 193, 3) := by decide +kernel
theorem dX7_countStillBy_8 : decode cX7_countStillBy 8 = .ok (.iconst 0, 1) := by decide +kernel
theorem dX7_countStillBy_9 : decode cX7_countStillBy 9 = .ok (.istore_n 1, 1) := by decide +kernel
theorem dX7_countStillBy_10 : decode cX7_countStillBy 10 = .ok (.iconst 2, 1) := by decide +kernel
theorem dX7_countStillBy_11 : decode cX7_countStillBy 11 = .ok (.istore_n 2, 1) := by decide +kernel
theorem dX7_countStillBy_12 : decode cX7_countStillBy 12 = .ok (.iload_n 2, 1) := by decide +kernel
theorem dX7_countStillBy_13 : decode cX7_countStillBy 13 = .ok (.bipush 20, 2) := by decide +kernel
theorem dX7_countStillBy_15 : decode cX7_countStillBy 15 = .ok (.if_icmp .gt 89, 3) := by decide +kernel
theorem dX7_countStillBy_18 : decode cX7_countStillBy 18 = .ok (.aload_n 0, 1) := by decide +kernel
theorem dX7_countStillBy_19 : decode cX7_countStillBy 19 = .ok (.getfield 41, 3) := by decide +kernel
theorem dX7_countStillBy_22 : decode cX7_countStillBy 22 = .ok (.aload_n 0, 1) := by decide +kernel
theorem dX7_countStillBy_23 : decode cX7_countStillBy 23 = .ok (.getfield 10, 3) := by decide +kernel
theorem dX7_countStillBy_26 : decode cX7_countStillBy 26 = .ok (.iload_n 2, 1) := by decide +kernel
theorem dX7_countStillBy_27 : decode cX7_countStillBy 27 = .ok (.invokevirtual 162, 3) := by decide +kernel
theorem dX7_countStillBy_30 : decode cX7_countStillBy 30 = .ok (.astore_n 3, 1) := by decide +kernel
theorem dX7_countStillBy_31 : decode cX7_countStillBy 31 = .ok (.aload_n 0, 1) := by decide +kernel
theorem dX7_countStillBy_32 : decode cX7_countStillBy 32 = .ok (.getfield 55, 3) := by decide +kernel
theorem dX7_countStillBy_35 : decode cX7_countStillBy 35 = .ok (.aload_n 0, 1) := by decide +kernel
theorem dX7_countStillBy_36 : decode cX7_countStillBy 36 = .ok (.getfield 10, 3) := by decide +kernel
theorem dX7_countStillBy_39 : decode cX7_countStillBy 39 = .ok (.aload_n 3, 1) := by decide +kernel
theorem dX7_countStillBy_40 : decode cX7_countStillBy 40 = .ok (.invokevirtual 172, 3) := by decide +kernel
theorem dX7_countStillBy_43 : decode cX7_countStillBy 43 = .ok (.ifCond .eq 55, 3) := by decide +kernel
theorem dX7_countStillBy_46 : decode cX7_countStillBy 46 = .ok (.iinc 1 1, 3) := by decide +kernel
theorem dX7_countStillBy_49 : decode cX7_countStillBy 49 = .ok (.iconst 0, 1) := by decide +kernel
theorem dX7_countStillBy_50 : decode cX7_countStillBy 50 = .ok (.istore 4, 2) := by decide +kernel
theorem dX7_countStillBy_52 : decode cX7_countStillBy 52 = .ok (.iload 4, 2) := by decide +kernel
theorem dX7_countStillBy_54 : decode cX7_countStillBy 54 = .ok (.aload_n 0, 1) := by decide +kernel
theorem dX7_countStillBy_55 : decode cX7_countStillBy 55 = .ok (.getfield 10, 3) := by decide +kernel
theorem dX7_countStillBy_58 : decode cX7_countStillBy 58 = .ok (.invokevirtual 120, 3) := by decide +kernel
theorem dX7_countStillBy_61 : decode cX7_countStillBy 61 = .ok (.if_icmp .ge 37, 3) := by decide +kernel
theorem dX7_countStillBy_64 : decode cX7_countStillBy 64 = .ok (.aload_n 0, 1) := by decide +kernel
theorem dX7_countStillBy_65 : decode cX7_countStillBy 65 = .ok (.getfield 59, 3) := by decide +kernel
theorem dX7_countStillBy_68 : decode cX7_countStillBy 68 = .ok (.iload 4, 2) := by decide +kernel
theorem dX7_countStillBy_70 : decode cX7_countStillBy 70 = .ok (.dup2, 1) := by decide +kernel
theorem dX7_countStillBy_71 : decode cX7_countStillBy 71 = .ok (.iaload, 1) := by decide +kernel
theorem dX7_countStillBy_72 : decode cX7_countStillBy 72 = .ok (.aload_n 0, 1) := by decide +kernel
theorem dX7_countStillBy_73 : decode cX7_countStillBy 73 = .ok (.getfield 10, 3) := by decide +kernel
theorem dX7_countStillBy_76 : decode cX7_countStillBy 76 = .ok (.aload_n 3, 1) := by decide +kernel
theorem dX7_countStillBy_77 : decode cX7_countStillBy 77 = .ok (.iload 4, 2) := by decide +kernel
theorem dX7_countStillBy_79 : decode cX7_countStillBy 79 = .ok (.invokevirtual 137, 3) := by decide +kernel
theorem dX7_countStillBy_82 : decode cX7_countStillBy 82 = .ok (.ifCond .eq 7, 3) := by decide +kernel
theorem dX7_countStillBy_85 : decode cX7_countStillBy 85 = .ok (.iconst 1, 1) := by decide +kernel
theorem dX7_countStillBy_86 : decode cX7_countStillBy 86 = .ok (.goto 4, 3) := by decide +kernel
theorem dX7_countStillBy_89 : decode cX7_countStillBy 89 = .ok (.iconst 0, 1) := by decide +kernel
theorem dX7_countStillBy_90 : decode cX7_countStillBy 90 = .ok (.iadd, 1) := by decide +kernel
theorem dX7_countStillBy_91 : decode cX7_countStillBy 91 = .ok (.iastore, 1) := by decide +kernel
theorem dX7_countStillBy_92 : decode cX7_countStillBy 92 = .ok (.iinc 4 1, 3) := by decide +kernel
theorem dX7_countStillBy_95 : decode cX7_countStillBy 95 = .ok (.goto (-43), 3) := by decide +kernel
theorem dX7_countStillBy_98 : decode cX7_countStillBy 98 = .ok (.iinc 2 1, 3) := by decide +kernel
theorem dX7_countStillBy_101 : decode cX7_countStillBy 101 = .ok (.goto (-89), 3) := by decide +kernel
theorem dX7_countStillBy_104 : decode cX7_countStillBy 104 = .ok (.iload_n 1, 1) := by decide +kernel
theorem dX7_countStillBy_105 : decode cX7_countStillBy 105 = .ok (.ireturn, 1) := by decide +kernel
set_option maxRecDepth 20000 in
theorem ggX8_init_X8_plain : GoodIn wsX8_init wsX8_plain := goodIn_r _ [23] (by decide +kernel) (by decide +kernel)
set_option maxRecDepth 20000 in
theorem gX8_init_X8_plain : GoodIn wsX8_init (va_wsS RX8 55 yX8_plain wsX8_plain) := goodIn_app (goodIn_of _ (by decide +kernel)) ggX8_init_X8_plain
theorem dX8_init_0 : decode cX8_init 0 = .ok (.aload_n 0, 1) := by decide +kernel
theorem dX8_init_1 : decode cX8_init 1 = .ok (.invokespecial 1, 3) := by decide +kernel
theorem dX8_init_4 : decode cX8_init 4 = .ok (.aload_n 0, 1) := by decide +kernel
theorem dX8_init_5 : decode cX8_init 5 = .ok (.bipush 120, 2) := by decide +kernel
theorem dX8_init_7 : decode cX8_init 7 = .ok (.newarray .int, 2) := by decide +kernel
theorem dX8_init_9 : decode cX8_init 9 = .ok (.putfield 7, 3) := by decide +kernel
theorem dX8_init_12 : decode cX8_init 12 = .ok (.aload_n 0, 1) := by decide +kernel
theorem dX8_init_13 : decode cX8_init 13 = .ok (.bipush 81, 2) := by decide +kernel
theorem dX8_init_15 : decode cX8_init 15 = .ok (.newarray .int, 2) := by decide +kernel
theorem dX8_init_17 : decode cX8_init 17 = .ok (.putfield 13, 3) := by decide +kernel
theorem dX8_init_20 : decode cX8_init 20 = .ok (.aload_n 0, 1) := by decide +kernel
theorem dX8_init_21 : decode cX8_init 21 = .ok (.bipush 81, 2) := by decide +kernel
theorem dX8_init_23 : decode cX8_init 23 = .ok (.newarray .int, 2) := by decide +kernel
theorem dX8_init_25 : decode cX8_init 25 = .ok (.putfield 16, 3) := by decide +kernel
theorem dX8_init_28 : decode cX8_init 28 = .ok (.aload_n 0, 1) := by decide +kernel
theorem dX8_init_29 : decode cX8_init 29 = .ok (.sipush 486, 3) := by decide +kernel
theorem dX8_init_32 : decode cX8_init 32 = .ok (.newarray .int, 2) := by decide +kernel
theorem dX8_init_34 : decode cX8_init 34 = .ok (.putfield 19, 3) := by decide +kernel
theorem dX8_init_37 : decode cX8_init 37 = .ok (.aload_n 0, 1) := by decide +kernel
theorem dX8_init_38 : decode cX8_init 38 = .ok (.sipush 162, 3) := by decide +kernel
theorem dX8_init_41 : decode cX8_init 41 = .ok (.newarray .int, 2) := by decide +kernel
theorem dX8_init_43 : decode cX8_init 43 = .ok (.putfield 22, 3) := by decide +kernel
theorem dX8_init_46 : decode cX8_init 46 = .ok (.aload_n 0, 1) := by decide +kernel
theorem dX8_init_47 : decode cX8_init 47 = .ok (.bipush 6, 2) := by decide +kernel
theorem dX8_init_49 : decode cX8_init 49 = .ok (.newarray .int, 2) := by decide +kernel
theorem dX8_init_51 : decode cX8_init 51 = .ok (.putfield 25, 3) := by decide +kernel
theorem dX8_init_54 : decode cX8_init 54 = .ok (.aload_n 0, 1) := by decide +kernel
theorem dX8_init_55 : decode cX8_init 55 = .ok (.bipush 6, 2) := by decide +kernel
theorem dX8_init_57 : decode cX8_init 57 = .ok (.newarray .int, 2) := by decide +kernel
theorem dX8_init_59 : decode cX8_init 59 = .ok (.putfield 28, 3) := by decide +kernel
theorem dX8_init_62 : decode cX8_init 62 = .ok (.aload_n 0, 1) := by decide +kernel
theorem dX8_init_63 : decode cX8_init 63 = .ok (.bipush 36, 2) := by decide +kernel
theorem dX8_init_65 : decode cX8_init 65 = .ok (.newarray .int, 2) := by decide +kernel
theorem dX8_init_67 : decode cX8_init 67 = .ok (.putfield 31, 3) := by decide +kernel
theorem dX8_init_70 : decode cX8_init 70 = .ok (.aload_n 0, 1) := by decide +kernel
theorem dX8_init_71 : decode cX8_init 71 = .ok (.bipush 36, 2) := by decide +kernel
theorem dX8_init_73 : decode cX8_init 73 = .ok (.newarray .int, 2) := by decide +kernel
theorem dX8_init_75 : decode cX8_init 75 = .ok (.putfield 34, 3) := by decide +kernel
theorem dX8_init_78 : decode cX8_init 78 = .ok (.aload_n 0, 1) := by decide +kernel
theorem dX8_init_79 : decode cX8_init 79 = .ok (.bipush 36, 2) := by decide +kernel
theorem dX8_init_81 : decode cX8_init 81 = .ok (.newarray .int, 2) := by decide +kernel
theorem dX8_init_83 : decode cX8_init 83 = .ok (.putfield 37, 3) := by decide +kernel
theorem dX8_init_86 : decode cX8_init 86 = .ok (.aload_n 0, 1) := by decide +kernel
theorem dX8_init_87 : decode cX8_init 87 = .ok (.bipush 36, 2) := by decide +kernel
theorem dX8_init_89 : decode cX8_init 89 = .ok (.newarray .int, 2) := by decide +kernel
theorem dX8_init_91 : decode cX8_init 91 = .ok (.putfield 40, 3) := by decide +kernel
theorem dX8_init_94 : decode cX8_init 94 = .ok (.aload_n 0, 1) := by decide +kernel
theorem dX8_init_95 : decode cX8_init 95 = .ok (.bipush 36, 2) := by decide +kernel
theorem dX8_init_97 : decode cX8_init 97 = .ok (.newarray .int, 2) := by decide +kernel
theorem dX8_init_99 : decode cX8_init 99 = .ok (.putfield 43, 3) := by decide +kernel
theorem dX8_init_102 : decode cX8_init 102 = .ok (.aload_n 0, 1) := by decide +kernel
theorem dX8_init_103 : decode cX8_init 103 = .ok (.bipush 36, 2) := by decide +kernel
theorem dX8_init_105 : decode cX8_init 105 = .ok (.newarray .int, 2) := by decide +kernel
theorem dX8_init_107 : decode cX8_init 107 = .ok (.putfield 46, 3) := by decide +kernel
theorem dX8_init_110 : decode cX8_init 110 = .ok (.aload_n 0, 1) := by decide +kernel
theorem dX8_init_111 : decode cX8_init 111 = .ok (.bipush 36, 2) := by decide +kernel
theorem dX8_init_113 : decode cX8_init 113 = .ok (.newarray .int, 2) := by decide +kernel
theorem dX8_init_115 : decode cX8_init 115 = .ok (.putfield 49, 3) := by decide +kernel
theorem dX8_init_118 : decode cX8_init 118 = .ok (.aload_n 0, 1) := by decide +kernel
theorem dX8_init_119 : decode cX8_init 119 = .ok (.bipush 36, 2) := by decide +kernel
theorem dX8_init_121 : decode cX8_init 121 = .ok (.newarray .int, 2) := by decide +kernel
theorem dX8_init_123 : decode cX8_init 123 = .ok (.putfield 52, 3) := by decide +kernel
theorem dX8_init_126 : decode cX8_init 126 = .ok (.aload_n 0, 1) := by decide +kernel
theorem dX8_init_127 : decode cX8_init 127 = .ok (.getfield 13, 3) := by decide +kernel
theorem dX8_init_130 : decode cX8_init 130 = .ok (.invokestatic 55, 3) := by decide +kernel
theorem dX8_init_133 : decode cX8_init 133 = .ok (.return_, 1) := by decide +kernel
theorem dX8_plain_0 : decode cX8_plain 0 = .ok (.aload_n 0, 1) := by decide +kernel
theorem dX8_plain_1 : decode cX8_plain 1 = .ok (.iconst 0, 1) := by decide +kernel
theorem dX8_plain_2 : decode cX8_plain 2 = .ok (.iconst 3, 1) := by decide +kernel
theorem dX8_plain_3 : decode cX8_plain 3 = .ok (.iastore, 1) := by decide +kernel
theorem dX8_plain_4 : decode cX8_plain 4 = .ok (.aload_n 0, 1) := by decide +kernel
theorem dX8_plain_5 : decode cX8_plain 5 = .ok (.iconst 1, 1) := by decide +kernel
theorem dX8_plain_6 : decode cX8_plain 6 = .ok (.iconst 3, 1) := by decide +kernel
theorem dX8_plain_7 : decode cX8_plain 7 = .ok (.iastore, 1) := by decide +kernel
theorem dX8_plain_8 : decode cX8_plain 8 = .ok (.aload_n 0, 1) := by decide +kernel
theorem dX8_plain_9 : decode cX8_plain 9 = .ok (.iconst 2, 1) := by decide +kernel
theorem dX8_plain_10 : decode cX8_plain 10 = .ok (.iconst 1, 1) := by decide +kernel
theorem dX8_plain_11 : decode cX8_plain 11 = .ok (.iastore, 1) := by decide +kernel
theorem dX8_plain_12 : decode cX8_plain 12 = .ok (.aload_n 0, 1) := by decide +kernel
theorem dX8_plain_13 : decode cX8_plain 13 = .ok (.iconst 3, 1) := by decide +kernel
theorem dX8_plain_14 : decode cX8_plain 14 = .ok (.iconst 4, 1) := by decide +kernel
theorem dX8_plain_15 : decode cX8_plain 15 = .ok (.iastore, 1) := by decide +kernel
theorem dX8_plain_16 : decode cX8_plain 16 = .ok (.aload_n 0, 1) := by decide +kernel
theorem dX8_plain_17 : decode cX8_plain 17 = .ok (.iconst 4, 1) := by decide +kernel
theorem dX8_plain_18 : decode cX8_plain 18 = .ok (.bipush 8, 2) := by decide +kernel
theorem dX8_plain_20 : decode cX8_plain 20 = .ok (.iastore, 1) := by decide +kernel
theorem dX8_plain_21 : decode cX8_plain 21 = .ok (.aload_n 0, 1) := by decide +kernel
theorem dX8_plain_22 : decode cX8_plain 22 = .ok (.iconst 5, 1) := by decide +kernel
theorem dX8_plain_23 : decode cX8_plain 23 = .ok (.bipush 40, 2) := by decide +kernel
theorem dX8_plain_25 : decode cX8_plain 25 = .ok (.iastore, 1) := by decide +kernel
theorem dX8_plain_26 : decode cX8_plain 26 = .ok (.aload_n 0, 1) := by decide +kernel
theorem dX8_plain_27 : decode cX8_plain 27 = .ok (.bipush 6, 2) := by decide +kernel
theorem dX8_plain_29 : decode cX8_plain 29 = .ok (.bipush 8, 2) := by decide +kernel
