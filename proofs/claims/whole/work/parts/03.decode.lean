set_option maxRecDepth 20000 in
theorem ggX0_init_X2_init : GoodIn wsX0_init wsX2_init := goodIn_r _ [9, 10, 2, 3, 11, 12, 13, 14, 15, 16, 17, 7, 18, 19, 20, 21, 22, 23, 24, 25, 26, 27, 28, 29, 30, 31, 32, 35, 36, 37, 38, 39] (by decide +kernel) (by decide +kernel)
set_option maxRecDepth 20000 in
theorem gX0_init_X2_init_n17 : GoodIn wsX0_init (wsX2_init) := ggX0_init_X2_init
theorem dX0_init_0 : decode cX0_init 0 = .ok (.aload_n 0, 1) := by decide +kernel
theorem dX0_init_1 : decode cX0_init 1 = .ok (.invokespecial 3, 3) := by decide +kernel
theorem dX0_init_4 : decode cX0_init 4 = .ok (.aload_n 0, 1) := by decide +kernel
theorem dX0_init_5 : decode cX0_init 5 = .ok (.bipush 6, 2) := by decide +kernel
theorem dX0_init_7 : decode cX0_init 7 = .ok (.anewarray 9, 3) := by decide +kernel
theorem dX0_init_10 : decode cX0_init 10 = .ok (.putfield 11, 3) := by decide +kernel
theorem dX0_init_13 : decode cX0_init 13 = .ok (.iconst 0, 1) := by decide +kernel
theorem dX0_init_14 : decode cX0_init 14 = .ok (.istore_n 1, 1) := by decide +kernel
theorem dX0_init_15 : decode cX0_init 15 = .ok (.iload_n 1, 1) := by decide +kernel
theorem dX0_init_16 : decode cX0_init 16 = .ok (.bipush 6, 2) := by decide +kernel
theorem dX0_init_18 : decode cX0_init 18 = .ok (.if_icmp .ge 22, 3) := by decide +kernel
theorem dX0_init_21 : decode cX0_init 21 = .ok (.aload_n 0, 1) := by decide +kernel
theorem dX0_init_22 : decode cX0_init 22 = .ok (.getfield 11, 3) := by decide +kernel
theorem dX0_init_25 : decode cX0_init 25 = .ok (.iload_n 1, 1) := by decide +kernel
theorem dX0_init_26 : decode cX0_init 26 = .ok (.new 9, 3) := by decide +kernel
theorem dX0_init_29 : decode cX0_init 29 = .ok (.dup, 1) := by decide +kernel
theorem dX0_init_30 : decode cX0_init 30 = .ok (.invokespecial 17, 3) := by decide +kernel
theorem dX0_init_33 : decode cX0_init 33 = .ok (.aastore, 1) := by decide +kernel
theorem dX0_init_34 : decode cX0_init 34 = .ok (.iinc 1 1, 3) := by decide +kernel
theorem dX0_init_37 : decode cX0_init 37 = .ok (.goto (-22), 3) := by decide +kernel
theorem dX0_init_40 : decode cX0_init 40 = .ok (.return_, 1) := by decide +kernel
set_option maxRecDepth 20000 in
theorem ggX0_record_X0_loseOldest : GoodIn wsX0_record wsX0_loseOldest := goodIn_r _ [7, 2, 1, 21, 22] (by decide +kernel) (by decide +kernel)
set_option maxRecDepth 20000 in
theorem gX0_record_X0_loseOldest : GoodIn wsX0_record (wsV RX0 22 RX0 yX0_loseOldest wsX0_loseOldest) := goodIn_app (goodIn_of _ (by decide +kernel)) ggX0_record_X0_loseOldest
set_option maxRecDepth 20000 in
theorem ggX0_record_X2_takeFrom : GoodIn wsX0_record wsX2_takeFrom := goodIn_r _ [11, 12, 13, 14, 15, 16, 17, 18, 19, 20, 23, 24, 25, 26, 27] (by decide +kernel) (by decide +kernel)
set_option maxRecDepth 20000 in
theorem gX0_record_X2_takeFrom_n25 : GoodIn wsX0_record (wsX2_takeFrom) := ggX0_record_X2_takeFrom
theorem dX0_record_0 : decode cX0_record 0 = .ok (.aload_n 0, 1) := by decide +kernel
theorem dX0_record_1 : decode cX0_record 1 = .ok (.getfield 18, 3) := by decide +kernel
theorem dX0_record_4 : decode cX0_record 4 = .ok (.bipush 6, 2) := by decide +kernel
theorem dX0_record_6 : decode cX0_record 6 = .ok (.if_icmp .lt 7, 3) := by decide +kernel
theorem dX0_record_9 : decode cX0_record 9 = .ok (.aload_n 0, 1) := by decide +kernel
theorem dX0_record_10 : decode cX0_record 10 = .ok (.invokevirtual 22, 3) := by decide +kernel
theorem dX0_record_13 : decode cX0_record 13 = .ok (.aload_n 0, 1) := by decide +kernel
theorem dX0_record_14 : decode cX0_record 14 = .ok (.getfield 11, 3) := by decide +kernel
theorem dX0_record_17 : decode cX0_record 17 = .ok (.aload_n 0, 1) := by decide +kernel
theorem dX0_record_18 : decode cX0_record 18 = .ok (.getfield 18, 3) := by decide +kernel
theorem dX0_record_21 : decode cX0_record 21 = .ok (.aaload, 1) := by decide +kernel
theorem dX0_record_22 : decode cX0_record 22 = .ok (.aload_n 1, 1) := by decide +kernel
theorem dX0_record_23 : decode cX0_record 23 = .ok (.invokevirtual 25, 3) := by decide +kernel
theorem dX0_record_26 : decode cX0_record 26 = .ok (.aload_n 0, 1) := by decide +kernel
theorem dX0_record_27 : decode cX0_record 27 = .ok (.dup, 1) := by decide +kernel
theorem dX0_record_28 : decode cX0_record 28 = .ok (.getfield 18, 3) := by decide +kernel
theorem dX0_record_31 : decode cX0_record 31 = .ok (.iconst 1, 1) := by decide +kernel
theorem dX0_record_32 : decode cX0_record 32 = .ok (.iadd, 1) := by decide +kernel
theorem dX0_record_33 : decode cX0_record 33 = .ok (.putfield 18, 3) := by decide +kernel
theorem dX0_record_36 : decode cX0_record 36 = .ok (.return_, 1) := by decide +kernel
set_option maxRecDepth 20000 in
theorem ggX0_takeBack_X2_takeFrom : GoodIn wsX0_takeBack wsX2_takeFrom := goodIn_r _ [6, 7, 8, 9, 10, 11, 12, 13, 14, 15, 18, 19, 20, 21, 22] (by decide +kernel) (by decide +kernel)
set_option maxRecDepth 20000 in
theorem gX0_takeBack_X2_takeFrom_n25 : GoodIn wsX0_takeBack (wsX2_takeFrom) := ggX0_takeBack_X2_takeFrom
theorem dX0_takeBack_0 : decode cX0_takeBack 0 = .ok (.aload_n 0, 1) := by decide +kernel
theorem dX0_takeBack_1 : decode cX0_takeBack 1 = .ok (.getfield 18, 3) := by decide +kernel
theorem dX0_takeBack_4 : decode cX0_takeBack 4 = .ok (.ifCond .gt 5, 3) := by decide +kernel
theorem dX0_takeBack_7 : decode cX0_takeBack 7 = .ok (.iconst 0, 1) := by decide +kernel
theorem dX0_takeBack_8 : decode cX0_takeBack 8 = .ok (.ireturn, 1) := by decide +kernel
theorem dX0_takeBack_9 : decode cX0_takeBack 9 = .ok (.aload_n 0, 1) := by decide +kernel
theorem dX0_takeBack_10 : decode cX0_takeBack 10 = .ok (.dup, 1) := by decide +kernel
theorem dX0_takeBack_11 : decode cX0_takeBack 11 = .ok (.getfield 18, 3) := by decide +kernel
theorem dX0_takeBack_14 : decode cX0_takeBack 14 = .ok (.iconst 1, 1) := by decide +kernel
theorem dX0_takeBack_15 : decode cX0_takeBack 15 = .ok (.isub, 1) := by decide +kernel
theorem dX0_takeBack_16 : decode cX0_takeBack 16 = .ok (.putfield 18, 3) := by decide +kernel
theorem dX0_takeBack_19 : decode cX0_takeBack 19 = .ok (.aload_n 1, 1) := by decide +kernel
theorem dX0_takeBack_20 : decode cX0_takeBack 20 = .ok (.aload_n 0, 1) := by decide +kernel
theorem dX0_takeBack_21 : decode cX0_takeBack 21 = .ok (.getfield 11, 3) := by decide +kernel
theorem dX0_takeBack_24 : decode cX0_takeBack 24 = .ok (.aload_n 0, 1) := by decide +kernel
theorem dX0_takeBack_25 : decode cX0_takeBack 25 = .ok (.getfield 18, 3) := by decide +kernel
theorem dX0_takeBack_28 : decode cX0_takeBack 28 = .ok (.aaload, 1) := by decide +kernel
theorem dX0_takeBack_29 : decode cX0_takeBack 29 = .ok (.invokevirtual 25, 3) := by decide +kernel
theorem dX0_takeBack_32 : decode cX0_takeBack 32 = .ok (.iconst 1, 1) := by decide +kernel
theorem dX0_takeBack_33 : decode cX0_takeBack 33 = .ok (.ireturn, 1) := by decide +kernel
theorem dX0_loseOldest_0 : decode cX0_loseOldest 0 = .ok (.aload_n 0, 1) := by decide +kernel
theorem dX0_loseOldest_1 : decode cX0_loseOldest 1 = .ok (.getfield 11, 3) := by decide +kernel
theorem dX0_loseOldest_4 : decode cX0_loseOldest 4 = .ok (.iconst 0, 1) := by decide +kernel
theorem dX0_loseOldest_5 : decode cX0_loseOldest 5 = .ok (.aaload, 1) := by decide +kernel
theorem dX0_loseOldest_6 : decode cX0_loseOldest 6 = .ok (.astore_n 1, 1) := by decide +kernel
theorem dX0_loseOldest_7 : decode cX0_loseOldest 7 = .ok (.iconst 1, 1) := by decide +kernel
theorem dX0_loseOldest_8 : decode cX0_loseOldest 8 = .ok (.istore_n 2, 1) := by decide +kernel
theorem dX0_loseOldest_9 : decode cX0_loseOldest 9 = .ok (.iload_n 2, 1) := by decide +kernel
theorem dX0_loseOldest_10 : decode cX0_loseOldest 10 = .ok (.bipush 6, 2) := by decide +kernel
theorem dX0_loseOldest_12 : decode cX0_loseOldest 12 = .ok (.if_icmp .ge 23, 3) := by decide +kernel
theorem dX0_loseOldest_15 : decode cX0_loseOldest 15 = .ok (.aload_n 0, 1) := by decide +kernel
theorem dX0_loseOldest_16 : decode cX0_loseOldest 16 = .ok (.getfield 11, 3) := by decide +kernel
theorem dX0_loseOldest_19 : decode cX0_loseOldest 19 = .ok (.iload_n 2, 1) := by decide +kernel
theorem dX0_loseOldest_20 : decode cX0_loseOldest 20 = .ok (.iconst 1, 1) := by decide +kernel
theorem dX0_loseOldest_21 : decode cX0_loseOldest 21 = .ok (.isub, 1) := by decide +kernel
theorem dX0_loseOldest_22 : decode cX0_loseOldest 22 = .ok (.aload_n 0, 1) := by decide +kernel
theorem dX0_loseOldest_23 : decode cX0_loseOldest 23 = .ok (.getfield 11, 3) := by decide +kernel
theorem dX0_loseOldest_26 : decode cX0_loseOldest 26 = .ok (.iload_n 2, 1) := by decide +kernel
theorem dX0_loseOldest_27 : decode cX0_loseOldest 27 = .ok (.aaload, 1) := by decide +kernel
theorem dX0_loseOldest_28 : decode cX0_loseOldest 28 = .ok (.aastore, 1) := by decide +kernel
theorem dX0_loseOldest_29 : decode cX0_loseOldest 29 = .ok (.iinc 2 1, 3) := by decide +kernel
theorem dX0_loseOldest_32 : decode cX0_loseOldest 32 = .ok (.goto (-23), 3) := by decide +kernel
theorem dX0_loseOldest_35 : decode cX0_loseOldest 35 = .ok (.aload_n 0, 1) := by decide +kernel
theorem dX0_loseOldest_36 : decode cX0_loseOldest 36 = .ok (.getfield 11, 3) := by decide +kernel
theorem dX0_loseOldest_39 : decode cX0_loseOldest 39 = .ok (.iconst 5, 1) := by decide +kernel
theorem dX0_loseOldest_40 : decode cX0_loseOldest 40 = .ok (.aload_n 1, 1) := by decide +kernel
theorem dX0_loseOldest_41 : decode cX0_loseOldest 41 = .ok (.aastore, 1) := by decide +kernel
theorem dX0_loseOldest_42 : decode cX0_loseOldest 42 = .ok (.aload_n 0, 1) := by decide +kernel
theorem dX0_loseOldest_43 : decode cX0_loseOldest 43 = .ok (.iconst 5, 1) := by decide +kernel
theorem dX0_loseOldest_44 : decode cX0_loseOldest 44 = .ok (.putfield 18, 3) := by decide +kernel
theorem dX0_loseOldest_47 : decode cX0_loseOldest 47 = .ok (.return_, 1) := by decide +kernel
theorem dX1_init_0 : decode cX1_init 0 = .ok (.aload_n 0, 1) := by decide +kernel
theorem dX1_init_1 : decode cX1_init 1 = .ok (.invokespecial 3, 3) := by decide +kernel
theorem dX1_init_4 : decode cX1_init 4 = .ok (.aload_n 0, 1) := by decide +kernel
theorem dX1_init_5 : decode cX1_init 5 = .ok (.bipush 36, 2) := by decide +kernel
theorem dX1_init_7 : decode cX1_init 7 = .ok (.newarray .int, 2) := by decide +kernel
theorem dX1_init_9 : decode cX1_init 9 = .ok (.putfield 9, 3) := by decide +kernel
theorem dX1_init_12 : decode cX1_init 12 = .ok (.aload_n 0, 1) := by decide +kernel
theorem dX1_init_13 : decode cX1_init 13 = .ok (.bipush 36, 2) := by decide +kernel
theorem dX1_init_15 : decode cX1_init 15 = .ok (.newarray .int, 2) := by decide +kernel
theorem dX1_init_17 : decode cX1_init 17 = .ok (.putfield 15, 3) := by decide +kernel
theorem dX1_init_20 : decode cX1_init 20 = .ok (.aload_n 0, 1) := by decide +kernel
theorem dX1_init_21 : decode cX1_init 21 = .ok (.bipush 36, 2) := by decide +kernel
theorem dX1_init_23 : decode cX1_init 23 = .ok (.newarray .int, 2) := by decide +kernel
theorem dX1_init_25 : decode cX1_init 25 = .ok (.putfield 18, 3) := by decide +kernel
theorem dX1_init_28 : decode cX1_init 28 = .ok (.aload_n 0, 1) := by decide +kernel
theorem dX1_init_29 : decode cX1_init 29 = .ok (.bipush 21, 2) := by decide +kernel
theorem dX1_init_31 : decode cX1_init 31 = .ok (.bipush 36, 2) := by decide +kernel
theorem dX1_init_33 : decode cX1_init 33 = .ok (.multianewarray 21 2, 4) := by decide +kernel
theorem dX1_init_37 : decode cX1_init 37 = .ok (.putfield 23, 3) := by decide +kernel
theorem dX1_init_40 : decode cX1_init 40 = .ok (.aload_n 0, 1) := by decide +kernel
theorem dX1_init_41 : decode cX1_init 41 = .ok (.bipush 21, 2) := by decide +kernel
theorem dX1_init_43 : decode cX1_init 43 = .ok (.newarray .boolean, 2) := by decide +kernel
theorem dX1_init_45 : decode cX1_init 45 = .ok (.putfield 26, 3) := by decide +kernel
theorem dX1_init_48 : decode cX1_init 48 = .ok (.aload_n 0, 1) := by decide +kernel
theorem dX1_init_49 : decode cX1_init 49 = .ok (.bipush 7, 2) := by decide +kernel
theorem dX1_init_51 : decode cX1_init 51 = .ok (.newarray .int, 2) := by decide +kernel
theorem dX1_init_53 : decode cX1_init 53 = .ok (.putfield 30, 3) := by decide +kernel
theorem dX1_init_56 : decode cX1_init 56 = .ok (.return_, 1) := by decide +kernel
set_option maxRecDepth 20000 in
theorem ggX1_by_X1_isOf : GoodIn wsX1_by wsX1_isOf := goodIn_r _ [7, 8, 9, 10, 59, 60, 61, 62, 63, 64, 65, 66, 67, 68, 69, 70, 71] (by decide +kernel) (by decide +kernel)
set_option maxRecDepth 20000 in
theorem gX1_by_X1_isOf : GoodIn wsX1_by (wsV RX1 33 RX1 yX1_isOf wsX1_isOf) := goodIn_app (goodIn_of _ (by decide +kernel)) ggX1_by_X1_isOf
set_option maxRecDepth 20000 in
theorem ggX1_by_X1_become : GoodIn wsX1_by wsX1_become := goodIn_r _ [14, 8, 9, 10, 15, 16, 17, 18, 2, 67, 68, 69, 70, 71, 59, 60, 61, 62, 63, 64, 65, 66] (by decide +kernel) (by decide +kernel)
set_option maxRecDepth 20000 in
theorem gX1_by_X1_become : GoodIn wsX1_by (wsV RX1 37 RX1 yX1_become wsX1_become) := goodIn_app (goodIn_of _ (by decide +kernel)) ggX1_by_X1_become
set_option maxRecDepth 20000 in
theorem ggX1_by_X1_workOut : GoodIn wsX1_by wsX1_workOut := goodIn_r _ [22, 23, 24, 25, 26, 6, 27, 28, 29, 30, 31, 32, 33, 34, 35, 36, 37, 38, 39, 40, 41, 42, 43, 44, 45, 46, 47, 48, 49, 50, 51, 52, 53, 54, 55, 56, 57, 58, 59, 60, 61, 62, 63, 64, 65, 66, 67, 68, 69, 70, 71] (by decide +kernel) (by decide +kernel)
set_option maxRecDepth 20000 in
theorem gX1_by_X1_workOut : GoodIn wsX1_by (wsV RX1 41 RX1 yX1_workOut wsX1_workOut) := goodIn_app (goodIn_of _ (by decide +kernel)) ggX1_by_X1_workOut
theorem dX1_by_0 : decode cX1_by 0 = .ok (.aload_n 0, 1) := by decide +kernel
theorem dX1_by_1 : decode cX1_by 1 = .ok (.aload_n 1, 1) := by decide +kernel
theorem dX1_by_2 : decode cX1_by 2 = .ok (.invokevirtual 33, 3) := by decide +kernel
theorem dX1_by_5 : decode cX1_by 5 = .ok (.ifCond .ne 8, 3) := by decide +kernel
theorem dX1_by_8 : decode cX1_by 8 = .ok (.aload_n 0, 1) := by decide +kernel
theorem dX1_by_9 : decode cX1_by 9 = .ok (.aload_n 1, 1) := by decide +kernel
theorem dX1_by_10 : decode cX1_by 10 = .ok (.invokevirtual 37, 3) := by decide +kernel
theorem dX1_by_13 : decode cX1_by 13 = .ok (.aload_n 0, 1) := by decide +kernel
theorem dX1_by_14 : decode cX1_by 14 = .ok (.getfield 23, 3) := by decide +kernel
theorem dX1_by_17 : decode cX1_by 17 = .ok (.iload_n 2, 1) := by decide +kernel
theorem dX1_by_18 : decode cX1_by 18 = .ok (.aaload, 1) := by decide +kernel
theorem dX1_by_19 : decode cX1_by 19 = .ok (.astore_n 3, 1) := by decide +kernel
theorem dX1_by_20 : decode cX1_by 20 = .ok (.aload_n 0, 1) := by decide +kernel
theorem dX1_by_21 : decode cX1_by 21 = .ok (.getfield 26, 3) := by decide +kernel
theorem dX1_by_24 : decode cX1_by 24 = .ok (.iload_n 2, 1) := by decide +kernel
theorem dX1_by_25 : decode cX1_by 25 = .ok (.baload, 1) := by decide +kernel
theorem dX1_by_26 : decode cX1_by 26 = .ok (.ifCond .ne 17, 3) := by decide +kernel
theorem dX1_by_29 : decode cX1_by 29 = .ok (.aload_n 0, 1) := by decide +kernel
theorem dX1_by_30 : decode cX1_by 30 = .ok (.aload_n 1, 1) := by decide +kernel
theorem dX1_by_31 : decode cX1_by 31 = .ok (.iload_n 2, 1) := by decide +kernel
theorem dX1_by_32 : decode cX1_by 32 = .ok (.aload_n 3, 1) := by decide +kernel
theorem dX1_by_33 : decode cX1_by 33 = .ok (.invokevirtual 41, 3) := by decide +kernel
theorem dX1_by_36 : decode cX1_by 36 = .ok (.aload_n 0, 1) := by decide +kernel
theorem dX1_by_37 : decode cX1_by 37 = .ok (.getfield 26, 3) := by decide +kernel
theorem dX1_by_40 : decode cX1_by 40 = .ok (.iload_n 2, 1) := by decide +kernel
theorem dX1_by_41 : decode cX1_by 41 = .ok (.iconst 1, 1) := by decide +kernel
theorem dX1_by_42 : decode cX1_by 42 = .ok (.bastore, 1) := by decide +kernel
theorem dX1_by_43 : decode cX1_by 43 = .ok (.aload_n 3, 1) := by decide +kernel
theorem dX1_by_44 : decode cX1_by 44 = .ok (.areturn, 1) := by decide +kernel
set_option maxRecDepth 20000 in
theorem ggX1_heightBehind_X1_rest : GoodIn wsX1_heightBehind wsX1_rest := goodIn_r _ [6, 1, 7, 8, 9, 10, 11, 38, 39, 40, 41, 42, 43, 44, 45] (by decide +kernel) (by decide +kernel)
set_option maxRecDepth 20000 in
theorem gX1_heightBehind_X1_rest : GoodIn wsX1_heightBehind (wsV RX1 45 RX1 yX1_rest wsX1_rest) := goodIn_app (goodIn_of _ (by decide +kernel)) ggX1_heightBehind_X1_rest
set_option maxRecDepth 20000 in
theorem ggX1_heightBehind_X1_step : GoodIn wsX1_heightBehind wsX1_step := goodIn_r _ [15, 7, 1, 16, 17, 18, 19, 20, 21, 22, 23, 24, 25, 5, 26, 27, 28, 29, 30, 31, 32, 33, 34, 35, 36, 37, 38, 39, 40, 41, 42, 43, 44, 45] (by decide +kernel) (by decide +kernel)
set_option maxRecDepth 20000 in
theorem gX1_heightBehind_X1_step : GoodIn wsX1_heightBehind (wsV RX1 51 RX1 yX1_step wsX1_step) := goodIn_app (goodIn_of _ (by decide +kernel)) ggX1_heightBehind_X1_step
theorem dX1_heightBehind_0 : decode cX1_heightBehind 0 = .ok (.aload_n 0, 1) := by decide +kernel
theorem dX1_heightBehind_1 : decode cX1_heightBehind 1 = .ok (.invokevirtual 45, 3) := by decide +kernel
theorem dX1_heightBehind_4 : decode cX1_heightBehind 4 = .ok (.iconst 0, 1) := by decide +kernel
theorem dX1_heightBehind_5 : decode cX1_heightBehind 5 = .ok (.istore 4, 2) := by decide +kernel
theorem dX1_heightBehind_7 : decode cX1_heightBehind 7 = .ok (.iload 4, 2) := by decide +kernel
theorem dX1_heightBehind_9 : decode cX1_heightBehind 9 = .ok (.iload_n 3, 1) := by decide +kernel
theorem dX1_heightBehind_10 : decode cX1_heightBehind 10 = .ok (.if_icmp .ge 22, 3) := by decide +kernel
theorem dX1_heightBehind_13 : decode cX1_heightBehind 13 = .ok (.aload_n 0, 1) := by decide +kernel
theorem dX1_heightBehind_14 : decode cX1_heightBehind 14 = .ok (.aload_n 1, 1) := by decide +kernel
theorem dX1_heightBehind_15 : decode cX1_heightBehind 15 = .ok (.aload_n 1, 1) := by decide +kernel
theorem dX1_heightBehind_16 : decode cX1_heightBehind 16 = .ok (.getfield 48, 3) := by decide +kernel
theorem dX1_heightBehind_19 : decode cX1_heightBehind 19 = .ok (.iconst 4, 1) := by decide +kernel
theorem dX1_heightBehind_20 : decode cX1_heightBehind 20 = .ok (.iaload, 1) := by decide +kernel
theorem dX1_heightBehind_21 : decode cX1_heightBehind 21 = .ok (.iload 4, 2) := by decide +kernel
theorem dX1_heightBehind_23 : decode cX1_heightBehind 23 = .ok (.invokevirtual 51, 3) := by decide +kernel
theorem dX1_heightBehind_26 : decode cX1_heightBehind 26 = .ok (.iinc 4 1, 3) := by decide +kernel
theorem dX1_heightBehind_29 : decode cX1_heightBehind 29 = .ok (.goto (-22), 3) := by decide +kernel
theorem dX1_heightBehind_32 : decode cX1_heightBehind 32 = .ok (.aload_n 0, 1) := by decide +kernel
theorem dX1_heightBehind_33 : decode cX1_heightBehind 33 = .ok (.getfield 9, 3) := by decide +kernel
theorem dX1_heightBehind_36 : decode cX1_heightBehind 36 = .ok (.iload_n 2, 1) := by decide +kernel
theorem dX1_heightBehind_37 : decode cX1_heightBehind 37 = .ok (.iaload, 1) := by decide +kernel
theorem dX1_heightBehind_38 : decode cX1_heightBehind 38 = .ok (.ireturn, 1) := by decide +kernel
theorem dX1_isOf_0 : decode cX1_isOf 0 = .ok (.aload_n 0, 1) := by decide +kernel
theorem dX1_isOf_1 : decode cX1_isOf 1 = .ok (.getfield 55, 3) := by decide +kernel
theorem dX1_isOf_4 : decode cX1_isOf 4 = .ok (.aload_n 1, 1) := by decide +kernel
theorem dX1_isOf_5 : decode cX1_isOf 5 = .ok (.getfield 59, 3) := by decide +kernel
theorem dX1_isOf_8 : decode cX1_isOf 8 = .ok (.if_icmp .ne 18, 3) := by decide +kernel
theorem dX1_isOf_11 : decode cX1_isOf 11 = .ok (.aload_n 0, 1) := by decide +kernel
theorem dX1_isOf_12 : decode cX1_isOf 12 = .ok (.getfield 60, 3) := by decide +kernel
theorem dX1_isOf_15 : decode cX1_isOf 15 = .ok (.aload_n 1, 1) := by decide +kernel
theorem dX1_isOf_16 : decode cX1_isOf 16 = .ok (.getfield 63, 3) := by decide +kernel
theorem dX1_isOf_19 : decode cX1_isOf 19 = .ok (.if_icmp .ne 7, 3) := by decide +kernel
theorem dX1_isOf_22 : decode cX1_isOf 22 = .ok (.iconst 1, 1) := by decide +kernel
theorem dX1_isOf_23 : decode cX1_isOf 23 = .ok (.goto 4, 3) := by decide +kernel
theorem dX1_isOf_26 : decode cX1_isOf 26 = .ok (.iconst 0, 1) := by decide +kernel
theorem dX1_isOf_27 : decode cX1_isOf 27 = .ok (.istore_n 2, 1) := by decide +kernel
theorem dX1_isOf_28 : decode cX1_isOf 28 = .ok (.iconst 0, 1) := by decide +kernel
theorem dX1_isOf_29 : decode cX1_isOf 29 = .ok (.istore_n 3, 1) := by decide +kernel
theorem dX1_isOf_30 : decode cX1_isOf 30 = .ok (.iload_n 3, 1) := by decide +kernel
theorem dX1_isOf_31 : decode cX1_isOf 31 = .ok (.bipush 7, 2) := by decide +kernel
theorem dX1_isOf_33 : decode cX1_isOf 33 = .ok (.if_icmp .ge 56, 3) := by decide +kernel
theorem dX1_isOf_36 : decode cX1_isOf 36 = .ok (.iload_n 3, 1) := by decide +kernel
theorem dX1_isOf_37 : decode cX1_isOf 37 = .ok (.iconst 4, 1) := by decide +kernel
theorem dX1_isOf_38 : decode cX1_isOf 38 = .ok (.if_icmp .eq 12, 3) := by decide +kernel
theorem dX1_isOf_41 : decode cX1_isOf 41 = .ok (.iload_n 3, 1) := by decide +kernel
theorem dX1_isOf_42 : decode cX1_isOf 42 = .ok (.iconst 5, 1) := by decide +kernel
theorem dX1_isOf_43 : decode cX1_isOf 43 = .ok (.if_icmp .eq 7, 3) := by decide +kernel
theorem dX1_isOf_46 : decode cX1_isOf 46 = .ok (.iconst 1, 1) := by decide +kernel
theorem dX1_isOf_47 : decode cX1_isOf 47 = .ok (.goto 4, 3) := by decide +kernel
theorem dX1_isOf_50 : decode cX1_isOf 50 = .ok (.iconst 0, 1) := by decide +kernel
theorem dX1_isOf_51 : decode cX1_isOf 51 = .ok (.istore 4, 2) := by decide +kernel
theorem dX1_isOf_53 : decode cX1_isOf 53 = .ok (.iload_n 2, 1) := by decide +kernel
theorem dX1_isOf_54 : decode cX1_isOf 54 = .ok (.ifCond .eq 27, 3) := by decide +kernel
theorem dX1_isOf_57 : decode cX1_isOf 57 = .ok (.iload 4, 2) := by decide +kernel
theorem dX1_isOf_59 : decode cX1_isOf 59 = .ok (.ifCond .eq 18, 3) := by decide +kernel
theorem dX1_isOf_62 : decode cX1_isOf 62 = .ok (.aload_n 0, 1) := by decide +kernel
theorem dX1_isOf_63 : decode cX1_isOf 63 = .ok (.getfield 30, 3) := by decide +kernel
theorem dX1_isOf_66 : decode cX1_isOf 66 = .ok (.iload_n 3, 1) := by decide +kernel
theorem dX1_isOf_67 : decode cX1_isOf 67 = .ok (.iaload, 1) := by decide +kernel
theorem dX1_isOf_68 : decode cX1_isOf 68 = .ok (.aload_n 1, 1) := by decide +kernel
theorem dX1_isOf_69 : decode cX1_isOf 69 = .ok (.getfield 48, 3) := by decide +kernel
theorem dX1_isOf_72 : decode cX1_isOf 72 = .ok (.iload_n 3, 1) := by decide +kernel
theorem dX1_isOf_73 : decode cX1_isOf 73 = .ok (.iaload, 1) := by decide +kernel
theorem dX1_isOf_74 : decode cX1_isOf 74 = .ok (.if_icmp .ne 7, 3) := by decide +kernel
theorem dX1_isOf_77 : decode cX1_isOf 77 = .ok (.iconst 1, 1) := by decide +kernel
theorem dX1_isOf_78 : decode cX1_isOf 78 = .ok (.goto 4, 3) := by decide +kernel
theorem dX1_isOf_81 : decode cX1_isOf 81 = .ok (.iconst 0, 1) := by decide +kernel
theorem dX1_isOf_82 : decode cX1_isOf 82 = .ok (.istore_n 2, 1) := by decide +kernel
theorem dX1_isOf_83 : decode cX1_isOf 83 = .ok (.iinc 3 1, 3) := by decide +kernel
theorem dX1_isOf_86 : decode cX1_isOf 86 = .ok (.goto (-56), 3) := by decide +kernel
theorem dX1_isOf_89 : decode cX1_isOf 89 = .ok (.iload_n 2, 1) := by decide +kernel
theorem dX1_isOf_90 : decode cX1_isOf 90 = .ok (.ireturn, 1) := by decide +kernel
theorem dX1_become_0 : decode cX1_become 0 = .ok (.aload_n 0, 1) := by decide +kernel
theorem dX1_become_1 : decode cX1_become 1 = .ok (.aload_n 1, 1) := by decide +kernel
theorem dX1_become_2 : decode cX1_become 2 = .ok (.getfield 59, 3) := by decide +kernel
theorem dX1_become_5 : decode cX1_become 5 = .ok (.putfield 55, 3) := by decide +kernel
theorem dX1_become_8 : decode cX1_become 8 = .ok (.aload_n 0, 1) := by decide +kernel
theorem dX1_become_9 : decode cX1_become 9 = .ok (.aload_n 1, 1) := by decide +kernel
theorem dX1_become_10 : decode cX1_become 10 = .ok (.getfield 63, 3) := by decide +kernel
theorem dX1_become_13 : decode cX1_become 13 = .ok (.putfield 60, 3) := by decide +kernel
theorem dX1_become_16 : decode cX1_become 16 = .ok (.aload_n 1, 1) := by decide +kernel
theorem dX1_become_17 : decode cX1_become 17 = .ok (.getfield 48, 3) := by decide +kernel
theorem dX1_become_20 : decode cX1_become 20 = .ok (.iconst 0, 1) := by decide +kernel
theorem dX1_become_21 : decode cX1_become 21 = .ok (.aload_n 0, 1) := by decide +kernel
theorem dX1_become_22 : decode cX1_become 22 = .ok (.getfield 30, 3) := by decide +kernel
theorem dX1_become_25 : decode cX1_become 25 = .ok (.iconst 0, 1) := by decide +kernel
theorem dX1_become_26 : decode cX1_become 26 = .ok (.bipush 7, 2) := by decide +kernel
theorem dX1_become_28 : decode cX1_become 28 = .ok (.invokestatic 64, 3) := by decide +kernel
theorem dX1_become_31 : decode cX1_become 31 = .ok (.iconst 0, 1) := by decide +kernel
theorem dX1_become_32 : decode cX1_become 32 = .ok (.istore_n 2, 1) := by decide +kernel
theorem dX1_become_33 : decode cX1_become 33 = .ok (.iload_n 2, 1) := by decide +kernel
theorem dX1_become_34 : decode cX1_become 34 = .ok (.bipush 20, 2) := by decide +kernel
theorem dX1_become_36 : decode cX1_become 36 = .ok (.if_icmp .gt 16, 3) := by decide +kernel
theorem dX1_become_39 : decode cX1_become 39 = .ok (.aload_n 0, 1) := by decide +kernel
theorem dX1_become_40 : decode cX1_become 40 = .ok (.getfield 26, 3) := by decide +kernel
theorem dX1_become_43 : decode cX1_become 43 = .ok (.iload_n 2, 1) := by decide +kernel
theorem dX1_become_44 : decode cX1_become 44 = .ok (.iconst 0, 1) := by decide +kernel
theorem dX1_become_45 : decode cX1_become 45 = .ok (.bastore, 1) := by decide +kernel
theorem dX1_become_46 : decode cX1_become 46 = .ok (.iinc 2 1, 3) := by decide +kernel
theorem dX1_become_49 : decode cX1_become 49 = .ok (.goto (-16), 3) := by decide +kernel
theorem dX1_become_52 : decode cX1_become 52 = .ok (.return_, 1) := by decide +kernel
set_option maxRecDepth 20000 in
theorem ggX1_workOut_X1_rest : GoodIn wsX1_workOut wsX1_rest := goodIn_r _ [6, 7, 8, 9, 10, 11, 12, 38, 39, 40, 41, 42, 43, 44, 45] (by decide +kernel) (by decide +kernel)
set_option maxRecDepth 20000 in
theorem gX1_workOut_X1_rest : GoodIn wsX1_workOut (wsV RX1 45 RX1 yX1_rest wsX1_rest) := goodIn_app (goodIn_of _ (by decide +kernel)) ggX1_workOut_X1_rest
set_option maxRecDepth 20000 in
theorem ggX1_workOut_J7_fill_53178 : GoodIn wsX1_workOut wsJ7_fill_53178 := goodIn_r _ [12] (by decide +kernel) (by decide +kernel)
set_option maxRecDepth 20000 in
theorem gX1_workOut_J7_fill_53178 : GoodIn wsX1_workOut (va_wsS RX1 70 yJ7_fill_53178 wsJ7_fill_53178) := goodIn_app (goodIn_of _ (by decide +kernel)) ggX1_workOut_J7_fill_53178
set_option maxRecDepth 20000 in
theorem ggX1_workOut_X1_step : GoodIn wsX1_workOut wsX1_step := goodIn_r _ [16, 8, 7, 17, 18, 19, 20, 21, 22, 23, 24, 25, 26, 5, 27, 28, 29, 30, 31, 32, 33, 46, 47, 48, 49, 50, 38, 39, 40, 41, 42, 43, 44, 45] (by decide +kernel) (by decide +kernel)
set_option maxRecDepth 20000 in
theorem gX1_workOut_X1_step : GoodIn wsX1_workOut (wsV RX1 51 RX1 yX1_step wsX1_step) := goodIn_app (goodIn_of _ (by decide +kernel)) ggX1_workOut_X1_step
set_option maxRecDepth 20000 in
theorem ggX1_workOut_X2_cells : GoodIn wsX1_workOut wsX2_cells := goodIn_r _ [31, 32, 33, 46, 47, 48, 49, 50] (by decide +kernel) (by decide +kernel)
set_option maxRecDepth 20000 in
theorem gX1_workOut_X2_cells_n76 : GoodIn wsX1_workOut (wsX2_cells) := ggX1_workOut_X2_cells
set_option maxRecDepth 20000 in
theorem ggX1_workOut_X1_noteHeights : GoodIn wsX1_workOut wsX1_noteHeights := goodIn_r _ [37, 7, 21, 22, 19, 23, 1, 17, 18, 20, 38, 39, 40, 41, 42, 43, 44, 45] (by decide +kernel) (by decide +kernel)
set_option maxRecDepth 20000 in
theorem gX1_workOut_X1_noteHeights : GoodIn wsX1_workOut (wsV RX1 80 RX1 yX1_noteHeights wsX1_noteHeights) := goodIn_app (goodIn_of _ (by decide +kernel)) ggX1_workOut_X1_noteHeights
theorem dX1_workOut_0 : decode cX1_workOut 0 = .ok (.aload_n 0, 1) := by decide +kernel
theorem dX1_workOut_1 : decode cX1_workOut 1 = .ok (.invokevirtual 45, 3) := by decide +kernel
theorem dX1_workOut_4 : decode cX1_workOut 4 = .ok (.aload_n 3, 1) := by decide +kernel
theorem dX1_workOut_5 : decode cX1_workOut 5 = .ok (.sipush (-9999), 3) := by decide +kernel
theorem dX1_workOut_8 : decode cX1_workOut 8 = .ok (.invokestatic 70, 3) := by decide +kernel
theorem dX1_workOut_11 : decode cX1_workOut 11 = .ok (.aload_n 0, 1) := by decide +kernel
theorem dX1_workOut_12 : decode cX1_workOut 12 = .ok (.getfield 18, 3) := by decide +kernel
theorem dX1_workOut_15 : decode cX1_workOut 15 = .ok (.sipush 9999, 3) := by decide +kernel
theorem dX1_workOut_18 : decode cX1_workOut 18 = .ok (.invokestatic 70, 3) := by decide +kernel
theorem dX1_workOut_21 : decode cX1_workOut 21 = .ok (.iconst 0, 1) := by decide +kernel
theorem dX1_workOut_22 : decode cX1_workOut 22 = .ok (.istore 4, 2) := by decide +kernel
theorem dX1_workOut_24 : decode cX1_workOut 24 = .ok (.iload 4, 2) := by decide +kernel
theorem dX1_workOut_26 : decode cX1_workOut 26 = .ok (.bipush 30, 2) := by decide +kernel
theorem dX1_workOut_28 : decode cX1_workOut 28 = .ok (.iload_n 2, 1) := by decide +kernel
theorem dX1_workOut_29 : decode cX1_workOut 29 = .ok (.iadd, 1) := by decide +kernel
theorem dX1_workOut_30 : decode cX1_workOut 30 = .ok (.if_icmp .ge 33, 3) := by decide +kernel
theorem dX1_workOut_33 : decode cX1_workOut 33 = .ok (.aload_n 0, 1) := by decide +kernel
theorem dX1_workOut_34 : decode cX1_workOut 34 = .ok (.aload_n 1, 1) := by decide +kernel
theorem dX1_workOut_35 : decode cX1_workOut 35 = .ok (.iload_n 2, 1) := by decide +kernel
theorem dX1_workOut_36 : decode cX1_workOut 36 = .ok (.iload 4, 2) := by decide +kernel
theorem dX1_workOut_38 : decode cX1_workOut 38 = .ok (.invokevirtual 51, 3) := by decide +kernel
theorem dX1_workOut_41 : decode cX1_workOut 41 = .ok (.iload 4, 2) := by decide +kernel
theorem dX1_workOut_43 : decode cX1_workOut 43 = .ok (.bipush 30, 2) := by decide +kernel
theorem dX1_workOut_45 : decode cX1_workOut 45 = .ok (.if_icmp .lt 12, 3) := by decide +kernel
theorem dX1_workOut_48 : decode cX1_workOut 48 = .ok (.aload_n 0, 1) := by decide +kernel
theorem dX1_workOut_49 : decode cX1_workOut 49 = .ok (.aload_n 1, 1) := by decide +kernel
theorem dX1_workOut_50 : decode cX1_workOut 50 = .ok (.invokevirtual 76, 3) := by decide +kernel
theorem dX1_workOut_53 : decode cX1_workOut 53 = .ok (.aload_n 3, 1) := by decide +kernel
theorem dX1_workOut_54 : decode cX1_workOut 54 = .ok (.invokevirtual 80, 3) := by decide +kernel
theorem dX1_workOut_57 : decode cX1_workOut 57 = .ok (.iinc 4 1, 3) := by decide +kernel
theorem dX1_workOut_60 : decode cX1_workOut 60 = .ok (.goto (-36), 3) := by decide +kernel
theorem dX1_workOut_63 : decode cX1_workOut 63 = .ok (.iconst 0, 1) := by decide +kernel
theorem dX1_workOut_64 : decode cX1_workOut 64 = .ok (.istore 4, 2) := by decide +kernel
theorem dX1_workOut_66 : decode cX1_workOut 66 = .ok (.iload 4, 2) := by decide +kernel
theorem dX1_workOut_68 : decode cX1_workOut 68 = .ok (.aload_n 1, 1) := by decide +kernel
theorem dX1_workOut_69 : decode cX1_workOut 69 = .ok (.invokevirtual 76, 3) := by decide +kernel
theorem dX1_workOut_72 : decode cX1_workOut 72 = .ok (.if_icmp .ge 23, 3) := by decide +kernel
theorem dX1_workOut_75 : decode cX1_workOut 75 = .ok (.aload_n 3, 1) := by decide +kernel
theorem dX1_workOut_76 : decode cX1_workOut 76 = .ok (.iload 4, 2) := by decide +kernel
theorem dX1_workOut_78 : decode cX1_workOut 78 = .ok (.dup2, 1) := by decide +kernel
theorem dX1_workOut_79 : decode cX1_workOut 79 = .ok (.iaload, 1) := by decide +kernel
theorem dX1_workOut_80 : decode cX1_workOut 80 = .ok (.aload_n 0, 1) := by decide +kernel
theorem dX1_workOut_81 : decode cX1_workOut 81 = .ok (.getfield 18, 3) := by decide +kernel
theorem dX1_workOut_84 : decode cX1_workOut 84 = .ok (.iload 4, 2) := by decide +kernel
theorem dX1_workOut_86 : decode cX1_workOut 86 = .ok (.iaload, 1) := by decide +kernel
theorem dX1_workOut_87 : decode cX1_workOut 87 = .ok (.isub, 1) := by decide +kernel
theorem dX1_workOut_88 : decode cX1_workOut 88 = .ok (.iastore, 1) := by decide +kernel
theorem dX1_workOut_89 : decode cX1_workOut 89 = .ok (.iinc 4 1, 3) := by decide +kernel
theorem dX1_workOut_92 : decode cX1_workOut 92 = .ok (.goto (-26), 3) := by decide +kernel
theorem dX1_workOut_95 : decode cX1_workOut 95 = .ok (.return_, 1) := by decide +kernel
theorem dX1_noteHeights_0 : decode cX1_noteHeights 0 = .ok (.iconst 0, 1) := by decide +kernel
theorem dX1_noteHeights_1 : decode cX1_noteHeights 1 = .ok (.istore_n 3, 1) := by decide +kernel
theorem dX1_noteHeights_2 : decode cX1_noteHeights 2 = .ok (.iload_n 3, 1) := by decide +kernel
theorem dX1_noteHeights_3 : decode cX1_noteHeights 3 = .ok (.iload_n 1, 1) := by decide +kernel
theorem dX1_noteHeights_4 : decode cX1_noteHeights 4 = .ok (.if_icmp .ge 45, 3) := by decide +kernel
theorem dX1_noteHeights_7 : decode cX1_noteHeights 7 = .ok (.aload_n 2, 1) := by decide +kernel
theorem dX1_noteHeights_8 : decode cX1_noteHeights 8 = .ok (.iload_n 3, 1) := by decide +kernel
theorem dX1_noteHeights_9 : decode cX1_noteHeights 9 = .ok (.aload_n 2, 1) := by decide +kernel
theorem dX1_noteHeights_10 : decode cX1_noteHeights 10 = .ok (.iload_n 3, 1) := by decide +kernel
theorem dX1_noteHeights_11 : decode cX1_noteHeights 11 = .ok (.iaload, 1) := by decide +kernel
theorem dX1_noteHeights_12 : decode cX1_noteHeights 12 = .ok (.aload_n 0, 1) := by decide +kernel
theorem dX1_noteHeights_13 : decode cX1_noteHeights 13 = .ok (.getfield 9, 3) := by decide +kernel
theorem dX1_noteHeights_16 : decode cX1_noteHeights 16 = .ok (.iload_n 3, 1) := by decide +kernel
theorem dX1_noteHeights_17 : decode cX1_noteHeights 17 = .ok (.iaload, 1) := by decide +kernel
theorem dX1_noteHeights_18 : decode cX1_noteHeights 18 = .ok (.invokestatic 84, 3) := by decide +kernel
theorem dX1_noteHeights_21 : decode cX1_noteHeights 21 = .ok (.iastore, 1) := by decide +kernel
theorem dX1_noteHeights_22 : decode cX1_noteHeights 22 = .ok (.aload_n 0, 1) := by decide +kernel
theorem dX1_noteHeights_23 : decode cX1_noteHeights 23 = .ok (.getfield 18, 3) := by decide +kernel
theorem dX1_noteHeights_26 : decode cX1_noteHeights 26 = .ok (.iload_n 3, 1) := by decide +kernel
theorem dX1_noteHeights_27 : decode cX1_noteHeights 27 = .ok (.aload_n 0, 1) := by decide +kernel
theorem dX1_noteHeights_28 : decode cX1_noteHeights 28 = .ok (.getfield 18, 3) := by decide +kernel
theorem dX1_noteHeights_31 : decode cX1_noteHeights 31 = .ok (.iload_n 3, 1) := by decide +kernel
theorem dX1_noteHeights_32 : decode cX1_noteHeights 32 = .ok (.iaload, 1) := by decide +kernel
theorem dX1_noteHeights_33 : decode cX1_noteHeights 33 = .ok (.aload_n 0, 1) := by decide +kernel
theorem dX1_noteHeights_34 : decode cX1_noteHeights 34 = .ok (.getfield 9, 3) := by decide +kernel
theorem dX1_noteHeights_37 : decode cX1_noteHeights 37 = .ok (.iload_n 3, 1) := by decide +kernel
theorem dX1_noteHeights_38 : decode cX1_noteHeights 38 = .ok (.iaload, 1) := by decide +kernel
theorem dX1_noteHeights_39 : decode cX1_noteHeights 39 = .ok (.invokestatic 90, 3) := by decide +kernel
theorem dX1_noteHeights_42 : decode cX1_noteHeights 42 = .ok (.iastore, 1) := by decide +kernel
theorem dX1_noteHeights_43 : decode cX1_noteHeights 43 = .ok (.iinc 3 1, 3) := by decide +kernel
theorem dX1_noteHeights_46 : decode cX1_noteHeights 46 = .ok (.goto (-44), 3) := by decide +kernel
theorem dX1_noteHeights_49 : decode cX1_noteHeights 49 = .ok (.return_, 1) := by decide +kernel
set_option maxRecDepth 20000 in
theorem ggX1_rest_J7_fill_53178 : GoodIn wsX1_rest wsJ7_fill_53178 := goodIn_r _ [6] (by decide +kernel) (by decide +kernel)
set_option maxRecDepth 20000 in
theorem gX1_rest_J7_fill_53178 : GoodIn wsX1_rest (va_wsS RX1 70 yJ7_fill_53178 wsJ7_fill_53178) := goodIn_app (goodIn_of _ (by decide +kernel)) ggX1_rest_J7_fill_53178
theorem dX1_rest_0 : decode cX1_rest 0 = .ok (.aload_n 0, 1) := by decide +kernel
theorem dX1_rest_1 : decode cX1_rest 1 = .ok (.getfield 9, 3) := by decide +kernel
theorem dX1_rest_4 : decode cX1_rest 4 = .ok (.iconst 0, 1) := by decide +kernel
theorem dX1_rest_5 : decode cX1_rest 5 = .ok (.invokestatic 70, 3) := by decide +kernel
theorem dX1_rest_8 : decode cX1_rest 8 = .ok (.aload_n 0, 1) := by decide +kernel
theorem dX1_rest_9 : decode cX1_rest 9 = .ok (.getfield 15, 3) := by decide +kernel
theorem dX1_rest_12 : decode cX1_rest 12 = .ok (.iconst 0, 1) := by decide +kernel
theorem dX1_rest_13 : decode cX1_rest 13 = .ok (.invokestatic 70, 3) := by decide +kernel
theorem dX1_rest_16 : decode cX1_rest 16 = .ok (.return_, 1) := by decide +kernel
set_option maxRecDepth 20000 in
theorem ggX1_step_X1_pull : GoodIn wsX1_step wsX1_pull := goodIn_r _ [14, 2, 21, 22, 23, 24, 25, 26, 27, 28, 29, 30, 31, 32, 33] (by decide +kernel) (by decide +kernel)
set_option maxRecDepth 20000 in
theorem gX1_step_X1_pull : GoodIn wsX1_step (wsV RX1 93 RX1 yX1_pull wsX1_pull) := goodIn_app (goodIn_of _ (by decide +kernel)) ggX1_step_X1_pull
set_option maxRecDepth 20000 in
theorem ggX1_step_X2_cells : GoodIn wsX1_step wsX2_cells := goodIn_r _ [18, 19, 20, 21, 22, 23, 24, 25] (by decide +kernel) (by decide +kernel)
set_option maxRecDepth 20000 in
theorem gX1_step_X2_cells_n76 : GoodIn wsX1_step (wsX2_cells) := ggX1_step_X2_cells
theorem dX1_step_0 : decode cX1_step 0 = .ok (.aload_n 1, 1) := by decide +kernel
theorem dX1_step_1 : decode cX1_step 1 = .ok (.getfield 48, 3) := by decide +kernel
theorem dX1_step_4 : decode cX1_step 4 = .ok (.iconst 1, 1) := by decide +kernel
theorem dX1_step_5 : decode cX1_step 5 = .ok (.iaload, 1) := by decide +kernel
theorem dX1_step_6 : decode cX1_step 6 = .ok (.istore 4, 2) := by decide +kernel
theorem dX1_step_8 : decode cX1_step 8 = .ok (.iconst 0, 1) := by decide +kernel
theorem dX1_step_9 : decode cX1_step 9 = .ok (.istore 5, 2) := by decide +kernel
theorem dX1_step_11 : decode cX1_step 11 = .ok (.iload 5, 2) := by decide +kernel
theorem dX1_step_13 : decode cX1_step 13 = .ok (.aload_n 1, 1) := by decide +kernel
theorem dX1_step_14 : decode cX1_step 14 = .ok (.getfield 63, 3) := by decide +kernel
theorem dX1_step_17 : decode cX1_step 17 = .ok (.if_icmp .ge 60, 3) := by decide +kernel
theorem dX1_step_20 : decode cX1_step 20 = .ok (.iconst 0, 1) := by decide +kernel
theorem dX1_step_21 : decode cX1_step 21 = .ok (.istore 6, 2) := by decide +kernel
theorem dX1_step_23 : decode cX1_step 23 = .ok (.iload 6, 2) := by decide +kernel
theorem dX1_step_25 : decode cX1_step 25 = .ok (.aload_n 1, 1) := by decide +kernel
theorem dX1_step_26 : decode cX1_step 26 = .ok (.getfield 59, 3) := by decide +kernel
theorem dX1_step_29 : decode cX1_step 29 = .ok (.if_icmp .ge 42, 3) := by decide +kernel
theorem dX1_step_32 : decode cX1_step 32 = .ok (.aload_n 0, 1) := by decide +kernel
theorem dX1_step_33 : decode cX1_step 33 = .ok (.getfield 15, 3) := by decide +kernel
theorem dX1_step_36 : decode cX1_step 36 = .ok (.aload_n 1, 1) := by decide +kernel
theorem dX1_step_37 : decode cX1_step 37 = .ok (.getfield 59, 3) := by decide +kernel
theorem dX1_step_40 : decode cX1_step 40 = .ok (.iload 5, 2) := by decide +kernel
theorem dX1_step_42 : decode cX1_step 42 = .ok (.imul, 1) := by decide +kernel
theorem dX1_step_43 : decode cX1_step 43 = .ok (.iload 6, 2) := by decide +kernel
theorem dX1_step_45 : decode cX1_step 45 = .ok (.iadd, 1) := by decide +kernel
theorem dX1_step_46 : decode cX1_step 46 = .ok (.dup2, 1) := by decide +kernel
theorem dX1_step_47 : decode cX1_step 47 = .ok (.iaload, 1) := by decide +kernel
theorem dX1_step_48 : decode cX1_step 48 = .ok (.iload 4, 2) := by decide +kernel
theorem dX1_step_50 : decode cX1_step 50 = .ok (.aload_n 0, 1) := by decide +kernel
theorem dX1_step_51 : decode cX1_step 51 = .ok (.aload_n 1, 1) := by decide +kernel
theorem dX1_step_52 : decode cX1_step 52 = .ok (.iload 6, 2) := by decide +kernel
theorem dX1_step_54 : decode cX1_step 54 = .ok (.iload 5, 2) := by decide +kernel
theorem dX1_step_56 : decode cX1_step 56 = .ok (.invokevirtual 93, 3) := by decide +kernel
theorem dX1_step_59 : decode cX1_step 59 = .ok (.imul, 1) := by decide +kernel
theorem dX1_step_60 : decode cX1_step 60 = .ok (.bipush 16, 2) := by decide +kernel
theorem dX1_step_62 : decode cX1_step 62 = .ok (.idiv, 1) := by decide +kernel
theorem dX1_step_63 : decode cX1_step 63 = .ok (.iadd, 1) := by decide +kernel
theorem dX1_step_64 : decode cX1_step 64 = .ok (.iastore, 1) := by decide +kernel
theorem dX1_step_65 : decode cX1_step 65 = .ok (.iinc 6 1, 3) := by decide +kernel
theorem dX1_step_68 : decode cX1_step 68 = .ok (.goto (-45), 3) := by decide +kernel
theorem dX1_step_71 : decode cX1_step 71 = .ok (.iinc 5 1, 3) := by decide +kernel
theorem dX1_step_74 : decode cX1_step 74 = .ok (.goto (-63), 3) := by decide +kernel
theorem dX1_step_77 : decode cX1_step 77 = .ok (.aload_n 1, 1) := by decide +kernel
theorem dX1_step_78 : decode cX1_step 78 = .ok (.getfield 48, 3) := by decide +kernel
theorem dX1_step_81 : decode cX1_step 81 = .ok (.iconst 3, 1) := by decide +kernel
theorem dX1_step_82 : decode cX1_step 82 = .ok (.iaload, 1) := by decide +kernel
theorem dX1_step_83 : decode cX1_step 83 = .ok (.istore 5, 2) := by decide +kernel
theorem dX1_step_85 : decode cX1_step 85 = .ok (.aload_n 0, 1) := by decide +kernel
theorem dX1_step_86 : decode cX1_step 86 = .ok (.getfield 15, 3) := by decide +kernel
theorem dX1_step_89 : decode cX1_step 89 = .ok (.aload_n 1, 1) := by decide +kernel
theorem dX1_step_90 : decode cX1_step 90 = .ok (.getfield 48, 3) := by decide +kernel
theorem dX1_step_93 : decode cX1_step 93 = .ok (.bipush 6, 2) := by decide +kernel
theorem dX1_step_95 : decode cX1_step 95 = .ok (.iaload, 1) := by decide +kernel
theorem dX1_step_96 : decode cX1_step 96 = .ok (.dup2, 1) := by decide +kernel
theorem dX1_step_97 : decode cX1_step 97 = .ok (.iaload, 1) := by decide +kernel
theorem dX1_step_98 : decode cX1_step 98 = .ok (.iload_n 3, 1) := by decide +kernel
theorem dX1_step_99 : decode cX1_step 99 = .ok (.iload_n 2, 1) := by decide +kernel
theorem dX1_step_100 : decode cX1_step 100 = .ok (.irem, 1) := by decide +kernel
theorem dX1_step_101 : decode cX1_step 101 = .ok (.iload_n 2, 1) := by decide +kernel
theorem dX1_step_102 : decode cX1_step 102 = .ok (.iconst 2, 1) := by decide +kernel
theorem dX1_step_103 : decode cX1_step 103 = .ok (.idiv, 1) := by decide +kernel
theorem dX1_step_104 : decode cX1_step 104 = .ok (.if_icmp .ge 8, 3) := by decide +kernel
theorem dX1_step_107 : decode cX1_step 107 = .ok (.iload 5, 2) := by decide +kernel
theorem dX1_step_109 : decode cX1_step 109 = .ok (.goto 6, 3) := by decide +kernel
theorem dX1_step_112 : decode cX1_step 112 = .ok (.iload 5, 2) := by decide +kernel
theorem dX1_step_114 : decode cX1_step 114 = .ok (.ineg, 1) := by decide +kernel
theorem dX1_step_115 : decode cX1_step 115 = .ok (.iadd, 1) := by decide +kernel
theorem dX1_step_116 : decode cX1_step 116 = .ok (.iastore, 1) := by decide +kernel
theorem dX1_step_117 : decode cX1_step 117 = .ok (.aload_n 1, 1) := by decide +kernel
theorem dX1_step_118 : decode cX1_step 118 = .ok (.getfield 48, 3) := by decide +kernel
theorem dX1_step_121 : decode cX1_step 121 = .ok (.iconst 2, 1) := by decide +kernel
theorem dX1_step_122 : decode cX1_step 122 = .ok (.iaload, 1) := by decide +kernel
theorem dX1_step_123 : decode cX1_step 123 = .ok (.istore 6, 2) := by decide +kernel
theorem dX1_step_125 : decode cX1_step 125 = .ok (.iconst 0, 1) := by decide +kernel
theorem dX1_step_126 : decode cX1_step 126 = .ok (.istore 7, 2) := by decide +kernel
theorem dX1_step_128 : decode cX1_step 128 = .ok (.iload 7, 2) := by decide +kernel
theorem dX1_step_130 : decode cX1_step 130 = .ok (.aload_n 1, 1) := by decide +kernel
theorem dX1_step_131 : decode cX1_step 131 = .ok (.invokevirtual 76, 3) := by decide +kernel
theorem dX1_step_134 : decode cX1_step 134 = .ok (.if_icmp .ge 63, 3) := by decide +kernel
theorem dX1_step_137 : decode cX1_step 137 = .ok (.aload_n 0, 1) := by decide +kernel
theorem dX1_step_138 : decode cX1_step 138 = .ok (.getfield 15, 3) := by decide +kernel
theorem dX1_step_141 : decode cX1_step 141 = .ok (.iload 7, 2) := by decide +kernel
theorem dX1_step_143 : decode cX1_step 143 = .ok (.dup2, 1) := by decide +kernel
theorem dX1_step_144 : decode cX1_step 144 = .ok (.iaload, 1) := by decide +kernel
theorem dX1_step_145 : decode cX1_step 145 = .ok (.aload_n 0, 1) := by decide +kernel
theorem dX1_step_146 : decode cX1_step 146 = .ok (.getfield 15, 3) := by decide +kernel
theorem dX1_step_149 : decode cX1_step 149 = .ok (.iload 7, 2) := by decide +kernel
theorem dX1_step_151 : decode cX1_step 151 = .ok (.iaload, 1) := by decide +kernel
theorem dX1_step_152 : decode cX1_step 152 = .ok (.iload 6, 2) := by decide +kernel
theorem dX1_step_154 : decode cX1_step 154 = .ok (.idiv, 1) := by decide +kernel
theorem dX1_step_155 : decode cX1_step 155 = .ok (.isub, 1) := by decide +kernel
theorem dX1_step_156 : decode cX1_step 156 = .ok (.iastore, 1) := by decide +kernel
theorem dX1_step_157 : decode cX1_step 157 = .ok (.aload_n 0, 1) := by decide +kernel
theorem dX1_step_158 : decode cX1_step 158 = .ok (.getfield 9, 3) := by decide +kernel
theorem dX1_step_161 : decode cX1_step 161 = .ok (.iload 7, 2) := by decide +kernel
theorem dX1_step_163 : decode cX1_step 163 = .ok (.sipush (-9999), 3) := by decide +kernel
theorem dX1_step_166 : decode cX1_step 166 = .ok (.sipush 9999, 3) := by decide +kernel
theorem dX1_step_169 : decode cX1_step 169 = .ok (.aload_n 0, 1) := by decide +kernel
theorem dX1_step_170 : decode cX1_step 170 = .ok (.getfield 9, 3) := by decide +kernel
theorem dX1_step_173 : decode cX1_step 173 = .ok (.iload 7, 2) := by decide +kernel
theorem dX1_step_175 : decode cX1_step 175 = .ok (.iaload, 1) := by decide +kernel
theorem dX1_step_176 : decode cX1_step 176 = .ok (.aload_n 0, 1) := by decide +kernel
theorem dX1_step_177 : decode cX1_step 177 = .ok (.getfield 15, 3) := by decide +kernel
theorem dX1_step_180 : decode cX1_step 180 = .ok (.iload 7, 2) := by decide +kernel
theorem dX1_step_182 : decode cX1_step 182 = .ok (.iaload, 1) := by decide +kernel
theorem dX1_step_183 : decode cX1_step 183 = .ok (.iadd, 1) := by decide +kernel
theorem dX1_step_184 : decode cX1_step 184 = .ok (.invokestatic 90, 3) := by decide +kernel
theorem dX1_step_187 : decode cX1_step 187 = .ok (.invokestatic 84, 3) := by decide +kernel
theorem dX1_step_190 : decode cX1_step 190 = .ok (.iastore, 1) := by decide +kernel
theorem dX1_step_191 : decode cX1_step 191 = .ok (.iinc 7 1, 3) := by decide +kernel
theorem dX1_step_194 : decode cX1_step 194 = .ok (.goto (-66), 3) := by decide +kernel
theorem dX1_step_197 : decode cX1_step 197 = .ok (.return_, 1) := by decide +kernel
theorem dX1_pull_0 : decode cX1_pull 0 = .ok (.aload_n 1, 1) := by decide +kernel
theorem dX1_pull_1 : decode cX1_pull 1 = .ok (.getfield 59, 3) := by decide +kernel
theorem dX1_pull_4 : decode cX1_pull 4 = .ok (.istore 4, 2) := by decide +kernel
theorem dX1_pull_6 : decode cX1_pull 6 = .ok (.iload 4, 2) := by decide +kernel
theorem dX1_pull_8 : decode cX1_pull 8 = .ok (.iload_n 3, 1) := by decide +kernel
theorem dX1_pull_9 : decode cX1_pull 9 = .ok (.imul, 1) := by decide +kernel
theorem dX1_pull_10 : decode cX1_pull 10 = .ok (.iload_n 2, 1) := by decide +kernel
theorem dX1_pull_11 : decode cX1_pull 11 = .ok (.iadd, 1) := by decide +kernel
theorem dX1_pull_12 : decode cX1_pull 12 = .ok (.istore 5, 2) := by decide +kernel
theorem dX1_pull_14 : decode cX1_pull 14 = .ok (.aload_n 0, 1) := by decide +kernel
theorem dX1_pull_15 : decode cX1_pull 15 = .ok (.getfield 9, 3) := by decide +kernel
theorem dX1_pull_18 : decode cX1_pull 18 = .ok (.iload 5, 2) := by decide +kernel
theorem dX1_pull_20 : decode cX1_pull 20 = .ok (.iaload, 1) := by decide +kernel
theorem dX1_pull_21 : decode cX1_pull 21 = .ok (.istore 6, 2) := by decide +kernel
theorem dX1_pull_23 : decode cX1_pull 23 = .ok (.aload_n 1, 1) := by decide +kernel
theorem dX1_pull_24 : decode cX1_pull 24 = .ok (.getfield 48, 3) := by decide +kernel
theorem dX1_pull_27 : decode cX1_pull 27 = .ok (.iconst 0, 1) := by decide +kernel
theorem dX1_pull_28 : decode cX1_pull 28 = .ok (.iaload, 1) := by decide +kernel
theorem dX1_pull_29 : decode cX1_pull 29 = .ok (.iconst 1, 1) := by decide +kernel
theorem dX1_pull_30 : decode cX1_pull 30 = .ok (.if_icmp .ne 8, 3) := by decide +kernel
theorem dX1_pull_33 : decode cX1_pull 33 = .ok (.iload 6, 2) := by decide +kernel
theorem dX1_pull_35 : decode cX1_pull 35 = .ok (.goto 4, 3) := by decide +kernel
theorem dX1_pull_38 : decode cX1_pull 38 = .ok (.iconst 0, 1) := by decide +kernel
theorem dX1_pull_39 : decode cX1_pull 39 = .ok (.istore 7, 2) := by decide +kernel
theorem dX1_pull_41 : decode cX1_pull 41 = .ok (.iload_n 3, 1) := by decide +kernel
theorem dX1_pull_42 : decode cX1_pull 42 = .ok (.ifCond .le 16, 3) := by decide +kernel
theorem dX1_pull_45 : decode cX1_pull 45 = .ok (.aload_n 0, 1) := by decide +kernel
theorem dX1_pull_46 : decode cX1_pull 46 = .ok (.getfield 9, 3) := by decide +kernel
theorem dX1_pull_49 : decode cX1_pull 49 = .ok (.iload 5, 2) := by decide +kernel
theorem dX1_pull_51 : decode cX1_pull 51 = .ok (.iload 4, 2) := by decide +kernel
theorem dX1_pull_53 : decode cX1_pull 53 = .ok (.isub, 1) := by decide +kernel
theorem dX1_pull_54 : decode cX1_pull 54 = .ok (.iaload, 1) := by decide +kernel
theorem dX1_pull_55 : decode cX1_pull 55 = .ok (.goto 5, 3) := by decide +kernel
theorem dX1_pull_58 : decode cX1_pull 58 = .ok (.iload 7, 2) := by decide +kernel
theorem dX1_pull_60 : decode cX1_pull 60 = .ok (.istore 8, 2) := by decide +kernel
theorem dX1_pull_62 : decode cX1_pull 62 = .ok (.iload_n 2, 1) := by decide +kernel
theorem dX1_pull_63 : decode cX1_pull 63 = .ok (.iload 4, 2) := by decide +kernel
theorem dX1_pull_65 : decode cX1_pull 65 = .ok (.iconst 1, 1) := by decide +kernel
theorem dX1_pull_66 : decode cX1_pull 66 = .ok (.isub, 1) := by decide +kernel
theorem dX1_pull_67 : decode cX1_pull 67 = .ok (.if_icmp .ge 15, 3) := by decide +kernel
theorem dX1_pull_70 : decode cX1_pull 70 = .ok (.aload_n 0, 1) := by decide +kernel
theorem dX1_pull_71 : decode cX1_pull 71 = .ok (.getfield 9, 3) := by decide +kernel
theorem dX1_pull_74 : decode cX1_pull 74 = .ok (.iload 5, 2) := by decide +kernel
theorem dX1_pull_76 : decode cX1_pull 76 = .ok (.iconst 1, 1) := by decide +kernel
theorem dX1_pull_77 : decode cX1_pull 77 = .ok (.iadd, 1) := by decide +kernel
theorem dX1_pull_78 : decode cX1_pull 78 = .ok (.iaload, 1) := by decide +kernel
theorem dX1_pull_79 : decode cX1_pull 79 = .ok (.goto 5, 3) := by decide +kernel
theorem dX1_pull_82 : decode cX1_pull 82 = .ok (.iload 7, 2) := by decide +kernel
theorem dX1_pull_84 : decode cX1_pull 84 = .ok (.istore 9, 2) := by decide +kernel
theorem dX1_pull_86 : decode cX1_pull 86 = .ok (.iload_n 3, 1) := by decide +kernel
theorem dX1_pull_87 : decode cX1_pull 87 = .ok (.aload_n 1, 1) := by decide +kernel
theorem dX1_pull_88 : decode cX1_pull 88 = .ok (.getfield 63, 3) := by decide +kernel
theorem dX1_pull_91 : decode cX1_pull 91 = .ok (.iconst 1, 1) := by decide +kernel
theorem dX1_pull_92 : decode cX1_pull 92 = .ok (.isub, 1) := by decide +kernel
theorem dX1_pull_93 : decode cX1_pull 93 = .ok (.if_icmp .ge 16, 3) := by decide +kernel
theorem dX1_pull_96 : decode cX1_pull 96 = .ok (.aload_n 0, 1) := by decide +kernel
theorem dX1_pull_97 : decode cX1_pull 97 = .ok (.getfield 9, 3) := by decide +kernel
theorem dX1_pull_100 : decode cX1_pull 100 = .ok (.iload 5, 2) := by decide +kernel
theorem dX1_pull_102 : decode cX1_pull 102 = .ok (.iload 4, 2) := by decide +kernel
theorem dX1_pull_104 : decode cX1_pull 104 = .ok (.iadd, 1) := by decide +kernel
theorem dX1_pull_105 : decode cX1_pull 105 = .ok (.iaload, 1) := by decide +kernel
theorem dX1_pull_106 : decode cX1_pull 106 = .ok (.goto 5, 3) := by decide +kernel
theorem dX1_pull_109 : decode cX1_pull 109 = .ok (.iload 7, 2) := by decide +kernel
theorem dX1_pull_111 : decode cX1_pull 111 = .ok (.istore 10, 2) := by decide +kernel
theorem dX1_pull_113 : decode cX1_pull 113 = .ok (.iload_n 2, 1) := by decide +kernel
theorem dX1_pull_114 : decode cX1_pull 114 = .ok (.ifCond .le 15, 3) := by decide +kernel
theorem dX1_pull_117 : decode cX1_pull 117 = .ok (.aload_n 0, 1) := by decide +kernel
theorem dX1_pull_118 : decode cX1_pull 118 = .ok (.getfield 9, 3) := by decide +kernel
theorem dX1_pull_121 : decode cX1_pull 121 = .ok (.iload 5, 2) := by decide +kernel
theorem dX1_pull_123 : decode cX1_pull 123 = .ok (.iconst 1, 1) := by decide +kernel
theorem dX1_pull_124 : decode cX1_pull 124 = .ok (.isub, 1) := by decide +kernel
theorem dX1_pull_125 : decode cX1_pull 125 = .ok (.iaload, 1) := by decide +kernel
theorem dX1_pull_126 : decode cX1_pull 126 = .ok (.goto 5, 3) := by decide +kernel
theorem dX1_pull_129 : decode cX1_pull 129 = .ok (.iload 7, 2) := by decide +kernel
theorem dX1_pull_131 : decode cX1_pull 131 = .ok (.istore 11, 2) := by decide +kernel
theorem dX1_pull_133 : decode cX1_pull 133 = .ok (.iload 8, 2) := by decide +kernel
theorem dX1_pull_135 : decode cX1_pull 135 = .ok (.iload 9, 2) := by decide +kernel
theorem dX1_pull_137 : decode cX1_pull 137 = .ok (.iadd, 1) := by decide +kernel
theorem dX1_pull_138 : decode cX1_pull 138 = .ok (.iload 10, 2) := by decide +kernel
theorem dX1_pull_140 : decode cX1_pull 140 = .ok (.iadd, 1) := by decide +kernel
theorem dX1_pull_141 : decode cX1_pull 141 = .ok (.iload 11, 2) := by decide +kernel
theorem dX1_pull_143 : decode cX1_pull 143 = .ok (.iadd, 1) := by decide +kernel
theorem dX1_pull_144 : decode cX1_pull 144 = .ok (.iconst 4, 1) := by decide +kernel
theorem dX1_pull_145 : decode cX1_pull 145 = .ok (.iload 6, 2) := by decide +kernel
theorem dX1_pull_147 : decode cX1_pull 147 = .ok (.imul, 1) := by decide +kernel
theorem dX1_pull_148 : decode cX1_pull 148 = .ok (.isub, 1) := by decide +kernel
theorem dX1_pull_149 : decode cX1_pull 149 = .ok (.ireturn, 1) := by decide +kernel
set_option maxRecDepth 20000 in
theorem ggX2_init_X2_beAsAtFirst : GoodIn wsX2_init wsX2_beAsAtFirst := goodIn_r _ [12, 13, 14, 5, 15, 16, 17, 18, 6, 19, 20, 21, 22, 23, 24, 25, 11, 26, 7, 27, 28, 29, 30, 31] (by decide +kernel) (by decide +kernel)
set_option maxRecDepth 20000 in
theorem gX2_init_X2_beAsAtFirst : GoodIn wsX2_init (wsV RX2 21 RX2 yX2_beAsAtFirst wsX2_beAsAtFirst) := goodIn_app (goodIn_of _ (by decide +kernel)) ggX2_init_X2_beAsAtFirst
theorem dX2_init_0 : decode cX2_init 0 = .ok (.aload_n 0, 1) := by decide +kernel
theorem dX2_init_1 : decode cX2_init 1 = .ok (.invokespecial 3, 3) := by decide +kernel
theorem dX2_init_4 : decode cX2_init 4 = .ok (.aload_n 0, 1) := by decide +kernel
theorem dX2_init_5 : decode cX2_init 5 = .ok (.bipush 7, 2) := by decide +kernel
theorem dX2_init_7 : decode cX2_init 7 = .ok (.newarray .int, 2) := by decide +kernel
theorem dX2_init_9 : decode cX2_init 9 = .ok (.putfield 9, 3) := by decide +kernel
theorem dX2_init_12 : decode cX2_init 12 = .ok (.aload_n 0, 1) := by decide +kernel
theorem dX2_init_13 : decode cX2_init 13 = .ok (.bipush 36, 2) := by decide +kernel
theorem dX2_init_15 : decode cX2_init 15 = .ok (.newarray .int, 2) := by decide +kernel
theorem dX2_init_17 : decode cX2_init 17 = .ok (.putfield 15, 3) := by decide +kernel
theorem dX2_init_20 : decode cX2_init 20 = .ok (.aload_n 0, 1) := by decide +kernel
theorem dX2_init_21 : decode cX2_init 21 = .ok (.bipush 36, 2) := by decide +kernel
theorem dX2_init_23 : decode cX2_init 23 = .ok (.newarray .int, 2) := by decide +kernel
theorem dX2_init_25 : decode cX2_init 25 = .ok (.putfield 18, 3) := by decide +kernel
theorem dX2_init_28 : decode cX2_init 28 = .ok (.aload_n 0, 1) := by decide +kernel
theorem dX2_init_29 : decode cX2_init 29 = .ok (.invokevirtual 21, 3) := by decide +kernel
theorem dX2_init_32 : decode cX2_init 32 = .ok (.return_, 1) := by decide +kernel
set_option maxRecDepth 20000 in
theorem ggX2_beAsAtFirst_J7_fill_53178 : GoodIn wsX2_beAsAtFirst wsJ7_fill_53178 := goodIn_r _ [12] (by decide +kernel) (by decide +kernel)
set_option maxRecDepth 20000 in
theorem gX2_beAsAtFirst_J7_fill_53178 : GoodIn wsX2_beAsAtFirst (va_wsS RX2 40 yJ7_fill_53178 wsJ7_fill_53178) := goodIn_app (goodIn_of _ (by decide +kernel)) ggX2_beAsAtFirst_J7_fill_53178
set_option maxRecDepth 20000 in
theorem ggX2_beAsAtFirst_X2_layGrains : GoodIn wsX2_beAsAtFirst wsX2_layGrains := goodIn_r _ [17, 18, 9, 10, 11, 12, 19, 20, 21, 22, 23] (by decide +kernel) (by decide +kernel)
set_option maxRecDepth 20000 in
theorem gX2_beAsAtFirst_X2_layGrains : GoodIn wsX2_beAsAtFirst (wsV RX2 46 RX2 yX2_layGrains wsX2_layGrains) := goodIn_app (goodIn_of _ (by decide +kernel)) ggX2_beAsAtFirst_X2_layGrains
theorem dX2_beAsAtFirst_0 : decode cX2_beAsAtFirst 0 = .ok (.aload_n 0, 1) := by decide +kernel
theorem dX2_beAsAtFirst_1 : decode cX2_beAsAtFirst 1 = .ok (.iconst 3, 1) := by decide +kernel
theorem dX2_beAsAtFirst_2 : decode cX2_beAsAtFirst 2 = .ok (.putfield 24, 3) := by decide +kernel
theorem dX2_beAsAtFirst_5 : decode cX2_beAsAtFirst 5 = .ok (.aload_n 0, 1) := by decide +kernel
theorem dX2_beAsAtFirst_6 : decode cX2_beAsAtFirst 6 = .ok (.iconst 3, 1) := by decide +kernel
theorem dX2_beAsAtFirst_7 : decode cX2_beAsAtFirst 7 = .ok (.putfield 28, 3) := by decide +kernel
theorem dX2_beAsAtFirst_10 : decode cX2_beAsAtFirst 10 = .ok (.getstatic 31, 3) := by decide +kernel
theorem dX2_beAsAtFirst_13 : decode cX2_beAsAtFirst 13 = .ok (.iconst 0, 1) := by decide +kernel
theorem dX2_beAsAtFirst_14 : decode cX2_beAsAtFirst 14 = .ok (.aload_n 0, 1) := by decide +kernel
theorem dX2_beAsAtFirst_15 : decode cX2_beAsAtFirst 15 = .ok (.getfield 9, 3) := by decide +kernel
theorem dX2_beAsAtFirst_18 : decode cX2_beAsAtFirst 18 = .ok (.iconst 0, 1) := by decide +kernel
theorem dX2_beAsAtFirst_19 : decode cX2_beAsAtFirst 19 = .ok (.bipush 7, 2) := by decide +kernel
theorem dX2_beAsAtFirst_21 : decode cX2_beAsAtFirst 21 = .ok (.invokestatic 34, 3) := by decide +kernel
theorem dX2_beAsAtFirst_24 : decode cX2_beAsAtFirst 24 = .ok (.aload_n 0, 1) := by decide +kernel
theorem dX2_beAsAtFirst_25 : decode cX2_beAsAtFirst 25 = .ok (.getfield 15, 3) := by decide +kernel
theorem dX2_beAsAtFirst_28 : decode cX2_beAsAtFirst 28 = .ok (.iconst 0, 1) := by decide +kernel
theorem dX2_beAsAtFirst_29 : decode cX2_beAsAtFirst 29 = .ok (.invokestatic 40, 3) := by decide +kernel
theorem dX2_beAsAtFirst_32 : decode cX2_beAsAtFirst 32 = .ok (.aload_n 0, 1) := by decide +kernel
theorem dX2_beAsAtFirst_33 : decode cX2_beAsAtFirst 33 = .ok (.invokevirtual 46, 3) := by decide +kernel
theorem dX2_beAsAtFirst_36 : decode cX2_beAsAtFirst 36 = .ok (.return_, 1) := by decide +kernel
theorem dX2_takeFrom_0 : decode cX2_takeFrom 0 = .ok (.aload_n 0, 1) := by decide +kernel
theorem dX2_takeFrom_1 : decode cX2_takeFrom 1 = .ok (.aload_n 1, 1) := by decide +kernel
theorem dX2_takeFrom_2 : decode cX2_takeFrom 2 = .ok (.getfield 24, 3) := by decide +kernel
theorem dX2_takeFrom_5 : decode cX2_takeFrom 5 = .ok (.putfield 24, 3) := by decide +kernel
theorem dX2_takeFrom_8 : decode cX2_takeFrom 8 = .ok (.aload_n 0, 1) := by decide +kernel
theorem dX2_takeFrom_9 : decode cX2_takeFrom 9 = .ok (.aload_n 1, 1) := by decide +kernel
theorem dX2_takeFrom_10 : decode cX2_takeFrom 10 = .ok (.getfield 28, 3) := by decide +kernel
theorem dX2_takeFrom_13 : decode cX2_takeFrom 13 = .ok (.putfield 28, 3) := by decide +kernel
theorem dX2_takeFrom_16 : decode cX2_takeFrom 16 = .ok (.aload_n 1, 1) := by decide +kernel
theorem dX2_takeFrom_17 : decode cX2_takeFrom 17 = .ok (.getfield 9, 3) := by decide +kernel
theorem dX2_takeFrom_20 : decode cX2_takeFrom 20 = .ok (.iconst 0, 1) := by decide +kernel
theorem dX2_takeFrom_21 : decode cX2_takeFrom 21 = .ok (.aload_n 0, 1) := by decide +kernel
theorem dX2_takeFrom_22 : decode cX2_takeFrom 22 = .ok (.getfield 9, 3) := by decide +kernel
theorem dX2_takeFrom_25 : decode cX2_takeFrom 25 = .ok (.iconst 0, 1) := by decide +kernel
theorem dX2_takeFrom_26 : decode cX2_takeFrom 26 = .ok (.bipush 7, 2) := by decide +kernel
theorem dX2_takeFrom_28 : decode cX2_takeFrom 28 = .ok (.invokestatic 34, 3) := by decide +kernel
theorem dX2_takeFrom_31 : decode cX2_takeFrom 31 = .ok (.aload_n 1, 1) := by decide +kernel
theorem dX2_takeFrom_32 : decode cX2_takeFrom 32 = .ok (.getfield 15, 3) := by decide +kernel
theorem dX2_takeFrom_35 : decode cX2_takeFrom 35 = .ok (.iconst 0, 1) := by decide +kernel
theorem dX2_takeFrom_36 : decode cX2_takeFrom 36 = .ok (.aload_n 0, 1) := by decide +kernel
theorem dX2_takeFrom_37 : decode cX2_takeFrom 37 = .ok (.getfield 15, 3) := by decide +kernel
theorem dX2_takeFrom_40 : decode cX2_takeFrom 40 = .ok (.iconst 0, 1) := by decide +kernel
theorem dX2_takeFrom_41 : decode cX2_takeFrom 41 = .ok (.bipush 36, 2) := by decide +kernel
theorem dX2_takeFrom_43 : decode cX2_takeFrom 43 = .ok (.invokestatic 34, 3) := by decide +kernel
theorem dX2_takeFrom_46 : decode cX2_takeFrom 46 = .ok (.aload_n 1, 1) := by decide +kernel
theorem dX2_takeFrom_47 : decode cX2_takeFrom 47 = .ok (.getfield 18, 3) := by decide +kernel
theorem dX2_takeFrom_50 : decode cX2_takeFrom 50 = .ok (.iconst 0, 1) := by decide +kernel
theorem dX2_takeFrom_51 : decode cX2_takeFrom 51 = .ok (.aload_n 0, 1) := by decide +kernel
theorem dX2_takeFrom_52 : decode cX2_takeFrom 52 = .ok (.getfield 18, 3) := by decide +kernel
theorem dX2_takeFrom_55 : decode cX2_takeFrom 55 = .ok (.iconst 0, 1) := by decide +kernel
theorem dX2_takeFrom_56 : decode cX2_takeFrom 56 = .ok (.bipush 36, 2) := by decide +kernel
theorem dX2_takeFrom_58 : decode cX2_takeFrom 58 = .ok (.invokestatic 34, 3) := by decide +kernel
theorem dX2_takeFrom_61 : decode cX2_takeFrom 61 = .ok (.return_, 1) := by decide +kernel
set_option maxRecDepth 20000 in
theorem ggX2_layGrains_J7_fill_53178 : GoodIn wsX2_layGrains wsJ7_fill_53178 := goodIn_r _ [5] (by decide +kernel) (by decide +kernel)
set_option maxRecDepth 20000 in
theorem gX2_layGrains_J7_fill_53178 : GoodIn wsX2_layGrains (va_wsS RX2 40 yJ7_fill_53178 wsJ7_fill_53178) := goodIn_app (goodIn_of _ (by decide +kernel)) ggX2_layGrains_J7_fill_53178
theorem dX2_layGrains_0 : decode cX2_layGrains 0 = .ok (.aload_n 0, 1) := by decide +kernel
theorem dX2_layGrains_1 : decode cX2_layGrains 1 = .ok (.getfield 18, 3) := by decide +kernel
theorem dX2_layGrains_4 : decode cX2_layGrains 4 = .ok (.iconst 1, 1) := by decide +kernel
theorem dX2_layGrains_5 : decode cX2_layGrains 5 = .ok (.invokestatic 40, 3) := by decide +kernel
theorem dX2_layGrains_8 : decode cX2_layGrains 8 = .ok (.return_, 1) := by decide +kernel
theorem dX2_cells_0 : decode cX2_cells 0 = .ok (.aload_n 0, 1) := by decide +kernel
theorem dX2_cells_1 : decode cX2_cells 1 = .ok (.getfield 24, 3) := by decide +kernel
theorem dX2_cells_4 : decode cX2_cells 4 = .ok (.aload_n 0, 1) := by decide +kernel
theorem dX2_cells_5 : decode cX2_cells 5 = .ok (.getfield 28, 3) := by decide +kernel
theorem dX2_cells_8 : decode cX2_cells 8 = .ok (.imul, 1) := by decide +kernel
theorem dX2_cells_9 : decode cX2_cells 9 = .ok (.ireturn, 1) := by decide +kernel
theorem dX2_cellAt_0 : decode cX2_cellAt 0 = .ok (.iload_n 1, 1) := by decide +kernel
theorem dX2_cellAt_1 : decode cX2_cellAt 1 = .ok (.ifCond .lt 23, 3) := by decide +kernel
theorem dX2_cellAt_4 : decode cX2_cellAt 4 = .ok (.iload_n 1, 1) := by decide +kernel
theorem dX2_cellAt_5 : decode cX2_cellAt 5 = .ok (.aload_n 0, 1) := by decide +kernel
theorem dX2_cellAt_6 : decode cX2_cellAt 6 = .ok (.getfield 24, 3) := by decide +kernel
theorem dX2_cellAt_9 : decode cX2_cellAt 9 = .ok (.if_icmp .ge 15, 3) := by decide +kernel
theorem dX2_cellAt_12 : decode cX2_cellAt 12 = .ok (.iload_n 2, 1) := by decide +kernel
theorem dX2_cellAt_13 : decode cX2_cellAt 13 = .ok (.ifCond .lt 11, 3) := by decide +kernel
theorem dX2_cellAt_16 : decode cX2_cellAt 16 = .ok (.iload_n 2, 1) := by decide +kernel
theorem dX2_cellAt_17 : decode cX2_cellAt 17 = .ok (.aload_n 0, 1) := by decide +kernel
theorem dX2_cellAt_18 : decode cX2_cellAt 18 = .ok (.getfield 28, 3) := by decide +kernel
theorem dX2_cellAt_21 : decode cX2_cellAt 21 = .ok (.if_icmp .lt 5, 3) := by decide +kernel
theorem dX2_cellAt_24 : decode cX2_cellAt 24 = .ok (.iconst (-1), 1) := by decide +kernel
theorem dX2_cellAt_25 : decode cX2_cellAt 25 = .ok (.ireturn, 1) := by decide +kernel
theorem dX2_cellAt_26 : decode cX2_cellAt 26 = .ok (.aload_n 0, 1) := by decide +kernel
theorem dX2_cellAt_27 : decode cX2_cellAt 27 = .ok (.getfield 24, 3) := by decide +kernel
theorem dX2_cellAt_30 : decode cX2_cellAt 30 = .ok (.iload_n 2, 1) := by decide +kernel
theorem dX2_cellAt_31 : decode cX2_cellAt 31 = .ok (.imul, 1) := by decide +kernel
theorem dX2_cellAt_32 : decode cX2_cellAt 32 = .ok (.iload_n 1, 1) := by decide +kernel
theorem dX2_cellAt_33 : decode cX2_cellAt 33 = .ok (.iadd, 1) := by decide +kernel
theorem dX2_cellAt_34 : decode cX2_cellAt 34 = .ok (.ireturn, 1) := by decide +kernel
set_option maxRecDepth 20000 in
theorem ggX2_cellsOfFigure_X2_cells : GoodIn wsX2_cellsOfFigure wsX2_cells := goodIn_r _ [6, 7, 8, 9, 10, 11, 12, 13] (by decide +kernel) (by decide +kernel)
set_option maxRecDepth 20000 in
theorem gX2_cellsOfFigure_X2_cells : GoodIn wsX2_cellsOfFigure (wsV RX2 49 RX2 yX2_cells wsX2_cells) := goodIn_app (goodIn_of _ (by decide +kernel)) ggX2_cellsOfFigure_X2_cells
theorem dX2_cellsOfFigure_0 : decode cX2_cellsOfFigure 0 = .ok (.iconst 0, 1) := by decide +kernel
theorem dX2_cellsOfFigure_1 : decode cX2_cellsOfFigure 1 = .ok (.istore_n 1, 1) := by decide +kernel
theorem dX2_cellsOfFigure_2 : decode cX2_cellsOfFigure 2 = .ok (.iconst 0, 1) := by decide +kernel
theorem dX2_cellsOfFigure_3 : decode cX2_cellsOfFigure 3 = .ok (.istore_n 2, 1) := by decide +kernel
theorem dX2_cellsOfFigure_4 : decode cX2_cellsOfFigure 4 = .ok (.iload_n 2, 1) := by decide +kernel
theorem dX2_cellsOfFigure_5 : decode cX2_cellsOfFigure 5 = .ok (.aload_n 0, 1) := by decide +kernel
theorem dX2_cellsOfFigure_6 : decode cX2_cellsOfFigure 6 = .ok (.invokevirtual 49, 3) := by decide +kernel
theorem dX2_cellsOfFigure_9 : decode cX2_cellsOfFigure 9 = .ok (.if_icmp .ge 18, 3) := by decide +kernel
theorem dX2_cellsOfFigure_12 : decode cX2_cellsOfFigure 12 = .ok (.iload_n 1, 1) := by decide +kernel
theorem dX2_cellsOfFigure_13 : decode cX2_cellsOfFigure 13 = .ok (.aload_n 0, 1) := by decide +kernel
theorem dX2_cellsOfFigure_14 : decode cX2_cellsOfFigure 14 = .ok (.getfield 15, 3) := by decide +kernel
theorem dX2_cellsOfFigure_17 : decode cX2_cellsOfFigure 17 = .ok (.iload_n 2, 1) := by decide +kernel
theorem dX2_cellsOfFigure_18 : decode cX2_cellsOfFigure 18 = .ok (.iaload, 1) := by decide +kernel
theorem dX2_cellsOfFigure_19 : decode cX2_cellsOfFigure 19 = .ok (.iadd, 1) := by decide +kernel
theorem dX2_cellsOfFigure_20 : decode cX2_cellsOfFigure 20 = .ok (.istore_n 1, 1) := by decide +kernel
theorem dX2_cellsOfFigure_21 : decode cX2_cellsOfFigure 21 = .ok (.iinc 2 1, 3) := by decide +kernel
theorem dX2_cellsOfFigure_24 : decode cX2_cellsOfFigure 24 = .ok (.goto (-20), 3) := by decide +kernel
theorem dX2_cellsOfFigure_27 : decode cX2_cellsOfFigure 27 = .ok (.iload_n 1, 1) := by decide +kernel
theorem dX2_cellsOfFigure_28 : decode cX2_cellsOfFigure 28 = .ok (.ireturn, 1) := by decide +kernel
set_option maxRecDepth 20000 in
theorem ggX2_cellsWithGrains_X2_cells : GoodIn wsX2_cellsWithGrains wsX2_cells := goodIn_r _ [6, 7, 8, 9, 10, 11, 12, 13] (by decide +kernel) (by decide +kernel)
set_option maxRecDepth 20000 in
theorem gX2_cellsWithGrains_X2_cells : GoodIn wsX2_cellsWithGrains (wsV RX2 49 RX2 yX2_cells wsX2_cells) := goodIn_app (goodIn_of _ (by decide +kernel)) ggX2_cellsWithGrains_X2_cells
theorem dX2_cellsWithGrains_0 : decode cX2_cellsWithGrains 0 = .ok (.iconst 0, 1) := by decide +kernel
theorem dX2_cellsWithGrains_1 : decode cX2_cellsWithGrains 1 = .ok (.istore_n 2, 1) := by decide +kernel
theorem dX2_cellsWithGrains_2 : decode cX2_cellsWithGrains 2 = .ok (.iconst 0, 1) := by decide +kernel
theorem dX2_cellsWithGrains_3 : decode cX2_cellsWithGrains 3 = .ok (.istore_n 3, 1) := by decide +kernel
theorem dX2_cellsWithGrains_4 : decode cX2_cellsWithGrains 4 = .ok (.iload_n 3, 1) := by decide +kernel
theorem dX2_cellsWithGrains_5 : decode cX2_cellsWithGrains 5 = .ok (.aload_n 0, 1) := by decide +kernel
theorem dX2_cellsWithGrains_6 : decode cX2_cellsWithGrains 6 = .ok (.invokevirtual 49, 3) := by decide +kernel
theorem dX2_cellsWithGrains_9 : decode cX2_cellsWithGrains 9 = .ok (.if_icmp .ge 27, 3) := by decide +kernel
theorem dX2_cellsWithGrains_12 : decode cX2_cellsWithGrains 12 = .ok (.iload_n 2, 1) := by decide +kernel
theorem dX2_cellsWithGrains_13 : decode cX2_cellsWithGrains 13 = .ok (.aload_n 0, 1) := by decide +kernel
theorem dX2_cellsWithGrains_14 : decode cX2_cellsWithGrains 14 = .ok (.getfield 18, 3) := by decide +kernel
theorem dX2_cellsWithGrains_17 : decode cX2_cellsWithGrains 17 = .ok (.iload_n 3, 1) := by decide +kernel
theorem dX2_cellsWithGrains_18 : decode cX2_cellsWithGrains 18 = .ok (.iaload, 1) := by decide +kernel
theorem dX2_cellsWithGrains_19 : decode cX2_cellsWithGrains 19 = .ok (.iload_n 1, 1) := by decide +kernel
theorem dX2_cellsWithGrains_20 : decode cX2_cellsWithGrains 20 = .ok (.if_icmp .ne 7, 3) := by decide +kernel
theorem dX2_cellsWithGrains_23 : decode cX2_cellsWithGrains 23 = .ok (.iconst 1, 1) := by decide +kernel
theorem dX2_cellsWithGrains_24 : decode cX2_cellsWithGrains 24 = .ok (.goto 4, 3) := by decide +kernel
theorem dX2_cellsWithGrains_27 : decode cX2_cellsWithGrains 27 = .ok (.iconst 0, 1) := by decide +kernel
theorem dX2_cellsWithGrains_28 : decode cX2_cellsWithGrains 28 = .ok (.iadd, 1) := by decide +kernel
theorem dX2_cellsWithGrains_29 : decode cX2_cellsWithGrains 29 = .ok (.istore_n 2, 1) := by decide +kernel
theorem dX2_cellsWithGrains_30 : decode cX2_cellsWithGrains 30 = .ok (.iinc 3 1, 3) := by decide +kernel
theorem dX2_cellsWithGrains_33 : decode cX2_cellsWithGrains 33 = .ok (.goto (-29), 3) := by decide +kernel
theorem dX2_cellsWithGrains_36 : decode cX2_cellsWithGrains 36 = .ok (.iload_n 2, 1) := by decide +kernel
theorem dX2_cellsWithGrains_37 : decode cX2_cellsWithGrains 37 = .ok (.ireturn, 1) := by decide +kernel
set_option maxRecDepth 20000 in
theorem ggX2_mostGrains_X2_cells : GoodIn wsX2_mostGrains wsX2_cells := goodIn_r _ [10, 11, 12, 13, 14, 15, 16, 17] (by decide +kernel) (by decide +kernel)
set_option maxRecDepth 20000 in
theorem gX2_mostGrains_X2_cells : GoodIn wsX2_mostGrains (wsV RX2 49 RX2 yX2_cells wsX2_cells) := goodIn_app (goodIn_of _ (by decide +kernel)) ggX2_mostGrains_X2_cells
theorem dX2_mostGrains_0 : decode cX2_mostGrains 0 = .ok (.iconst 0, 1) := by decide +kernel
theorem dX2_mostGrains_1 : decode cX2_mostGrains 1 = .ok (.istore_n 1, 1) := by decide +kernel
theorem dX2_mostGrains_2 : decode cX2_mostGrains 2 = .ok (.iconst 0, 1) := by decide +kernel
theorem dX2_mostGrains_3 : decode cX2_mostGrains 3 = .ok (.istore_n 2, 1) := by decide +kernel
theorem dX2_mostGrains_4 : decode cX2_mostGrains 4 = .ok (.iload_n 2, 1) := by decide +kernel
theorem dX2_mostGrains_5 : decode cX2_mostGrains 5 = .ok (.aload_n 0, 1) := by decide +kernel
theorem dX2_mostGrains_6 : decode cX2_mostGrains 6 = .ok (.invokevirtual 49, 3) := by decide +kernel
theorem dX2_mostGrains_9 : decode cX2_mostGrains 9 = .ok (.if_icmp .ge 20, 3) := by decide +kernel
theorem dX2_mostGrains_12 : decode cX2_mostGrains 12 = .ok (.iload_n 1, 1) := by decide +kernel
theorem dX2_mostGrains_13 : decode cX2_mostGrains 13 = .ok (.aload_n 0, 1) := by decide +kernel
theorem dX2_mostGrains_14 : decode cX2_mostGrains 14 = .ok (.getfield 18, 3) := by decide +kernel
theorem dX2_mostGrains_17 : decode cX2_mostGrains 17 = .ok (.iload_n 2, 1) := by decide +kernel
theorem dX2_mostGrains_18 : decode cX2_mostGrains 18 = .ok (.iaload, 1) := by decide +kernel
theorem dX2_mostGrains_19 : decode cX2_mostGrains 19 = .ok (.invokestatic 53, 3) := by decide +kernel
theorem dX2_mostGrains_22 : decode cX2_mostGrains 22 = .ok (.istore_n 1, 1) := by decide +kernel
theorem dX2_mostGrains_23 : decode cX2_mostGrains 23 = .ok (.iinc 2 1, 3) := by decide +kernel
theorem dX2_mostGrains_26 : decode cX2_mostGrains 26 = .ok (.goto (-22), 3) := by decide +kernel
theorem dX2_mostGrains_29 : decode cX2_mostGrains 29 = .ok (.iload_n 1, 1) := by decide +kernel
theorem dX2_mostGrains_30 : decode cX2_mostGrains 30 = .ok (.ireturn, 1) := by decide +kernel
theorem dX2_isStill_0 : decode cX2_isStill 0 = .ok (.aload_n 1, 1) := by decide +kernel
theorem dX2_isStill_1 : decode cX2_isStill 1 = .ok (.iload_n 2, 1) := by decide +kernel
theorem dX2_isStill_2 : decode cX2_isStill 2 = .ok (.iaload, 1) := by decide +kernel
theorem dX2_isStill_3 : decode cX2_isStill 3 = .ok (.aload_n 0, 1) := by decide +kernel
theorem dX2_isStill_4 : decode cX2_isStill 4 = .ok (.getfield 9, 3) := by decide +kernel
theorem dX2_isStill_7 : decode cX2_isStill 7 = .ok (.iconst 5, 1) := by decide +kernel
theorem dX2_isStill_8 : decode cX2_isStill 8 = .ok (.iaload, 1) := by decide +kernel
theorem dX2_isStill_9 : decode cX2_isStill 9 = .ok (.if_icmp .gt 7, 3) := by decide +kernel
theorem dX2_isStill_12 : decode cX2_isStill 12 = .ok (.iconst 1, 1) := by decide +kernel
theorem dX2_isStill_13 : decode cX2_isStill 13 = .ok (.goto 4, 3) := by decide +kernel
theorem dX2_isStill_16 : decode cX2_isStill 16 = .ok (.iconst 0, 1) := by decide +kernel
theorem dX2_isStill_17 : decode cX2_isStill 17 = .ok (.ireturn, 1) := by decide +kernel
set_option maxRecDepth 20000 in
theorem ggX2_stillCells_X2_cells : GoodIn wsX2_stillCells wsX2_cells := goodIn_r _ [5, 6, 7, 13, 14, 15, 16, 17] (by decide +kernel) (by decide +kernel)
set_option maxRecDepth 20000 in
theorem gX2_stillCells_X2_cells : GoodIn wsX2_stillCells (wsV RX2 49 RX2 yX2_cells wsX2_cells) := goodIn_app (goodIn_of _ (by decide +kernel)) ggX2_stillCells_X2_cells
set_option maxRecDepth 20000 in
theorem ggX2_stillCells_X2_isStill : GoodIn wsX2_stillCells wsX2_isStill := goodIn_r _ [11, 12, 13, 14, 15, 16, 17] (by decide +kernel) (by decide +kernel)
set_option maxRecDepth 20000 in
theorem gX2_stillCells_X2_isStill : GoodIn wsX2_stillCells (wsV RX2 59 RX2 yX2_isStill wsX2_isStill) := goodIn_app (goodIn_of _ (by decide +kernel)) ggX2_stillCells_X2_isStill
theorem dX2_stillCells_0 : decode cX2_stillCells 0 = .ok (.iconst 0, 1) := by decide +kernel
theorem dX2_stillCells_1 : decode cX2_stillCells 1 = .ok (.istore_n 2, 1) := by decide +kernel
theorem dX2_stillCells_2 : decode cX2_stillCells 2 = .ok (.iconst 0, 1) := by decide +kernel
theorem dX2_stillCells_3 : decode cX2_stillCells 3 = .ok (.istore_n 3, 1) := by decide +kernel
theorem dX2_stillCells_4 : decode cX2_stillCells 4 = .ok (.iload_n 3, 1) := by decide +kernel
theorem dX2_stillCells_5 : decode cX2_stillCells 5 = .ok (.aload_n 0, 1) := by decide +kernel
theorem dX2_stillCells_6 : decode cX2_stillCells 6 = .ok (.invokevirtual 49, 3) := by decide +kernel
theorem dX2_stillCells_9 : decode cX2_stillCells 9 = .ok (.if_icmp .ge 26, 3) := by decide +kernel
theorem dX2_stillCells_12 : decode cX2_stillCells 12 = .ok (.iload_n 2, 1) := by decide +kernel
theorem dX2_stillCells_13 : decode cX2_stillCells 13 = .ok (.aload_n 0, 1) := by decide +kernel
theorem dX2_stillCells_14 : decode cX2_stillCells 14 = .ok (.aload_n 1, 1) := by decide +kernel
theorem dX2_stillCells_15 : decode cX2_stillCells 15 = .ok (.iload_n 3, 1) := by decide +kernel
theorem dX2_stillCells_16 : decode cX2_stillCells 16 = .ok (.invokevirtual 59, 3) := by decide +kernel
theorem dX2_stillCells_19 : decode cX2_stillCells 19 = .ok (.ifCond .eq 7, 3) := by decide +kernel
theorem dX2_stillCells_22 : decode cX2_stillCells 22 = .ok (.iconst 1, 1) := by decide +kernel
theorem dX2_stillCells_23 : decode cX2_stillCells 23 = .ok (.goto 4, 3) := by decide +kernel
theorem dX2_stillCells_26 : decode cX2_stillCells 26 = .ok (.iconst 0, 1) := by decide +kernel
theorem dX2_stillCells_27 : decode cX2_stillCells 27 = .ok (.iadd, 1) := by decide +kernel
theorem dX2_stillCells_28 : decode cX2_stillCells 28 = .ok (.istore_n 2, 1) := by decide +kernel
theorem dX2_stillCells_29 : decode cX2_stillCells 29 = .ok (.iinc 3 1, 3) := by decide +kernel
theorem dX2_stillCells_32 : decode cX2_stillCells 32 = .ok (.goto (-28), 3) := by decide +kernel
theorem dX2_stillCells_35 : decode cX2_stillCells 35 = .ok (.iload_n 2, 1) := by decide +kernel
theorem dX2_stillCells_36 : decode cX2_stillCells 36 = .ok (.ireturn, 1) := by decide +kernel
set_option maxRecDepth 20000 in
theorem ggX2_likeness_X2_cells : GoodIn wsX2_likeness wsX2_cells := goodIn_r _ [6, 7, 8, 14, 15, 16, 17, 18] (by decide +kernel) (by decide +kernel)
set_option maxRecDepth 20000 in
theorem gX2_likeness_X2_cells : GoodIn wsX2_likeness (wsV RX2 49 RX2 yX2_cells wsX2_cells) := goodIn_app (goodIn_of _ (by decide +kernel)) ggX2_likeness_X2_cells
set_option maxRecDepth 20000 in
theorem ggX2_likeness_X2_isStill : GoodIn wsX2_likeness wsX2_isStill := goodIn_r _ [12, 13, 14, 15, 16, 17, 18] (by decide +kernel) (by decide +kernel)
set_option maxRecDepth 20000 in
theorem gX2_likeness_X2_isStill : GoodIn wsX2_likeness (wsV RX2 59 RX2 yX2_isStill wsX2_isStill) := goodIn_app (goodIn_of _ (by decide +kernel)) ggX2_likeness_X2_isStill
theorem dX2_likeness_0 : decode cX2_likeness 0 = .ok (.iconst 0, 1) := by decide +kernel
theorem dX2_likeness_1 : decode cX2_likeness 1 = .ok (.istore_n 2, 1) := by decide +kernel
theorem dX2_likeness_2 : decode cX2_likeness 2 = .ok (.iconst 0, 1) := by decide +kernel
theorem dX2_likeness_3 : decode cX2_likeness 3 = .ok (.istore_n 3, 1) := by decide +kernel
theorem dX2_likeness_4 : decode cX2_likeness 4 = .ok (.iload_n 3, 1) := by decide +kernel
theorem dX2_likeness_5 : decode cX2_likeness 5 = .ok (.aload_n 0, 1) := by decide +kernel
theorem dX2_likeness_6 : decode cX2_likeness 6 = .ok (.invokevirtual 49, 3) := by decide +kernel
theorem dX2_likeness_9 : decode cX2_likeness 9 = .ok (.if_icmp .ge 41, 3) := by decide +kernel
theorem dX2_likeness_12 : decode cX2_likeness 12 = .ok (.iload_n 2, 1) := by decide +kernel
theorem dX2_likeness_13 : decode cX2_likeness 13 = .ok (.aload_n 0, 1) := by decide +kernel
theorem dX2_likeness_14 : decode cX2_likeness 14 = .ok (.aload_n 1, 1) := by decide +kernel
theorem dX2_likeness_15 : decode cX2_likeness 15 = .ok (.iload_n 3, 1) := by decide +kernel
theorem dX2_likeness_16 : decode cX2_likeness 16 = .ok (.invokevirtual 59, 3) := by decide +kernel
theorem dX2_likeness_19 : decode cX2_likeness 19 = .ok (.aload_n 0, 1) := by decide +kernel
theorem dX2_likeness_20 : decode cX2_likeness 20 = .ok (.getfield 15, 3) := by decide +kernel
theorem dX2_likeness_23 : decode cX2_likeness 23 = .ok (.iload_n 3, 1) := by decide +kernel
theorem dX2_likeness_24 : decode cX2_likeness 24 = .ok (.iaload, 1) := by decide +kernel
theorem dX2_likeness_25 : decode cX2_likeness 25 = .ok (.iconst 1, 1) := by decide +kernel
theorem dX2_likeness_26 : decode cX2_likeness 26 = .ok (.if_icmp .ne 7, 3) := by decide +kernel
theorem dX2_likeness_29 : decode cX2_likeness 29 = .ok (.iconst 1, 1) := by decide +kernel
theorem dX2_likeness_30 : decode cX2_likeness 30 = .ok (.goto 4, 3) := by decide +kernel
theorem dX2_likeness_33 : decode cX2_likeness 33 = .ok (.iconst 0, 1) := by decide +kernel
theorem dX2_likeness_34 : decode cX2_likeness 34 = .ok (.if_icmp .ne 7, 3) := by decide +kernel
theorem dX2_likeness_37 : decode cX2_likeness 37 = .ok (.iconst 1, 1) := by decide +kernel
theorem dX2_likeness_38 : decode cX2_likeness 38 = .ok (.goto 4, 3) := by decide +kernel
theorem dX2_likeness_41 : decode cX2_likeness 41 = .ok (.iconst 0, 1) := by decide +kernel
theorem dX2_likeness_42 : decode cX2_likeness 42 = .ok (.iadd, 1) := by decide +kernel
theorem dX2_likeness_43 : decode cX2_likeness 43 = .ok (.istore_n 2, 1) := by decide +kernel
theorem dX2_likeness_44 : decode cX2_likeness 44 = .ok (.iinc 3 1, 3) := by decide +kernel
theorem dX2_likeness_47 : decode cX2_likeness 47 = .ok (.goto (-43), 3) := by decide +kernel
theorem dX2_likeness_50 : decode cX2_likeness 50 = .ok (.iload_n 2, 1) := by decide +kernel
theorem dX2_likeness_51 : decode cX2_likeness 51 = .ok (.ireturn, 1) := by decide +kernel
set_option maxRecDepth 20000 in
theorem ggX2_apart_X2_cellsOfFigure : GoodIn wsX2_apart wsX2_cellsOfFigure := goodIn_r _ [8, 3, 9, 10, 11, 7, 12, 2, 1, 33, 34, 35, 36, 37] (by decide +kernel) (by decide +kernel)
set_option maxRecDepth 20000 in
theorem gX2_apart_X2_cellsOfFigure : GoodIn wsX2_apart (wsV RX2 63 RX2 yX2_cellsOfFigure wsX2_cellsOfFigure) := goodIn_app (goodIn_of _ (by decide +kernel)) ggX2_apart_X2_cellsOfFigure
set_option maxRecDepth 20000 in
theorem ggX2_apart_X2_stillCells : GoodIn wsX2_apart wsX2_stillCells := goodIn_r _ [16, 9, 10, 11, 7, 12, 2, 1, 17, 18, 19, 20, 21, 33, 34, 35, 36, 37] (by decide +kernel) (by decide +kernel)
set_option maxRecDepth 20000 in
theorem gX2_apart_X2_stillCells : GoodIn wsX2_apart (wsV RX2 66 RX2 yX2_stillCells wsX2_stillCells) := goodIn_app (goodIn_of _ (by decide +kernel)) ggX2_apart_X2_stillCells
set_option maxRecDepth 20000 in
theorem ggX2_apart_X2_stepsToNearest : GoodIn wsX2_apart wsX2_stepsToNearest := goodIn_r _ [25, 1, 2, 3, 26, 27, 28, 29, 30, 31, 32, 17, 18, 19, 7, 20, 21, 33, 34, 35, 36, 37] (by decide +kernel) (by decide +kernel)
set_option maxRecDepth 20000 in
theorem gX2_apart_X2_stepsToNearest : GoodIn wsX2_apart (wsV RX2 70 RX2 yX2_stepsToNearest wsX2_stepsToNearest) := goodIn_app (goodIn_of _ (by decide +kernel)) ggX2_apart_X2_stepsToNearest
set_option maxRecDepth 20000 in
theorem ggX2_apart_X2_isStill : GoodIn wsX2_apart wsX2_isStill := goodIn_r _ [20, 21, 33, 34, 35, 36, 37] (by decide +kernel) (by decide +kernel)
set_option maxRecDepth 20000 in
theorem gX2_apart_X2_isStill : GoodIn wsX2_apart (wsV RX2 59 RX2 yX2_isStill wsX2_isStill) := goodIn_app (goodIn_of _ (by decide +kernel)) ggX2_apart_X2_isStill
theorem dX2_apart_0 : decode cX2_apart 0 = .ok (.aload_n 0, 1) := by decide +kernel
theorem dX2_apart_1 : decode cX2_apart 1 = .ok (.invokevirtual 63, 3) := by decide +kernel
theorem dX2_apart_4 : decode cX2_apart 4 = .ok (.ifCond .eq 11, 3) := by decide +kernel
theorem dX2_apart_7 : decode cX2_apart 7 = .ok (.aload_n 0, 1) := by decide +kernel
theorem dX2_apart_8 : decode cX2_apart 8 = .ok (.aload_n 1, 1) := by decide +kernel
theorem dX2_apart_9 : decode cX2_apart 9 = .ok (.invokevirtual 66, 3) := by decide +kernel
theorem dX2_apart_12 : decode cX2_apart 12 = .ok (.ifCond .ne 6, 3) := by decide +kernel
theorem dX2_apart_15 : decode cX2_apart 15 = .ok (.bipush (-9), 2) := by decide +kernel
theorem dX2_apart_17 : decode cX2_apart 17 = .ok (.ireturn, 1) := by decide +kernel
theorem dX2_apart_18 : decode cX2_apart 18 = .ok (.iconst 0, 1) := by decide +kernel
theorem dX2_apart_19 : decode cX2_apart 19 = .ok (.istore_n 2, 1) := by decide +kernel
theorem dX2_apart_20 : decode cX2_apart 20 = .ok (.iconst 0, 1) := by decide +kernel
theorem dX2_apart_21 : decode cX2_apart 21 = .ok (.istore_n 3, 1) := by decide +kernel
theorem dX2_apart_22 : decode cX2_apart 22 = .ok (.iload_n 3, 1) := by decide +kernel
theorem dX2_apart_23 : decode cX2_apart 23 = .ok (.aload_n 0, 1) := by decide +kernel
theorem dX2_apart_24 : decode cX2_apart 24 = .ok (.getfield 28, 3) := by decide +kernel
theorem dX2_apart_27 : decode cX2_apart 27 = .ok (.if_icmp .ge 91, 3) := by decide +kernel
theorem dX2_apart_30 : decode cX2_apart 30 = .ok (.iconst 0, 1) := by decide +kernel
theorem dX2_apart_31 : decode cX2_apart 31 = .ok (.istore 4, 2) := by decide +kernel
theorem dX2_apart_33 : decode cX2_apart 33 = .ok (.iload 4, 2) := by decide +kernel
theorem dX2_apart_35 : decode cX2_apart 35 = .ok (.aload_n 0, 1) := by decide +kernel
theorem dX2_apart_36 : decode cX2_apart 36 = .ok (.getfield 24, 3) := by decide +kernel
theorem dX2_apart_39 : decode cX2_apart 39 = .ok (.if_icmp .ge 73, 3) := by decide +kernel
theorem dX2_apart_42 : decode cX2_apart 42 = .ok (.aload_n 0, 1) := by decide +kernel
theorem dX2_apart_43 : decode cX2_apart 43 = .ok (.getfield 24, 3) := by decide +kernel
theorem dX2_apart_46 : decode cX2_apart 46 = .ok (.iload_n 3, 1) := by decide +kernel
theorem dX2_apart_47 : decode cX2_apart 47 = .ok (.imul, 1) := by decide +kernel
theorem dX2_apart_48 : decode cX2_apart 48 = .ok (.iload 4, 2) := by decide +kernel
theorem dX2_apart_50 : decode cX2_apart 50 = .ok (.iadd, 1) := by decide +kernel
theorem dX2_apart_51 : decode cX2_apart 51 = .ok (.istore 5, 2) := by decide +kernel
theorem dX2_apart_53 : decode cX2_apart 53 = .ok (.iload_n 2, 1) := by decide +kernel
theorem dX2_apart_54 : decode cX2_apart 54 = .ok (.aload_n 0, 1) := by decide +kernel
theorem dX2_apart_55 : decode cX2_apart 55 = .ok (.getfield 15, 3) := by decide +kernel
theorem dX2_apart_58 : decode cX2_apart 58 = .ok (.iload 5, 2) := by decide +kernel
theorem dX2_apart_60 : decode cX2_apart 60 = .ok (.iaload, 1) := by decide +kernel
theorem dX2_apart_61 : decode cX2_apart 61 = .ok (.iconst 1, 1) := by decide +kernel
theorem dX2_apart_62 : decode cX2_apart 62 = .ok (.if_icmp .ne 15, 3) := by decide +kernel
theorem dX2_apart_65 : decode cX2_apart 65 = .ok (.aload_n 0, 1) := by decide +kernel
theorem dX2_apart_66 : decode cX2_apart 66 = .ok (.aload_n 1, 1) := by decide +kernel
theorem dX2_apart_67 : decode cX2_apart 67 = .ok (.iconst 1, 1) := by decide +kernel
theorem dX2_apart_68 : decode cX2_apart 68 = .ok (.iload 4, 2) := by decide +kernel
theorem dX2_apart_70 : decode cX2_apart 70 = .ok (.iload_n 3, 1) := by decide +kernel
theorem dX2_apart_71 : decode cX2_apart 71 = .ok (.invokevirtual 70, 3) := by decide +kernel
theorem dX2_apart_74 : decode cX2_apart 74 = .ok (.goto 4, 3) := by decide +kernel
theorem dX2_apart_77 : decode cX2_apart 77 = .ok (.iconst 0, 1) := by decide +kernel
theorem dX2_apart_78 : decode cX2_apart 78 = .ok (.iadd, 1) := by decide +kernel
theorem dX2_apart_79 : decode cX2_apart 79 = .ok (.istore_n 2, 1) := by decide +kernel
theorem dX2_apart_80 : decode cX2_apart 80 = .ok (.iload_n 2, 1) := by decide +kernel
theorem dX2_apart_81 : decode cX2_apart 81 = .ok (.aload_n 0, 1) := by decide +kernel
theorem dX2_apart_82 : decode cX2_apart 82 = .ok (.aload_n 1, 1) := by decide +kernel
theorem dX2_apart_83 : decode cX2_apart 83 = .ok (.iload 5, 2) := by decide +kernel
theorem dX2_apart_85 : decode cX2_apart 85 = .ok (.invokevirtual 59, 3) := by decide +kernel
theorem dX2_apart_88 : decode cX2_apart 88 = .ok (.ifCond .eq 15, 3) := by decide +kernel
theorem dX2_apart_91 : decode cX2_apart 91 = .ok (.aload_n 0, 1) := by decide +kernel
theorem dX2_apart_92 : decode cX2_apart 92 = .ok (.aload_n 1, 1) := by decide +kernel
theorem dX2_apart_93 : decode cX2_apart 93 = .ok (.iconst 0, 1) := by decide +kernel
theorem dX2_apart_94 : decode cX2_apart 94 = .ok (.iload 4, 2) := by decide +kernel
theorem dX2_apart_96 : decode cX2_apart 96 = .ok (.iload_n 3, 1) := by decide +kernel
theorem dX2_apart_97 : decode cX2_apart 97 = .ok (.invokevirtual 70, 3) := by decide +kernel
theorem dX2_apart_100 : decode cX2_apart 100 = .ok (.goto 4, 3) := by decide +kernel
theorem dX2_apart_103 : decode cX2_apart 103 = .ok (.iconst 0, 1) := by decide +kernel
theorem dX2_apart_104 : decode cX2_apart 104 = .ok (.iadd, 1) := by decide +kernel
theorem dX2_apart_105 : decode cX2_apart 105 = .ok (.istore_n 2, 1) := by decide +kernel
theorem dX2_apart_106 : decode cX2_apart 106 = .ok (.iinc 4 1, 3) := by decide +kernel
theorem dX2_apart_109 : decode cX2_apart 109 = .ok (.goto (-76), 3) := by decide +kernel
theorem dX2_apart_112 : decode cX2_apart 112 = .ok (.iinc 3 1, 3) := by decide +kernel
theorem dX2_apart_115 : decode cX2_apart 115 = .ok (.goto (-93), 3) := by decide +kernel
theorem dX2_apart_118 : decode cX2_apart 118 = .ok (.iload_n 2, 1) := by decide +kernel
theorem dX2_apart_119 : decode cX2_apart 119 = .ok (.ireturn, 1) := by decide +kernel
set_option maxRecDepth 20000 in
theorem ggX2_stepsToNearest_X2_isStill : GoodIn wsX2_stepsToNearest wsX2_isStill := goodIn_r _ [15, 16, 17, 18, 19, 20, 21] (by decide +kernel) (by decide +kernel)
set_option maxRecDepth 20000 in
theorem gX2_stepsToNearest_X2_isStill : GoodIn wsX2_stepsToNearest (wsV RX2 59 RX2 yX2_isStill wsX2_isStill) := goodIn_app (goodIn_of _ (by decide +kernel)) ggX2_stepsToNearest_X2_isStill
theorem dX2_stepsToNearest_0 : decode cX2_stepsToNearest 0 = .ok (.bipush 36, 2) := by decide +kernel
theorem dX2_stepsToNearest_2 : decode cX2_stepsToNearest 2 = .ok (.istore 5, 2) := by decide +kernel
theorem dX2_stepsToNearest_4 : decode cX2_stepsToNearest 4 = .ok (.iconst 0, 1) := by decide +kernel
theorem dX2_stepsToNearest_5 : decode cX2_stepsToNearest 5 = .ok (.istore 6, 2) := by decide +kernel
theorem dX2_stepsToNearest_7 : decode cX2_stepsToNearest 7 = .ok (.iload 6, 2) := by decide +kernel
theorem dX2_stepsToNearest_9 : decode cX2_stepsToNearest 9 = .ok (.aload_n 0, 1) := by decide +kernel
theorem dX2_stepsToNearest_10 : decode cX2_stepsToNearest 10 = .ok (.getfield 28, 3) := by decide +kernel
theorem dX2_stepsToNearest_13 : decode cX2_stepsToNearest 13 = .ok (.if_icmp .ge 90, 3) := by decide +kernel
theorem dX2_stepsToNearest_16 : decode cX2_stepsToNearest 16 = .ok (.iconst 0, 1) := by decide +kernel
theorem dX2_stepsToNearest_17 : decode cX2_stepsToNearest 17 = .ok (.istore 7, 2) := by decide +kernel
theorem dX2_stepsToNearest_19 : decode cX2_stepsToNearest 19 = .ok (.iload 7, 2) := by decide +kernel
theorem dX2_stepsToNearest_21 : decode cX2_stepsToNearest 21 = .ok (.aload_n 0, 1) := by decide +kernel
theorem dX2_stepsToNearest_22 : decode cX2_stepsToNearest 22 = .ok (.getfield 24, 3) := by decide +kernel
theorem dX2_stepsToNearest_25 : decode cX2_stepsToNearest 25 = .ok (.if_icmp .ge 72, 3) := by decide +kernel
theorem dX2_stepsToNearest_28 : decode cX2_stepsToNearest 28 = .ok (.aload_n 0, 1) := by decide +kernel
theorem dX2_stepsToNearest_29 : decode cX2_stepsToNearest 29 = .ok (.getfield 24, 3) := by decide +kernel
theorem dX2_stepsToNearest_32 : decode cX2_stepsToNearest 32 = .ok (.iload 6, 2) := by decide +kernel
theorem dX2_stepsToNearest_34 : decode cX2_stepsToNearest 34 = .ok (.imul, 1) := by decide +kernel
theorem dX2_stepsToNearest_35 : decode cX2_stepsToNearest 35 = .ok (.iload 7, 2) := by decide +kernel
theorem dX2_stepsToNearest_37 : decode cX2_stepsToNearest 37 = .ok (.iadd, 1) := by decide +kernel
theorem dX2_stepsToNearest_38 : decode cX2_stepsToNearest 38 = .ok (.istore 8, 2) := by decide +kernel
theorem dX2_stepsToNearest_40 : decode cX2_stepsToNearest 40 = .ok (.iload_n 2, 1) := by decide +kernel
theorem dX2_stepsToNearest_41 : decode cX2_stepsToNearest 41 = .ok (.ifCond .eq 16, 3) := by decide +kernel
theorem dX2_stepsToNearest_44 : decode cX2_stepsToNearest 44 = .ok (.aload_n 0, 1) := by decide +kernel
theorem dX2_stepsToNearest_45 : decode cX2_stepsToNearest 45 = .ok (.aload_n 1, 1) := by decide +kernel
theorem dX2_stepsToNearest_46 : decode cX2_stepsToNearest 46 = .ok (.iload 8, 2) := by decide +kernel
theorem dX2_stepsToNearest_48 : decode cX2_stepsToNearest 48 = .ok (.invokevirtual 59, 3) := by decide +kernel
theorem dX2_stepsToNearest_51 : decode cX2_stepsToNearest 51 = .ok (.ifCond .eq 40, 3) := by decide +kernel
