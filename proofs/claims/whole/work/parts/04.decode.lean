theorem dX2_stepsToNearest_54 : decode cX2_stepsToNearest 54 = .ok (.goto 14, 3) := by decide +kernel
theorem dX2_stepsToNearest_57 : decode cX2_stepsToNearest 57 = .ok (.aload_n 0, 1) := by decide +kernel
theorem dX2_stepsToNearest_58 : decode cX2_stepsToNearest 58 = .ok (.getfield 15, 3) := by decide +kernel
theorem dX2_stepsToNearest_61 : decode cX2_stepsToNearest 61 = .ok (.iload 8, 2) := by decide +kernel
theorem dX2_stepsToNearest_63 : decode cX2_stepsToNearest 63 = .ok (.iaload, 1) := by decide +kernel
theorem dX2_stepsToNearest_64 : decode cX2_stepsToNearest 64 = .ok (.iconst 1, 1) := by decide +kernel
theorem dX2_stepsToNearest_65 : decode cX2_stepsToNearest 65 = .ok (.if_icmp .ne 26, 3) := by decide +kernel
theorem dX2_stepsToNearest_68 : decode cX2_stepsToNearest 68 = .ok (.iload 5, 2) := by decide +kernel
theorem dX2_stepsToNearest_70 : decode cX2_stepsToNearest 70 = .ok (.iload 7, 2) := by decide +kernel
theorem dX2_stepsToNearest_72 : decode cX2_stepsToNearest 72 = .ok (.iload_n 3, 1) := by decide +kernel
theorem dX2_stepsToNearest_73 : decode cX2_stepsToNearest 73 = .ok (.isub, 1) := by decide +kernel
theorem dX2_stepsToNearest_74 : decode cX2_stepsToNearest 74 = .ok (.invokestatic 74, 3) := by decide +kernel
theorem dX2_stepsToNearest_77 : decode cX2_stepsToNearest 77 = .ok (.iload 6, 2) := by decide +kernel
theorem dX2_stepsToNearest_79 : decode cX2_stepsToNearest 79 = .ok (.iload 4, 2) := by decide +kernel
theorem dX2_stepsToNearest_81 : decode cX2_stepsToNearest 81 = .ok (.isub, 1) := by decide +kernel
theorem dX2_stepsToNearest_82 : decode cX2_stepsToNearest 82 = .ok (.invokestatic 74, 3) := by decide +kernel
theorem dX2_stepsToNearest_85 : decode cX2_stepsToNearest 85 = .ok (.iadd, 1) := by decide +kernel
theorem dX2_stepsToNearest_86 : decode cX2_stepsToNearest 86 = .ok (.invokestatic 78, 3) := by decide +kernel
theorem dX2_stepsToNearest_89 : decode cX2_stepsToNearest 89 = .ok (.istore 5, 2) := by decide +kernel
theorem dX2_stepsToNearest_91 : decode cX2_stepsToNearest 91 = .ok (.iinc 7 1, 3) := by decide +kernel
theorem dX2_stepsToNearest_94 : decode cX2_stepsToNearest 94 = .ok (.goto (-75), 3) := by decide +kernel
theorem dX2_stepsToNearest_97 : decode cX2_stepsToNearest 97 = .ok (.iinc 6 1, 3) := by decide +kernel
theorem dX2_stepsToNearest_100 : decode cX2_stepsToNearest 100 = .ok (.goto (-93), 3) := by decide +kernel
theorem dX2_stepsToNearest_103 : decode cX2_stepsToNearest 103 = .ok (.iload 5, 2) := by decide +kernel
theorem dX2_stepsToNearest_105 : decode cX2_stepsToNearest 105 = .ok (.ireturn, 1) := by decide +kernel
theorem dX3_init_0 : decode cX3_init 0 = .ok (.aload_n 0, 1) := by decide +kernel
theorem dX3_init_1 : decode cX3_init 1 = .ok (.invokespecial 3, 3) := by decide +kernel
theorem dX3_init_4 : decode cX3_init 4 = .ok (.aload_n 0, 1) := by decide +kernel
theorem dX3_init_5 : decode cX3_init 5 = .ok (.bipush 36, 2) := by decide +kernel
theorem dX3_init_7 : decode cX3_init 7 = .ok (.newarray .int, 2) := by decide +kernel
theorem dX3_init_9 : decode cX3_init 9 = .ok (.putfield 9, 3) := by decide +kernel
theorem dX3_init_12 : decode cX3_init 12 = .ok (.aload_n 0, 1) := by decide +kernel
theorem dX3_init_13 : decode cX3_init 13 = .ok (.bipush 36, 2) := by decide +kernel
theorem dX3_init_15 : decode cX3_init 15 = .ok (.newarray .int, 2) := by decide +kernel
theorem dX3_init_17 : decode cX3_init 17 = .ok (.putfield 15, 3) := by decide +kernel
theorem dX3_init_20 : decode cX3_init 20 = .ok (.return_, 1) := by decide +kernel
theorem dX3_takeFrom_0 : decode cX3_takeFrom 0 = .ok (.aload_n 1, 1) := by decide +kernel
theorem dX3_takeFrom_1 : decode cX3_takeFrom 1 = .ok (.getfield 18, 3) := by decide +kernel
theorem dX3_takeFrom_4 : decode cX3_takeFrom 4 = .ok (.iconst 0, 1) := by decide +kernel
theorem dX3_takeFrom_5 : decode cX3_takeFrom 5 = .ok (.aload_n 0, 1) := by decide +kernel
theorem dX3_takeFrom_6 : decode cX3_takeFrom 6 = .ok (.getfield 9, 3) := by decide +kernel
theorem dX3_takeFrom_9 : decode cX3_takeFrom 9 = .ok (.iconst 0, 1) := by decide +kernel
theorem dX3_takeFrom_10 : decode cX3_takeFrom 10 = .ok (.bipush 36, 2) := by decide +kernel
theorem dX3_takeFrom_12 : decode cX3_takeFrom 12 = .ok (.invokestatic 21, 3) := by decide +kernel
theorem dX3_takeFrom_15 : decode cX3_takeFrom 15 = .ok (.return_, 1) := by decide +kernel
theorem dX3_layOn_0 : decode cX3_layOn 0 = .ok (.aload_n 0, 1) := by decide +kernel
theorem dX3_layOn_1 : decode cX3_layOn 1 = .ok (.getfield 9, 3) := by decide +kernel
theorem dX3_layOn_4 : decode cX3_layOn 4 = .ok (.iconst 0, 1) := by decide +kernel
theorem dX3_layOn_5 : decode cX3_layOn 5 = .ok (.aload_n 1, 1) := by decide +kernel
theorem dX3_layOn_6 : decode cX3_layOn 6 = .ok (.getfield 18, 3) := by decide +kernel
theorem dX3_layOn_9 : decode cX3_layOn 9 = .ok (.iconst 0, 1) := by decide +kernel
theorem dX3_layOn_10 : decode cX3_layOn 10 = .ok (.bipush 36, 2) := by decide +kernel
theorem dX3_layOn_12 : decode cX3_layOn 12 = .ok (.invokestatic 21, 3) := by decide +kernel
theorem dX3_layOn_15 : decode cX3_layOn 15 = .ok (.return_, 1) := by decide +kernel
set_option maxRecDepth 20000 in
theorem ggX3_shakeOnce_J7_fill_53178 : GoodIn wsX3_shakeOnce wsJ7_fill_53178 := goodIn_r _ [10] (by decide +kernel) (by decide +kernel)
set_option maxRecDepth 20000 in
theorem gX3_shakeOnce_J7_fill_53178 : GoodIn wsX3_shakeOnce (va_wsS RX3 27 yJ7_fill_53178 wsJ7_fill_53178) := goodIn_app (goodIn_of _ (by decide +kernel)) ggX3_shakeOnce_J7_fill_53178
set_option maxRecDepth 20000 in
theorem ggX3_shakeOnce_X3_goal : GoodIn wsX3_shakeOnce wsX3_goal := goodIn_r _ [14, 15, 16, 17, 18, 19, 20, 21, 22, 23, 24, 27, 28, 29, 30, 31] (by decide +kernel) (by decide +kernel)
set_option maxRecDepth 20000 in
theorem gX3_shakeOnce_X3_goal : GoodIn wsX3_shakeOnce (va_wsS RX3 40 yX3_goal wsX3_goal) := goodIn_app (goodIn_of _ (by decide +kernel)) ggX3_shakeOnce_X3_goal
theorem dX3_shakeOnce_0 : decode cX3_shakeOnce 0 = .ok (.aload_n 0, 1) := by decide +kernel
theorem dX3_shakeOnce_1 : decode cX3_shakeOnce 1 = .ok (.getfield 15, 3) := by decide +kernel
theorem dX3_shakeOnce_4 : decode cX3_shakeOnce 4 = .ok (.iconst 0, 1) := by decide +kernel
theorem dX3_shakeOnce_5 : decode cX3_shakeOnce 5 = .ok (.invokestatic 27, 3) := by decide +kernel
theorem dX3_shakeOnce_8 : decode cX3_shakeOnce 8 = .ok (.iconst 0, 1) := by decide +kernel
theorem dX3_shakeOnce_9 : decode cX3_shakeOnce 9 = .ok (.istore_n 3, 1) := by decide +kernel
theorem dX3_shakeOnce_10 : decode cX3_shakeOnce 10 = .ok (.iconst 0, 1) := by decide +kernel
theorem dX3_shakeOnce_11 : decode cX3_shakeOnce 11 = .ok (.istore 4, 2) := by decide +kernel
theorem dX3_shakeOnce_13 : decode cX3_shakeOnce 13 = .ok (.iload 4, 2) := by decide +kernel
theorem dX3_shakeOnce_15 : decode cX3_shakeOnce 15 = .ok (.aload_n 1, 1) := by decide +kernel
theorem dX3_shakeOnce_16 : decode cX3_shakeOnce 16 = .ok (.getfield 33, 3) := by decide +kernel
theorem dX3_shakeOnce_19 : decode cX3_shakeOnce 19 = .ok (.if_icmp .ge 88, 3) := by decide +kernel
theorem dX3_shakeOnce_22 : decode cX3_shakeOnce 22 = .ok (.iconst 0, 1) := by decide +kernel
theorem dX3_shakeOnce_23 : decode cX3_shakeOnce 23 = .ok (.istore 5, 2) := by decide +kernel
theorem dX3_shakeOnce_25 : decode cX3_shakeOnce 25 = .ok (.iload 5, 2) := by decide +kernel
theorem dX3_shakeOnce_27 : decode cX3_shakeOnce 27 = .ok (.aload_n 1, 1) := by decide +kernel
theorem dX3_shakeOnce_28 : decode cX3_shakeOnce 28 = .ok (.getfield 37, 3) := by decide +kernel
theorem dX3_shakeOnce_31 : decode cX3_shakeOnce 31 = .ok (.if_icmp .ge 70, 3) := by decide +kernel
theorem dX3_shakeOnce_34 : decode cX3_shakeOnce 34 = .ok (.aload_n 1, 1) := by decide +kernel
theorem dX3_shakeOnce_35 : decode cX3_shakeOnce 35 = .ok (.getfield 37, 3) := by decide +kernel
theorem dX3_shakeOnce_38 : decode cX3_shakeOnce 38 = .ok (.iload 4, 2) := by decide +kernel
theorem dX3_shakeOnce_40 : decode cX3_shakeOnce 40 = .ok (.imul, 1) := by decide +kernel
theorem dX3_shakeOnce_41 : decode cX3_shakeOnce 41 = .ok (.iload 5, 2) := by decide +kernel
theorem dX3_shakeOnce_43 : decode cX3_shakeOnce 43 = .ok (.iadd, 1) := by decide +kernel
theorem dX3_shakeOnce_44 : decode cX3_shakeOnce 44 = .ok (.istore 6, 2) := by decide +kernel
theorem dX3_shakeOnce_46 : decode cX3_shakeOnce 46 = .ok (.aload_n 1, 1) := by decide +kernel
theorem dX3_shakeOnce_47 : decode cX3_shakeOnce 47 = .ok (.aload_n 2, 1) := by decide +kernel
theorem dX3_shakeOnce_48 : decode cX3_shakeOnce 48 = .ok (.iload 5, 2) := by decide +kernel
theorem dX3_shakeOnce_50 : decode cX3_shakeOnce 50 = .ok (.iload 4, 2) := by decide +kernel
theorem dX3_shakeOnce_52 : decode cX3_shakeOnce 52 = .ok (.invokestatic 40, 3) := by decide +kernel
theorem dX3_shakeOnce_55 : decode cX3_shakeOnce 55 = .ok (.istore 7, 2) := by decide +kernel
theorem dX3_shakeOnce_57 : decode cX3_shakeOnce 57 = .ok (.aload_n 0, 1) := by decide +kernel
theorem dX3_shakeOnce_58 : decode cX3_shakeOnce 58 = .ok (.getfield 15, 3) := by decide +kernel
theorem dX3_shakeOnce_61 : decode cX3_shakeOnce 61 = .ok (.iload 7, 2) := by decide +kernel
theorem dX3_shakeOnce_63 : decode cX3_shakeOnce 63 = .ok (.dup2, 1) := by decide +kernel
theorem dX3_shakeOnce_64 : decode cX3_shakeOnce 64 = .ok (.iaload, 1) := by decide +kernel
theorem dX3_shakeOnce_65 : decode cX3_shakeOnce 65 = .ok (.aload_n 0, 1) := by decide +kernel
theorem dX3_shakeOnce_66 : decode cX3_shakeOnce 66 = .ok (.getfield 9, 3) := by decide +kernel
theorem dX3_shakeOnce_69 : decode cX3_shakeOnce 69 = .ok (.iload 6, 2) := by decide +kernel
theorem dX3_shakeOnce_71 : decode cX3_shakeOnce 71 = .ok (.iaload, 1) := by decide +kernel
theorem dX3_shakeOnce_72 : decode cX3_shakeOnce 72 = .ok (.iadd, 1) := by decide +kernel
theorem dX3_shakeOnce_73 : decode cX3_shakeOnce 73 = .ok (.iastore, 1) := by decide +kernel
theorem dX3_shakeOnce_74 : decode cX3_shakeOnce 74 = .ok (.iload_n 3, 1) := by decide +kernel
theorem dX3_shakeOnce_75 : decode cX3_shakeOnce 75 = .ok (.iload 7, 2) := by decide +kernel
theorem dX3_shakeOnce_77 : decode cX3_shakeOnce 77 = .ok (.iload 6, 2) := by decide +kernel
theorem dX3_shakeOnce_79 : decode cX3_shakeOnce 79 = .ok (.if_icmp .ne 7, 3) := by decide +kernel
theorem dX3_shakeOnce_82 : decode cX3_shakeOnce 82 = .ok (.iconst 0, 1) := by decide +kernel
theorem dX3_shakeOnce_83 : decode cX3_shakeOnce 83 = .ok (.goto 10, 3) := by decide +kernel
theorem dX3_shakeOnce_86 : decode cX3_shakeOnce 86 = .ok (.aload_n 0, 1) := by decide +kernel
theorem dX3_shakeOnce_87 : decode cX3_shakeOnce 87 = .ok (.getfield 9, 3) := by decide +kernel
theorem dX3_shakeOnce_90 : decode cX3_shakeOnce 90 = .ok (.iload 6, 2) := by decide +kernel
theorem dX3_shakeOnce_92 : decode cX3_shakeOnce 92 = .ok (.iaload, 1) := by decide +kernel
theorem dX3_shakeOnce_93 : decode cX3_shakeOnce 93 = .ok (.iadd, 1) := by decide +kernel
theorem dX3_shakeOnce_94 : decode cX3_shakeOnce 94 = .ok (.istore_n 3, 1) := by decide +kernel
theorem dX3_shakeOnce_95 : decode cX3_shakeOnce 95 = .ok (.iinc 5 1, 3) := by decide +kernel
theorem dX3_shakeOnce_98 : decode cX3_shakeOnce 98 = .ok (.goto (-73), 3) := by decide +kernel
theorem dX3_shakeOnce_101 : decode cX3_shakeOnce 101 = .ok (.iinc 4 1, 3) := by decide +kernel
theorem dX3_shakeOnce_104 : decode cX3_shakeOnce 104 = .ok (.goto (-91), 3) := by decide +kernel
theorem dX3_shakeOnce_107 : decode cX3_shakeOnce 107 = .ok (.aload_n 0, 1) := by decide +kernel
theorem dX3_shakeOnce_108 : decode cX3_shakeOnce 108 = .ok (.getfield 15, 3) := by decide +kernel
theorem dX3_shakeOnce_111 : decode cX3_shakeOnce 111 = .ok (.iconst 0, 1) := by decide +kernel
theorem dX3_shakeOnce_112 : decode cX3_shakeOnce 112 = .ok (.aload_n 0, 1) := by decide +kernel
theorem dX3_shakeOnce_113 : decode cX3_shakeOnce 113 = .ok (.getfield 9, 3) := by decide +kernel
theorem dX3_shakeOnce_116 : decode cX3_shakeOnce 116 = .ok (.iconst 0, 1) := by decide +kernel
theorem dX3_shakeOnce_117 : decode cX3_shakeOnce 117 = .ok (.bipush 36, 2) := by decide +kernel
theorem dX3_shakeOnce_119 : decode cX3_shakeOnce 119 = .ok (.invokestatic 21, 3) := by decide +kernel
theorem dX3_shakeOnce_122 : decode cX3_shakeOnce 122 = .ok (.iload_n 3, 1) := by decide +kernel
theorem dX3_shakeOnce_123 : decode cX3_shakeOnce 123 = .ok (.ireturn, 1) := by decide +kernel
set_option maxRecDepth 20000 in
theorem ggX3_goal_X2_isStill : GoodIn wsX3_goal wsX2_isStill := goodIn_r _ [4, 5, 11, 12, 13, 14, 15] (by decide +kernel) (by decide +kernel)
set_option maxRecDepth 20000 in
theorem gX3_goal_X2_isStill_n44 : GoodIn wsX3_goal (wsX2_isStill) := ggX3_goal_X2_isStill
set_option maxRecDepth 20000 in
theorem ggX3_goal_X2_cellAt : GoodIn wsX3_goal wsX2_cellAt := goodIn_r _ [8, 9, 10, 11, 12, 13, 14, 15] (by decide +kernel) (by decide +kernel)
set_option maxRecDepth 20000 in
theorem gX3_goal_X2_cellAt_n54 : GoodIn wsX3_goal (wsX2_cellAt) := ggX3_goal_X2_cellAt
theorem dX3_goal_0 : decode cX3_goal 0 = .ok (.aload_n 0, 1) := by decide +kernel
theorem dX3_goal_1 : decode cX3_goal 1 = .ok (.getfield 37, 3) := by decide +kernel
theorem dX3_goal_4 : decode cX3_goal 4 = .ok (.iload_n 3, 1) := by decide +kernel
theorem dX3_goal_5 : decode cX3_goal 5 = .ok (.imul, 1) := by decide +kernel
theorem dX3_goal_6 : decode cX3_goal 6 = .ok (.iload_n 2, 1) := by decide +kernel
theorem dX3_goal_7 : decode cX3_goal 7 = .ok (.iadd, 1) := by decide +kernel
theorem dX3_goal_8 : decode cX3_goal 8 = .ok (.istore 4, 2) := by decide +kernel
theorem dX3_goal_10 : decode cX3_goal 10 = .ok (.aload_n 0, 1) := by decide +kernel
theorem dX3_goal_11 : decode cX3_goal 11 = .ok (.aload_n 1, 1) := by decide +kernel
theorem dX3_goal_12 : decode cX3_goal 12 = .ok (.iload 4, 2) := by decide +kernel
theorem dX3_goal_14 : decode cX3_goal 14 = .ok (.invokevirtual 44, 3) := by decide +kernel
theorem dX3_goal_17 : decode cX3_goal 17 = .ok (.ifCond .eq 6, 3) := by decide +kernel
theorem dX3_goal_20 : decode cX3_goal 20 = .ok (.iload 4, 2) := by decide +kernel
theorem dX3_goal_22 : decode cX3_goal 22 = .ok (.ireturn, 1) := by decide +kernel
theorem dX3_goal_23 : decode cX3_goal 23 = .ok (.iconst 0, 1) := by decide +kernel
theorem dX3_goal_24 : decode cX3_goal 24 = .ok (.istore 5, 2) := by decide +kernel
theorem dX3_goal_26 : decode cX3_goal 26 = .ok (.iload 5, 2) := by decide +kernel
theorem dX3_goal_28 : decode cX3_goal 28 = .ok (.getstatic 48, 3) := by decide +kernel
theorem dX3_goal_31 : decode cX3_goal 31 = .ok (.arraylength, 1) := by decide +kernel
theorem dX3_goal_32 : decode cX3_goal 32 = .ok (.if_icmp .ge 51, 3) := by decide +kernel
theorem dX3_goal_35 : decode cX3_goal 35 = .ok (.aload_n 0, 1) := by decide +kernel
theorem dX3_goal_36 : decode cX3_goal 36 = .ok (.iload_n 2, 1) := by decide +kernel
theorem dX3_goal_37 : decode cX3_goal 37 = .ok (.getstatic 48, 3) := by decide +kernel
theorem dX3_goal_40 : decode cX3_goal 40 = .ok (.iload 5, 2) := by decide +kernel
theorem dX3_goal_42 : decode cX3_goal 42 = .ok (.iaload, 1) := by decide +kernel
theorem dX3_goal_43 : decode cX3_goal 43 = .ok (.iadd, 1) := by decide +kernel
theorem dX3_goal_44 : decode cX3_goal 44 = .ok (.iload_n 3, 1) := by decide +kernel
theorem dX3_goal_45 : decode cX3_goal 45 = .ok (.getstatic 51, 3) := by decide +kernel
theorem dX3_goal_48 : decode cX3_goal 48 = .ok (.iload 5, 2) := by decide +kernel
theorem dX3_goal_50 : decode cX3_goal 50 = .ok (.iaload, 1) := by decide +kernel
theorem dX3_goal_51 : decode cX3_goal 51 = .ok (.iadd, 1) := by decide +kernel
theorem dX3_goal_52 : decode cX3_goal 52 = .ok (.invokevirtual 54, 3) := by decide +kernel
theorem dX3_goal_55 : decode cX3_goal 55 = .ok (.istore 6, 2) := by decide +kernel
theorem dX3_goal_57 : decode cX3_goal 57 = .ok (.iload 6, 2) := by decide +kernel
theorem dX3_goal_59 : decode cX3_goal 59 = .ok (.ifCond .lt 18, 3) := by decide +kernel
theorem dX3_goal_62 : decode cX3_goal 62 = .ok (.aload_n 1, 1) := by decide +kernel
theorem dX3_goal_63 : decode cX3_goal 63 = .ok (.iload 6, 2) := by decide +kernel
theorem dX3_goal_65 : decode cX3_goal 65 = .ok (.iaload, 1) := by decide +kernel
theorem dX3_goal_66 : decode cX3_goal 66 = .ok (.aload_n 1, 1) := by decide +kernel
theorem dX3_goal_67 : decode cX3_goal 67 = .ok (.iload 4, 2) := by decide +kernel
theorem dX3_goal_69 : decode cX3_goal 69 = .ok (.iaload, 1) := by decide +kernel
theorem dX3_goal_70 : decode cX3_goal 70 = .ok (.if_icmp .ge 7, 3) := by decide +kernel
theorem dX3_goal_73 : decode cX3_goal 73 = .ok (.iload 6, 2) := by decide +kernel
theorem dX3_goal_75 : decode cX3_goal 75 = .ok (.istore 4, 2) := by decide +kernel
theorem dX3_goal_77 : decode cX3_goal 77 = .ok (.iinc 5 1, 3) := by decide +kernel
theorem dX3_goal_80 : decode cX3_goal 80 = .ok (.goto (-54), 3) := by decide +kernel
theorem dX3_goal_83 : decode cX3_goal 83 = .ok (.iload 4, 2) := by decide +kernel
theorem dX3_goal_85 : decode cX3_goal 85 = .ok (.ireturn, 1) := by decide +kernel
theorem dX4_init_0 : decode cX4_init 0 = .ok (.aload_n 0, 1) := by decide +kernel
theorem dX4_init_1 : decode cX4_init 1 = .ok (.invokespecial 3, 3) := by decide +kernel
theorem dX4_init_4 : decode cX4_init 4 = .ok (.aload_n 0, 1) := by decide +kernel
theorem dX4_init_5 : decode cX4_init 5 = .ok (.bipush 6, 2) := by decide +kernel
theorem dX4_init_7 : decode cX4_init 7 = .ok (.newarray .int, 2) := by decide +kernel
theorem dX4_init_9 : decode cX4_init 9 = .ok (.putfield 9, 3) := by decide +kernel
theorem dX4_init_12 : decode cX4_init 12 = .ok (.aload_n 0, 1) := by decide +kernel
theorem dX4_init_13 : decode cX4_init 13 = .ok (.bipush 6, 2) := by decide +kernel
theorem dX4_init_15 : decode cX4_init 15 = .ok (.newarray .int, 2) := by decide +kernel
theorem dX4_init_17 : decode cX4_init 17 = .ok (.putfield 15, 3) := by decide +kernel
theorem dX4_init_20 : decode cX4_init 20 = .ok (.return_, 1) := by decide +kernel
theorem dX4_add_0 : decode cX4_add 0 = .ok (.aload_n 0, 1) := by decide +kernel
theorem dX4_add_1 : decode cX4_add 1 = .ok (.getfield 18, 3) := by decide +kernel
theorem dX4_add_4 : decode cX4_add 4 = .ok (.bipush 6, 2) := by decide +kernel
theorem dX4_add_6 : decode cX4_add 6 = .ok (.if_icmp .lt 5, 3) := by decide +kernel
theorem dX4_add_9 : decode cX4_add 9 = .ok (.iconst 0, 1) := by decide +kernel
theorem dX4_add_10 : decode cX4_add 10 = .ok (.ireturn, 1) := by decide +kernel
theorem dX4_add_11 : decode cX4_add 11 = .ok (.aload_n 0, 1) := by decide +kernel
theorem dX4_add_12 : decode cX4_add 12 = .ok (.getfield 9, 3) := by decide +kernel
theorem dX4_add_15 : decode cX4_add 15 = .ok (.aload_n 0, 1) := by decide +kernel
theorem dX4_add_16 : decode cX4_add 16 = .ok (.getfield 18, 3) := by decide +kernel
theorem dX4_add_19 : decode cX4_add 19 = .ok (.iload_n 1, 1) := by decide +kernel
theorem dX4_add_20 : decode cX4_add 20 = .ok (.iastore, 1) := by decide +kernel
theorem dX4_add_21 : decode cX4_add 21 = .ok (.aload_n 0, 1) := by decide +kernel
theorem dX4_add_22 : decode cX4_add 22 = .ok (.getfield 15, 3) := by decide +kernel
theorem dX4_add_25 : decode cX4_add 25 = .ok (.aload_n 0, 1) := by decide +kernel
theorem dX4_add_26 : decode cX4_add 26 = .ok (.getfield 18, 3) := by decide +kernel
theorem dX4_add_29 : decode cX4_add 29 = .ok (.iload_n 2, 1) := by decide +kernel
theorem dX4_add_30 : decode cX4_add 30 = .ok (.iastore, 1) := by decide +kernel
theorem dX4_add_31 : decode cX4_add 31 = .ok (.aload_n 0, 1) := by decide +kernel
theorem dX4_add_32 : decode cX4_add 32 = .ok (.dup, 1) := by decide +kernel
theorem dX4_add_33 : decode cX4_add 33 = .ok (.getfield 18, 3) := by decide +kernel
theorem dX4_add_36 : decode cX4_add 36 = .ok (.iconst 1, 1) := by decide +kernel
theorem dX4_add_37 : decode cX4_add 37 = .ok (.iadd, 1) := by decide +kernel
theorem dX4_add_38 : decode cX4_add 38 = .ok (.putfield 18, 3) := by decide +kernel
theorem dX4_add_41 : decode cX4_add 41 = .ok (.iconst 1, 1) := by decide +kernel
theorem dX4_add_42 : decode cX4_add 42 = .ok (.ireturn, 1) := by decide +kernel
set_option maxRecDepth 20000 in
theorem ggX4_fits_X2_cells : GoodIn wsX4_fits wsX2_cells := goodIn_r _ [7, 8, 9, 17, 18, 19, 20, 21] (by decide +kernel) (by decide +kernel)
set_option maxRecDepth 20000 in
theorem gX4_fits_X2_cells_n22 : GoodIn wsX4_fits (wsX2_cells) := ggX4_fits_X2_cells
set_option maxRecDepth 20000 in
theorem ggX4_fits_X2_isStill : GoodIn wsX4_fits wsX2_isStill := goodIn_r _ [12, 13, 17, 18, 19, 20, 21] (by decide +kernel) (by decide +kernel)
set_option maxRecDepth 20000 in
theorem gX4_fits_X2_isStill_n27 : GoodIn wsX4_fits (wsX2_isStill) := ggX4_fits_X2_isStill
theorem dX4_fits_0 : decode cX4_fits 0 = .ok (.iconst 0, 1) := by decide +kernel
theorem dX4_fits_1 : decode cX4_fits 1 = .ok (.istore_n 3, 1) := by decide +kernel
theorem dX4_fits_2 : decode cX4_fits 2 = .ok (.iload_n 3, 1) := by decide +kernel
theorem dX4_fits_3 : decode cX4_fits 3 = .ok (.aload_n 0, 1) := by decide +kernel
theorem dX4_fits_4 : decode cX4_fits 4 = .ok (.getfield 18, 3) := by decide +kernel
theorem dX4_fits_7 : decode cX4_fits 7 = .ok (.if_icmp .ge 53, 3) := by decide +kernel
theorem dX4_fits_10 : decode cX4_fits 10 = .ok (.aload_n 0, 1) := by decide +kernel
theorem dX4_fits_11 : decode cX4_fits 11 = .ok (.getfield 9, 3) := by decide +kernel
theorem dX4_fits_14 : decode cX4_fits 14 = .ok (.iload_n 3, 1) := by decide +kernel
theorem dX4_fits_15 : decode cX4_fits 15 = .ok (.iaload, 1) := by decide +kernel
theorem dX4_fits_16 : decode cX4_fits 16 = .ok (.aload_n 1, 1) := by decide +kernel
theorem dX4_fits_17 : decode cX4_fits 17 = .ok (.invokevirtual 22, 3) := by decide +kernel
theorem dX4_fits_20 : decode cX4_fits 20 = .ok (.if_icmp .ge 32, 3) := by decide +kernel
theorem dX4_fits_23 : decode cX4_fits 23 = .ok (.aload_n 1, 1) := by decide +kernel
theorem dX4_fits_24 : decode cX4_fits 24 = .ok (.aload_n 2, 1) := by decide +kernel
theorem dX4_fits_25 : decode cX4_fits 25 = .ok (.aload_n 0, 1) := by decide +kernel
theorem dX4_fits_26 : decode cX4_fits 26 = .ok (.getfield 9, 3) := by decide +kernel
theorem dX4_fits_29 : decode cX4_fits 29 = .ok (.iload_n 3, 1) := by decide +kernel
theorem dX4_fits_30 : decode cX4_fits 30 = .ok (.iaload, 1) := by decide +kernel
theorem dX4_fits_31 : decode cX4_fits 31 = .ok (.invokevirtual 27, 3) := by decide +kernel
theorem dX4_fits_34 : decode cX4_fits 34 = .ok (.aload_n 0, 1) := by decide +kernel
theorem dX4_fits_35 : decode cX4_fits 35 = .ok (.getfield 15, 3) := by decide +kernel
theorem dX4_fits_38 : decode cX4_fits 38 = .ok (.iload_n 3, 1) := by decide +kernel
theorem dX4_fits_39 : decode cX4_fits 39 = .ok (.iaload, 1) := by decide +kernel
theorem dX4_fits_40 : decode cX4_fits 40 = .ok (.iconst 1, 1) := by decide +kernel
theorem dX4_fits_41 : decode cX4_fits 41 = .ok (.if_icmp .ne 7, 3) := by decide +kernel
theorem dX4_fits_44 : decode cX4_fits 44 = .ok (.iconst 1, 1) := by decide +kernel
theorem dX4_fits_45 : decode cX4_fits 45 = .ok (.goto 4, 3) := by decide +kernel
theorem dX4_fits_48 : decode cX4_fits 48 = .ok (.iconst 0, 1) := by decide +kernel
theorem dX4_fits_49 : decode cX4_fits 49 = .ok (.if_icmp .eq 5, 3) := by decide +kernel
theorem dX4_fits_52 : decode cX4_fits 52 = .ok (.iconst 0, 1) := by decide +kernel
theorem dX4_fits_53 : decode cX4_fits 53 = .ok (.ireturn, 1) := by decide +kernel
theorem dX4_fits_54 : decode cX4_fits 54 = .ok (.iinc 3 1, 3) := by decide +kernel
theorem dX4_fits_57 : decode cX4_fits 57 = .ok (.goto (-55), 3) := by decide +kernel
theorem dX4_fits_60 : decode cX4_fits 60 = .ok (.iconst 1, 1) := by decide +kernel
theorem dX4_fits_61 : decode cX4_fits 61 = .ok (.ireturn, 1) := by decide +kernel
set_option maxRecDepth 20000 in
theorem ggX5_init_X6_init : GoodIn wsX5_init wsX6_init := goodIn_r _ [13, 14, 2, 3, 15, 16, 41, 42, 43, 44, 45] (by decide +kernel) (by decide +kernel)
set_option maxRecDepth 20000 in
theorem gX5_init_X6_init_n11 : GoodIn wsX5_init (wsX6_init) := ggX5_init_X6_init
set_option maxRecDepth 20000 in
theorem ggX5_init_X2_init : GoodIn wsX5_init wsX2_init := goodIn_r _ [18, 19, 2, 3, 15, 20, 21, 22, 23, 24, 25, 10, 26, 27, 28, 29, 30, 31, 32, 33, 34, 35, 36, 37, 38, 39, 40, 50, 51, 52, 53, 54] (by decide +kernel) (by decide +kernel)
set_option maxRecDepth 20000 in
theorem gX5_init_X2_init_n20 : GoodIn wsX5_init (wsX2_init) := ggX5_init_X2_init
theorem dX5_init_0 : decode cX5_init 0 = .ok (.aload_n 0, 1) := by decide +kernel
theorem dX5_init_1 : decode cX5_init 1 = .ok (.invokespecial 3, 3) := by decide +kernel
theorem dX5_init_4 : decode cX5_init 4 = .ok (.aload_n 0, 1) := by decide +kernel
theorem dX5_init_5 : decode cX5_init 5 = .ok (.new 9, 3) := by decide +kernel
theorem dX5_init_8 : decode cX5_init 8 = .ok (.dup, 1) := by decide +kernel
theorem dX5_init_9 : decode cX5_init 9 = .ok (.invokespecial 11, 3) := by decide +kernel
theorem dX5_init_12 : decode cX5_init 12 = .ok (.putfield 12, 3) := by decide +kernel
theorem dX5_init_15 : decode cX5_init 15 = .ok (.aload_n 0, 1) := by decide +kernel
theorem dX5_init_16 : decode cX5_init 16 = .ok (.new 18, 3) := by decide +kernel
theorem dX5_init_19 : decode cX5_init 19 = .ok (.dup, 1) := by decide +kernel
theorem dX5_init_20 : decode cX5_init 20 = .ok (.invokespecial 20, 3) := by decide +kernel
theorem dX5_init_23 : decode cX5_init 23 = .ok (.putfield 21, 3) := by decide +kernel
theorem dX5_init_26 : decode cX5_init 26 = .ok (.return_, 1) := by decide +kernel
set_option maxRecDepth 20000 in
theorem ggX5_readAll_X5_startAnew : GoodIn wsX5_readAll wsX5_startAnew := goodIn_r _ [6, 1, 7, 8, 9, 10, 11, 12, 13, 14, 15, 16, 17, 18, 19, 20, 21, 22, 23, 24, 25, 26, 27, 28, 29, 30, 31, 32, 33, 34, 35, 136, 137, 138, 139, 140, 141, 142, 143, 144, 145, 146, 147, 148, 149] (by decide +kernel) (by decide +kernel)
set_option maxRecDepth 20000 in
theorem gX5_readAll_X5_startAnew : GoodIn wsX5_readAll (wsV RX5 25 RX5 yX5_startAnew wsX5_startAnew) := goodIn_app (goodIn_of _ (by decide +kernel)) ggX5_readAll_X5_startAnew
set_option maxRecDepth 20000 in
theorem ggX5_readAll_X6_advance : GoodIn wsX5_readAll wsX6_advance := goodIn_r _ [38, 14, 39, 40, 41, 42, 43, 44, 11, 45, 140, 141, 142, 143, 144] (by decide +kernel) (by decide +kernel)
set_option maxRecDepth 20000 in
theorem gX5_readAll_X6_advance_n28 : GoodIn wsX5_readAll (wsX6_advance) := ggX5_readAll_X6_advance
set_option maxRecDepth 20000 in
theorem ggX5_readAll_X5_wordHere : GoodIn wsX5_readAll wsX5_wordHere := goodIn_r _ [49, 1, 50, 51, 5, 52, 53, 11, 54, 55, 42, 14, 41, 40, 56, 57, 58, 59, 60, 61, 62, 63, 64, 65, 66, 67, 68, 69, 70, 71, 72, 73, 74, 75, 76, 77, 78, 79, 80, 81, 82, 83, 84, 85, 86, 87, 88, 89, 90, 91, 92, 93, 94, 95, 96, 97, 98, 99, 100, 101, 102, 103, 104, 136, 137, 138, 139, 140, 141, 142, 143, 144] (by decide +kernel) (by decide +kernel)
set_option maxRecDepth 20000 in
theorem gX5_readAll_X5_wordHere : GoodIn wsX5_readAll (wsV RX5 35 RX5 yX5_wordHere wsX5_wordHere) := goodIn_app (goodIn_of _ (by decide +kernel)) ggX5_readAll_X5_wordHere
set_option maxRecDepth 20000 in
theorem ggX5_readAll_X5_readTold : GoodIn wsX5_readAll wsX5_readTold := goodIn_r _ [108, 109, 110, 111, 5, 112, 8, 7, 113, 114, 115, 116, 1, 36, 11, 37, 38, 14, 39, 40, 41, 42, 43, 44, 45, 117, 118, 119, 120, 121, 122, 123, 124, 125, 126, 127, 9, 128, 129, 130, 131, 136, 137, 138, 139, 145, 146, 147, 148, 149, 140, 141, 142, 143, 144] (by decide +kernel) (by decide +kernel)
set_option maxRecDepth 20000 in
theorem gX5_readAll_X5_readTold : GoodIn wsX5_readAll (wsV RX5 39 RX5 yX5_readTold wsX5_readTold) := goodIn_app (goodIn_of _ (by decide +kernel)) ggX5_readAll_X5_readTold
set_option maxRecDepth 20000 in
theorem ggX5_readAll_X5_readSemicolon : GoodIn wsX5_readAll wsX5_readSemicolon := goodIn_r _ [135, 1, 36, 11, 37, 38, 14, 39, 40, 41, 42, 43, 44, 45, 136, 137, 138, 139, 140, 141, 142, 143, 144] (by decide +kernel) (by decide +kernel)
set_option maxRecDepth 20000 in
theorem gX5_readAll_X5_readSemicolon : GoodIn wsX5_readAll (wsV RX5 43 RX5 yX5_readSemicolon wsX5_readSemicolon) := goodIn_app (goodIn_of _ (by decide +kernel)) ggX5_readAll_X5_readSemicolon
theorem dX5_readAll_0 : decode cX5_readAll 0 = .ok (.aload_n 0, 1) := by decide +kernel
theorem dX5_readAll_1 : decode cX5_readAll 1 = .ok (.invokevirtual 25, 3) := by decide +kernel
theorem dX5_readAll_4 : decode cX5_readAll 4 = .ok (.iconst 0, 1) := by decide +kernel
theorem dX5_readAll_5 : decode cX5_readAll 5 = .ok (.istore_n 1, 1) := by decide +kernel
theorem dX5_readAll_6 : decode cX5_readAll 6 = .ok (.iload_n 1, 1) := by decide +kernel
theorem dX5_readAll_7 : decode cX5_readAll 7 = .ok (.bipush 120, 2) := by decide +kernel
theorem dX5_readAll_9 : decode cX5_readAll 9 = .ok (.if_icmp .gt 57, 3) := by decide +kernel
theorem dX5_readAll_12 : decode cX5_readAll 12 = .ok (.aload_n 0, 1) := by decide +kernel
theorem dX5_readAll_13 : decode cX5_readAll 13 = .ok (.getfield 12, 3) := by decide +kernel
theorem dX5_readAll_16 : decode cX5_readAll 16 = .ok (.invokevirtual 28, 3) := by decide +kernel
theorem dX5_readAll_19 : decode cX5_readAll 19 = .ok (.aload_n 0, 1) := by decide +kernel
theorem dX5_readAll_20 : decode cX5_readAll 20 = .ok (.getfield 12, 3) := by decide +kernel
theorem dX5_readAll_23 : decode cX5_readAll 23 = .ok (.getfield 31, 3) := by decide +kernel
theorem dX5_readAll_26 : decode cX5_readAll 26 = .ok (.ifCond .ne 5, 3) := by decide +kernel
theorem dX5_readAll_29 : decode cX5_readAll 29 = .ok (.iload_n 1, 1) := by decide +kernel
theorem dX5_readAll_30 : decode cX5_readAll 30 = .ok (.ireturn, 1) := by decide +kernel
theorem dX5_readAll_31 : decode cX5_readAll 31 = .ok (.aload_n 0, 1) := by decide +kernel
theorem dX5_readAll_32 : decode cX5_readAll 32 = .ok (.aload_n 0, 1) := by decide +kernel
theorem dX5_readAll_33 : decode cX5_readAll 33 = .ok (.invokevirtual 35, 3) := by decide +kernel
theorem dX5_readAll_36 : decode cX5_readAll 36 = .ok (.invokevirtual 39, 3) := by decide +kernel
theorem dX5_readAll_39 : decode cX5_readAll 39 = .ok (.ifCond .eq 10, 3) := by decide +kernel
theorem dX5_readAll_42 : decode cX5_readAll 42 = .ok (.aload_n 0, 1) := by decide +kernel
theorem dX5_readAll_43 : decode cX5_readAll 43 = .ok (.invokevirtual 43, 3) := by decide +kernel
theorem dX5_readAll_46 : decode cX5_readAll 46 = .ok (.ifCond .ne 14, 3) := by decide +kernel
theorem dX5_readAll_49 : decode cX5_readAll 49 = .ok (.bipush (-10), 2) := by decide +kernel
theorem dX5_readAll_51 : decode cX5_readAll 51 = .ok (.aload_n 0, 1) := by decide +kernel
theorem dX5_readAll_52 : decode cX5_readAll 52 = .ok (.getfield 12, 3) := by decide +kernel
theorem dX5_readAll_55 : decode cX5_readAll 55 = .ok (.getfield 47, 3) := by decide +kernel
theorem dX5_readAll_58 : decode cX5_readAll 58 = .ok (.isub, 1) := by decide +kernel
theorem dX5_readAll_59 : decode cX5_readAll 59 = .ok (.ireturn, 1) := by decide +kernel
theorem dX5_readAll_60 : decode cX5_readAll 60 = .ok (.iinc 1 1, 3) := by decide +kernel
theorem dX5_readAll_63 : decode cX5_readAll 63 = .ok (.goto (-57), 3) := by decide +kernel
theorem dX5_readAll_66 : decode cX5_readAll 66 = .ok (.bipush (-10), 2) := by decide +kernel
theorem dX5_readAll_68 : decode cX5_readAll 68 = .ok (.aload_n 0, 1) := by decide +kernel
theorem dX5_readAll_69 : decode cX5_readAll 69 = .ok (.getfield 12, 3) := by decide +kernel
theorem dX5_readAll_72 : decode cX5_readAll 72 = .ok (.getfield 47, 3) := by decide +kernel
theorem dX5_readAll_75 : decode cX5_readAll 75 = .ok (.isub, 1) := by decide +kernel
theorem dX5_readAll_76 : decode cX5_readAll 76 = .ok (.ireturn, 1) := by decide +kernel
set_option maxRecDepth 20000 in
theorem ggX5_startAnew_X6_rewind : GoodIn wsX5_startAnew wsX6_rewind := goodIn_r _ [8, 9, 35, 36, 37, 38, 39] (by decide +kernel) (by decide +kernel)
set_option maxRecDepth 20000 in
theorem gX5_startAnew_X6_rewind_n50 : GoodIn wsX5_startAnew (wsX6_rewind) := ggX5_startAnew_X6_rewind
set_option maxRecDepth 20000 in
theorem ggX5_startAnew_X2_beAsAtFirst : GoodIn wsX5_startAnew wsX2_beAsAtFirst := goodIn_r _ [13, 14, 15, 16, 17, 18, 19, 20, 21, 22, 23, 24, 25, 26, 27, 28, 11, 29, 30, 40, 41, 42, 43, 44] (by decide +kernel) (by decide +kernel)
set_option maxRecDepth 20000 in
theorem gX5_startAnew_X2_beAsAtFirst_n53 : GoodIn wsX5_startAnew (wsX2_beAsAtFirst) := ggX5_startAnew_X2_beAsAtFirst
theorem dX5_startAnew_0 : decode cX5_startAnew 0 = .ok (.aload_n 0, 1) := by decide +kernel
theorem dX5_startAnew_1 : decode cX5_startAnew 1 = .ok (.getfield 12, 3) := by decide +kernel
theorem dX5_startAnew_4 : decode cX5_startAnew 4 = .ok (.invokevirtual 50, 3) := by decide +kernel
theorem dX5_startAnew_7 : decode cX5_startAnew 7 = .ok (.aload_n 0, 1) := by decide +kernel
theorem dX5_startAnew_8 : decode cX5_startAnew 8 = .ok (.getfield 21, 3) := by decide +kernel
theorem dX5_startAnew_11 : decode cX5_startAnew 11 = .ok (.invokevirtual 53, 3) := by decide +kernel
theorem dX5_startAnew_14 : decode cX5_startAnew 14 = .ok (.aload_n 0, 1) := by decide +kernel
theorem dX5_startAnew_15 : decode cX5_startAnew 15 = .ok (.iconst 0, 1) := by decide +kernel
theorem dX5_startAnew_16 : decode cX5_startAnew 16 = .ok (.putfield 56, 3) := by decide +kernel
theorem dX5_startAnew_19 : decode cX5_startAnew 19 = .ok (.aload_n 0, 1) := by decide +kernel
theorem dX5_startAnew_20 : decode cX5_startAnew 20 = .ok (.iconst 0, 1) := by decide +kernel
theorem dX5_startAnew_21 : decode cX5_startAnew 21 = .ok (.putfield 60, 3) := by decide +kernel
theorem dX5_startAnew_24 : decode cX5_startAnew 24 = .ok (.return_, 1) := by decide +kernel
set_option maxRecDepth 20000 in
theorem ggX5_readSemicolon_X6_advance : GoodIn wsX5_readSemicolon wsX6_advance := goodIn_r _ [5, 6, 7, 8, 9, 10, 11, 12, 3, 13, 18, 19, 20, 21, 22] (by decide +kernel) (by decide +kernel)
set_option maxRecDepth 20000 in
theorem gX5_readSemicolon_X6_advance_n28 : GoodIn wsX5_readSemicolon (wsX6_advance) := ggX5_readSemicolon_X6_advance
theorem dX5_readSemicolon_0 : decode cX5_readSemicolon 0 = .ok (.aload_n 0, 1) := by decide +kernel
theorem dX5_readSemicolon_1 : decode cX5_readSemicolon 1 = .ok (.getfield 12, 3) := by decide +kernel
theorem dX5_readSemicolon_4 : decode cX5_readSemicolon 4 = .ok (.invokevirtual 28, 3) := by decide +kernel
theorem dX5_readSemicolon_7 : decode cX5_readSemicolon 7 = .ok (.aload_n 0, 1) := by decide +kernel
theorem dX5_readSemicolon_8 : decode cX5_readSemicolon 8 = .ok (.getfield 12, 3) := by decide +kernel
theorem dX5_readSemicolon_11 : decode cX5_readSemicolon 11 = .ok (.getfield 31, 3) := by decide +kernel
theorem dX5_readSemicolon_14 : decode cX5_readSemicolon 14 = .ok (.iconst 3, 1) := by decide +kernel
theorem dX5_readSemicolon_15 : decode cX5_readSemicolon 15 = .ok (.if_icmp .ne 7, 3) := by decide +kernel
theorem dX5_readSemicolon_18 : decode cX5_readSemicolon 18 = .ok (.iconst 1, 1) := by decide +kernel
theorem dX5_readSemicolon_19 : decode cX5_readSemicolon 19 = .ok (.goto 4, 3) := by decide +kernel
theorem dX5_readSemicolon_22 : decode cX5_readSemicolon 22 = .ok (.iconst 0, 1) := by decide +kernel
theorem dX5_readSemicolon_23 : decode cX5_readSemicolon 23 = .ok (.ireturn, 1) := by decide +kernel
set_option maxRecDepth 20000 in
theorem ggX5_readTold_X5_readPlate : GoodIn wsX5_readTold wsX5_readPlate := goodIn_r _ [5, 6, 7, 8, 9, 10, 4, 11, 12, 13, 14, 15, 16, 17, 18, 19, 20, 21, 22, 23, 24, 25, 26, 27, 41, 42, 43, 44, 45, 46, 47, 48, 49, 50, 51, 52, 53, 54] (by decide +kernel) (by decide +kernel)
set_option maxRecDepth 20000 in
theorem gX5_readTold_X5_readPlate : GoodIn wsX5_readTold (wsV RX5 63 RX5 yX5_readPlate wsX5_readPlate) := goodIn_app (goodIn_of _ (by decide +kernel)) ggX5_readTold_X5_readPlate
set_option maxRecDepth 20000 in
theorem ggX5_readTold_X5_readDrive : GoodIn wsX5_readTold wsX5_readDrive := goodIn_r _ [31, 6, 7, 8, 9, 10, 4, 11, 12, 13, 14, 15, 16, 17, 18, 19, 20, 21, 22, 23, 24, 25, 26, 27, 41, 42, 43, 44, 45, 46, 47, 48, 49, 50, 51, 52, 53, 54] (by decide +kernel) (by decide +kernel)
set_option maxRecDepth 20000 in
theorem gX5_readTold_X5_readDrive : GoodIn wsX5_readTold (wsV RX5 66 RX5 yX5_readDrive wsX5_readDrive) := goodIn_app (goodIn_of _ (by decide +kernel)) ggX5_readTold_X5_readDrive
set_option maxRecDepth 20000 in
theorem ggX5_readTold_X5_readRow : GoodIn wsX5_readTold wsX5_readRow := goodIn_r _ [35, 36, 7, 6, 12, 13, 14, 15, 16, 17, 18, 19, 20, 21, 22, 23, 24, 41, 42, 43, 44, 45, 46, 47, 48, 49, 50, 51, 52, 53, 54] (by decide +kernel) (by decide +kernel)
set_option maxRecDepth 20000 in
theorem gX5_readTold_X5_readRow : GoodIn wsX5_readTold (wsV RX5 69 RX5 yX5_readRow wsX5_readRow) := goodIn_app (goodIn_of _ (by decide +kernel)) ggX5_readTold_X5_readRow
set_option maxRecDepth 20000 in
theorem ggX5_readTold_X5_readSetting : GoodIn wsX5_readTold wsX5_readSetting := goodIn_r _ [40, 7, 8, 9, 10, 4, 11, 12, 13, 14, 15, 16, 17, 18, 19, 20, 21, 22, 23, 24, 25, 26, 27, 41, 42, 43, 44, 45, 46, 47, 48, 49, 50, 51, 52, 53, 54] (by decide +kernel) (by decide +kernel)
set_option maxRecDepth 20000 in
theorem gX5_readTold_X5_readSetting : GoodIn wsX5_readTold (wsV RX5 72 RX5 yX5_readSetting wsX5_readSetting) := goodIn_app (goodIn_of _ (by decide +kernel)) ggX5_readTold_X5_readSetting
theorem dX5_readTold_0 : decode cX5_readTold 0 = .ok (.iload_n 1, 1) := by decide +kernel
theorem dX5_readTold_1 : decode cX5_readTold 1 = .ok (.tableswitch 72 (-1) 8 #[55, 72, 72, 72, 72, 72, 72, 57, 62, 67], 55) := by decide +kernel
theorem dX5_readTold_56 : decode cX5_readTold 56 = .ok (.iconst 0, 1) := by decide +kernel
theorem dX5_readTold_57 : decode cX5_readTold 57 = .ok (.ireturn, 1) := by decide +kernel
theorem dX5_readTold_58 : decode cX5_readTold 58 = .ok (.aload_n 0, 1) := by decide +kernel
theorem dX5_readTold_59 : decode cX5_readTold 59 = .ok (.invokevirtual 63, 3) := by decide +kernel
theorem dX5_readTold_62 : decode cX5_readTold 62 = .ok (.ireturn, 1) := by decide +kernel
theorem dX5_readTold_63 : decode cX5_readTold 63 = .ok (.aload_n 0, 1) := by decide +kernel
theorem dX5_readTold_64 : decode cX5_readTold 64 = .ok (.invokevirtual 66, 3) := by decide +kernel
theorem dX5_readTold_67 : decode cX5_readTold 67 = .ok (.ireturn, 1) := by decide +kernel
theorem dX5_readTold_68 : decode cX5_readTold 68 = .ok (.aload_n 0, 1) := by decide +kernel
theorem dX5_readTold_69 : decode cX5_readTold 69 = .ok (.invokevirtual 69, 3) := by decide +kernel
theorem dX5_readTold_72 : decode cX5_readTold 72 = .ok (.ireturn, 1) := by decide +kernel
theorem dX5_readTold_73 : decode cX5_readTold 73 = .ok (.aload_n 0, 1) := by decide +kernel
theorem dX5_readTold_74 : decode cX5_readTold 74 = .ok (.iload_n 1, 1) := by decide +kernel
theorem dX5_readTold_75 : decode cX5_readTold 75 = .ok (.invokevirtual 72, 3) := by decide +kernel
theorem dX5_readTold_78 : decode cX5_readTold 78 = .ok (.ireturn, 1) := by decide +kernel
set_option maxRecDepth 20000 in
theorem ggX5_wordHere_X5_spelling : GoodIn wsX5_wordHere wsX5_spelling := goodIn_r _ [5] (by decide +kernel) (by decide +kernel)
set_option maxRecDepth 20000 in
theorem gX5_wordHere_X5_spelling : GoodIn wsX5_wordHere (va_wsS RX5 75 yX5_spelling wsX5_spelling) := goodIn_app (goodIn_of _ (by decide +kernel)) ggX5_wordHere_X5_spelling
set_option maxRecDepth 20000 in
theorem ggX5_wordHere_X6_isSpelled : GoodIn wsX5_wordHere wsX6_isSpelled := goodIn_r _ [9, 10, 11, 12, 13, 14, 15, 16, 17, 18, 19, 20, 21, 22, 23, 24, 25, 26, 27, 28, 29, 30, 31, 32, 33, 34, 35, 36, 37, 38, 39, 40, 41, 42, 43, 44, 45, 46, 47, 48, 49, 50, 51, 52, 53, 54, 55, 56, 57, 58, 59, 60, 61, 62, 67, 68, 69, 70, 71] (by decide +kernel) (by decide +kernel)
set_option maxRecDepth 20000 in
theorem gX5_wordHere_X6_isSpelled_n79 : GoodIn wsX5_wordHere (wsX6_isSpelled) := ggX5_wordHere_X6_isSpelled
theorem dX5_wordHere_0 : decode cX5_wordHere 0 = .ok (.iconst 0, 1) := by decide +kernel
theorem dX5_wordHere_1 : decode cX5_wordHere 1 = .ok (.istore_n 1, 1) := by decide +kernel
theorem dX5_wordHere_2 : decode cX5_wordHere 2 = .ok (.iload_n 1, 1) := by decide +kernel
theorem dX5_wordHere_3 : decode cX5_wordHere 3 = .ok (.bipush 8, 2) := by decide +kernel
theorem dX5_wordHere_5 : decode cX5_wordHere 5 = .ok (.if_icmp .gt 25, 3) := by decide +kernel
theorem dX5_wordHere_8 : decode cX5_wordHere 8 = .ok (.aload_n 0, 1) := by decide +kernel
theorem dX5_wordHere_9 : decode cX5_wordHere 9 = .ok (.getfield 12, 3) := by decide +kernel
theorem dX5_wordHere_12 : decode cX5_wordHere 12 = .ok (.iload_n 1, 1) := by decide +kernel
theorem dX5_wordHere_13 : decode cX5_wordHere 13 = .ok (.invokestatic 75, 3) := by decide +kernel
theorem dX5_wordHere_16 : decode cX5_wordHere 16 = .ok (.invokevirtual 79, 3) := by decide +kernel
theorem dX5_wordHere_19 : decode cX5_wordHere 19 = .ok (.ifCond .eq 5, 3) := by decide +kernel
theorem dX5_wordHere_22 : decode cX5_wordHere 22 = .ok (.iload_n 1, 1) := by decide +kernel
theorem dX5_wordHere_23 : decode cX5_wordHere 23 = .ok (.ireturn, 1) := by decide +kernel
theorem dX5_wordHere_24 : decode cX5_wordHere 24 = .ok (.iinc 1 1, 3) := by decide +kernel
theorem dX5_wordHere_27 : decode cX5_wordHere 27 = .ok (.goto (-25), 3) := by decide +kernel
theorem dX5_wordHere_30 : decode cX5_wordHere 30 = .ok (.iconst (-1), 1) := by decide +kernel
theorem dX5_wordHere_31 : decode cX5_wordHere 31 = .ok (.ireturn, 1) := by decide +kernel
theorem dX5_spelling_0 : decode cX5_spelling 0 = .ok (.iload_n 0, 1) := by decide +kernel
theorem dX5_spelling_1 : decode cX5_spelling 1 = .ok (.tableswitch 71 0 7 #[47, 50, 53, 56, 59, 62, 65, 68], 47) := by decide +kernel
theorem dX5_spelling_48 : decode cX5_spelling 48 = .ok (.ldc 83, 2) := by decide +kernel
theorem dX5_spelling_50 : decode cX5_spelling 50 = .ok (.areturn, 1) := by decide +kernel
theorem dX5_spelling_51 : decode cX5_spelling 51 = .ok (.ldc 85, 2) := by decide +kernel
theorem dX5_spelling_53 : decode cX5_spelling 53 = .ok (.areturn, 1) := by decide +kernel
theorem dX5_spelling_54 : decode cX5_spelling 54 = .ok (.ldc 87, 2) := by decide +kernel
theorem dX5_spelling_56 : decode cX5_spelling 56 = .ok (.areturn, 1) := by decide +kernel
theorem dX5_spelling_57 : decode cX5_spelling 57 = .ok (.ldc 89, 2) := by decide +kernel
theorem dX5_spelling_59 : decode cX5_spelling 59 = .ok (.areturn, 1) := by decide +kernel
theorem dX5_spelling_60 : decode cX5_spelling 60 = .ok (.ldc 91, 2) := by decide +kernel
theorem dX5_spelling_62 : decode cX5_spelling 62 = .ok (.areturn, 1) := by decide +kernel
theorem dX5_spelling_63 : decode cX5_spelling 63 = .ok (.ldc 93, 2) := by decide +kernel
theorem dX5_spelling_65 : decode cX5_spelling 65 = .ok (.areturn, 1) := by decide +kernel
theorem dX5_spelling_66 : decode cX5_spelling 66 = .ok (.ldc 95, 2) := by decide +kernel
theorem dX5_spelling_68 : decode cX5_spelling 68 = .ok (.areturn, 1) := by decide +kernel
theorem dX5_spelling_69 : decode cX5_spelling 69 = .ok (.ldc 96, 2) := by decide +kernel
theorem dX5_spelling_71 : decode cX5_spelling 71 = .ok (.areturn, 1) := by decide +kernel
theorem dX5_spelling_72 : decode cX5_spelling 72 = .ok (.ldc 98, 2) := by decide +kernel
theorem dX5_spelling_74 : decode cX5_spelling 74 = .ok (.areturn, 1) := by decide +kernel
set_option maxRecDepth 20000 in
theorem ggX5_readPlate_X5_readNumber : GoodIn wsX5_readPlate wsX5_readNumber := goodIn_r _ [7, 8, 9, 10, 11, 12, 13, 14, 15, 16, 17, 18, 19, 20, 21, 22, 23, 24, 25, 26, 27, 33, 34, 35, 36, 37] (by decide +kernel) (by decide +kernel)
set_option maxRecDepth 20000 in
theorem gX5_readPlate_X5_readNumber : GoodIn wsX5_readPlate (wsV RX5 100 RX5 yX5_readNumber wsX5_readNumber) := goodIn_app (goodIn_of _ (by decide +kernel)) ggX5_readPlate_X5_readNumber
theorem dX5_readPlate_0 : decode cX5_readPlate 0 = .ok (.aload_n 0, 1) := by decide +kernel
theorem dX5_readPlate_1 : decode cX5_readPlate 1 = .ok (.getfield 56, 3) := by decide +kernel
theorem dX5_readPlate_4 : decode cX5_readPlate 4 = .ok (.ifCond .eq 5, 3) := by decide +kernel
theorem dX5_readPlate_7 : decode cX5_readPlate 7 = .ok (.iconst 0, 1) := by decide +kernel
theorem dX5_readPlate_8 : decode cX5_readPlate 8 = .ok (.ireturn, 1) := by decide +kernel
theorem dX5_readPlate_9 : decode cX5_readPlate 9 = .ok (.aload_n 0, 1) := by decide +kernel
theorem dX5_readPlate_10 : decode cX5_readPlate 10 = .ok (.iconst 1, 1) := by decide +kernel
theorem dX5_readPlate_11 : decode cX5_readPlate 11 = .ok (.putfield 56, 3) := by decide +kernel
theorem dX5_readPlate_14 : decode cX5_readPlate 14 = .ok (.aload_n 0, 1) := by decide +kernel
theorem dX5_readPlate_15 : decode cX5_readPlate 15 = .ok (.iconst 2, 1) := by decide +kernel
theorem dX5_readPlate_16 : decode cX5_readPlate 16 = .ok (.bipush 6, 2) := by decide +kernel
theorem dX5_readPlate_18 : decode cX5_readPlate 18 = .ok (.invokevirtual 100, 3) := by decide +kernel
theorem dX5_readPlate_21 : decode cX5_readPlate 21 = .ok (.istore_n 1, 1) := by decide +kernel
theorem dX5_readPlate_22 : decode cX5_readPlate 22 = .ok (.iload_n 1, 1) := by decide +kernel
theorem dX5_readPlate_23 : decode cX5_readPlate 23 = .ok (.ifCond .ge 5, 3) := by decide +kernel
theorem dX5_readPlate_26 : decode cX5_readPlate 26 = .ok (.iconst 0, 1) := by decide +kernel
theorem dX5_readPlate_27 : decode cX5_readPlate 27 = .ok (.ireturn, 1) := by decide +kernel
theorem dX5_readPlate_28 : decode cX5_readPlate 28 = .ok (.aload_n 0, 1) := by decide +kernel
theorem dX5_readPlate_29 : decode cX5_readPlate 29 = .ok (.iconst 2, 1) := by decide +kernel
theorem dX5_readPlate_30 : decode cX5_readPlate 30 = .ok (.bipush 6, 2) := by decide +kernel
theorem dX5_readPlate_32 : decode cX5_readPlate 32 = .ok (.invokevirtual 100, 3) := by decide +kernel
theorem dX5_readPlate_35 : decode cX5_readPlate 35 = .ok (.istore_n 2, 1) := by decide +kernel
theorem dX5_readPlate_36 : decode cX5_readPlate 36 = .ok (.iload_n 2, 1) := by decide +kernel
theorem dX5_readPlate_37 : decode cX5_readPlate 37 = .ok (.ifCond .ge 5, 3) := by decide +kernel
theorem dX5_readPlate_40 : decode cX5_readPlate 40 = .ok (.iconst 0, 1) := by decide +kernel
theorem dX5_readPlate_41 : decode cX5_readPlate 41 = .ok (.ireturn, 1) := by decide +kernel
theorem dX5_readPlate_42 : decode cX5_readPlate 42 = .ok (.aload_n 0, 1) := by decide +kernel
theorem dX5_readPlate_43 : decode cX5_readPlate 43 = .ok (.getfield 21, 3) := by decide +kernel
theorem dX5_readPlate_46 : decode cX5_readPlate 46 = .ok (.iload_n 1, 1) := by decide +kernel
theorem dX5_readPlate_47 : decode cX5_readPlate 47 = .ok (.putfield 104, 3) := by decide +kernel
theorem dX5_readPlate_50 : decode cX5_readPlate 50 = .ok (.aload_n 0, 1) := by decide +kernel
theorem dX5_readPlate_51 : decode cX5_readPlate 51 = .ok (.getfield 21, 3) := by decide +kernel
theorem dX5_readPlate_54 : decode cX5_readPlate 54 = .ok (.iload_n 2, 1) := by decide +kernel
theorem dX5_readPlate_55 : decode cX5_readPlate 55 = .ok (.putfield 107, 3) := by decide +kernel
theorem dX5_readPlate_58 : decode cX5_readPlate 58 = .ok (.iconst 1, 1) := by decide +kernel
theorem dX5_readPlate_59 : decode cX5_readPlate 59 = .ok (.ireturn, 1) := by decide +kernel
set_option maxRecDepth 20000 in
theorem ggX5_readSetting_X5_readNumber : GoodIn wsX5_readSetting wsX5_readNumber := goodIn_r _ [6, 7, 8, 9, 10, 11, 12, 13, 14, 15, 16, 17, 18, 19, 20, 21, 22, 23, 24, 25, 26, 32, 33, 34, 35, 36] (by decide +kernel) (by decide +kernel)
set_option maxRecDepth 20000 in
theorem gX5_readSetting_X5_readNumber : GoodIn wsX5_readSetting (wsV RX5 100 RX5 yX5_readNumber wsX5_readNumber) := goodIn_app (goodIn_of _ (by decide +kernel)) ggX5_readSetting_X5_readNumber
theorem dX5_readSetting_0 : decode cX5_readSetting 0 = .ok (.iload_n 1, 1) := by decide +kernel
theorem dX5_readSetting_1 : decode cX5_readSetting 1 = .ok (.ifCond .lt 9, 3) := by decide +kernel
theorem dX5_readSetting_4 : decode cX5_readSetting 4 = .ok (.iload_n 1, 1) := by decide +kernel
theorem dX5_readSetting_5 : decode cX5_readSetting 5 = .ok (.bipush 6, 2) := by decide +kernel
theorem dX5_readSetting_7 : decode cX5_readSetting 7 = .ok (.if_icmp .lt 5, 3) := by decide +kernel
theorem dX5_readSetting_10 : decode cX5_readSetting 10 = .ok (.iconst 0, 1) := by decide +kernel
theorem dX5_readSetting_11 : decode cX5_readSetting 11 = .ok (.ireturn, 1) := by decide +kernel
theorem dX5_readSetting_12 : decode cX5_readSetting 12 = .ok (.aload_n 0, 1) := by decide +kernel
theorem dX5_readSetting_13 : decode cX5_readSetting 13 = .ok (.getstatic 110, 3) := by decide +kernel
theorem dX5_readSetting_16 : decode cX5_readSetting 16 = .ok (.iload_n 1, 1) := by decide +kernel
theorem dX5_readSetting_17 : decode cX5_readSetting 17 = .ok (.iaload, 1) := by decide +kernel
theorem dX5_readSetting_18 : decode cX5_readSetting 18 = .ok (.getstatic 114, 3) := by decide +kernel
theorem dX5_readSetting_21 : decode cX5_readSetting 21 = .ok (.iload_n 1, 1) := by decide +kernel
theorem dX5_readSetting_22 : decode cX5_readSetting 22 = .ok (.iaload, 1) := by decide +kernel
theorem dX5_readSetting_23 : decode cX5_readSetting 23 = .ok (.invokevirtual 100, 3) := by decide +kernel
theorem dX5_readSetting_26 : decode cX5_readSetting 26 = .ok (.istore_n 2, 1) := by decide +kernel
theorem dX5_readSetting_27 : decode cX5_readSetting 27 = .ok (.iload_n 2, 1) := by decide +kernel
theorem dX5_readSetting_28 : decode cX5_readSetting 28 = .ok (.ifCond .ge 5, 3) := by decide +kernel
theorem dX5_readSetting_31 : decode cX5_readSetting 31 = .ok (.iconst 0, 1) := by decide +kernel
theorem dX5_readSetting_32 : decode cX5_readSetting 32 = .ok (.ireturn, 1) := by decide +kernel
theorem dX5_readSetting_33 : decode cX5_readSetting 33 = .ok (.aload_n 0, 1) := by decide +kernel
theorem dX5_readSetting_34 : decode cX5_readSetting 34 = .ok (.getfield 21, 3) := by decide +kernel
theorem dX5_readSetting_37 : decode cX5_readSetting 37 = .ok (.getfield 117, 3) := by decide +kernel
theorem dX5_readSetting_40 : decode cX5_readSetting 40 = .ok (.iload_n 1, 1) := by decide +kernel
theorem dX5_readSetting_41 : decode cX5_readSetting 41 = .ok (.iload_n 2, 1) := by decide +kernel
theorem dX5_readSetting_42 : decode cX5_readSetting 42 = .ok (.iastore, 1) := by decide +kernel
theorem dX5_readSetting_43 : decode cX5_readSetting 43 = .ok (.iconst 1, 1) := by decide +kernel
theorem dX5_readSetting_44 : decode cX5_readSetting 44 = .ok (.ireturn, 1) := by decide +kernel
set_option maxRecDepth 20000 in
theorem ggX5_readDrive_X5_readNumber : GoodIn wsX5_readDrive wsX5_readNumber := goodIn_r _ [7, 8, 9, 10, 11, 12, 13, 14, 15, 16, 17, 18, 19, 20, 21, 22, 23, 24, 25, 26, 27, 33, 34, 35, 36, 37] (by decide +kernel) (by decide +kernel)
set_option maxRecDepth 20000 in
theorem gX5_readDrive_X5_readNumber : GoodIn wsX5_readDrive (wsV RX5 100 RX5 yX5_readNumber wsX5_readNumber) := goodIn_app (goodIn_of _ (by decide +kernel)) ggX5_readDrive_X5_readNumber
theorem dX5_readDrive_0 : decode cX5_readDrive 0 = .ok (.aload_n 0, 1) := by decide +kernel
theorem dX5_readDrive_1 : decode cX5_readDrive 1 = .ok (.iconst 1, 1) := by decide +kernel
theorem dX5_readDrive_2 : decode cX5_readDrive 2 = .ok (.putfield 56, 3) := by decide +kernel
theorem dX5_readDrive_5 : decode cX5_readDrive 5 = .ok (.aload_n 0, 1) := by decide +kernel
theorem dX5_readDrive_6 : decode cX5_readDrive 6 = .ok (.iconst 0, 1) := by decide +kernel
theorem dX5_readDrive_7 : decode cX5_readDrive 7 = .ok (.aload_n 0, 1) := by decide +kernel
theorem dX5_readDrive_8 : decode cX5_readDrive 8 = .ok (.getfield 21, 3) := by decide +kernel
theorem dX5_readDrive_11 : decode cX5_readDrive 11 = .ok (.getfield 104, 3) := by decide +kernel
theorem dX5_readDrive_14 : decode cX5_readDrive 14 = .ok (.iconst 1, 1) := by decide +kernel
theorem dX5_readDrive_15 : decode cX5_readDrive 15 = .ok (.isub, 1) := by decide +kernel
theorem dX5_readDrive_16 : decode cX5_readDrive 16 = .ok (.invokevirtual 100, 3) := by decide +kernel
theorem dX5_readDrive_19 : decode cX5_readDrive 19 = .ok (.istore_n 1, 1) := by decide +kernel
theorem dX5_readDrive_20 : decode cX5_readDrive 20 = .ok (.iload_n 1, 1) := by decide +kernel
theorem dX5_readDrive_21 : decode cX5_readDrive 21 = .ok (.ifCond .ge 5, 3) := by decide +kernel
theorem dX5_readDrive_24 : decode cX5_readDrive 24 = .ok (.iconst 0, 1) := by decide +kernel
theorem dX5_readDrive_25 : decode cX5_readDrive 25 = .ok (.ireturn, 1) := by decide +kernel
theorem dX5_readDrive_26 : decode cX5_readDrive 26 = .ok (.aload_n 0, 1) := by decide +kernel
theorem dX5_readDrive_27 : decode cX5_readDrive 27 = .ok (.iconst 0, 1) := by decide +kernel
theorem dX5_readDrive_28 : decode cX5_readDrive 28 = .ok (.aload_n 0, 1) := by decide +kernel
theorem dX5_readDrive_29 : decode cX5_readDrive 29 = .ok (.getfield 21, 3) := by decide +kernel
theorem dX5_readDrive_32 : decode cX5_readDrive 32 = .ok (.getfield 107, 3) := by decide +kernel
theorem dX5_readDrive_35 : decode cX5_readDrive 35 = .ok (.iconst 1, 1) := by decide +kernel
theorem dX5_readDrive_36 : decode cX5_readDrive 36 = .ok (.isub, 1) := by decide +kernel
theorem dX5_readDrive_37 : decode cX5_readDrive 37 = .ok (.invokevirtual 100, 3) := by decide +kernel
theorem dX5_readDrive_40 : decode cX5_readDrive 40 = .ok (.istore_n 2, 1) := by decide +kernel
theorem dX5_readDrive_41 : decode cX5_readDrive 41 = .ok (.iload_n 2, 1) := by decide +kernel
theorem dX5_readDrive_42 : decode cX5_readDrive 42 = .ok (.ifCond .ge 5, 3) := by decide +kernel
theorem dX5_readDrive_45 : decode cX5_readDrive 45 = .ok (.iconst 0, 1) := by decide +kernel
theorem dX5_readDrive_46 : decode cX5_readDrive 46 = .ok (.ireturn, 1) := by decide +kernel
theorem dX5_readDrive_47 : decode cX5_readDrive 47 = .ok (.aload_n 0, 1) := by decide +kernel
theorem dX5_readDrive_48 : decode cX5_readDrive 48 = .ok (.getfield 21, 3) := by decide +kernel
theorem dX5_readDrive_51 : decode cX5_readDrive 51 = .ok (.getfield 117, 3) := by decide +kernel
theorem dX5_readDrive_54 : decode cX5_readDrive 54 = .ok (.bipush 6, 2) := by decide +kernel
theorem dX5_readDrive_56 : decode cX5_readDrive 56 = .ok (.aload_n 0, 1) := by decide +kernel
theorem dX5_readDrive_57 : decode cX5_readDrive 57 = .ok (.getfield 21, 3) := by decide +kernel
theorem dX5_readDrive_60 : decode cX5_readDrive 60 = .ok (.getfield 104, 3) := by decide +kernel
theorem dX5_readDrive_63 : decode cX5_readDrive 63 = .ok (.iload_n 2, 1) := by decide +kernel
theorem dX5_readDrive_64 : decode cX5_readDrive 64 = .ok (.imul, 1) := by decide +kernel
theorem dX5_readDrive_65 : decode cX5_readDrive 65 = .ok (.iload_n 1, 1) := by decide +kernel
theorem dX5_readDrive_66 : decode cX5_readDrive 66 = .ok (.iadd, 1) := by decide +kernel
theorem dX5_readDrive_67 : decode cX5_readDrive 67 = .ok (.iastore, 1) := by decide +kernel
theorem dX5_readDrive_68 : decode cX5_readDrive 68 = .ok (.iconst 1, 1) := by decide +kernel
theorem dX5_readDrive_69 : decode cX5_readDrive 69 = .ok (.ireturn, 1) := by decide +kernel
set_option maxRecDepth 20000 in
theorem ggX5_readRow_X6_advance : GoodIn wsX5_readRow wsX6_advance := goodIn_r _ [8, 9, 10, 11, 12, 13, 14, 15, 6, 16, 26, 27, 28, 29, 30] (by decide +kernel) (by decide +kernel)
set_option maxRecDepth 20000 in
theorem gX5_readRow_X6_advance_n28 : GoodIn wsX5_readRow (wsX6_advance) := ggX5_readRow_X6_advance
theorem dX5_readRow_0 : decode cX5_readRow 0 = .ok (.aload_n 0, 1) := by decide +kernel
theorem dX5_readRow_1 : decode cX5_readRow 1 = .ok (.getfield 60, 3) := by decide +kernel
theorem dX5_readRow_4 : decode cX5_readRow 4 = .ok (.aload_n 0, 1) := by decide +kernel
theorem dX5_readRow_5 : decode cX5_readRow 5 = .ok (.getfield 21, 3) := by decide +kernel
theorem dX5_readRow_8 : decode cX5_readRow 8 = .ok (.getfield 107, 3) := by decide +kernel
theorem dX5_readRow_11 : decode cX5_readRow 11 = .ok (.if_icmp .lt 5, 3) := by decide +kernel
theorem dX5_readRow_14 : decode cX5_readRow 14 = .ok (.iconst 0, 1) := by decide +kernel
theorem dX5_readRow_15 : decode cX5_readRow 15 = .ok (.ireturn, 1) := by decide +kernel
theorem dX5_readRow_16 : decode cX5_readRow 16 = .ok (.aload_n 0, 1) := by decide +kernel
theorem dX5_readRow_17 : decode cX5_readRow 17 = .ok (.iconst 1, 1) := by decide +kernel
theorem dX5_readRow_18 : decode cX5_readRow 18 = .ok (.putfield 56, 3) := by decide +kernel
theorem dX5_readRow_21 : decode cX5_readRow 21 = .ok (.aload_n 0, 1) := by decide +kernel
theorem dX5_readRow_22 : decode cX5_readRow 22 = .ok (.getfield 12, 3) := by decide +kernel
theorem dX5_readRow_25 : decode cX5_readRow 25 = .ok (.invokevirtual 28, 3) := by decide +kernel
theorem dX5_readRow_28 : decode cX5_readRow 28 = .ok (.aload_n 0, 1) := by decide +kernel
theorem dX5_readRow_29 : decode cX5_readRow 29 = .ok (.getfield 12, 3) := by decide +kernel
theorem dX5_readRow_32 : decode cX5_readRow 32 = .ok (.getfield 31, 3) := by decide +kernel
theorem dX5_readRow_35 : decode cX5_readRow 35 = .ok (.iconst 2, 1) := by decide +kernel
theorem dX5_readRow_36 : decode cX5_readRow 36 = .ok (.if_icmp .ne 28, 3) := by decide +kernel
theorem dX5_readRow_39 : decode cX5_readRow 39 = .ok (.aload_n 0, 1) := by decide +kernel
theorem dX5_readRow_40 : decode cX5_readRow 40 = .ok (.getfield 12, 3) := by decide +kernel
theorem dX5_readRow_43 : decode cX5_readRow 43 = .ok (.getfield 120, 3) := by decide +kernel
theorem dX5_readRow_46 : decode cX5_readRow 46 = .ok (.aload_n 0, 1) := by decide +kernel
theorem dX5_readRow_47 : decode cX5_readRow 47 = .ok (.getfield 12, 3) := by decide +kernel
theorem dX5_readRow_50 : decode cX5_readRow 50 = .ok (.getfield 47, 3) := by decide +kernel
theorem dX5_readRow_53 : decode cX5_readRow 53 = .ok (.isub, 1) := by decide +kernel
theorem dX5_readRow_54 : decode cX5_readRow 54 = .ok (.aload_n 0, 1) := by decide +kernel
theorem dX5_readRow_55 : decode cX5_readRow 55 = .ok (.getfield 21, 3) := by decide +kernel
theorem dX5_readRow_58 : decode cX5_readRow 58 = .ok (.getfield 104, 3) := by decide +kernel
theorem dX5_readRow_61 : decode cX5_readRow 61 = .ok (.if_icmp .eq 5, 3) := by decide +kernel
theorem dX5_readRow_64 : decode cX5_readRow 64 = .ok (.iconst 0, 1) := by decide +kernel
theorem dX5_readRow_65 : decode cX5_readRow 65 = .ok (.ireturn, 1) := by decide +kernel
theorem dX5_readRow_66 : decode cX5_readRow 66 = .ok (.iconst 0, 1) := by decide +kernel
theorem dX5_readRow_67 : decode cX5_readRow 67 = .ok (.istore_n 1, 1) := by decide +kernel
theorem dX5_readRow_68 : decode cX5_readRow 68 = .ok (.iload_n 1, 1) := by decide +kernel
theorem dX5_readRow_69 : decode cX5_readRow 69 = .ok (.aload_n 0, 1) := by decide +kernel
theorem dX5_readRow_70 : decode cX5_readRow 70 = .ok (.getfield 21, 3) := by decide +kernel
theorem dX5_readRow_73 : decode cX5_readRow 73 = .ok (.getfield 104, 3) := by decide +kernel
theorem dX5_readRow_76 : decode cX5_readRow 76 = .ok (.if_icmp .ge 60, 3) := by decide +kernel
theorem dX5_readRow_79 : decode cX5_readRow 79 = .ok (.aload_n 0, 1) := by decide +kernel
theorem dX5_readRow_80 : decode cX5_readRow 80 = .ok (.getfield 12, 3) := by decide +kernel
theorem dX5_readRow_83 : decode cX5_readRow 83 = .ok (.getfield 123, 3) := by decide +kernel
theorem dX5_readRow_86 : decode cX5_readRow 86 = .ok (.aload_n 0, 1) := by decide +kernel
theorem dX5_readRow_87 : decode cX5_readRow 87 = .ok (.getfield 12, 3) := by decide +kernel
theorem dX5_readRow_90 : decode cX5_readRow 90 = .ok (.getfield 47, 3) := by decide +kernel
theorem dX5_readRow_93 : decode cX5_readRow 93 = .ok (.iload_n 1, 1) := by decide +kernel
theorem dX5_readRow_94 : decode cX5_readRow 94 = .ok (.iadd, 1) := by decide +kernel
theorem dX5_readRow_95 : decode cX5_readRow 95 = .ok (.iaload, 1) := by decide +kernel
theorem dX5_readRow_96 : decode cX5_readRow 96 = .ok (.bipush 48, 2) := by decide +kernel
theorem dX5_readRow_98 : decode cX5_readRow 98 = .ok (.isub, 1) := by decide +kernel
theorem dX5_readRow_99 : decode cX5_readRow 99 = .ok (.istore_n 2, 1) := by decide +kernel
theorem dX5_readRow_100 : decode cX5_readRow 100 = .ok (.iload_n 2, 1) := by decide +kernel
theorem dX5_readRow_101 : decode cX5_readRow 101 = .ok (.iconst 1, 1) := by decide +kernel
theorem dX5_readRow_102 : decode cX5_readRow 102 = .ok (.if_icmp .le 5, 3) := by decide +kernel
theorem dX5_readRow_105 : decode cX5_readRow 105 = .ok (.iconst 0, 1) := by decide +kernel
theorem dX5_readRow_106 : decode cX5_readRow 106 = .ok (.ireturn, 1) := by decide +kernel
theorem dX5_readRow_107 : decode cX5_readRow 107 = .ok (.aload_n 0, 1) := by decide +kernel
theorem dX5_readRow_108 : decode cX5_readRow 108 = .ok (.getfield 21, 3) := by decide +kernel
theorem dX5_readRow_111 : decode cX5_readRow 111 = .ok (.getfield 126, 3) := by decide +kernel
theorem dX5_readRow_114 : decode cX5_readRow 114 = .ok (.aload_n 0, 1) := by decide +kernel
theorem dX5_readRow_115 : decode cX5_readRow 115 = .ok (.getfield 21, 3) := by decide +kernel
theorem dX5_readRow_118 : decode cX5_readRow 118 = .ok (.getfield 104, 3) := by decide +kernel
theorem dX5_readRow_121 : decode cX5_readRow 121 = .ok (.aload_n 0, 1) := by decide +kernel
theorem dX5_readRow_122 : decode cX5_readRow 122 = .ok (.getfield 60, 3) := by decide +kernel
theorem dX5_readRow_125 : decode cX5_readRow 125 = .ok (.imul, 1) := by decide +kernel
theorem dX5_readRow_126 : decode cX5_readRow 126 = .ok (.iload_n 1, 1) := by decide +kernel
theorem dX5_readRow_127 : decode cX5_readRow 127 = .ok (.iadd, 1) := by decide +kernel
theorem dX5_readRow_128 : decode cX5_readRow 128 = .ok (.iload_n 2, 1) := by decide +kernel
theorem dX5_readRow_129 : decode cX5_readRow 129 = .ok (.iastore, 1) := by decide +kernel
theorem dX5_readRow_130 : decode cX5_readRow 130 = .ok (.iinc 1 1, 3) := by decide +kernel
theorem dX5_readRow_133 : decode cX5_readRow 133 = .ok (.goto (-65), 3) := by decide +kernel
theorem dX5_readRow_136 : decode cX5_readRow 136 = .ok (.aload_n 0, 1) := by decide +kernel
theorem dX5_readRow_137 : decode cX5_readRow 137 = .ok (.dup, 1) := by decide +kernel
theorem dX5_readRow_138 : decode cX5_readRow 138 = .ok (.getfield 60, 3) := by decide +kernel
theorem dX5_readRow_141 : decode cX5_readRow 141 = .ok (.iconst 1, 1) := by decide +kernel
theorem dX5_readRow_142 : decode cX5_readRow 142 = .ok (.iadd, 1) := by decide +kernel
theorem dX5_readRow_143 : decode cX5_readRow 143 = .ok (.putfield 60, 3) := by decide +kernel
theorem dX5_readRow_146 : decode cX5_readRow 146 = .ok (.iconst 1, 1) := by decide +kernel
theorem dX5_readRow_147 : decode cX5_readRow 147 = .ok (.ireturn, 1) := by decide +kernel
set_option maxRecDepth 20000 in
theorem ggX5_readNumber_X6_advance : GoodIn wsX5_readNumber wsX6_advance := goodIn_r _ [5, 6, 7, 8, 9, 10, 11, 12, 3, 13, 21, 22, 23, 24, 25] (by decide +kernel) (by decide +kernel)
set_option maxRecDepth 20000 in
theorem gX5_readNumber_X6_advance_n28 : GoodIn wsX5_readNumber (wsX6_advance) := ggX5_readNumber_X6_advance
set_option maxRecDepth 20000 in
theorem ggX5_readNumber_X6_number : GoodIn wsX5_readNumber wsX6_number := goodIn_r _ [16, 10, 6, 9, 8, 21, 22, 23, 24, 25] (by decide +kernel) (by decide +kernel)
set_option maxRecDepth 20000 in
theorem gX5_readNumber_X6_number_n129 : GoodIn wsX5_readNumber (wsX6_number) := ggX5_readNumber_X6_number
theorem dX5_readNumber_0 : decode cX5_readNumber 0 = .ok (.aload_n 0, 1) := by decide +kernel
theorem dX5_readNumber_1 : decode cX5_readNumber 1 = .ok (.getfield 12, 3) := by decide +kernel
theorem dX5_readNumber_4 : decode cX5_readNumber 4 = .ok (.invokevirtual 28, 3) := by decide +kernel
theorem dX5_readNumber_7 : decode cX5_readNumber 7 = .ok (.aload_n 0, 1) := by decide +kernel
theorem dX5_readNumber_8 : decode cX5_readNumber 8 = .ok (.getfield 12, 3) := by decide +kernel
theorem dX5_readNumber_11 : decode cX5_readNumber 11 = .ok (.invokevirtual 129, 3) := by decide +kernel
theorem dX5_readNumber_14 : decode cX5_readNumber 14 = .ok (.istore_n 3, 1) := by decide +kernel
theorem dX5_readNumber_15 : decode cX5_readNumber 15 = .ok (.iload_n 3, 1) := by decide +kernel
theorem dX5_readNumber_16 : decode cX5_readNumber 16 = .ok (.iload_n 1, 1) := by decide +kernel
theorem dX5_readNumber_17 : decode cX5_readNumber 17 = .ok (.if_icmp .lt 8, 3) := by decide +kernel
theorem dX5_readNumber_20 : decode cX5_readNumber 20 = .ok (.iload_n 3, 1) := by decide +kernel
theorem dX5_readNumber_21 : decode cX5_readNumber 21 = .ok (.iload_n 2, 1) := by decide +kernel
theorem dX5_readNumber_22 : decode cX5_readNumber 22 = .ok (.if_icmp .le 7, 3) := by decide +kernel
theorem dX5_readNumber_25 : decode cX5_readNumber 25 = .ok (.iconst (-1), 1) := by decide +kernel
theorem dX5_readNumber_26 : decode cX5_readNumber 26 = .ok (.goto 4, 3) := by decide +kernel
theorem dX5_readNumber_29 : decode cX5_readNumber 29 = .ok (.iload_n 3, 1) := by decide +kernel
theorem dX5_readNumber_30 : decode cX5_readNumber 30 = .ok (.ireturn, 1) := by decide +kernel
theorem dX6_init_0 : decode cX6_init 0 = .ok (.aload_n 0, 1) := by decide +kernel
theorem dX6_init_1 : decode cX6_init 1 = .ok (.invokespecial 3, 3) := by decide +kernel
theorem dX6_init_4 : decode cX6_init 4 = .ok (.aload_n 0, 1) := by decide +kernel
theorem dX6_init_5 : decode cX6_init 5 = .ok (.bipush 120, 2) := by decide +kernel
theorem dX6_init_7 : decode cX6_init 7 = .ok (.newarray .int, 2) := by decide +kernel
theorem dX6_init_9 : decode cX6_init 9 = .ok (.putfield 9, 3) := by decide +kernel
theorem dX6_init_12 : decode cX6_init 12 = .ok (.return_, 1) := by decide +kernel
theorem dX6_add_0 : decode cX6_add 0 = .ok (.aload_n 0, 1) := by decide +kernel
theorem dX6_add_1 : decode cX6_add 1 = .ok (.getfield 15, 3) := by decide +kernel
theorem dX6_add_4 : decode cX6_add 4 = .ok (.bipush 120, 2) := by decide +kernel
theorem dX6_add_6 : decode cX6_add 6 = .ok (.if_icmp .lt 5, 3) := by decide +kernel
theorem dX6_add_9 : decode cX6_add 9 = .ok (.iconst 0, 1) := by decide +kernel
theorem dX6_add_10 : decode cX6_add 10 = .ok (.ireturn, 1) := by decide +kernel
theorem dX6_add_11 : decode cX6_add 11 = .ok (.aload_n 0, 1) := by decide +kernel
theorem dX6_add_12 : decode cX6_add 12 = .ok (.getfield 9, 3) := by decide +kernel
theorem dX6_add_15 : decode cX6_add 15 = .ok (.aload_n 0, 1) := by decide +kernel
theorem dX6_add_16 : decode cX6_add 16 = .ok (.getfield 15, 3) := by decide +kernel
theorem dX6_add_19 : decode cX6_add 19 = .ok (.iload_n 1, 1) := by decide +kernel
theorem dX6_add_20 : decode cX6_add 20 = .ok (.iastore, 1) := by decide +kernel
theorem dX6_add_21 : decode cX6_add 21 = .ok (.aload_n 0, 1) := by decide +kernel
theorem dX6_add_22 : decode cX6_add 22 = .ok (.dup, 1) := by decide +kernel
theorem dX6_add_23 : decode cX6_add 23 = .ok (.getfield 15, 3) := by decide +kernel
theorem dX6_add_26 : decode cX6_add 26 = .ok (.iconst 1, 1) := by decide +kernel
theorem dX6_add_27 : decode cX6_add 27 = .ok (.iadd, 1) := by decide +kernel
theorem dX6_add_28 : decode cX6_add 28 = .ok (.putfield 15, 3) := by decide +kernel
theorem dX6_add_31 : decode cX6_add 31 = .ok (.iconst 1, 1) := by decide +kernel
theorem dX6_add_32 : decode cX6_add 32 = .ok (.ireturn, 1) := by decide +kernel
theorem dX6_rewind_0 : decode cX6_rewind 0 = .ok (.aload_n 0, 1) := by decide +kernel
theorem dX6_rewind_1 : decode cX6_rewind 1 = .ok (.iconst 0, 1) := by decide +kernel
theorem dX6_rewind_2 : decode cX6_rewind 2 = .ok (.putfield 19, 3) := by decide +kernel
theorem dX6_rewind_5 : decode cX6_rewind 5 = .ok (.return_, 1) := by decide +kernel
set_option maxRecDepth 20000 in
theorem ggX6_advance_X6_kindOf : GoodIn wsX6_advance wsX6_kindOf := goodIn_r _ [9] (by decide +kernel) (by decide +kernel)
set_option maxRecDepth 20000 in
theorem gX6_advance_X6_kindOf : GoodIn wsX6_advance (va_wsS RX6 28 yX6_kindOf wsX6_kindOf) := goodIn_app (goodIn_of _ (by decide +kernel)) ggX6_advance_X6_kindOf
theorem dX6_advance_0 : decode cX6_advance 0 = .ok (.aload_n 0, 1) := by decide +kernel
theorem dX6_advance_1 : decode cX6_advance 1 = .ok (.getfield 19, 3) := by decide +kernel
theorem dX6_advance_4 : decode cX6_advance 4 = .ok (.aload_n 0, 1) := by decide +kernel
theorem dX6_advance_5 : decode cX6_advance 5 = .ok (.getfield 15, 3) := by decide +kernel
theorem dX6_advance_8 : decode cX6_advance 8 = .ok (.if_icmp .ge 30, 3) := by decide +kernel
theorem dX6_advance_11 : decode cX6_advance 11 = .ok (.aload_n 0, 1) := by decide +kernel
theorem dX6_advance_12 : decode cX6_advance 12 = .ok (.getfield 9, 3) := by decide +kernel
theorem dX6_advance_15 : decode cX6_advance 15 = .ok (.aload_n 0, 1) := by decide +kernel
theorem dX6_advance_16 : decode cX6_advance 16 = .ok (.getfield 19, 3) := by decide +kernel
theorem dX6_advance_19 : decode cX6_advance 19 = .ok (.iaload, 1) := by decide +kernel
theorem dX6_advance_20 : decode cX6_advance 20 = .ok (.bipush 32, 2) := by decide +kernel
theorem dX6_advance_22 : decode cX6_advance 22 = .ok (.if_icmp .ne 16, 3) := by decide +kernel
theorem dX6_advance_25 : decode cX6_advance 25 = .ok (.aload_n 0, 1) := by decide +kernel
theorem dX6_advance_26 : decode cX6_advance 26 = .ok (.dup, 1) := by decide +kernel
theorem dX6_advance_27 : decode cX6_advance 27 = .ok (.getfield 19, 3) := by decide +kernel
theorem dX6_advance_30 : decode cX6_advance 30 = .ok (.iconst 1, 1) := by decide +kernel
theorem dX6_advance_31 : decode cX6_advance 31 = .ok (.iadd, 1) := by decide +kernel
theorem dX6_advance_32 : decode cX6_advance 32 = .ok (.putfield 19, 3) := by decide +kernel
theorem dX6_advance_35 : decode cX6_advance 35 = .ok (.goto (-35), 3) := by decide +kernel
theorem dX6_advance_38 : decode cX6_advance 38 = .ok (.aload_n 0, 1) := by decide +kernel
theorem dX6_advance_39 : decode cX6_advance 39 = .ok (.aload_n 0, 1) := by decide +kernel
theorem dX6_advance_40 : decode cX6_advance 40 = .ok (.getfield 19, 3) := by decide +kernel
theorem dX6_advance_43 : decode cX6_advance 43 = .ok (.putfield 22, 3) := by decide +kernel
theorem dX6_advance_46 : decode cX6_advance 46 = .ok (.aload_n 0, 1) := by decide +kernel
theorem dX6_advance_47 : decode cX6_advance 47 = .ok (.getfield 22, 3) := by decide +kernel
theorem dX6_advance_50 : decode cX6_advance 50 = .ok (.aload_n 0, 1) := by decide +kernel
theorem dX6_advance_51 : decode cX6_advance 51 = .ok (.getfield 15, 3) := by decide +kernel
theorem dX6_advance_54 : decode cX6_advance 54 = .ok (.if_icmp .lt 9, 3) := by decide +kernel
theorem dX6_advance_57 : decode cX6_advance 57 = .ok (.aload_n 0, 1) := by decide +kernel
theorem dX6_advance_58 : decode cX6_advance 58 = .ok (.iconst 0, 1) := by decide +kernel
theorem dX6_advance_59 : decode cX6_advance 59 = .ok (.putfield 25, 3) := by decide +kernel
theorem dX6_advance_62 : decode cX6_advance 62 = .ok (.return_, 1) := by decide +kernel
theorem dX6_advance_63 : decode cX6_advance 63 = .ok (.aload_n 0, 1) := by decide +kernel
theorem dX6_advance_64 : decode cX6_advance 64 = .ok (.aload_n 0, 1) := by decide +kernel
theorem dX6_advance_65 : decode cX6_advance 65 = .ok (.getfield 9, 3) := by decide +kernel
theorem dX6_advance_68 : decode cX6_advance 68 = .ok (.aload_n 0, 1) := by decide +kernel
theorem dX6_advance_69 : decode cX6_advance 69 = .ok (.getfield 22, 3) := by decide +kernel
theorem dX6_advance_72 : decode cX6_advance 72 = .ok (.iaload, 1) := by decide +kernel
theorem dX6_advance_73 : decode cX6_advance 73 = .ok (.invokestatic 28, 3) := by decide +kernel
theorem dX6_advance_76 : decode cX6_advance 76 = .ok (.putfield 25, 3) := by decide +kernel
theorem dX6_advance_79 : decode cX6_advance 79 = .ok (.aload_n 0, 1) := by decide +kernel
theorem dX6_advance_80 : decode cX6_advance 80 = .ok (.dup, 1) := by decide +kernel
theorem dX6_advance_81 : decode cX6_advance 81 = .ok (.getfield 19, 3) := by decide +kernel
theorem dX6_advance_84 : decode cX6_advance 84 = .ok (.iconst 1, 1) := by decide +kernel
theorem dX6_advance_85 : decode cX6_advance 85 = .ok (.iadd, 1) := by decide +kernel
theorem dX6_advance_86 : decode cX6_advance 86 = .ok (.putfield 19, 3) := by decide +kernel
theorem dX6_advance_89 : decode cX6_advance 89 = .ok (.aload_n 0, 1) := by decide +kernel
theorem dX6_advance_90 : decode cX6_advance 90 = .ok (.getfield 25, 3) := by decide +kernel
theorem dX6_advance_93 : decode cX6_advance 93 = .ok (.iconst 1, 1) := by decide +kernel
theorem dX6_advance_94 : decode cX6_advance 94 = .ok (.if_icmp .eq 11, 3) := by decide +kernel
theorem dX6_advance_97 : decode cX6_advance 97 = .ok (.aload_n 0, 1) := by decide +kernel
theorem dX6_advance_98 : decode cX6_advance 98 = .ok (.getfield 25, 3) := by decide +kernel
theorem dX6_advance_101 : decode cX6_advance 101 = .ok (.iconst 2, 1) := by decide +kernel
theorem dX6_advance_102 : decode cX6_advance 102 = .ok (.if_icmp .ne 7, 3) := by decide +kernel
theorem dX6_advance_105 : decode cX6_advance 105 = .ok (.iconst 1, 1) := by decide +kernel
theorem dX6_advance_106 : decode cX6_advance 106 = .ok (.goto 4, 3) := by decide +kernel
theorem dX6_advance_109 : decode cX6_advance 109 = .ok (.iconst 0, 1) := by decide +kernel
theorem dX6_advance_110 : decode cX6_advance 110 = .ok (.istore_n 1, 1) := by decide +kernel
theorem dX6_advance_111 : decode cX6_advance 111 = .ok (.iload_n 1, 1) := by decide +kernel
theorem dX6_advance_112 : decode cX6_advance 112 = .ok (.ifCond .eq 46, 3) := by decide +kernel
theorem dX6_advance_115 : decode cX6_advance 115 = .ok (.aload_n 0, 1) := by decide +kernel
theorem dX6_advance_116 : decode cX6_advance 116 = .ok (.getfield 19, 3) := by decide +kernel
theorem dX6_advance_119 : decode cX6_advance 119 = .ok (.aload_n 0, 1) := by decide +kernel
theorem dX6_advance_120 : decode cX6_advance 120 = .ok (.getfield 15, 3) := by decide +kernel
theorem dX6_advance_123 : decode cX6_advance 123 = .ok (.if_icmp .ge 35, 3) := by decide +kernel
theorem dX6_advance_126 : decode cX6_advance 126 = .ok (.aload_n 0, 1) := by decide +kernel
theorem dX6_advance_127 : decode cX6_advance 127 = .ok (.getfield 9, 3) := by decide +kernel
theorem dX6_advance_130 : decode cX6_advance 130 = .ok (.aload_n 0, 1) := by decide +kernel
theorem dX6_advance_131 : decode cX6_advance 131 = .ok (.getfield 19, 3) := by decide +kernel
theorem dX6_advance_134 : decode cX6_advance 134 = .ok (.iaload, 1) := by decide +kernel
theorem dX6_advance_135 : decode cX6_advance 135 = .ok (.invokestatic 28, 3) := by decide +kernel
theorem dX6_advance_138 : decode cX6_advance 138 = .ok (.aload_n 0, 1) := by decide +kernel
theorem dX6_advance_139 : decode cX6_advance 139 = .ok (.getfield 25, 3) := by decide +kernel
theorem dX6_advance_142 : decode cX6_advance 142 = .ok (.if_icmp .ne 16, 3) := by decide +kernel
theorem dX6_advance_145 : decode cX6_advance 145 = .ok (.aload_n 0, 1) := by decide +kernel
theorem dX6_advance_146 : decode cX6_advance 146 = .ok (.dup, 1) := by decide +kernel
theorem dX6_advance_147 : decode cX6_advance 147 = .ok (.getfield 19, 3) := by decide +kernel
theorem dX6_advance_150 : decode cX6_advance 150 = .ok (.iconst 1, 1) := by decide +kernel
theorem dX6_advance_151 : decode cX6_advance 151 = .ok (.iadd, 1) := by decide +kernel
theorem dX6_advance_152 : decode cX6_advance 152 = .ok (.putfield 19, 3) := by decide +kernel
theorem dX6_advance_155 : decode cX6_advance 155 = .ok (.goto (-44), 3) := by decide +kernel
theorem dX6_advance_158 : decode cX6_advance 158 = .ok (.return_, 1) := by decide +kernel
theorem dX6_kindOf_0 : decode cX6_kindOf 0 = .ok (.iload_n 0, 1) := by decide +kernel
theorem dX6_kindOf_1 : decode cX6_kindOf 1 = .ok (.bipush 97, 2) := by decide +kernel
theorem dX6_kindOf_3 : decode cX6_kindOf 3 = .ok (.if_icmp .lt 11, 3) := by decide +kernel
theorem dX6_kindOf_6 : decode cX6_kindOf 6 = .ok (.iload_n 0, 1) := by decide +kernel
theorem dX6_kindOf_7 : decode cX6_kindOf 7 = .ok (.bipush 122, 2) := by decide +kernel
theorem dX6_kindOf_9 : decode cX6_kindOf 9 = .ok (.if_icmp .gt 5, 3) := by decide +kernel
theorem dX6_kindOf_12 : decode cX6_kindOf 12 = .ok (.iconst 1, 1) := by decide +kernel
theorem dX6_kindOf_13 : decode cX6_kindOf 13 = .ok (.ireturn, 1) := by decide +kernel
theorem dX6_kindOf_14 : decode cX6_kindOf 14 = .ok (.iload_n 0, 1) := by decide +kernel
theorem dX6_kindOf_15 : decode cX6_kindOf 15 = .ok (.bipush 48, 2) := by decide +kernel
theorem dX6_kindOf_17 : decode cX6_kindOf 17 = .ok (.if_icmp .lt 11, 3) := by decide +kernel
theorem dX6_kindOf_20 : decode cX6_kindOf 20 = .ok (.iload_n 0, 1) := by decide +kernel
theorem dX6_kindOf_21 : decode cX6_kindOf 21 = .ok (.bipush 57, 2) := by decide +kernel
theorem dX6_kindOf_23 : decode cX6_kindOf 23 = .ok (.if_icmp .gt 5, 3) := by decide +kernel
theorem dX6_kindOf_26 : decode cX6_kindOf 26 = .ok (.iconst 2, 1) := by decide +kernel
theorem dX6_kindOf_27 : decode cX6_kindOf 27 = .ok (.ireturn, 1) := by decide +kernel
theorem dX6_kindOf_28 : decode cX6_kindOf 28 = .ok (.iload_n 0, 1) := by decide +kernel
theorem dX6_kindOf_29 : decode cX6_kindOf 29 = .ok (.bipush 59, 2) := by decide +kernel
theorem dX6_kindOf_31 : decode cX6_kindOf 31 = .ok (.if_icmp .ne 7, 3) := by decide +kernel
theorem dX6_kindOf_34 : decode cX6_kindOf 34 = .ok (.iconst 3, 1) := by decide +kernel
theorem dX6_kindOf_35 : decode cX6_kindOf 35 = .ok (.goto 4, 3) := by decide +kernel
theorem dX6_kindOf_38 : decode cX6_kindOf 38 = .ok (.iconst 4, 1) := by decide +kernel
theorem dX6_kindOf_39 : decode cX6_kindOf 39 = .ok (.ireturn, 1) := by decide +kernel
set_option maxRecDepth 20000 in
theorem ggX6_isSpelled_J0_length_8abf5 : GoodIn wsX6_isSpelled wsJ0_length_8abf5 := goodIn_r _ [9, 10, 11, 12, 13, 8, 14, 15, 16] (by decide +kernel) (by decide +kernel)
set_option maxRecDepth 20000 in
theorem gX6_isSpelled_J0_length_8abf5 : GoodIn wsX6_isSpelled (wsV RX6 32 RJ0 yJ0_length_8abf5 wsJ0_length_8abf5) := goodIn_app (goodIn_of _ (by decide +kernel)) ggX6_isSpelled_J0_length_8abf5
set_option maxRecDepth 20000 in
theorem ggX6_isSpelled_J0_charAt_5068e : GoodIn wsX6_isSpelled wsJ0_charAt_5068e := goodIn_r _ [20, 10, 21, 22, 23, 8, 24, 15, 16, 25, 26, 27, 28, 29, 30, 31, 32, 33, 34, 35, 36, 37, 38, 39, 40, 41, 42, 43, 44, 45, 46, 47, 48, 49, 50, 51, 52, 53] (by decide +kernel) (by decide +kernel)
set_option maxRecDepth 20000 in
theorem gX6_isSpelled_J0_charAt_5068e : GoodIn wsX6_isSpelled (wsV RX6 37 RJ0 yJ0_charAt_5068e wsJ0_charAt_5068e) := goodIn_app (goodIn_of _ (by decide +kernel)) ggX6_isSpelled_J0_charAt_5068e
theorem dX6_isSpelled_0 : decode cX6_isSpelled 0 = .ok (.aload_n 0, 1) := by decide +kernel
theorem dX6_isSpelled_1 : decode cX6_isSpelled 1 = .ok (.getfield 25, 3) := by decide +kernel
theorem dX6_isSpelled_4 : decode cX6_isSpelled 4 = .ok (.iconst 1, 1) := by decide +kernel
theorem dX6_isSpelled_5 : decode cX6_isSpelled 5 = .ok (.if_icmp .ne 19, 3) := by decide +kernel
theorem dX6_isSpelled_8 : decode cX6_isSpelled 8 = .ok (.aload_n 0, 1) := by decide +kernel
theorem dX6_isSpelled_9 : decode cX6_isSpelled 9 = .ok (.getfield 19, 3) := by decide +kernel
theorem dX6_isSpelled_12 : decode cX6_isSpelled 12 = .ok (.aload_n 0, 1) := by decide +kernel
theorem dX6_isSpelled_13 : decode cX6_isSpelled 13 = .ok (.getfield 22, 3) := by decide +kernel
theorem dX6_isSpelled_16 : decode cX6_isSpelled 16 = .ok (.isub, 1) := by decide +kernel
theorem dX6_isSpelled_17 : decode cX6_isSpelled 17 = .ok (.aload_n 1, 1) := by decide +kernel
theorem dX6_isSpelled_18 : decode cX6_isSpelled 18 = .ok (.invokevirtual 32, 3) := by decide +kernel
theorem dX6_isSpelled_21 : decode cX6_isSpelled 21 = .ok (.if_icmp .eq 5, 3) := by decide +kernel
theorem dX6_isSpelled_24 : decode cX6_isSpelled 24 = .ok (.iconst 0, 1) := by decide +kernel
theorem dX6_isSpelled_25 : decode cX6_isSpelled 25 = .ok (.ireturn, 1) := by decide +kernel
theorem dX6_isSpelled_26 : decode cX6_isSpelled 26 = .ok (.iconst 0, 1) := by decide +kernel
theorem dX6_isSpelled_27 : decode cX6_isSpelled 27 = .ok (.istore_n 2, 1) := by decide +kernel
theorem dX6_isSpelled_28 : decode cX6_isSpelled 28 = .ok (.iload_n 2, 1) := by decide +kernel
theorem dX6_isSpelled_29 : decode cX6_isSpelled 29 = .ok (.aload_n 1, 1) := by decide +kernel
theorem dX6_isSpelled_30 : decode cX6_isSpelled 30 = .ok (.invokevirtual 32, 3) := by decide +kernel
theorem dX6_isSpelled_33 : decode cX6_isSpelled 33 = .ok (.if_icmp .ge 30, 3) := by decide +kernel
theorem dX6_isSpelled_36 : decode cX6_isSpelled 36 = .ok (.aload_n 0, 1) := by decide +kernel
theorem dX6_isSpelled_37 : decode cX6_isSpelled 37 = .ok (.getfield 9, 3) := by decide +kernel
theorem dX6_isSpelled_40 : decode cX6_isSpelled 40 = .ok (.aload_n 0, 1) := by decide +kernel
theorem dX6_isSpelled_41 : decode cX6_isSpelled 41 = .ok (.getfield 22, 3) := by decide +kernel
theorem dX6_isSpelled_44 : decode cX6_isSpelled 44 = .ok (.iload_n 2, 1) := by decide +kernel
theorem dX6_isSpelled_45 : decode cX6_isSpelled 45 = .ok (.iadd, 1) := by decide +kernel
theorem dX6_isSpelled_46 : decode cX6_isSpelled 46 = .ok (.iaload, 1) := by decide +kernel
theorem dX6_isSpelled_47 : decode cX6_isSpelled 47 = .ok (.aload_n 1, 1) := by decide +kernel
theorem dX6_isSpelled_48 : decode cX6_isSpelled 48 = .ok (.iload_n 2, 1) := by decide +kernel
theorem dX6_isSpelled_49 : decode cX6_isSpelled 49 = .ok (.invokevirtual 37, 3) := by decide +kernel
theorem dX6_isSpelled_52 : decode cX6_isSpelled 52 = .ok (.if_icmp .eq 5, 3) := by decide +kernel
theorem dX6_isSpelled_55 : decode cX6_isSpelled 55 = .ok (.iconst 0, 1) := by decide +kernel
theorem dX6_isSpelled_56 : decode cX6_isSpelled 56 = .ok (.ireturn, 1) := by decide +kernel
theorem dX6_isSpelled_57 : decode cX6_isSpelled 57 = .ok (.iinc 2 1, 3) := by decide +kernel
theorem dX6_isSpelled_60 : decode cX6_isSpelled 60 = .ok (.goto (-32), 3) := by decide +kernel
theorem dX6_isSpelled_63 : decode cX6_isSpelled 63 = .ok (.iconst 1, 1) := by decide +kernel
theorem dX6_isSpelled_64 : decode cX6_isSpelled 64 = .ok (.ireturn, 1) := by decide +kernel
theorem dX6_number_0 : decode cX6_number 0 = .ok (.aload_n 0, 1) := by decide +kernel
theorem dX6_number_1 : decode cX6_number 1 = .ok (.getfield 25, 3) := by decide +kernel
theorem dX6_number_4 : decode cX6_number 4 = .ok (.iconst 2, 1) := by decide +kernel
theorem dX6_number_5 : decode cX6_number 5 = .ok (.if_icmp .ne 16, 3) := by decide +kernel
theorem dX6_number_8 : decode cX6_number 8 = .ok (.aload_n 0, 1) := by decide +kernel
theorem dX6_number_9 : decode cX6_number 9 = .ok (.getfield 19, 3) := by decide +kernel
theorem dX6_number_12 : decode cX6_number 12 = .ok (.aload_n 0, 1) := by decide +kernel
theorem dX6_number_13 : decode cX6_number 13 = .ok (.getfield 22, 3) := by decide +kernel
theorem dX6_number_16 : decode cX6_number 16 = .ok (.isub, 1) := by decide +kernel
theorem dX6_number_17 : decode cX6_number 17 = .ok (.iconst 2, 1) := by decide +kernel
theorem dX6_number_18 : decode cX6_number 18 = .ok (.if_icmp .le 5, 3) := by decide +kernel
theorem dX6_number_21 : decode cX6_number 21 = .ok (.iconst (-1), 1) := by decide +kernel
theorem dX6_number_22 : decode cX6_number 22 = .ok (.ireturn, 1) := by decide +kernel
theorem dX6_number_23 : decode cX6_number 23 = .ok (.aload_n 0, 1) := by decide +kernel
theorem dX6_number_24 : decode cX6_number 24 = .ok (.getfield 9, 3) := by decide +kernel
theorem dX6_number_27 : decode cX6_number 27 = .ok (.aload_n 0, 1) := by decide +kernel
theorem dX6_number_28 : decode cX6_number 28 = .ok (.getfield 22, 3) := by decide +kernel
theorem dX6_number_31 : decode cX6_number 31 = .ok (.iaload, 1) := by decide +kernel
theorem dX6_number_32 : decode cX6_number 32 = .ok (.bipush 48, 2) := by decide +kernel
theorem dX6_number_34 : decode cX6_number 34 = .ok (.isub, 1) := by decide +kernel
theorem dX6_number_35 : decode cX6_number 35 = .ok (.istore_n 1, 1) := by decide +kernel
theorem dX6_number_36 : decode cX6_number 36 = .ok (.aload_n 0, 1) := by decide +kernel
theorem dX6_number_37 : decode cX6_number 37 = .ok (.getfield 19, 3) := by decide +kernel
theorem dX6_number_40 : decode cX6_number 40 = .ok (.aload_n 0, 1) := by decide +kernel
theorem dX6_number_41 : decode cX6_number 41 = .ok (.getfield 22, 3) := by decide +kernel
theorem dX6_number_44 : decode cX6_number 44 = .ok (.isub, 1) := by decide +kernel
theorem dX6_number_45 : decode cX6_number 45 = .ok (.iconst 1, 1) := by decide +kernel
theorem dX6_number_46 : decode cX6_number 46 = .ok (.if_icmp .ne 5, 3) := by decide +kernel
theorem dX6_number_49 : decode cX6_number 49 = .ok (.iload_n 1, 1) := by decide +kernel
theorem dX6_number_50 : decode cX6_number 50 = .ok (.ireturn, 1) := by decide +kernel
theorem dX6_number_51 : decode cX6_number 51 = .ok (.iload_n 1, 1) := by decide +kernel
theorem dX6_number_52 : decode cX6_number 52 = .ok (.ifCond .ne 7, 3) := by decide +kernel
theorem dX6_number_55 : decode cX6_number 55 = .ok (.iconst (-1), 1) := by decide +kernel
theorem dX6_number_56 : decode cX6_number 56 = .ok (.goto 22, 3) := by decide +kernel
theorem dX6_number_59 : decode cX6_number 59 = .ok (.bipush 10, 2) := by decide +kernel
theorem dX6_number_61 : decode cX6_number 61 = .ok (.iload_n 1, 1) := by decide +kernel
theorem dX6_number_62 : decode cX6_number 62 = .ok (.imul, 1) := by decide +kernel
theorem dX6_number_63 : decode cX6_number 63 = .ok (.aload_n 0, 1) := by decide +kernel
theorem dX6_number_64 : decode cX6_number 64 = .ok (.getfield 9, 3) := by decide +kernel
theorem dX6_number_67 : decode cX6_number 67 = .ok (.aload_n 0, 1) := by decide +kernel
theorem dX6_number_68 : decode cX6_number 68 = .ok (.getfield 22, 3) := by decide +kernel
theorem dX6_number_71 : decode cX6_number 71 = .ok (.iconst 1, 1) := by decide +kernel
theorem dX6_number_72 : decode cX6_number 72 = .ok (.iadd, 1) := by decide +kernel
theorem dX6_number_73 : decode cX6_number 73 = .ok (.iaload, 1) := by decide +kernel
theorem dX6_number_74 : decode cX6_number 74 = .ok (.iadd, 1) := by decide +kernel
theorem dX6_number_75 : decode cX6_number 75 = .ok (.bipush 48, 2) := by decide +kernel
theorem dX6_number_77 : decode cX6_number 77 = .ok (.isub, 1) := by decide +kernel
theorem dX6_number_78 : decode cX6_number 78 = .ok (.ireturn, 1) := by decide +kernel
set_option maxRecDepth 20000 in
theorem ggX7_init_X2_init : GoodIn wsX7_init wsX2_init := goodIn_r _ [34, 35, 2, 3, 31, 36, 37, 38, 39, 40, 41, 6, 42, 43, 44, 45, 46, 47, 48, 49, 50, 51, 52, 53, 54, 55, 56, 95, 96, 97, 98, 99] (by decide +kernel) (by decide +kernel)
set_option maxRecDepth 20000 in
theorem gX7_init_X2_init_n9 : GoodIn wsX7_init (wsX2_init) := ggX7_init_X2_init
set_option maxRecDepth 20000 in
theorem ggX7_init_X0_init : GoodIn wsX7_init wsX0_init := goodIn_r _ [58, 59, 2, 3, 60, 61, 5, 6, 33, 34, 35, 31, 36, 37, 38, 39, 40, 41, 42, 43, 44, 45, 46, 47, 48, 49, 50, 51, 52, 53, 54, 55, 56, 109, 110, 95, 96, 97, 98, 99] (by decide +kernel) (by decide +kernel)
set_option maxRecDepth 20000 in
theorem gX7_init_X0_init_n18 : GoodIn wsX7_init (wsX0_init) := ggX7_init_X0_init
set_option maxRecDepth 20000 in
theorem ggX7_init_X5_init : GoodIn wsX7_init wsX5_init := goodIn_r _ [63, 64, 2, 3, 65, 66, 67, 68, 69, 5, 6, 70, 71, 72, 73, 31, 74, 33, 34, 35, 36, 37, 38, 39, 40, 41, 42, 43, 44, 45, 46, 47, 48, 49, 50, 51, 52, 53, 54, 55, 56, 128, 129, 130, 131, 132, 111, 112, 113, 114, 95, 96, 97, 98, 99] (by decide +kernel) (by decide +kernel)
set_option maxRecDepth 20000 in
theorem gX7_init_X5_init_n33 : GoodIn wsX7_init (wsX5_init) := ggX7_init_X5_init
set_option maxRecDepth 20000 in
theorem ggX7_init_X1_init : GoodIn wsX7_init wsX1_init := goodIn_r _ [76, 77, 2, 3, 31, 78, 79, 80, 81, 82, 13, 83, 84, 115, 116, 117, 118, 119, 120, 121, 122] (by decide +kernel) (by decide +kernel)
set_option maxRecDepth 20000 in
theorem gX7_init_X1_init_n40 : GoodIn wsX7_init (wsX1_init) := ggX7_init_X1_init
set_option maxRecDepth 20000 in
theorem ggX7_init_X3_init : GoodIn wsX7_init wsX3_init := goodIn_r _ [86, 87, 2, 3, 31, 88, 89, 123, 124] (by decide +kernel) (by decide +kernel)
set_option maxRecDepth 20000 in
theorem gX7_init_X3_init_n47 : GoodIn wsX7_init (wsX3_init) := ggX7_init_X3_init
set_option maxRecDepth 20000 in
theorem ggX7_init_X4_init : GoodIn wsX7_init wsX4_init := goodIn_r _ [91, 92, 2, 3, 31, 93, 94, 125, 126, 127] (by decide +kernel) (by decide +kernel)
set_option maxRecDepth 20000 in
theorem gX7_init_X4_init_n54 : GoodIn wsX7_init (wsX4_init) := ggX7_init_X4_init
theorem dX7_init_0 : decode cX7_init 0 = .ok (.aload_n 0, 1) := by decide +kernel
theorem dX7_init_1 : decode cX7_init 1 = .ok (.invokespecial 1, 3) := by decide +kernel
theorem dX7_init_4 : decode cX7_init 4 = .ok (.aload_n 0, 1) := by decide +kernel
theorem dX7_init_5 : decode cX7_init 5 = .ok (.new 7, 3) := by decide +kernel
theorem dX7_init_8 : decode cX7_init 8 = .ok (.dup, 1) := by decide +kernel
theorem dX7_init_9 : decode cX7_init 9 = .ok (.invokespecial 9, 3) := by decide +kernel
theorem dX7_init_12 : decode cX7_init 12 = .ok (.putfield 10, 3) := by decide +kernel
theorem dX7_init_15 : decode cX7_init 15 = .ok (.aload_n 0, 1) := by decide +kernel
theorem dX7_init_16 : decode cX7_init 16 = .ok (.new 16, 3) := by decide +kernel
theorem dX7_init_19 : decode cX7_init 19 = .ok (.dup, 1) := by decide +kernel
theorem dX7_init_20 : decode cX7_init 20 = .ok (.invokespecial 18, 3) := by decide +kernel
theorem dX7_init_23 : decode cX7_init 23 = .ok (.putfield 19, 3) := by decide +kernel
theorem dX7_init_26 : decode cX7_init 26 = .ok (.aload_n 0, 1) := by decide +kernel
theorem dX7_init_27 : decode cX7_init 27 = .ok (.iconst 2, 1) := by decide +kernel
theorem dX7_init_28 : decode cX7_init 28 = .ok (.anewarray 7, 3) := by decide +kernel
theorem dX7_init_31 : decode cX7_init 31 = .ok (.putfield 23, 3) := by decide +kernel
theorem dX7_init_34 : decode cX7_init 34 = .ok (.aload_n 0, 1) := by decide +kernel
theorem dX7_init_35 : decode cX7_init 35 = .ok (.iconst 2, 1) := by decide +kernel
theorem dX7_init_36 : decode cX7_init 36 = .ok (.newarray .boolean, 2) := by decide +kernel
theorem dX7_init_38 : decode cX7_init 38 = .ok (.putfield 27, 3) := by decide +kernel
theorem dX7_init_41 : decode cX7_init 41 = .ok (.aload_n 0, 1) := by decide +kernel
theorem dX7_init_42 : decode cX7_init 42 = .ok (.new 31, 3) := by decide +kernel
theorem dX7_init_45 : decode cX7_init 45 = .ok (.dup, 1) := by decide +kernel
theorem dX7_init_46 : decode cX7_init 46 = .ok (.invokespecial 33, 3) := by decide +kernel
theorem dX7_init_49 : decode cX7_init 49 = .ok (.putfield 34, 3) := by decide +kernel
theorem dX7_init_52 : decode cX7_init 52 = .ok (.aload_n 0, 1) := by decide +kernel
theorem dX7_init_53 : decode cX7_init 53 = .ok (.new 38, 3) := by decide +kernel
theorem dX7_init_56 : decode cX7_init 56 = .ok (.dup, 1) := by decide +kernel
theorem dX7_init_57 : decode cX7_init 57 = .ok (.invokespecial 40, 3) := by decide +kernel
theorem dX7_init_60 : decode cX7_init 60 = .ok (.putfield 41, 3) := by decide +kernel
theorem dX7_init_63 : decode cX7_init 63 = .ok (.aload_n 0, 1) := by decide +kernel
theorem dX7_init_64 : decode cX7_init 64 = .ok (.new 45, 3) := by decide +kernel
theorem dX7_init_67 : decode cX7_init 67 = .ok (.dup, 1) := by decide +kernel
theorem dX7_init_68 : decode cX7_init 68 = .ok (.invokespecial 47, 3) := by decide +kernel
theorem dX7_init_71 : decode cX7_init 71 = .ok (.putfield 48, 3) := by decide +kernel
theorem dX7_init_74 : decode cX7_init 74 = .ok (.aload_n 0, 1) := by decide +kernel
theorem dX7_init_75 : decode cX7_init 75 = .ok (.new 52, 3) := by decide +kernel
theorem dX7_init_78 : decode cX7_init 78 = .ok (.dup, 1) := by decide +kernel
theorem dX7_init_79 : decode cX7_init 79 = .ok (.invokespecial 54, 3) := by decide +kernel
theorem dX7_init_82 : decode cX7_init 82 = .ok (.putfield 55, 3) := by decide +kernel
theorem dX7_init_85 : decode cX7_init 85 = .ok (.aload_n 0, 1) := by decide +kernel
theorem dX7_init_86 : decode cX7_init 86 = .ok (.bipush 36, 2) := by decide +kernel
theorem dX7_init_88 : decode cX7_init 88 = .ok (.newarray .int, 2) := by decide +kernel
theorem dX7_init_90 : decode cX7_init 90 = .ok (.putfield 59, 3) := by decide +kernel
theorem dX7_init_93 : decode cX7_init 93 = .ok (.iconst 0, 1) := by decide +kernel
theorem dX7_init_94 : decode cX7_init 94 = .ok (.istore_n 1, 1) := by decide +kernel
theorem dX7_init_95 : decode cX7_init 95 = .ok (.iload_n 1, 1) := by decide +kernel
theorem dX7_init_96 : decode cX7_init 96 = .ok (.iconst 2, 1) := by decide +kernel
theorem dX7_init_97 : decode cX7_init 97 = .ok (.if_icmp .ge 22, 3) := by decide +kernel
theorem dX7_init_100 : decode cX7_init 100 = .ok (.aload_n 0, 1) := by decide +kernel
theorem dX7_init_101 : decode cX7_init 101 = .ok (.getfield 23, 3) := by decide +kernel
theorem dX7_init_104 : decode cX7_init 104 = .ok (.iload_n 1, 1) := by decide +kernel
theorem dX7_init_105 : decode cX7_init 105 = .ok (.new 7, 3) := by decide +kernel
theorem dX7_init_108 : decode cX7_init 108 = .ok (.dup, 1) := by decide +kernel
theorem dX7_init_109 : decode cX7_init 109 = .ok (.invokespecial 9, 3) := by decide +kernel
