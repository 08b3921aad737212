theorem dX8_step_59 : decode cX8_step 59 = .ok (.istore 5, 2) := by decide +kernel
theorem dX8_step_61 : decode cX8_step 61 = .ok (.iload 4, 2) := by decide +kernel
theorem dX8_step_63 : decode cX8_step 63 = .ok (.iload_n 3, 1) := by decide +kernel
theorem dX8_step_64 : decode cX8_step 64 = .ok (.aload_n 0, 1) := by decide +kernel
theorem dX8_step_65 : decode cX8_step 65 = .ok (.getfield 13, 3) := by decide +kernel
theorem dX8_step_68 : decode cX8_step 68 = .ok (.bipush 8, 2) := by decide +kernel
theorem dX8_step_70 : decode cX8_step 70 = .ok (.iaload, 1) := by decide +kernel
theorem dX8_step_71 : decode cX8_step 71 = .ok (.if_icmp .ne 8, 3) := by decide +kernel
theorem dX8_step_74 : decode cX8_step 74 = .ok (.iload 5, 2) := by decide +kernel
theorem dX8_step_76 : decode cX8_step 76 = .ok (.goto 4, 3) := by decide +kernel
theorem dX8_step_79 : decode cX8_step 79 = .ok (.iconst 0, 1) := by decide +kernel
theorem dX8_step_80 : decode cX8_step 80 = .ok (.iadd, 1) := by decide +kernel
theorem dX8_step_81 : decode cX8_step 81 = .ok (.istore 4, 2) := by decide +kernel
theorem dX8_step_83 : decode cX8_step 83 = .ok (.aload_n 0, 1) := by decide +kernel
theorem dX8_step_84 : decode cX8_step 84 = .ok (.getfield 34, 3) := by decide +kernel
theorem dX8_step_87 : decode cX8_step 87 = .ok (.iload_n 3, 1) := by decide +kernel
theorem dX8_step_88 : decode cX8_step 88 = .ok (.iload 4, 2) := by decide +kernel
theorem dX8_step_90 : decode cX8_step 90 = .ok (.iload 4, 2) := by decide +kernel
theorem dX8_step_92 : decode cX8_step 92 = .ok (.aload_n 0, 1) := by decide +kernel
theorem dX8_step_93 : decode cX8_step 93 = .ok (.getfield 13, 3) := by decide +kernel
theorem dX8_step_96 : decode cX8_step 96 = .ok (.iconst 4, 1) := by decide +kernel
theorem dX8_step_97 : decode cX8_step 97 = .ok (.iaload, 1) := by decide +kernel
theorem dX8_step_98 : decode cX8_step 98 = .ok (.idiv, 1) := by decide +kernel
theorem dX8_step_99 : decode cX8_step 99 = .ok (.isub, 1) := by decide +kernel
theorem dX8_step_100 : decode cX8_step 100 = .ok (.iastore, 1) := by decide +kernel
theorem dX8_step_101 : decode cX8_step 101 = .ok (.iinc 3 1, 3) := by decide +kernel
theorem dX8_step_104 : decode cX8_step 104 = .ok (.goto (-102), 3) := by decide +kernel
theorem dX8_step_107 : decode cX8_step 107 = .ok (.iconst 0, 1) := by decide +kernel
theorem dX8_step_108 : decode cX8_step 108 = .ok (.istore_n 3, 1) := by decide +kernel
theorem dX8_step_109 : decode cX8_step 109 = .ok (.iload_n 3, 1) := by decide +kernel
theorem dX8_step_110 : decode cX8_step 110 = .ok (.aload_n 0, 1) := by decide +kernel
theorem dX8_step_111 : decode cX8_step 111 = .ok (.invokevirtual 151, 3) := by decide +kernel
theorem dX8_step_114 : decode cX8_step 114 = .ok (.if_icmp .ge 60, 3) := by decide +kernel
theorem dX8_step_117 : decode cX8_step 117 = .ok (.aload_n 0, 1) := by decide +kernel
theorem dX8_step_118 : decode cX8_step 118 = .ok (.getfield 31, 3) := by decide +kernel
theorem dX8_step_121 : decode cX8_step 121 = .ok (.iload_n 3, 1) := by decide +kernel
theorem dX8_step_122 : decode cX8_step 122 = .ok (.iaload, 1) := by decide +kernel
theorem dX8_step_123 : decode cX8_step 123 = .ok (.aload_n 0, 1) := by decide +kernel
theorem dX8_step_124 : decode cX8_step 124 = .ok (.getfield 34, 3) := by decide +kernel
theorem dX8_step_127 : decode cX8_step 127 = .ok (.iload_n 3, 1) := by decide +kernel
theorem dX8_step_128 : decode cX8_step 128 = .ok (.iaload, 1) := by decide +kernel
theorem dX8_step_129 : decode cX8_step 129 = .ok (.iadd, 1) := by decide +kernel
theorem dX8_step_130 : decode cX8_step 130 = .ok (.istore 4, 2) := by decide +kernel
theorem dX8_step_132 : decode cX8_step 132 = .ok (.aload_n 0, 1) := by decide +kernel
theorem dX8_step_133 : decode cX8_step 133 = .ok (.getfield 31, 3) := by decide +kernel
theorem dX8_step_136 : decode cX8_step 136 = .ok (.iload_n 3, 1) := by decide +kernel
theorem dX8_step_137 : decode cX8_step 137 = .ok (.iload 4, 2) := by decide +kernel
theorem dX8_step_139 : decode cX8_step 139 = .ok (.sipush 9999, 3) := by decide +kernel
theorem dX8_step_142 : decode cX8_step 142 = .ok (.if_icmp .le 9, 3) := by decide +kernel
theorem dX8_step_145 : decode cX8_step 145 = .ok (.sipush 9999, 3) := by decide +kernel
theorem dX8_step_148 : decode cX8_step 148 = .ok (.goto 19, 3) := by decide +kernel
theorem dX8_step_151 : decode cX8_step 151 = .ok (.iload 4, 2) := by decide +kernel
theorem dX8_step_153 : decode cX8_step 153 = .ok (.sipush (-9999), 3) := by decide +kernel
theorem dX8_step_156 : decode cX8_step 156 = .ok (.if_icmp .ge 9, 3) := by decide +kernel
theorem dX8_step_159 : decode cX8_step 159 = .ok (.sipush (-9999), 3) := by decide +kernel
theorem dX8_step_162 : decode cX8_step 162 = .ok (.goto 5, 3) := by decide +kernel
theorem dX8_step_165 : decode cX8_step 165 = .ok (.iload 4, 2) := by decide +kernel
theorem dX8_step_167 : decode cX8_step 167 = .ok (.iastore, 1) := by decide +kernel
theorem dX8_step_168 : decode cX8_step 168 = .ok (.iinc 3 1, 3) := by decide +kernel
theorem dX8_step_171 : decode cX8_step 171 = .ok (.goto (-62), 3) := by decide +kernel
theorem dX8_step_174 : decode cX8_step 174 = .ok (.return_, 1) := by decide +kernel
set_option maxRecDepth 20000 in
theorem ggX8_runs_X8_rests : GoodIn wsX8_runs wsX8_rests := goodIn_r _ [9, 3, 10, 31, 32, 33, 34, 35, 36, 37, 38, 39, 40, 41, 42, 43, 44, 45, 46, 47, 48, 49, 50, 51, 52, 53, 54, 55, 56, 57, 58, 59, 60, 61] (by decide +kernel) (by decide +kernel)
set_option maxRecDepth 20000 in
theorem gX8_runs_X8_rests : GoodIn wsX8_runs (wsV RX8 158 RX8 yX8_rests wsX8_rests) := goodIn_app (goodIn_of _ (by decide +kernel)) ggX8_runs_X8_rests
set_option maxRecDepth 20000 in
theorem ggX8_runs_X8_step : GoodIn wsX8_runs wsX8_step := goodIn_r _ [14, 10, 15, 3, 16, 17, 18, 8, 19, 20, 21, 22, 23, 24, 25, 26, 27, 28, 29, 30, 31, 32, 33, 34, 35, 36, 37, 38, 39, 40, 41, 42, 43, 44, 45, 46, 47, 48, 49, 50, 51, 52, 53, 54, 55, 56, 57, 58, 59, 60, 61] (by decide +kernel) (by decide +kernel)
set_option maxRecDepth 20000 in
theorem gX8_runs_X8_step : GoodIn wsX8_runs (wsV RX8 161 RX8 yX8_step wsX8_step) := goodIn_app (goodIn_of _ (by decide +kernel)) ggX8_runs_X8_step
set_option maxRecDepth 20000 in
theorem ggX8_runs_X8_cells : GoodIn wsX8_runs wsX8_cells := goodIn_r _ [19, 15, 31, 32, 33, 34, 35, 36, 37, 38, 39, 40, 41, 42, 43, 44, 45, 46, 47, 48, 49, 50, 51, 52, 53, 54, 55, 56, 57, 58, 59, 60, 61] (by decide +kernel) (by decide +kernel)
set_option maxRecDepth 20000 in
theorem gX8_runs_X8_cells : GoodIn wsX8_runs (wsV RX8 151 RX8 yX8_cells wsX8_cells) := goodIn_app (goodIn_of _ (by decide +kernel)) ggX8_runs_X8_cells
theorem dX8_runs_0 : decode cX8_runs 0 = .ok (.aload_n 0, 1) := by decide +kernel
theorem dX8_runs_1 : decode cX8_runs 1 = .ok (.invokevirtual 158, 3) := by decide +kernel
theorem dX8_runs_4 : decode cX8_runs 4 = .ok (.iconst 0, 1) := by decide +kernel
theorem dX8_runs_5 : decode cX8_runs 5 = .ok (.istore_n 2, 1) := by decide +kernel
theorem dX8_runs_6 : decode cX8_runs 6 = .ok (.iload_n 2, 1) := by decide +kernel
theorem dX8_runs_7 : decode cX8_runs 7 = .ok (.bipush 36, 2) := by decide +kernel
theorem dX8_runs_9 : decode cX8_runs 9 = .ok (.if_icmp .ge 27, 3) := by decide +kernel
theorem dX8_runs_12 : decode cX8_runs 12 = .ok (.aload_n 0, 1) := by decide +kernel
theorem dX8_runs_13 : decode cX8_runs 13 = .ok (.getfield 37, 3) := by decide +kernel
theorem dX8_runs_16 : decode cX8_runs 16 = .ok (.iload_n 2, 1) := by decide +kernel
theorem dX8_runs_17 : decode cX8_runs 17 = .ok (.sipush (-10000), 3) := by decide +kernel
theorem dX8_runs_20 : decode cX8_runs 20 = .ok (.iastore, 1) := by decide +kernel
theorem dX8_runs_21 : decode cX8_runs 21 = .ok (.aload_n 0, 1) := by decide +kernel
theorem dX8_runs_22 : decode cX8_runs 22 = .ok (.getfield 40, 3) := by decide +kernel
theorem dX8_runs_25 : decode cX8_runs 25 = .ok (.iload_n 2, 1) := by decide +kernel
theorem dX8_runs_26 : decode cX8_runs 26 = .ok (.sipush 10000, 3) := by decide +kernel
theorem dX8_runs_29 : decode cX8_runs 29 = .ok (.iastore, 1) := by decide +kernel
theorem dX8_runs_30 : decode cX8_runs 30 = .ok (.iinc 2 1, 3) := by decide +kernel
theorem dX8_runs_33 : decode cX8_runs 33 = .ok (.goto (-27), 3) := by decide +kernel
theorem dX8_runs_36 : decode cX8_runs 36 = .ok (.iconst 0, 1) := by decide +kernel
theorem dX8_runs_37 : decode cX8_runs 37 = .ok (.istore_n 2, 1) := by decide +kernel
theorem dX8_runs_38 : decode cX8_runs 38 = .ok (.iload_n 2, 1) := by decide +kernel
theorem dX8_runs_39 : decode cX8_runs 39 = .ok (.bipush 30, 2) := by decide +kernel
theorem dX8_runs_41 : decode cX8_runs 41 = .ok (.iload_n 1, 1) := by decide +kernel
theorem dX8_runs_42 : decode cX8_runs 42 = .ok (.iadd, 1) := by decide +kernel
theorem dX8_runs_43 : decode cX8_runs 43 = .ok (.if_icmp .ge 109, 3) := by decide +kernel
theorem dX8_runs_46 : decode cX8_runs 46 = .ok (.aload_n 0, 1) := by decide +kernel
theorem dX8_runs_47 : decode cX8_runs 47 = .ok (.iload_n 2, 1) := by decide +kernel
theorem dX8_runs_48 : decode cX8_runs 48 = .ok (.iload_n 1, 1) := by decide +kernel
theorem dX8_runs_49 : decode cX8_runs 49 = .ok (.invokevirtual 161, 3) := by decide +kernel
theorem dX8_runs_52 : decode cX8_runs 52 = .ok (.iconst 0, 1) := by decide +kernel
theorem dX8_runs_53 : decode cX8_runs 53 = .ok (.istore_n 3, 1) := by decide +kernel
theorem dX8_runs_54 : decode cX8_runs 54 = .ok (.iload_n 3, 1) := by decide +kernel
theorem dX8_runs_55 : decode cX8_runs 55 = .ok (.aload_n 0, 1) := by decide +kernel
theorem dX8_runs_56 : decode cX8_runs 56 = .ok (.invokevirtual 151, 3) := by decide +kernel
theorem dX8_runs_59 : decode cX8_runs 59 = .ok (.if_icmp .ge 87, 3) := by decide +kernel
theorem dX8_runs_62 : decode cX8_runs 62 = .ok (.iload_n 2, 1) := by decide +kernel
theorem dX8_runs_63 : decode cX8_runs 63 = .ok (.bipush 30, 2) := by decide +kernel
theorem dX8_runs_65 : decode cX8_runs 65 = .ok (.if_icmp .lt 81, 3) := by decide +kernel
theorem dX8_runs_68 : decode cX8_runs 68 = .ok (.aload_n 0, 1) := by decide +kernel
theorem dX8_runs_69 : decode cX8_runs 69 = .ok (.getfield 37, 3) := by decide +kernel
theorem dX8_runs_72 : decode cX8_runs 72 = .ok (.iload_n 3, 1) := by decide +kernel
theorem dX8_runs_73 : decode cX8_runs 73 = .ok (.aload_n 0, 1) := by decide +kernel
theorem dX8_runs_74 : decode cX8_runs 74 = .ok (.getfield 31, 3) := by decide +kernel
theorem dX8_runs_77 : decode cX8_runs 77 = .ok (.iload_n 3, 1) := by decide +kernel
theorem dX8_runs_78 : decode cX8_runs 78 = .ok (.iaload, 1) := by decide +kernel
theorem dX8_runs_79 : decode cX8_runs 79 = .ok (.aload_n 0, 1) := by decide +kernel
theorem dX8_runs_80 : decode cX8_runs 80 = .ok (.getfield 37, 3) := by decide +kernel
theorem dX8_runs_83 : decode cX8_runs 83 = .ok (.iload_n 3, 1) := by decide +kernel
theorem dX8_runs_84 : decode cX8_runs 84 = .ok (.iaload, 1) := by decide +kernel
theorem dX8_runs_85 : decode cX8_runs 85 = .ok (.if_icmp .le 12, 3) := by decide +kernel
theorem dX8_runs_88 : decode cX8_runs 88 = .ok (.aload_n 0, 1) := by decide +kernel
theorem dX8_runs_89 : decode cX8_runs 89 = .ok (.getfield 31, 3) := by decide +kernel
theorem dX8_runs_92 : decode cX8_runs 92 = .ok (.iload_n 3, 1) := by decide +kernel
theorem dX8_runs_93 : decode cX8_runs 93 = .ok (.iaload, 1) := by decide +kernel
theorem dX8_runs_94 : decode cX8_runs 94 = .ok (.goto 9, 3) := by decide +kernel
theorem dX8_runs_97 : decode cX8_runs 97 = .ok (.aload_n 0, 1) := by decide +kernel
theorem dX8_runs_98 : decode cX8_runs 98 = .ok (.getfield 37, 3) := by decide +kernel
theorem dX8_runs_101 : decode cX8_runs 101 = .ok (.iload_n 3, 1) := by decide +kernel
theorem dX8_runs_102 : decode cX8_runs 102 = .ok (.iaload, 1) := by decide +kernel
theorem dX8_runs_103 : decode cX8_runs 103 = .ok (.iastore, 1) := by decide +kernel
theorem dX8_runs_104 : decode cX8_runs 104 = .ok (.aload_n 0, 1) := by decide +kernel
theorem dX8_runs_105 : decode cX8_runs 105 = .ok (.getfield 40, 3) := by decide +kernel
theorem dX8_runs_108 : decode cX8_runs 108 = .ok (.iload_n 3, 1) := by decide +kernel
theorem dX8_runs_109 : decode cX8_runs 109 = .ok (.aload_n 0, 1) := by decide +kernel
theorem dX8_runs_110 : decode cX8_runs 110 = .ok (.getfield 31, 3) := by decide +kernel
theorem dX8_runs_113 : decode cX8_runs 113 = .ok (.iload_n 3, 1) := by decide +kernel
theorem dX8_runs_114 : decode cX8_runs 114 = .ok (.iaload, 1) := by decide +kernel
theorem dX8_runs_115 : decode cX8_runs 115 = .ok (.aload_n 0, 1) := by decide +kernel
theorem dX8_runs_116 : decode cX8_runs 116 = .ok (.getfield 40, 3) := by decide +kernel
theorem dX8_runs_119 : decode cX8_runs 119 = .ok (.iload_n 3, 1) := by decide +kernel
theorem dX8_runs_120 : decode cX8_runs 120 = .ok (.iaload, 1) := by decide +kernel
theorem dX8_runs_121 : decode cX8_runs 121 = .ok (.if_icmp .ge 12, 3) := by decide +kernel
theorem dX8_runs_124 : decode cX8_runs 124 = .ok (.aload_n 0, 1) := by decide +kernel
theorem dX8_runs_125 : decode cX8_runs 125 = .ok (.getfield 31, 3) := by decide +kernel
theorem dX8_runs_128 : decode cX8_runs 128 = .ok (.iload_n 3, 1) := by decide +kernel
theorem dX8_runs_129 : decode cX8_runs 129 = .ok (.iaload, 1) := by decide +kernel
theorem dX8_runs_130 : decode cX8_runs 130 = .ok (.goto 9, 3) := by decide +kernel
theorem dX8_runs_133 : decode cX8_runs 133 = .ok (.aload_n 0, 1) := by decide +kernel
theorem dX8_runs_134 : decode cX8_runs 134 = .ok (.getfield 40, 3) := by decide +kernel
theorem dX8_runs_137 : decode cX8_runs 137 = .ok (.iload_n 3, 1) := by decide +kernel
theorem dX8_runs_138 : decode cX8_runs 138 = .ok (.iaload, 1) := by decide +kernel
theorem dX8_runs_139 : decode cX8_runs 139 = .ok (.iastore, 1) := by decide +kernel
theorem dX8_runs_140 : decode cX8_runs 140 = .ok (.iinc 3 1, 3) := by decide +kernel
theorem dX8_runs_143 : decode cX8_runs 143 = .ok (.goto (-89), 3) := by decide +kernel
theorem dX8_runs_146 : decode cX8_runs 146 = .ok (.iinc 2 1, 3) := by decide +kernel
theorem dX8_runs_149 : decode cX8_runs 149 = .ok (.goto (-111), 3) := by decide +kernel
theorem dX8_runs_152 : decode cX8_runs 152 = .ok (.iconst 0, 1) := by decide +kernel
theorem dX8_runs_153 : decode cX8_runs 153 = .ok (.istore_n 2, 1) := by decide +kernel
theorem dX8_runs_154 : decode cX8_runs 154 = .ok (.iload_n 2, 1) := by decide +kernel
theorem dX8_runs_155 : decode cX8_runs 155 = .ok (.aload_n 0, 1) := by decide +kernel
theorem dX8_runs_156 : decode cX8_runs 156 = .ok (.invokevirtual 151, 3) := by decide +kernel
theorem dX8_runs_159 : decode cX8_runs 159 = .ok (.if_icmp .ge 28, 3) := by decide +kernel
theorem dX8_runs_162 : decode cX8_runs 162 = .ok (.aload_n 0, 1) := by decide +kernel
theorem dX8_runs_163 : decode cX8_runs 163 = .ok (.getfield 43, 3) := by decide +kernel
theorem dX8_runs_166 : decode cX8_runs 166 = .ok (.iload_n 2, 1) := by decide +kernel
theorem dX8_runs_167 : decode cX8_runs 167 = .ok (.aload_n 0, 1) := by decide +kernel
theorem dX8_runs_168 : decode cX8_runs 168 = .ok (.getfield 37, 3) := by decide +kernel
theorem dX8_runs_171 : decode cX8_runs 171 = .ok (.iload_n 2, 1) := by decide +kernel
theorem dX8_runs_172 : decode cX8_runs 172 = .ok (.iaload, 1) := by decide +kernel
theorem dX8_runs_173 : decode cX8_runs 173 = .ok (.aload_n 0, 1) := by decide +kernel
theorem dX8_runs_174 : decode cX8_runs 174 = .ok (.getfield 40, 3) := by decide +kernel
theorem dX8_runs_177 : decode cX8_runs 177 = .ok (.iload_n 2, 1) := by decide +kernel
theorem dX8_runs_178 : decode cX8_runs 178 = .ok (.iaload, 1) := by decide +kernel
theorem dX8_runs_179 : decode cX8_runs 179 = .ok (.isub, 1) := by decide +kernel
theorem dX8_runs_180 : decode cX8_runs 180 = .ok (.iastore, 1) := by decide +kernel
theorem dX8_runs_181 : decode cX8_runs 181 = .ok (.iinc 2 1, 3) := by decide +kernel
theorem dX8_runs_184 : decode cX8_runs 184 = .ok (.goto (-30), 3) := by decide +kernel
theorem dX8_runs_187 : decode cX8_runs 187 = .ok (.return_, 1) := by decide +kernel
theorem dX8_isStill_0 : decode cX8_isStill 0 = .ok (.aload_n 0, 1) := by decide +kernel
theorem dX8_isStill_1 : decode cX8_isStill 1 = .ok (.getfield 43, 3) := by decide +kernel
theorem dX8_isStill_4 : decode cX8_isStill 4 = .ok (.iload_n 1, 1) := by decide +kernel
theorem dX8_isStill_5 : decode cX8_isStill 5 = .ok (.iaload, 1) := by decide +kernel
theorem dX8_isStill_6 : decode cX8_isStill 6 = .ok (.aload_n 0, 1) := by decide +kernel
theorem dX8_isStill_7 : decode cX8_isStill 7 = .ok (.getfield 13, 3) := by decide +kernel
theorem dX8_isStill_10 : decode cX8_isStill 10 = .ok (.bipush 7, 2) := by decide +kernel
theorem dX8_isStill_12 : decode cX8_isStill 12 = .ok (.iaload, 1) := by decide +kernel
theorem dX8_isStill_13 : decode cX8_isStill 13 = .ok (.if_icmp .gt 7, 3) := by decide +kernel
theorem dX8_isStill_16 : decode cX8_isStill 16 = .ok (.iconst 1, 1) := by decide +kernel
theorem dX8_isStill_17 : decode cX8_isStill 17 = .ok (.goto 4, 3) := by decide +kernel
theorem dX8_isStill_20 : decode cX8_isStill 20 = .ok (.iconst 0, 1) := by decide +kernel
theorem dX8_isStill_21 : decode cX8_isStill 21 = .ok (.ireturn, 1) := by decide +kernel
theorem dX8_note_0 : decode cX8_note 0 = .ok (.aload_n 0, 1) := by decide +kernel
theorem dX8_note_1 : decode cX8_note 1 = .ok (.getfield 165, 3) := by decide +kernel
theorem dX8_note_4 : decode cX8_note 4 = .ok (.bipush 6, 2) := by decide +kernel
theorem dX8_note_6 : decode cX8_note 6 = .ok (.if_icmp .ne 43, 3) := by decide +kernel
theorem dX8_note_9 : decode cX8_note 9 = .ok (.iconst 0, 1) := by decide +kernel
theorem dX8_note_10 : decode cX8_note 10 = .ok (.istore_n 1, 1) := by decide +kernel
theorem dX8_note_11 : decode cX8_note 11 = .ok (.iload_n 1, 1) := by decide +kernel
theorem dX8_note_12 : decode cX8_note 12 = .ok (.sipush 405, 3) := by decide +kernel
theorem dX8_note_15 : decode cX8_note 15 = .ok (.if_icmp .ge 24, 3) := by decide +kernel
theorem dX8_note_18 : decode cX8_note 18 = .ok (.aload_n 0, 1) := by decide +kernel
theorem dX8_note_19 : decode cX8_note 19 = .ok (.getfield 19, 3) := by decide +kernel
theorem dX8_note_22 : decode cX8_note 22 = .ok (.iload_n 1, 1) := by decide +kernel
theorem dX8_note_23 : decode cX8_note 23 = .ok (.aload_n 0, 1) := by decide +kernel
theorem dX8_note_24 : decode cX8_note 24 = .ok (.getfield 19, 3) := by decide +kernel
theorem dX8_note_27 : decode cX8_note 27 = .ok (.bipush 81, 2) := by decide +kernel
theorem dX8_note_29 : decode cX8_note 29 = .ok (.iload_n 1, 1) := by decide +kernel
theorem dX8_note_30 : decode cX8_note 30 = .ok (.iadd, 1) := by decide +kernel
theorem dX8_note_31 : decode cX8_note 31 = .ok (.iaload, 1) := by decide +kernel
theorem dX8_note_32 : decode cX8_note 32 = .ok (.iastore, 1) := by decide +kernel
theorem dX8_note_33 : decode cX8_note 33 = .ok (.iinc 1 1, 3) := by decide +kernel
theorem dX8_note_36 : decode cX8_note 36 = .ok (.goto (-25), 3) := by decide +kernel
theorem dX8_note_39 : decode cX8_note 39 = .ok (.aload_n 0, 1) := by decide +kernel
theorem dX8_note_40 : decode cX8_note 40 = .ok (.dup, 1) := by decide +kernel
theorem dX8_note_41 : decode cX8_note 41 = .ok (.getfield 165, 3) := by decide +kernel
theorem dX8_note_44 : decode cX8_note 44 = .ok (.iconst 1, 1) := by decide +kernel
theorem dX8_note_45 : decode cX8_note 45 = .ok (.isub, 1) := by decide +kernel
theorem dX8_note_46 : decode cX8_note 46 = .ok (.putfield 165, 3) := by decide +kernel
theorem dX8_note_49 : decode cX8_note 49 = .ok (.iconst 0, 1) := by decide +kernel
theorem dX8_note_50 : decode cX8_note 50 = .ok (.istore_n 1, 1) := by decide +kernel
theorem dX8_note_51 : decode cX8_note 51 = .ok (.iload_n 1, 1) := by decide +kernel
theorem dX8_note_52 : decode cX8_note 52 = .ok (.bipush 81, 2) := by decide +kernel
theorem dX8_note_54 : decode cX8_note 54 = .ok (.if_icmp .ge 29, 3) := by decide +kernel
theorem dX8_note_57 : decode cX8_note 57 = .ok (.aload_n 0, 1) := by decide +kernel
theorem dX8_note_58 : decode cX8_note 58 = .ok (.getfield 19, 3) := by decide +kernel
theorem dX8_note_61 : decode cX8_note 61 = .ok (.bipush 81, 2) := by decide +kernel
theorem dX8_note_63 : decode cX8_note 63 = .ok (.aload_n 0, 1) := by decide +kernel
theorem dX8_note_64 : decode cX8_note 64 = .ok (.getfield 165, 3) := by decide +kernel
theorem dX8_note_67 : decode cX8_note 67 = .ok (.imul, 1) := by decide +kernel
theorem dX8_note_68 : decode cX8_note 68 = .ok (.iload_n 1, 1) := by decide +kernel
theorem dX8_note_69 : decode cX8_note 69 = .ok (.iadd, 1) := by decide +kernel
theorem dX8_note_70 : decode cX8_note 70 = .ok (.aload_n 0, 1) := by decide +kernel
theorem dX8_note_71 : decode cX8_note 71 = .ok (.getfield 13, 3) := by decide +kernel
theorem dX8_note_74 : decode cX8_note 74 = .ok (.iload_n 1, 1) := by decide +kernel
theorem dX8_note_75 : decode cX8_note 75 = .ok (.iaload, 1) := by decide +kernel
theorem dX8_note_76 : decode cX8_note 76 = .ok (.iastore, 1) := by decide +kernel
theorem dX8_note_77 : decode cX8_note 77 = .ok (.iinc 1 1, 3) := by decide +kernel
theorem dX8_note_80 : decode cX8_note 80 = .ok (.goto (-29), 3) := by decide +kernel
theorem dX8_note_83 : decode cX8_note 83 = .ok (.aload_n 0, 1) := by decide +kernel
theorem dX8_note_84 : decode cX8_note 84 = .ok (.dup, 1) := by decide +kernel
theorem dX8_note_85 : decode cX8_note 85 = .ok (.getfield 165, 3) := by decide +kernel
theorem dX8_note_88 : decode cX8_note 88 = .ok (.iconst 1, 1) := by decide +kernel
theorem dX8_note_89 : decode cX8_note 89 = .ok (.iadd, 1) := by decide +kernel
theorem dX8_note_90 : decode cX8_note 90 = .ok (.putfield 165, 3) := by decide +kernel
theorem dX8_note_93 : decode cX8_note 93 = .ok (.return_, 1) := by decide +kernel
theorem dX8_undo_0 : decode cX8_undo 0 = .ok (.aload_n 0, 1) := by decide +kernel
theorem dX8_undo_1 : decode cX8_undo 1 = .ok (.getfield 165, 3) := by decide +kernel
theorem dX8_undo_4 : decode cX8_undo 4 = .ok (.ifCond .ne 6, 3) := by decide +kernel
theorem dX8_undo_7 : decode cX8_undo 7 = .ok (.bipush (-2), 2) := by decide +kernel
theorem dX8_undo_9 : decode cX8_undo 9 = .ok (.ireturn, 1) := by decide +kernel
theorem dX8_undo_10 : decode cX8_undo 10 = .ok (.aload_n 0, 1) := by decide +kernel
theorem dX8_undo_11 : decode cX8_undo 11 = .ok (.dup, 1) := by decide +kernel
theorem dX8_undo_12 : decode cX8_undo 12 = .ok (.getfield 165, 3) := by decide +kernel
theorem dX8_undo_15 : decode cX8_undo 15 = .ok (.iconst 1, 1) := by decide +kernel
theorem dX8_undo_16 : decode cX8_undo 16 = .ok (.isub, 1) := by decide +kernel
theorem dX8_undo_17 : decode cX8_undo 17 = .ok (.putfield 165, 3) := by decide +kernel
theorem dX8_undo_20 : decode cX8_undo 20 = .ok (.iconst 0, 1) := by decide +kernel
theorem dX8_undo_21 : decode cX8_undo 21 = .ok (.istore_n 1, 1) := by decide +kernel
theorem dX8_undo_22 : decode cX8_undo 22 = .ok (.iload_n 1, 1) := by decide +kernel
theorem dX8_undo_23 : decode cX8_undo 23 = .ok (.bipush 81, 2) := by decide +kernel
theorem dX8_undo_25 : decode cX8_undo 25 = .ok (.if_icmp .ge 29, 3) := by decide +kernel
theorem dX8_undo_28 : decode cX8_undo 28 = .ok (.aload_n 0, 1) := by decide +kernel
theorem dX8_undo_29 : decode cX8_undo 29 = .ok (.getfield 13, 3) := by decide +kernel
theorem dX8_undo_32 : decode cX8_undo 32 = .ok (.iload_n 1, 1) := by decide +kernel
theorem dX8_undo_33 : decode cX8_undo 33 = .ok (.aload_n 0, 1) := by decide +kernel
theorem dX8_undo_34 : decode cX8_undo 34 = .ok (.getfield 19, 3) := by decide +kernel
theorem dX8_undo_37 : decode cX8_undo 37 = .ok (.bipush 81, 2) := by decide +kernel
theorem dX8_undo_39 : decode cX8_undo 39 = .ok (.aload_n 0, 1) := by decide +kernel
theorem dX8_undo_40 : decode cX8_undo 40 = .ok (.getfield 165, 3) := by decide +kernel
theorem dX8_undo_43 : decode cX8_undo 43 = .ok (.imul, 1) := by decide +kernel
theorem dX8_undo_44 : decode cX8_undo 44 = .ok (.iload_n 1, 1) := by decide +kernel
theorem dX8_undo_45 : decode cX8_undo 45 = .ok (.iadd, 1) := by decide +kernel
theorem dX8_undo_46 : decode cX8_undo 46 = .ok (.iaload, 1) := by decide +kernel
theorem dX8_undo_47 : decode cX8_undo 47 = .ok (.iastore, 1) := by decide +kernel
theorem dX8_undo_48 : decode cX8_undo 48 = .ok (.iinc 1 1, 3) := by decide +kernel
theorem dX8_undo_51 : decode cX8_undo 51 = .ok (.goto (-29), 3) := by decide +kernel
theorem dX8_undo_54 : decode cX8_undo 54 = .ok (.aload_n 0, 1) := by decide +kernel
theorem dX8_undo_55 : decode cX8_undo 55 = .ok (.getfield 165, 3) := by decide +kernel
theorem dX8_undo_58 : decode cX8_undo 58 = .ok (.ireturn, 1) := by decide +kernel
set_option maxRecDepth 20000 in
theorem ggX8_goesTo_X8_isStill : GoodIn wsX8_goesTo wsX8_isStill := goodIn_r _ [6, 1, 7, 15, 16, 17, 18, 19, 20, 21, 22, 23, 24, 25, 26, 27, 28, 29, 30, 31, 32, 33, 34, 35, 36, 37, 38, 39, 40, 41, 42, 43, 44, 45] (by decide +kernel) (by decide +kernel)
set_option maxRecDepth 20000 in
theorem gX8_goesTo_X8_isStill : GoodIn wsX8_goesTo (wsV RX8 168 RX8 yX8_isStill wsX8_isStill) := goodIn_app (goodIn_of _ (by decide +kernel)) ggX8_goesTo_X8_isStill
set_option maxRecDepth 20000 in
theorem ggX8_goesTo_X8_next : GoodIn wsX8_goesTo wsX8_next := goodIn_r _ [11, 7, 12, 13, 5, 14, 15, 16, 17, 18, 19, 20, 21, 22, 23, 24, 25, 26, 27, 28, 29, 30, 31, 32, 33, 34, 35, 36, 37, 38, 39, 40, 41, 42, 43, 44, 45] (by decide +kernel) (by decide +kernel)
set_option maxRecDepth 20000 in
theorem gX8_goesTo_X8_next : GoodIn wsX8_goesTo (wsV RX8 147 RX8 yX8_next wsX8_next) := goodIn_app (goodIn_of _ (by decide +kernel)) ggX8_goesTo_X8_next
theorem dX8_goesTo_0 : decode cX8_goesTo 0 = .ok (.iconst (-1), 1) := by decide +kernel
theorem dX8_goesTo_1 : decode cX8_goesTo 1 = .ok (.istore_n 2, 1) := by decide +kernel
theorem dX8_goesTo_2 : decode cX8_goesTo 2 = .ok (.iconst 0, 1) := by decide +kernel
theorem dX8_goesTo_3 : decode cX8_goesTo 3 = .ok (.istore_n 3, 1) := by decide +kernel
theorem dX8_goesTo_4 : decode cX8_goesTo 4 = .ok (.iload_n 3, 1) := by decide +kernel
theorem dX8_goesTo_5 : decode cX8_goesTo 5 = .ok (.iconst 4, 1) := by decide +kernel
theorem dX8_goesTo_6 : decode cX8_goesTo 6 = .ok (.if_icmp .ge 73, 3) := by decide +kernel
theorem dX8_goesTo_9 : decode cX8_goesTo 9 = .ok (.aload_n 0, 1) := by decide +kernel
theorem dX8_goesTo_10 : decode cX8_goesTo 10 = .ok (.iload_n 1, 1) := by decide +kernel
theorem dX8_goesTo_11 : decode cX8_goesTo 11 = .ok (.invokevirtual 168, 3) := by decide +kernel
theorem dX8_goesTo_14 : decode cX8_goesTo 14 = .ok (.ifCond .ne 65, 3) := by decide +kernel
theorem dX8_goesTo_17 : decode cX8_goesTo 17 = .ok (.aload_n 0, 1) := by decide +kernel
theorem dX8_goesTo_18 : decode cX8_goesTo 18 = .ok (.iload_n 1, 1) := by decide +kernel
theorem dX8_goesTo_19 : decode cX8_goesTo 19 = .ok (.iload_n 3, 1) := by decide +kernel
theorem dX8_goesTo_20 : decode cX8_goesTo 20 = .ok (.invokevirtual 147, 3) := by decide +kernel
theorem dX8_goesTo_23 : decode cX8_goesTo 23 = .ok (.istore 4, 2) := by decide +kernel
theorem dX8_goesTo_25 : decode cX8_goesTo 25 = .ok (.iload 4, 2) := by decide +kernel
theorem dX8_goesTo_27 : decode cX8_goesTo 27 = .ok (.ifCond .lt 44, 3) := by decide +kernel
theorem dX8_goesTo_30 : decode cX8_goesTo 30 = .ok (.aload_n 0, 1) := by decide +kernel
theorem dX8_goesTo_31 : decode cX8_goesTo 31 = .ok (.getfield 43, 3) := by decide +kernel
theorem dX8_goesTo_34 : decode cX8_goesTo 34 = .ok (.iload 4, 2) := by decide +kernel
theorem dX8_goesTo_36 : decode cX8_goesTo 36 = .ok (.iaload, 1) := by decide +kernel
theorem dX8_goesTo_37 : decode cX8_goesTo 37 = .ok (.aload_n 0, 1) := by decide +kernel
theorem dX8_goesTo_38 : decode cX8_goesTo 38 = .ok (.getfield 43, 3) := by decide +kernel
theorem dX8_goesTo_41 : decode cX8_goesTo 41 = .ok (.iload_n 1, 1) := by decide +kernel
theorem dX8_goesTo_42 : decode cX8_goesTo 42 = .ok (.iaload, 1) := by decide +kernel
theorem dX8_goesTo_43 : decode cX8_goesTo 43 = .ok (.if_icmp .ge 28, 3) := by decide +kernel
theorem dX8_goesTo_46 : decode cX8_goesTo 46 = .ok (.iload_n 2, 1) := by decide +kernel
theorem dX8_goesTo_47 : decode cX8_goesTo 47 = .ok (.ifCond .lt 19, 3) := by decide +kernel
theorem dX8_goesTo_50 : decode cX8_goesTo 50 = .ok (.aload_n 0, 1) := by decide +kernel
theorem dX8_goesTo_51 : decode cX8_goesTo 51 = .ok (.getfield 43, 3) := by decide +kernel
theorem dX8_goesTo_54 : decode cX8_goesTo 54 = .ok (.iload 4, 2) := by decide +kernel
theorem dX8_goesTo_56 : decode cX8_goesTo 56 = .ok (.iaload, 1) := by decide +kernel
theorem dX8_goesTo_57 : decode cX8_goesTo 57 = .ok (.aload_n 0, 1) := by decide +kernel
theorem dX8_goesTo_58 : decode cX8_goesTo 58 = .ok (.getfield 43, 3) := by decide +kernel
theorem dX8_goesTo_61 : decode cX8_goesTo 61 = .ok (.iload_n 2, 1) := by decide +kernel
theorem dX8_goesTo_62 : decode cX8_goesTo 62 = .ok (.iaload, 1) := by decide +kernel
theorem dX8_goesTo_63 : decode cX8_goesTo 63 = .ok (.if_icmp .ge 8, 3) := by decide +kernel
theorem dX8_goesTo_66 : decode cX8_goesTo 66 = .ok (.iload 4, 2) := by decide +kernel
theorem dX8_goesTo_68 : decode cX8_goesTo 68 = .ok (.goto 4, 3) := by decide +kernel
theorem dX8_goesTo_71 : decode cX8_goesTo 71 = .ok (.iload_n 2, 1) := by decide +kernel
theorem dX8_goesTo_72 : decode cX8_goesTo 72 = .ok (.istore_n 2, 1) := by decide +kernel
theorem dX8_goesTo_73 : decode cX8_goesTo 73 = .ok (.iinc 3 1, 3) := by decide +kernel
theorem dX8_goesTo_76 : decode cX8_goesTo 76 = .ok (.goto (-72), 3) := by decide +kernel
theorem dX8_goesTo_79 : decode cX8_goesTo 79 = .ok (.iload_n 2, 1) := by decide +kernel
theorem dX8_goesTo_80 : decode cX8_goesTo 80 = .ok (.ireturn, 1) := by decide +kernel
set_option maxRecDepth 20000 in
theorem ggX8_shakesOnce_X8_cells : GoodIn wsX8_shakesOnce wsX8_cells := goodIn_r _ [6, 7, 24, 25, 26, 27, 28, 29, 30, 31, 32, 33, 34, 35, 36, 37, 38, 39, 40, 41, 42, 43, 44, 45, 46, 47, 48, 49, 50, 51, 52, 53, 54] (by decide +kernel) (by decide +kernel)
set_option maxRecDepth 20000 in
theorem gX8_shakesOnce_X8_cells : GoodIn wsX8_shakesOnce (wsV RX8 151 RX8 yX8_cells wsX8_cells) := goodIn_app (goodIn_of _ (by decide +kernel)) ggX8_shakesOnce_X8_cells
set_option maxRecDepth 20000 in
theorem ggX8_shakesOnce_X8_goesTo : GoodIn wsX8_shakesOnce wsX8_goesTo := goodIn_r _ [11, 12, 13, 14, 15, 5, 16, 7, 17, 18, 19, 20, 21, 22, 23, 24, 25, 26, 27, 28, 29, 30, 31, 32, 33, 34, 35, 36, 37, 38, 39, 40, 41, 42, 43, 44, 45, 46, 47, 48, 49, 50, 51, 52, 53, 54] (by decide +kernel) (by decide +kernel)
set_option maxRecDepth 20000 in
theorem gX8_shakesOnce_X8_goesTo : GoodIn wsX8_shakesOnce (wsV RX8 172 RX8 yX8_goesTo wsX8_goesTo) := goodIn_app (goodIn_of _ (by decide +kernel)) ggX8_shakesOnce_X8_goesTo
theorem dX8_shakesOnce_0 : decode cX8_shakesOnce 0 = .ok (.iconst 0, 1) := by decide +kernel
theorem dX8_shakesOnce_1 : decode cX8_shakesOnce 1 = .ok (.istore_n 3, 1) := by decide +kernel
theorem dX8_shakesOnce_2 : decode cX8_shakesOnce 2 = .ok (.iconst 0, 1) := by decide +kernel
theorem dX8_shakesOnce_3 : decode cX8_shakesOnce 3 = .ok (.istore 4, 2) := by decide +kernel
theorem dX8_shakesOnce_5 : decode cX8_shakesOnce 5 = .ok (.iload 4, 2) := by decide +kernel
theorem dX8_shakesOnce_7 : decode cX8_shakesOnce 7 = .ok (.bipush 36, 2) := by decide +kernel
theorem dX8_shakesOnce_9 : decode cX8_shakesOnce 9 = .ok (.if_icmp .ge 17, 3) := by decide +kernel
theorem dX8_shakesOnce_12 : decode cX8_shakesOnce 12 = .ok (.aload_n 0, 1) := by decide +kernel
theorem dX8_shakesOnce_13 : decode cX8_shakesOnce 13 = .ok (.getfield 46, 3) := by decide +kernel
theorem dX8_shakesOnce_16 : decode cX8_shakesOnce 16 = .ok (.iload 4, 2) := by decide +kernel
theorem dX8_shakesOnce_18 : decode cX8_shakesOnce 18 = .ok (.iconst 0, 1) := by decide +kernel
theorem dX8_shakesOnce_19 : decode cX8_shakesOnce 19 = .ok (.iastore, 1) := by decide +kernel
theorem dX8_shakesOnce_20 : decode cX8_shakesOnce 20 = .ok (.iinc 4 1, 3) := by decide +kernel
theorem dX8_shakesOnce_23 : decode cX8_shakesOnce 23 = .ok (.goto (-18), 3) := by decide +kernel
theorem dX8_shakesOnce_26 : decode cX8_shakesOnce 26 = .ok (.iconst 0, 1) := by decide +kernel
theorem dX8_shakesOnce_27 : decode cX8_shakesOnce 27 = .ok (.istore 4, 2) := by decide +kernel
theorem dX8_shakesOnce_29 : decode cX8_shakesOnce 29 = .ok (.iload 4, 2) := by decide +kernel
theorem dX8_shakesOnce_31 : decode cX8_shakesOnce 31 = .ok (.aload_n 0, 1) := by decide +kernel
theorem dX8_shakesOnce_32 : decode cX8_shakesOnce 32 = .ok (.invokevirtual 151, 3) := by decide +kernel
theorem dX8_shakesOnce_35 : decode cX8_shakesOnce 35 = .ok (.if_icmp .ge 61, 3) := by decide +kernel
theorem dX8_shakesOnce_38 : decode cX8_shakesOnce 38 = .ok (.aload_n 0, 1) := by decide +kernel
theorem dX8_shakesOnce_39 : decode cX8_shakesOnce 39 = .ok (.iload 4, 2) := by decide +kernel
theorem dX8_shakesOnce_41 : decode cX8_shakesOnce 41 = .ok (.invokevirtual 172, 3) := by decide +kernel
theorem dX8_shakesOnce_44 : decode cX8_shakesOnce 44 = .ok (.istore 5, 2) := by decide +kernel
theorem dX8_shakesOnce_46 : decode cX8_shakesOnce 46 = .ok (.aload_n 0, 1) := by decide +kernel
theorem dX8_shakesOnce_47 : decode cX8_shakesOnce 47 = .ok (.getfield 46, 3) := by decide +kernel
theorem dX8_shakesOnce_50 : decode cX8_shakesOnce 50 = .ok (.iload 5, 2) := by decide +kernel
theorem dX8_shakesOnce_52 : decode cX8_shakesOnce 52 = .ok (.ifCond .ge 8, 3) := by decide +kernel
theorem dX8_shakesOnce_55 : decode cX8_shakesOnce 55 = .ok (.iload 4, 2) := by decide +kernel
theorem dX8_shakesOnce_57 : decode cX8_shakesOnce 57 = .ok (.goto 5, 3) := by decide +kernel
theorem dX8_shakesOnce_60 : decode cX8_shakesOnce 60 = .ok (.iload 5, 2) := by decide +kernel
theorem dX8_shakesOnce_62 : decode cX8_shakesOnce 62 = .ok (.dup2, 1) := by decide +kernel
theorem dX8_shakesOnce_63 : decode cX8_shakesOnce 63 = .ok (.iaload, 1) := by decide +kernel
theorem dX8_shakesOnce_64 : decode cX8_shakesOnce 64 = .ok (.aload_n 1, 1) := by decide +kernel
theorem dX8_shakesOnce_65 : decode cX8_shakesOnce 65 = .ok (.iload_n 2, 1) := by decide +kernel
theorem dX8_shakesOnce_66 : decode cX8_shakesOnce 66 = .ok (.iload 4, 2) := by decide +kernel
theorem dX8_shakesOnce_68 : decode cX8_shakesOnce 68 = .ok (.iadd, 1) := by decide +kernel
theorem dX8_shakesOnce_69 : decode cX8_shakesOnce 69 = .ok (.iaload, 1) := by decide +kernel
theorem dX8_shakesOnce_70 : decode cX8_shakesOnce 70 = .ok (.iadd, 1) := by decide +kernel
theorem dX8_shakesOnce_71 : decode cX8_shakesOnce 71 = .ok (.iastore, 1) := by decide +kernel
theorem dX8_shakesOnce_72 : decode cX8_shakesOnce 72 = .ok (.iload_n 3, 1) := by decide +kernel
theorem dX8_shakesOnce_73 : decode cX8_shakesOnce 73 = .ok (.iload 5, 2) := by decide +kernel
theorem dX8_shakesOnce_75 : decode cX8_shakesOnce 75 = .ok (.ifCond .ge 7, 3) := by decide +kernel
theorem dX8_shakesOnce_78 : decode cX8_shakesOnce 78 = .ok (.iconst 0, 1) := by decide +kernel
theorem dX8_shakesOnce_79 : decode cX8_shakesOnce 79 = .ok (.goto 9, 3) := by decide +kernel
theorem dX8_shakesOnce_82 : decode cX8_shakesOnce 82 = .ok (.aload_n 1, 1) := by decide +kernel
theorem dX8_shakesOnce_83 : decode cX8_shakesOnce 83 = .ok (.iload_n 2, 1) := by decide +kernel
theorem dX8_shakesOnce_84 : decode cX8_shakesOnce 84 = .ok (.iload 4, 2) := by decide +kernel
theorem dX8_shakesOnce_86 : decode cX8_shakesOnce 86 = .ok (.iadd, 1) := by decide +kernel
theorem dX8_shakesOnce_87 : decode cX8_shakesOnce 87 = .ok (.iaload, 1) := by decide +kernel
theorem dX8_shakesOnce_88 : decode cX8_shakesOnce 88 = .ok (.iadd, 1) := by decide +kernel
theorem dX8_shakesOnce_89 : decode cX8_shakesOnce 89 = .ok (.istore_n 3, 1) := by decide +kernel
theorem dX8_shakesOnce_90 : decode cX8_shakesOnce 90 = .ok (.iinc 4 1, 3) := by decide +kernel
theorem dX8_shakesOnce_93 : decode cX8_shakesOnce 93 = .ok (.goto (-64), 3) := by decide +kernel
theorem dX8_shakesOnce_96 : decode cX8_shakesOnce 96 = .ok (.iconst 0, 1) := by decide +kernel
theorem dX8_shakesOnce_97 : decode cX8_shakesOnce 97 = .ok (.istore 4, 2) := by decide +kernel
theorem dX8_shakesOnce_99 : decode cX8_shakesOnce 99 = .ok (.iload 4, 2) := by decide +kernel
theorem dX8_shakesOnce_101 : decode cX8_shakesOnce 101 = .ok (.aload_n 0, 1) := by decide +kernel
theorem dX8_shakesOnce_102 : decode cX8_shakesOnce 102 = .ok (.invokevirtual 151, 3) := by decide +kernel
theorem dX8_shakesOnce_105 : decode cX8_shakesOnce 105 = .ok (.if_icmp .ge 22, 3) := by decide +kernel
theorem dX8_shakesOnce_108 : decode cX8_shakesOnce 108 = .ok (.aload_n 1, 1) := by decide +kernel
theorem dX8_shakesOnce_109 : decode cX8_shakesOnce 109 = .ok (.iload_n 2, 1) := by decide +kernel
theorem dX8_shakesOnce_110 : decode cX8_shakesOnce 110 = .ok (.iload 4, 2) := by decide +kernel
theorem dX8_shakesOnce_112 : decode cX8_shakesOnce 112 = .ok (.iadd, 1) := by decide +kernel
theorem dX8_shakesOnce_113 : decode cX8_shakesOnce 113 = .ok (.aload_n 0, 1) := by decide +kernel
theorem dX8_shakesOnce_114 : decode cX8_shakesOnce 114 = .ok (.getfield 46, 3) := by decide +kernel
theorem dX8_shakesOnce_117 : decode cX8_shakesOnce 117 = .ok (.iload 4, 2) := by decide +kernel
theorem dX8_shakesOnce_119 : decode cX8_shakesOnce 119 = .ok (.iaload, 1) := by decide +kernel
theorem dX8_shakesOnce_120 : decode cX8_shakesOnce 120 = .ok (.iastore, 1) := by decide +kernel
theorem dX8_shakesOnce_121 : decode cX8_shakesOnce 121 = .ok (.iinc 4 1, 3) := by decide +kernel
theorem dX8_shakesOnce_124 : decode cX8_shakesOnce 124 = .ok (.goto (-25), 3) := by decide +kernel
theorem dX8_shakesOnce_127 : decode cX8_shakesOnce 127 = .ok (.iload_n 3, 1) := by decide +kernel
theorem dX8_shakesOnce_128 : decode cX8_shakesOnce 128 = .ok (.ireturn, 1) := by decide +kernel
set_option maxRecDepth 20000 in
theorem ggX8_tries_X8_runs : GoodIn wsX8_tries wsX8_runs := goodIn_r _ [7, 8, 9, 10, 11, 12, 13, 14, 6, 15, 16, 17, 18, 19, 20, 1, 21, 22, 23, 24, 25, 26, 27, 28, 29, 30, 31, 32, 33, 34, 35, 36, 37, 38, 39, 40, 41, 42, 43, 44, 45, 46, 47, 48, 49, 50, 51, 52, 53, 54, 55, 56, 57, 58, 59, 60, 61, 62, 63, 64, 65, 66] (by decide +kernel) (by decide +kernel)
set_option maxRecDepth 20000 in
theorem gX8_tries_X8_runs : GoodIn wsX8_tries (wsV RX8 175 RX8 yX8_runs wsX8_runs) := goodIn_app (goodIn_of _ (by decide +kernel)) ggX8_tries_X8_runs
theorem dX8_tries_0 : decode cX8_tries 0 = .ok (.aload_n 0, 1) := by decide +kernel
theorem dX8_tries_1 : decode cX8_tries 1 = .ok (.aload_n 0, 1) := by decide +kernel
theorem dX8_tries_2 : decode cX8_tries 2 = .ok (.getfield 13, 3) := by decide +kernel
theorem dX8_tries_5 : decode cX8_tries 5 = .ok (.bipush 6, 2) := by decide +kernel
theorem dX8_tries_7 : decode cX8_tries 7 = .ok (.iaload, 1) := by decide +kernel
theorem dX8_tries_8 : decode cX8_tries 8 = .ok (.invokevirtual 175, 3) := by decide +kernel
theorem dX8_tries_11 : decode cX8_tries 11 = .ok (.iconst 0, 1) := by decide +kernel
theorem dX8_tries_12 : decode cX8_tries 12 = .ok (.istore_n 1, 1) := by decide +kernel
theorem dX8_tries_13 : decode cX8_tries 13 = .ok (.iload_n 1, 1) := by decide +kernel
theorem dX8_tries_14 : decode cX8_tries 14 = .ok (.bipush 36, 2) := by decide +kernel
theorem dX8_tries_16 : decode cX8_tries 16 = .ok (.if_icmp .ge 24, 3) := by decide +kernel
theorem dX8_tries_19 : decode cX8_tries 19 = .ok (.aload_n 0, 1) := by decide +kernel
theorem dX8_tries_20 : decode cX8_tries 20 = .ok (.getfield 49, 3) := by decide +kernel
theorem dX8_tries_23 : decode cX8_tries 23 = .ok (.iload_n 1, 1) := by decide +kernel
theorem dX8_tries_24 : decode cX8_tries 24 = .ok (.aload_n 0, 1) := by decide +kernel
theorem dX8_tries_25 : decode cX8_tries 25 = .ok (.getfield 13, 3) := by decide +kernel
theorem dX8_tries_28 : decode cX8_tries 28 = .ok (.bipush 45, 2) := by decide +kernel
theorem dX8_tries_30 : decode cX8_tries 30 = .ok (.iload_n 1, 1) := by decide +kernel
theorem dX8_tries_31 : decode cX8_tries 31 = .ok (.iadd, 1) := by decide +kernel
theorem dX8_tries_32 : decode cX8_tries 32 = .ok (.iaload, 1) := by decide +kernel
theorem dX8_tries_33 : decode cX8_tries 33 = .ok (.iastore, 1) := by decide +kernel
theorem dX8_tries_34 : decode cX8_tries 34 = .ok (.iinc 1 1, 3) := by decide +kernel
theorem dX8_tries_37 : decode cX8_tries 37 = .ok (.goto (-24), 3) := by decide +kernel
theorem dX8_tries_40 : decode cX8_tries 40 = .ok (.return_, 1) := by decide +kernel
set_option maxRecDepth 20000 in
theorem ggX8_shakes_X8_in : GoodIn wsX8_shakes wsX8_in := goodIn_r _ [7] (by decide +kernel) (by decide +kernel)
set_option maxRecDepth 20000 in
theorem gX8_shakes_X8_in : GoodIn wsX8_shakes (va_wsS RX8 61 yX8_in wsX8_in) := goodIn_app (goodIn_of _ (by decide +kernel)) ggX8_shakes_X8_in
set_option maxRecDepth 20000 in
theorem ggX8_shakes_X8_tries : GoodIn wsX8_shakes wsX8_tries := goodIn_r _ [11, 3, 2, 12, 13, 14, 6, 15, 16, 17, 18, 19, 20, 21, 22, 23, 24, 25, 26, 27, 28, 29, 30, 31, 32, 33, 34, 35, 36, 37, 38, 39, 40, 4, 5, 7, 60, 61, 62, 63, 64, 65, 66, 67, 68, 69, 70, 71, 72, 73, 74, 75, 76, 77, 78, 79, 80, 81, 82, 83, 84, 85, 86, 87, 88, 89, 90] (by decide +kernel) (by decide +kernel)
set_option maxRecDepth 20000 in
theorem gX8_shakes_X8_tries : GoodIn wsX8_shakes (wsV RX8 181 RX8 yX8_tries wsX8_tries) := goodIn_app (goodIn_of _ (by decide +kernel)) ggX8_shakes_X8_tries
set_option maxRecDepth 20000 in
theorem ggX8_shakes_X8_shakesOnce : GoodIn wsX8_shakes wsX8_shakesOnce := goodIn_r _ [44, 45, 29, 30, 31, 6, 32, 3, 46, 47, 48, 49, 19, 50, 51, 52, 53, 37, 38, 39, 40, 4, 5, 7, 60, 61, 62, 63, 64, 65, 66, 67, 68, 69, 70, 71, 72, 73, 74, 75, 76, 77, 78, 79, 80, 81, 82, 83, 84, 85, 86, 87, 88, 89, 90] (by decide +kernel) (by decide +kernel)
set_option maxRecDepth 20000 in
theorem gX8_shakes_X8_shakesOnce : GoodIn wsX8_shakes (wsV RX8 184 RX8 yX8_shakesOnce wsX8_shakesOnce) := goodIn_app (goodIn_of _ (by decide +kernel)) ggX8_shakes_X8_shakesOnce
set_option maxRecDepth 20000 in
theorem ggX8_shakes_X8_note : GoodIn wsX8_shakes wsX8_note := goodIn_r _ [57, 58, 59, 3, 60, 61, 62, 63, 64, 65, 66, 67, 68, 69, 70, 71, 72, 73, 74, 75, 76, 77, 78, 79, 80, 81, 82, 83, 84, 85, 86, 87, 88, 89, 90] (by decide +kernel) (by decide +kernel)
set_option maxRecDepth 20000 in
theorem gX8_shakes_X8_note : GoodIn wsX8_shakes (wsV RX8 144 RX8 yX8_note wsX8_note) := goodIn_app (goodIn_of _ (by decide +kernel)) ggX8_shakes_X8_note
theorem dX8_shakes_0 : decode cX8_shakes 0 = .ok (.iload_n 1, 1) := by decide +kernel
theorem dX8_shakes_1 : decode cX8_shakes 1 = .ok (.i2l, 1) := by decide +kernel
theorem dX8_shakes_2 : decode cX8_shakes 2 = .ok (.lconst 1, 1) := by decide +kernel
theorem dX8_shakes_3 : decode cX8_shakes 3 = .ok (.ldc2_w 179, 3) := by decide +kernel
theorem dX8_shakes_6 : decode cX8_shakes 6 = .ok (.invokestatic 61, 3) := by decide +kernel
theorem dX8_shakes_9 : decode cX8_shakes 9 = .ok (.ifCond .ne 5, 3) := by decide +kernel
theorem dX8_shakes_12 : decode cX8_shakes 12 = .ok (.iconst (-1), 1) := by decide +kernel
theorem dX8_shakes_13 : decode cX8_shakes 13 = .ok (.ireturn, 1) := by decide +kernel
theorem dX8_shakes_14 : decode cX8_shakes 14 = .ok (.aload_n 0, 1) := by decide +kernel
theorem dX8_shakes_15 : decode cX8_shakes 15 = .ok (.invokevirtual 181, 3) := by decide +kernel
theorem dX8_shakes_18 : decode cX8_shakes 18 = .ok (.aload_n 0, 1) := by decide +kernel
theorem dX8_shakes_19 : decode cX8_shakes 19 = .ok (.aload_n 0, 1) := by decide +kernel
theorem dX8_shakes_20 : decode cX8_shakes 20 = .ok (.getfield 49, 3) := by decide +kernel
theorem dX8_shakes_23 : decode cX8_shakes 23 = .ok (.iconst 0, 1) := by decide +kernel
theorem dX8_shakes_24 : decode cX8_shakes 24 = .ok (.invokevirtual 184, 3) := by decide +kernel
theorem dX8_shakes_27 : decode cX8_shakes 27 = .ok (.ifCond .ne 6, 3) := by decide +kernel
theorem dX8_shakes_30 : decode cX8_shakes 30 = .ok (.bipush (-2), 2) := by decide +kernel
theorem dX8_shakes_32 : decode cX8_shakes 32 = .ok (.ireturn, 1) := by decide +kernel
theorem dX8_shakes_33 : decode cX8_shakes 33 = .ok (.aload_n 0, 1) := by decide +kernel
theorem dX8_shakes_34 : decode cX8_shakes 34 = .ok (.invokevirtual 144, 3) := by decide +kernel
theorem dX8_shakes_37 : decode cX8_shakes 37 = .ok (.iconst 0, 1) := by decide +kernel
theorem dX8_shakes_38 : decode cX8_shakes 38 = .ok (.istore_n 2, 1) := by decide +kernel
theorem dX8_shakes_39 : decode cX8_shakes 39 = .ok (.iconst 0, 1) := by decide +kernel
theorem dX8_shakes_40 : decode cX8_shakes 40 = .ok (.istore_n 3, 1) := by decide +kernel
theorem dX8_shakes_41 : decode cX8_shakes 41 = .ok (.iload_n 3, 1) := by decide +kernel
theorem dX8_shakes_42 : decode cX8_shakes 42 = .ok (.iload_n 1, 1) := by decide +kernel
theorem dX8_shakes_43 : decode cX8_shakes 43 = .ok (.if_icmp .ge 26, 3) := by decide +kernel
theorem dX8_shakes_46 : decode cX8_shakes 46 = .ok (.aload_n 0, 1) := by decide +kernel
theorem dX8_shakes_47 : decode cX8_shakes 47 = .ok (.aload_n 0, 1) := by decide +kernel
theorem dX8_shakes_48 : decode cX8_shakes 48 = .ok (.getfield 13, 3) := by decide +kernel
theorem dX8_shakes_51 : decode cX8_shakes 51 = .ok (.bipush 45, 2) := by decide +kernel
theorem dX8_shakes_53 : decode cX8_shakes 53 = .ok (.invokevirtual 184, 3) := by decide +kernel
theorem dX8_shakes_56 : decode cX8_shakes 56 = .ok (.istore 4, 2) := by decide +kernel
theorem dX8_shakes_58 : decode cX8_shakes 58 = .ok (.iload_n 2, 1) := by decide +kernel
theorem dX8_shakes_59 : decode cX8_shakes 59 = .ok (.iload 4, 2) := by decide +kernel
theorem dX8_shakes_61 : decode cX8_shakes 61 = .ok (.iadd, 1) := by decide +kernel
theorem dX8_shakes_62 : decode cX8_shakes 62 = .ok (.istore_n 2, 1) := by decide +kernel
theorem dX8_shakes_63 : decode cX8_shakes 63 = .ok (.iinc 3 1, 3) := by decide +kernel
theorem dX8_shakes_66 : decode cX8_shakes 66 = .ok (.goto (-25), 3) := by decide +kernel
theorem dX8_shakes_69 : decode cX8_shakes 69 = .ok (.iload_n 2, 1) := by decide +kernel
theorem dX8_shakes_70 : decode cX8_shakes 70 = .ok (.ireturn, 1) := by decide +kernel
set_option maxRecDepth 20000 in
theorem ggX8_may_X8_in : GoodIn wsX8_may wsX8_in := goodIn_r _ [8] (by decide +kernel) (by decide +kernel)
set_option maxRecDepth 20000 in
theorem gX8_may_X8_in : GoodIn wsX8_may (va_wsS RX8 61 yX8_in wsX8_in) := goodIn_app (goodIn_of _ (by decide +kernel)) ggX8_may_X8_in
theorem dX8_may_0 : decode cX8_may 0 = .ok (.iload_n 0, 1) := by decide +kernel
theorem dX8_may_1 : decode cX8_may 1 = .ok (.ifCond .ne 13, 3) := by decide +kernel
theorem dX8_may_4 : decode cX8_may 4 = .ok (.iload_n 1, 1) := by decide +kernel
theorem dX8_may_5 : decode cX8_may 5 = .ok (.i2l, 1) := by decide +kernel
theorem dX8_may_6 : decode cX8_may 6 = .ok (.lconst 0, 1) := by decide +kernel
theorem dX8_may_7 : decode cX8_may 7 = .ok (.lconst 1, 1) := by decide +kernel
theorem dX8_may_8 : decode cX8_may 8 = .ok (.invokestatic 61, 3) := by decide +kernel
theorem dX8_may_11 : decode cX8_may 11 = .ok (.goto 83, 3) := by decide +kernel
theorem dX8_may_14 : decode cX8_may 14 = .ok (.iload_n 0, 1) := by decide +kernel
theorem dX8_may_15 : decode cX8_may 15 = .ok (.iconst 1, 1) := by decide +kernel
theorem dX8_may_16 : decode cX8_may 16 = .ok (.if_icmp .ne 15, 3) := by decide +kernel
theorem dX8_may_19 : decode cX8_may 19 = .ok (.iload_n 1, 1) := by decide +kernel
theorem dX8_may_20 : decode cX8_may 20 = .ok (.i2l, 1) := by decide +kernel
theorem dX8_may_21 : decode cX8_may 21 = .ok (.lconst 1, 1) := by decide +kernel
theorem dX8_may_22 : decode cX8_may 22 = .ok (.ldc2_w 188, 3) := by decide +kernel
theorem dX8_may_25 : decode cX8_may 25 = .ok (.invokestatic 61, 3) := by decide +kernel
theorem dX8_may_28 : decode cX8_may 28 = .ok (.goto 66, 3) := by decide +kernel
theorem dX8_may_31 : decode cX8_may 31 = .ok (.iload_n 0, 1) := by decide +kernel
theorem dX8_may_32 : decode cX8_may 32 = .ok (.iconst 2, 1) := by decide +kernel
theorem dX8_may_33 : decode cX8_may 33 = .ok (.if_icmp .eq 8, 3) := by decide +kernel
theorem dX8_may_36 : decode cX8_may 36 = .ok (.iload_n 0, 1) := by decide +kernel
theorem dX8_may_37 : decode cX8_may 37 = .ok (.iconst 4, 1) := by decide +kernel
theorem dX8_may_38 : decode cX8_may 38 = .ok (.if_icmp .ne 17, 3) := by decide +kernel
theorem dX8_may_41 : decode cX8_may 41 = .ok (.iload_n 1, 1) := by decide +kernel
theorem dX8_may_42 : decode cX8_may 42 = .ok (.i2l, 1) := by decide +kernel
theorem dX8_may_43 : decode cX8_may 43 = .ok (.ldc2_w 190, 3) := by decide +kernel
theorem dX8_may_46 : decode cX8_may 46 = .ok (.ldc2_w 179, 3) := by decide +kernel
theorem dX8_may_49 : decode cX8_may 49 = .ok (.invokestatic 61, 3) := by decide +kernel
theorem dX8_may_52 : decode cX8_may 52 = .ok (.goto 42, 3) := by decide +kernel
theorem dX8_may_55 : decode cX8_may 55 = .ok (.iload_n 0, 1) := by decide +kernel
theorem dX8_may_56 : decode cX8_may 56 = .ok (.iconst 3, 1) := by decide +kernel
theorem dX8_may_57 : decode cX8_may 57 = .ok (.if_icmp .ne 15, 3) := by decide +kernel
theorem dX8_may_60 : decode cX8_may 60 = .ok (.iload_n 1, 1) := by decide +kernel
theorem dX8_may_61 : decode cX8_may 61 = .ok (.i2l, 1) := by decide +kernel
theorem dX8_may_62 : decode cX8_may 62 = .ok (.lconst 1, 1) := by decide +kernel
theorem dX8_may_63 : decode cX8_may 63 = .ok (.ldc2_w 192, 3) := by decide +kernel
theorem dX8_may_66 : decode cX8_may 66 = .ok (.invokestatic 61, 3) := by decide +kernel
theorem dX8_may_69 : decode cX8_may 69 = .ok (.goto 25, 3) := by decide +kernel
theorem dX8_may_72 : decode cX8_may 72 = .ok (.iload_n 0, 1) := by decide +kernel
theorem dX8_may_73 : decode cX8_may 73 = .ok (.iconst 5, 1) := by decide +kernel
theorem dX8_may_74 : decode cX8_may 74 = .ok (.if_icmp .ne 19, 3) := by decide +kernel
theorem dX8_may_77 : decode cX8_may 77 = .ok (.iload_n 1, 1) := by decide +kernel
theorem dX8_may_78 : decode cX8_may 78 = .ok (.i2l, 1) := by decide +kernel
theorem dX8_may_79 : decode cX8_may 79 = .ok (.lconst 0, 1) := by decide +kernel
theorem dX8_may_80 : decode cX8_may 80 = .ok (.ldc2_w 192, 3) := by decide +kernel
theorem dX8_may_83 : decode cX8_may 83 = .ok (.invokestatic 61, 3) := by decide +kernel
theorem dX8_may_86 : decode cX8_may 86 = .ok (.ifCond .eq 7, 3) := by decide +kernel
theorem dX8_may_89 : decode cX8_may 89 = .ok (.iconst 1, 1) := by decide +kernel
theorem dX8_may_90 : decode cX8_may 90 = .ok (.goto 4, 3) := by decide +kernel
theorem dX8_may_93 : decode cX8_may 93 = .ok (.iconst 0, 1) := by decide +kernel
theorem dX8_may_94 : decode cX8_may 94 = .ok (.ireturn, 1) := by decide +kernel
set_option maxRecDepth 20000 in
theorem ggX8_becomes_X8_note : GoodIn wsX8_becomes wsX8_note := goodIn_r _ [6, 7, 8, 1, 9, 10, 11, 12, 13, 14, 15, 16, 17, 18, 19, 20, 21, 22, 23, 24, 25, 26, 27, 28, 29, 30, 31, 32, 33, 34, 35, 36, 37, 38, 39] (by decide +kernel) (by decide +kernel)
set_option maxRecDepth 20000 in
theorem gX8_becomes_X8_note : GoodIn wsX8_becomes (wsV RX8 144 RX8 yX8_note wsX8_note) := goodIn_app (goodIn_of _ (by decide +kernel)) ggX8_becomes_X8_note
theorem dX8_becomes_0 : decode cX8_becomes 0 = .ok (.aload_n 0, 1) := by decide +kernel
theorem dX8_becomes_1 : decode cX8_becomes 1 = .ok (.getfield 13, 3) := by decide +kernel
theorem dX8_becomes_4 : decode cX8_becomes 4 = .ok (.iload_n 1, 1) := by decide +kernel
theorem dX8_becomes_5 : decode cX8_becomes 5 = .ok (.iaload, 1) := by decide +kernel
theorem dX8_becomes_6 : decode cX8_becomes 6 = .ok (.istore_n 3, 1) := by decide +kernel
theorem dX8_becomes_7 : decode cX8_becomes 7 = .ok (.iload_n 3, 1) := by decide +kernel
theorem dX8_becomes_8 : decode cX8_becomes 8 = .ok (.iload_n 2, 1) := by decide +kernel
theorem dX8_becomes_9 : decode cX8_becomes 9 = .ok (.if_icmp .ne 6, 3) := by decide +kernel
theorem dX8_becomes_12 : decode cX8_becomes 12 = .ok (.bipush (-2), 2) := by decide +kernel
theorem dX8_becomes_14 : decode cX8_becomes 14 = .ok (.ireturn, 1) := by decide +kernel
theorem dX8_becomes_15 : decode cX8_becomes 15 = .ok (.aload_n 0, 1) := by decide +kernel
theorem dX8_becomes_16 : decode cX8_becomes 16 = .ok (.invokevirtual 144, 3) := by decide +kernel
theorem dX8_becomes_19 : decode cX8_becomes 19 = .ok (.aload_n 0, 1) := by decide +kernel
theorem dX8_becomes_20 : decode cX8_becomes 20 = .ok (.getfield 13, 3) := by decide +kernel
theorem dX8_becomes_23 : decode cX8_becomes 23 = .ok (.iload_n 1, 1) := by decide +kernel
theorem dX8_becomes_24 : decode cX8_becomes 24 = .ok (.iload_n 2, 1) := by decide +kernel
theorem dX8_becomes_25 : decode cX8_becomes 25 = .ok (.iastore, 1) := by decide +kernel
theorem dX8_becomes_26 : decode cX8_becomes 26 = .ok (.iload_n 3, 1) := by decide +kernel
theorem dX8_becomes_27 : decode cX8_becomes 27 = .ok (.ireturn, 1) := by decide +kernel
set_option maxRecDepth 20000 in
theorem ggX8_sets_X8_in : GoodIn wsX8_sets wsX8_in := goodIn_r _ [5] (by decide +kernel) (by decide +kernel)
set_option maxRecDepth 20000 in
theorem gX8_sets_X8_in : GoodIn wsX8_sets (va_wsS RX8 61 yX8_in wsX8_in) := goodIn_app (goodIn_of _ (by decide +kernel)) ggX8_sets_X8_in
set_option maxRecDepth 20000 in
theorem ggX8_sets_X8_may : GoodIn wsX8_sets wsX8_may := goodIn_r _ [8, 9, 10, 11, 12, 2, 3, 4, 5] (by decide +kernel) (by decide +kernel)
set_option maxRecDepth 20000 in
theorem gX8_sets_X8_may : GoodIn wsX8_sets (va_wsS RX8 196 yX8_may wsX8_may) := goodIn_app (goodIn_of _ (by decide +kernel)) ggX8_sets_X8_may
set_option maxRecDepth 20000 in
theorem ggX8_sets_X8_becomes : GoodIn wsX8_sets wsX8_becomes := goodIn_r _ [16, 17, 18, 19, 20, 4, 21, 22, 23, 24, 25, 26, 27, 28, 29, 30, 31, 32, 33, 34, 35, 36, 37, 38, 39, 40, 41, 42, 43, 44, 45, 46, 47, 48, 49, 50, 51, 52, 53, 54] (by decide +kernel) (by decide +kernel)
set_option maxRecDepth 20000 in
theorem gX8_sets_X8_becomes : GoodIn wsX8_sets (wsV RX8 199 RX8 yX8_becomes wsX8_becomes) := goodIn_app (goodIn_of _ (by decide +kernel)) ggX8_sets_X8_becomes
theorem dX8_sets_0 : decode cX8_sets 0 = .ok (.iload_n 1, 1) := by decide +kernel
theorem dX8_sets_1 : decode cX8_sets 1 = .ok (.i2l, 1) := by decide +kernel
theorem dX8_sets_2 : decode cX8_sets 2 = .ok (.lconst 0, 1) := by decide +kernel
theorem dX8_sets_3 : decode cX8_sets 3 = .ok (.ldc2_w 194, 3) := by decide +kernel
theorem dX8_sets_6 : decode cX8_sets 6 = .ok (.invokestatic 61, 3) := by decide +kernel
theorem dX8_sets_9 : decode cX8_sets 9 = .ok (.ifCond .eq 22, 3) := by decide +kernel
theorem dX8_sets_12 : decode cX8_sets 12 = .ok (.iload_n 1, 1) := by decide +kernel
theorem dX8_sets_13 : decode cX8_sets 13 = .ok (.iload_n 2, 1) := by decide +kernel
theorem dX8_sets_14 : decode cX8_sets 14 = .ok (.invokestatic 196, 3) := by decide +kernel
theorem dX8_sets_17 : decode cX8_sets 17 = .ok (.ifCond .eq 14, 3) := by decide +kernel
theorem dX8_sets_20 : decode cX8_sets 20 = .ok (.aload_n 0, 1) := by decide +kernel
theorem dX8_sets_21 : decode cX8_sets 21 = .ok (.iconst 2, 1) := by decide +kernel
theorem dX8_sets_22 : decode cX8_sets 22 = .ok (.iload_n 1, 1) := by decide +kernel
theorem dX8_sets_23 : decode cX8_sets 23 = .ok (.iadd, 1) := by decide +kernel
theorem dX8_sets_24 : decode cX8_sets 24 = .ok (.iload_n 2, 1) := by decide +kernel
theorem dX8_sets_25 : decode cX8_sets 25 = .ok (.invokevirtual 199, 3) := by decide +kernel
theorem dX8_sets_28 : decode cX8_sets 28 = .ok (.goto 4, 3) := by decide +kernel
theorem dX8_sets_31 : decode cX8_sets 31 = .ok (.iconst (-1), 1) := by decide +kernel
theorem dX8_sets_32 : decode cX8_sets 32 = .ok (.ireturn, 1) := by decide +kernel
set_option maxRecDepth 20000 in
theorem ggX8_isCell_X8_in : GoodIn wsX8_isCell wsX8_in := goodIn_r _ [5] (by decide +kernel) (by decide +kernel)
set_option maxRecDepth 20000 in
theorem gX8_isCell_X8_in : GoodIn wsX8_isCell (va_wsS RX8 61 yX8_in wsX8_in) := goodIn_app (goodIn_of _ (by decide +kernel)) ggX8_isCell_X8_in
theorem dX8_isCell_0 : decode cX8_isCell 0 = .ok (.iload_n 1, 1) := by decide +kernel
theorem dX8_isCell_1 : decode cX8_isCell 1 = .ok (.i2l, 1) := by decide +kernel
theorem dX8_isCell_2 : decode cX8_isCell 2 = .ok (.lconst 0, 1) := by decide +kernel
theorem dX8_isCell_3 : decode cX8_isCell 3 = .ok (.aload_n 0, 1) := by decide +kernel
theorem dX8_isCell_4 : decode cX8_isCell 4 = .ok (.getfield 13, 3) := by decide +kernel
theorem dX8_isCell_7 : decode cX8_isCell 7 = .ok (.iconst 0, 1) := by decide +kernel
theorem dX8_isCell_8 : decode cX8_isCell 8 = .ok (.iaload, 1) := by decide +kernel
theorem dX8_isCell_9 : decode cX8_isCell 9 = .ok (.iconst 1, 1) := by decide +kernel
theorem dX8_isCell_10 : decode cX8_isCell 10 = .ok (.isub, 1) := by decide +kernel
theorem dX8_isCell_11 : decode cX8_isCell 11 = .ok (.i2l, 1) := by decide +kernel
theorem dX8_isCell_12 : decode cX8_isCell 12 = .ok (.invokestatic 61, 3) := by decide +kernel
theorem dX8_isCell_15 : decode cX8_isCell 15 = .ok (.ifCond .eq 25, 3) := by decide +kernel
theorem dX8_isCell_18 : decode cX8_isCell 18 = .ok (.iload_n 2, 1) := by decide +kernel
theorem dX8_isCell_19 : decode cX8_isCell 19 = .ok (.i2l, 1) := by decide +kernel
theorem dX8_isCell_20 : decode cX8_isCell 20 = .ok (.lconst 0, 1) := by decide +kernel
theorem dX8_isCell_21 : decode cX8_isCell 21 = .ok (.aload_n 0, 1) := by decide +kernel
theorem dX8_isCell_22 : decode cX8_isCell 22 = .ok (.getfield 13, 3) := by decide +kernel
theorem dX8_isCell_25 : decode cX8_isCell 25 = .ok (.iconst 1, 1) := by decide +kernel
theorem dX8_isCell_26 : decode cX8_isCell 26 = .ok (.iaload, 1) := by decide +kernel
theorem dX8_isCell_27 : decode cX8_isCell 27 = .ok (.iconst 1, 1) := by decide +kernel
theorem dX8_isCell_28 : decode cX8_isCell 28 = .ok (.isub, 1) := by decide +kernel
theorem dX8_isCell_29 : decode cX8_isCell 29 = .ok (.i2l, 1) := by decide +kernel
theorem dX8_isCell_30 : decode cX8_isCell 30 = .ok (.invokestatic 61, 3) := by decide +kernel
theorem dX8_isCell_33 : decode cX8_isCell 33 = .ok (.ifCond .eq 7, 3) := by decide +kernel
theorem dX8_isCell_36 : decode cX8_isCell 36 = .ok (.iconst 1, 1) := by decide +kernel
theorem dX8_isCell_37 : decode cX8_isCell 37 = .ok (.goto 4, 3) := by decide +kernel
theorem dX8_isCell_40 : decode cX8_isCell 40 = .ok (.iconst 0, 1) := by decide +kernel
theorem dX8_isCell_41 : decode cX8_isCell 41 = .ok (.ireturn, 1) := by decide +kernel
set_option maxRecDepth 20000 in
theorem ggX8_drives_X8_isCell : GoodIn wsX8_drives wsX8_isCell := goodIn_r _ [6, 1, 7, 8, 5, 9, 20, 21, 22, 23, 24, 25, 26, 27, 28, 29, 30, 31, 32, 33, 34, 35, 36, 37, 38, 39, 40, 41, 42, 43, 44, 45, 46, 47, 48, 49, 50] (by decide +kernel) (by decide +kernel)
set_option maxRecDepth 20000 in
theorem gX8_drives_X8_isCell : GoodIn wsX8_drives (wsV RX8 202 RX8 yX8_isCell wsX8_isCell) := goodIn_app (goodIn_of _ (by decide +kernel)) ggX8_drives_X8_isCell
set_option maxRecDepth 20000 in
theorem ggX8_drives_X8_becomes : GoodIn wsX8_drives wsX8_becomes := goodIn_r _ [13, 1, 14, 15, 16, 5, 17, 18, 19, 20, 21, 22, 23, 24, 25, 26, 27, 28, 29, 30, 31, 32, 33, 34, 35, 36, 37, 38, 39, 40, 41, 42, 43, 44, 45, 46, 47, 48, 49, 50] (by decide +kernel) (by decide +kernel)
set_option maxRecDepth 20000 in
theorem gX8_drives_X8_becomes : GoodIn wsX8_drives (wsV RX8 199 RX8 yX8_becomes wsX8_becomes) := goodIn_app (goodIn_of _ (by decide +kernel)) ggX8_drives_X8_becomes
theorem dX8_drives_0 : decode cX8_drives 0 = .ok (.aload_n 0, 1) := by decide +kernel
theorem dX8_drives_1 : decode cX8_drives 1 = .ok (.iload_n 1, 1) := by decide +kernel
theorem dX8_drives_2 : decode cX8_drives 2 = .ok (.iload_n 2, 1) := by decide +kernel
theorem dX8_drives_3 : decode cX8_drives 3 = .ok (.invokevirtual 202, 3) := by decide +kernel
theorem dX8_drives_6 : decode cX8_drives 6 = .ok (.ifCond .eq 22, 3) := by decide +kernel
theorem dX8_drives_9 : decode cX8_drives 9 = .ok (.aload_n 0, 1) := by decide +kernel
theorem dX8_drives_10 : decode cX8_drives 10 = .ok (.bipush 8, 2) := by decide +kernel
theorem dX8_drives_12 : decode cX8_drives 12 = .ok (.aload_n 0, 1) := by decide +kernel
theorem dX8_drives_13 : decode cX8_drives 13 = .ok (.getfield 13, 3) := by decide +kernel
theorem dX8_drives_16 : decode cX8_drives 16 = .ok (.iconst 0, 1) := by decide +kernel
theorem dX8_drives_17 : decode cX8_drives 17 = .ok (.iaload, 1) := by decide +kernel
theorem dX8_drives_18 : decode cX8_drives 18 = .ok (.iload_n 2, 1) := by decide +kernel
theorem dX8_drives_19 : decode cX8_drives 19 = .ok (.imul, 1) := by decide +kernel
theorem dX8_drives_20 : decode cX8_drives 20 = .ok (.iload_n 1, 1) := by decide +kernel
theorem dX8_drives_21 : decode cX8_drives 21 = .ok (.iadd, 1) := by decide +kernel
theorem dX8_drives_22 : decode cX8_drives 22 = .ok (.invokevirtual 199, 3) := by decide +kernel
theorem dX8_drives_25 : decode cX8_drives 25 = .ok (.goto 4, 3) := by decide +kernel
theorem dX8_drives_28 : decode cX8_drives 28 = .ok (.iconst (-1), 1) := by decide +kernel
theorem dX8_drives_29 : decode cX8_drives 29 = .ok (.ireturn, 1) := by decide +kernel
set_option maxRecDepth 20000 in
theorem ggX8_figure_X8_cells : GoodIn wsX8_figure wsX8_cells := goodIn_r _ [6, 1, 7, 8, 9, 10, 11, 12, 13, 14, 15, 16, 17, 18, 19, 20, 21, 22, 23, 24, 25, 26, 27, 28, 29, 30, 31, 32, 33, 34, 35, 36, 37] (by decide +kernel) (by decide +kernel)
set_option maxRecDepth 20000 in
theorem gX8_figure_X8_cells : GoodIn wsX8_figure (wsV RX8 151 RX8 yX8_cells wsX8_cells) := goodIn_app (goodIn_of _ (by decide +kernel)) ggX8_figure_X8_cells
theorem dX8_figure_0 : decode cX8_figure 0 = .ok (.iconst 0, 1) := by decide +kernel
theorem dX8_figure_1 : decode cX8_figure 1 = .ok (.istore_n 1, 1) := by decide +kernel
theorem dX8_figure_2 : decode cX8_figure 2 = .ok (.iconst 0, 1) := by decide +kernel
theorem dX8_figure_3 : decode cX8_figure 3 = .ok (.istore_n 2, 1) := by decide +kernel
theorem dX8_figure_4 : decode cX8_figure 4 = .ok (.iload_n 2, 1) := by decide +kernel
theorem dX8_figure_5 : decode cX8_figure 5 = .ok (.aload_n 0, 1) := by decide +kernel
theorem dX8_figure_6 : decode cX8_figure 6 = .ok (.invokevirtual 151, 3) := by decide +kernel
theorem dX8_figure_9 : decode cX8_figure 9 = .ok (.if_icmp .ge 21, 3) := by decide +kernel
theorem dX8_figure_12 : decode cX8_figure 12 = .ok (.iload_n 1, 1) := by decide +kernel
theorem dX8_figure_13 : decode cX8_figure 13 = .ok (.aload_n 0, 1) := by decide +kernel
theorem dX8_figure_14 : decode cX8_figure 14 = .ok (.getfield 13, 3) := by decide +kernel
theorem dX8_figure_17 : decode cX8_figure 17 = .ok (.bipush 9, 2) := by decide +kernel
theorem dX8_figure_19 : decode cX8_figure 19 = .ok (.iload_n 2, 1) := by decide +kernel
theorem dX8_figure_20 : decode cX8_figure 20 = .ok (.iadd, 1) := by decide +kernel
theorem dX8_figure_21 : decode cX8_figure 21 = .ok (.iaload, 1) := by decide +kernel
theorem dX8_figure_22 : decode cX8_figure 22 = .ok (.iadd, 1) := by decide +kernel
theorem dX8_figure_23 : decode cX8_figure 23 = .ok (.istore_n 1, 1) := by decide +kernel
theorem dX8_figure_24 : decode cX8_figure 24 = .ok (.iinc 2 1, 3) := by decide +kernel
theorem dX8_figure_27 : decode cX8_figure 27 = .ok (.goto (-23), 3) := by decide +kernel
theorem dX8_figure_30 : decode cX8_figure 30 = .ok (.iload_n 1, 1) := by decide +kernel
theorem dX8_figure_31 : decode cX8_figure 31 = .ok (.ireturn, 1) := by decide +kernel
set_option maxRecDepth 20000 in
theorem ggX8_draws_X8_isCell : GoodIn wsX8_draws wsX8_isCell := goodIn_r _ [6, 1, 7, 8, 5, 9, 28, 29, 30, 31, 32, 33, 34, 35, 36, 37, 38, 39, 40, 41, 42, 43, 44, 45, 46, 47, 48, 49, 50, 51, 52, 53, 54, 55, 56, 57, 58] (by decide +kernel) (by decide +kernel)
set_option maxRecDepth 20000 in
theorem gX8_draws_X8_isCell : GoodIn wsX8_draws (wsV RX8 202 RX8 yX8_isCell wsX8_isCell) := goodIn_app (goodIn_of _ (by decide +kernel)) ggX8_draws_X8_isCell
set_option maxRecDepth 20000 in
theorem ggX8_draws_X8_in : GoodIn wsX8_draws wsX8_in := goodIn_r _ [9] (by decide +kernel) (by decide +kernel)
set_option maxRecDepth 20000 in
theorem gX8_draws_X8_in : GoodIn wsX8_draws (va_wsS RX8 61 yX8_in wsX8_in) := goodIn_app (goodIn_of _ (by decide +kernel)) ggX8_draws_X8_in
set_option maxRecDepth 20000 in
theorem ggX8_draws_X8_becomes : GoodIn wsX8_draws wsX8_becomes := goodIn_r _ [13, 1, 14, 15, 16, 5, 17, 18, 19, 28, 29, 30, 31, 32, 33, 34, 35, 36, 37, 38, 39, 40, 41, 42, 43, 44, 45, 46, 47, 48, 49, 50, 51, 52, 53, 54, 55, 56, 57, 58] (by decide +kernel) (by decide +kernel)
set_option maxRecDepth 20000 in
theorem gX8_draws_X8_becomes : GoodIn wsX8_draws (wsV RX8 199 RX8 yX8_becomes wsX8_becomes) := goodIn_app (goodIn_of _ (by decide +kernel)) ggX8_draws_X8_becomes
set_option maxRecDepth 20000 in
theorem ggX8_draws_X8_figure : GoodIn wsX8_draws wsX8_figure := goodIn_r _ [23, 1, 24, 25, 26, 5, 27, 28, 29, 30, 31, 32, 33, 34, 35, 36, 37, 38, 39, 40, 41, 42, 43, 44, 45, 46, 47, 48, 49, 50, 51, 52, 53, 54, 55, 56, 57, 58] (by decide +kernel) (by decide +kernel)
set_option maxRecDepth 20000 in
theorem gX8_draws_X8_figure : GoodIn wsX8_draws (wsV RX8 205 RX8 yX8_figure wsX8_figure) := goodIn_app (goodIn_of _ (by decide +kernel)) ggX8_draws_X8_figure
theorem dX8_draws_0 : decode cX8_draws 0 = .ok (.aload_n 0, 1) := by decide +kernel
theorem dX8_draws_1 : decode cX8_draws 1 = .ok (.iload_n 1, 1) := by decide +kernel
theorem dX8_draws_2 : decode cX8_draws 2 = .ok (.iload_n 2, 1) := by decide +kernel
theorem dX8_draws_3 : decode cX8_draws 3 = .ok (.invokevirtual 202, 3) := by decide +kernel
theorem dX8_draws_6 : decode cX8_draws 6 = .ok (.ifCond .eq 13, 3) := by decide +kernel
theorem dX8_draws_9 : decode cX8_draws 9 = .ok (.iload_n 3, 1) := by decide +kernel
theorem dX8_draws_10 : decode cX8_draws 10 = .ok (.i2l, 1) := by decide +kernel
theorem dX8_draws_11 : decode cX8_draws 11 = .ok (.lconst 0, 1) := by decide +kernel
theorem dX8_draws_12 : decode cX8_draws 12 = .ok (.lconst 1, 1) := by decide +kernel
theorem dX8_draws_13 : decode cX8_draws 13 = .ok (.invokestatic 61, 3) := by decide +kernel
theorem dX8_draws_16 : decode cX8_draws 16 = .ok (.ifCond .ne 5, 3) := by decide +kernel
theorem dX8_draws_19 : decode cX8_draws 19 = .ok (.iconst (-1), 1) := by decide +kernel
theorem dX8_draws_20 : decode cX8_draws 20 = .ok (.ireturn, 1) := by decide +kernel
theorem dX8_draws_21 : decode cX8_draws 21 = .ok (.aload_n 0, 1) := by decide +kernel
theorem dX8_draws_22 : decode cX8_draws 22 = .ok (.bipush 9, 2) := by decide +kernel
theorem dX8_draws_24 : decode cX8_draws 24 = .ok (.aload_n 0, 1) := by decide +kernel
theorem dX8_draws_25 : decode cX8_draws 25 = .ok (.getfield 13, 3) := by decide +kernel
theorem dX8_draws_28 : decode cX8_draws 28 = .ok (.iconst 0, 1) := by decide +kernel
theorem dX8_draws_29 : decode cX8_draws 29 = .ok (.iaload, 1) := by decide +kernel
theorem dX8_draws_30 : decode cX8_draws 30 = .ok (.iload_n 2, 1) := by decide +kernel
theorem dX8_draws_31 : decode cX8_draws 31 = .ok (.imul, 1) := by decide +kernel
theorem dX8_draws_32 : decode cX8_draws 32 = .ok (.iadd, 1) := by decide +kernel
theorem dX8_draws_33 : decode cX8_draws 33 = .ok (.iload_n 1, 1) := by decide +kernel
theorem dX8_draws_34 : decode cX8_draws 34 = .ok (.iadd, 1) := by decide +kernel
theorem dX8_draws_35 : decode cX8_draws 35 = .ok (.iload_n 3, 1) := by decide +kernel
theorem dX8_draws_36 : decode cX8_draws 36 = .ok (.invokevirtual 199, 3) := by decide +kernel
theorem dX8_draws_39 : decode cX8_draws 39 = .ok (.bipush (-2), 2) := by decide +kernel
theorem dX8_draws_41 : decode cX8_draws 41 = .ok (.if_icmp .ne 8, 3) := by decide +kernel
theorem dX8_draws_44 : decode cX8_draws 44 = .ok (.bipush (-2), 2) := by decide +kernel
theorem dX8_draws_46 : decode cX8_draws 46 = .ok (.goto 7, 3) := by decide +kernel
theorem dX8_draws_49 : decode cX8_draws 49 = .ok (.aload_n 0, 1) := by decide +kernel
theorem dX8_draws_50 : decode cX8_draws 50 = .ok (.invokevirtual 205, 3) := by decide +kernel
theorem dX8_draws_53 : decode cX8_draws 53 = .ok (.ireturn, 1) := by decide +kernel
set_option maxRecDepth 20000 in
theorem ggX8_sands_X8_cells : GoodIn wsX8_sands wsX8_cells := goodIn_r _ [6, 1, 13, 14, 15, 16, 17, 18, 19, 20, 21, 22, 23, 24, 25, 26, 27, 28, 29, 30, 31, 32, 33, 34, 35, 36, 37, 38, 39, 40, 41, 42, 43] (by decide +kernel) (by decide +kernel)
set_option maxRecDepth 20000 in
theorem gX8_sands_X8_cells : GoodIn wsX8_sands (wsV RX8 151 RX8 yX8_cells wsX8_cells) := goodIn_app (goodIn_of _ (by decide +kernel)) ggX8_sands_X8_cells
set_option maxRecDepth 20000 in
theorem ggX8_sands_X8_note : GoodIn wsX8_sands wsX8_note := goodIn_r _ [10, 11, 12, 1, 13, 14, 15, 16, 17, 18, 19, 20, 21, 22, 23, 24, 25, 26, 27, 28, 29, 30, 31, 32, 33, 34, 35, 36, 37, 38, 39, 40, 41, 42, 43] (by decide +kernel) (by decide +kernel)
set_option maxRecDepth 20000 in
theorem gX8_sands_X8_note : GoodIn wsX8_sands (wsV RX8 144 RX8 yX8_note wsX8_note) := goodIn_app (goodIn_of _ (by decide +kernel)) ggX8_sands_X8_note
theorem dX8_sands_0 : decode cX8_sands 0 = .ok (.iconst 0, 1) := by decide +kernel
theorem dX8_sands_1 : decode cX8_sands 1 = .ok (.istore_n 1, 1) := by decide +kernel
theorem dX8_sands_2 : decode cX8_sands 2 = .ok (.iconst 0, 1) := by decide +kernel
theorem dX8_sands_3 : decode cX8_sands 3 = .ok (.istore_n 2, 1) := by decide +kernel
theorem dX8_sands_4 : decode cX8_sands 4 = .ok (.iload_n 2, 1) := by decide +kernel
theorem dX8_sands_5 : decode cX8_sands 5 = .ok (.aload_n 0, 1) := by decide +kernel
theorem dX8_sands_6 : decode cX8_sands 6 = .ok (.invokevirtual 151, 3) := by decide +kernel
theorem dX8_sands_9 : decode cX8_sands 9 = .ok (.if_icmp .ge 30, 3) := by decide +kernel
theorem dX8_sands_12 : decode cX8_sands 12 = .ok (.iload_n 1, 1) := by decide +kernel
theorem dX8_sands_13 : decode cX8_sands 13 = .ok (.aload_n 0, 1) := by decide +kernel
theorem dX8_sands_14 : decode cX8_sands 14 = .ok (.getfield 13, 3) := by decide +kernel
theorem dX8_sands_17 : decode cX8_sands 17 = .ok (.bipush 45, 2) := by decide +kernel
theorem dX8_sands_19 : decode cX8_sands 19 = .ok (.iload_n 2, 1) := by decide +kernel
theorem dX8_sands_20 : decode cX8_sands 20 = .ok (.iadd, 1) := by decide +kernel
theorem dX8_sands_21 : decode cX8_sands 21 = .ok (.iaload, 1) := by decide +kernel
theorem dX8_sands_22 : decode cX8_sands 22 = .ok (.iconst 1, 1) := by decide +kernel
theorem dX8_sands_23 : decode cX8_sands 23 = .ok (.if_icmp .ne 7, 3) := by decide +kernel
theorem dX8_sands_26 : decode cX8_sands 26 = .ok (.iconst 0, 1) := by decide +kernel
theorem dX8_sands_27 : decode cX8_sands 27 = .ok (.goto 4, 3) := by decide +kernel
theorem dX8_sands_30 : decode cX8_sands 30 = .ok (.iconst 1, 1) := by decide +kernel
theorem dX8_sands_31 : decode cX8_sands 31 = .ok (.iadd, 1) := by decide +kernel
theorem dX8_sands_32 : decode cX8_sands 32 = .ok (.istore_n 1, 1) := by decide +kernel
theorem dX8_sands_33 : decode cX8_sands 33 = .ok (.iinc 2 1, 3) := by decide +kernel
theorem dX8_sands_36 : decode cX8_sands 36 = .ok (.goto (-32), 3) := by decide +kernel
theorem dX8_sands_39 : decode cX8_sands 39 = .ok (.iload_n 1, 1) := by decide +kernel
theorem dX8_sands_40 : decode cX8_sands 40 = .ok (.ifCond .ne 6, 3) := by decide +kernel
theorem dX8_sands_43 : decode cX8_sands 43 = .ok (.bipush (-2), 2) := by decide +kernel
theorem dX8_sands_45 : decode cX8_sands 45 = .ok (.ireturn, 1) := by decide +kernel
theorem dX8_sands_46 : decode cX8_sands 46 = .ok (.aload_n 0, 1) := by decide +kernel
theorem dX8_sands_47 : decode cX8_sands 47 = .ok (.invokevirtual 144, 3) := by decide +kernel
theorem dX8_sands_50 : decode cX8_sands 50 = .ok (.iconst 0, 1) := by decide +kernel
theorem dX8_sands_51 : decode cX8_sands 51 = .ok (.istore_n 2, 1) := by decide +kernel
theorem dX8_sands_52 : decode cX8_sands 52 = .ok (.iload_n 2, 1) := by decide +kernel
theorem dX8_sands_53 : decode cX8_sands 53 = .ok (.bipush 36, 2) := by decide +kernel
theorem dX8_sands_55 : decode cX8_sands 55 = .ok (.if_icmp .ge 19, 3) := by decide +kernel
theorem dX8_sands_58 : decode cX8_sands 58 = .ok (.aload_n 0, 1) := by decide +kernel
theorem dX8_sands_59 : decode cX8_sands 59 = .ok (.getfield 13, 3) := by decide +kernel
theorem dX8_sands_62 : decode cX8_sands 62 = .ok (.bipush 45, 2) := by decide +kernel
theorem dX8_sands_64 : decode cX8_sands 64 = .ok (.iload_n 2, 1) := by decide +kernel
theorem dX8_sands_65 : decode cX8_sands 65 = .ok (.iadd, 1) := by decide +kernel
theorem dX8_sands_66 : decode cX8_sands 66 = .ok (.iconst 1, 1) := by decide +kernel
theorem dX8_sands_67 : decode cX8_sands 67 = .ok (.iastore, 1) := by decide +kernel
theorem dX8_sands_68 : decode cX8_sands 68 = .ok (.iinc 2 1, 3) := by decide +kernel
theorem dX8_sands_71 : decode cX8_sands 71 = .ok (.goto (-19), 3) := by decide +kernel
theorem dX8_sands_74 : decode cX8_sands 74 = .ok (.iload_n 1, 1) := by decide +kernel
theorem dX8_sands_75 : decode cX8_sands 75 = .ok (.ireturn, 1) := by decide +kernel
set_option maxRecDepth 20000 in
theorem ggX8_cell_X8_isCell : GoodIn wsX8_cell wsX8_isCell := goodIn_r _ [8, 2, 9, 10, 7, 11, 44, 45, 46, 47, 48, 49, 50, 51, 52, 53, 54, 55, 56, 57, 58, 59, 60, 61, 62, 63, 64, 65, 66, 67, 68, 69, 70, 71, 72, 73, 74] (by decide +kernel) (by decide +kernel)
set_option maxRecDepth 20000 in
theorem gX8_cell_X8_isCell : GoodIn wsX8_cell (wsV RX8 202 RX8 yX8_isCell wsX8_isCell) := goodIn_app (goodIn_of _ (by decide +kernel)) ggX8_cell_X8_isCell
set_option maxRecDepth 20000 in
theorem ggX8_cell_X8_in : GoodIn wsX8_cell wsX8_in := goodIn_r _ [11] (by decide +kernel) (by decide +kernel)
set_option maxRecDepth 20000 in
theorem gX8_cell_X8_in : GoodIn wsX8_cell (va_wsS RX8 61 yX8_in wsX8_in) := goodIn_app (goodIn_of _ (by decide +kernel)) ggX8_cell_X8_in
set_option maxRecDepth 20000 in
theorem ggX8_cell_X8_runs : GoodIn wsX8_cell wsX8_runs := goodIn_r _ [15, 16, 17, 18, 3, 19, 20, 21, 7, 22, 23, 24, 25, 26, 27, 2, 28, 29, 30, 31, 32, 33, 34, 35, 36, 37, 38, 39, 9, 10, 11, 44, 45, 46, 47, 48, 49, 50, 51, 52, 53, 54, 55, 56, 57, 58, 59, 60, 61, 62, 63, 64, 65, 66, 67, 68, 69, 70, 71, 72, 73, 74] (by decide +kernel) (by decide +kernel)
set_option maxRecDepth 20000 in
theorem gX8_cell_X8_runs : GoodIn wsX8_cell (wsV RX8 175 RX8 yX8_runs wsX8_runs) := goodIn_app (goodIn_of _ (by decide +kernel)) ggX8_cell_X8_runs
set_option maxRecDepth 20000 in
theorem ggX8_cell_X8_isStill : GoodIn wsX8_cell wsX8_isStill := goodIn_r _ [43, 3, 2, 44, 45, 46, 47, 48, 49, 50, 51, 52, 53, 54, 55, 56, 57, 58, 59, 60, 61, 62, 63, 64, 65, 66, 67, 68, 69, 70, 71, 72, 73, 74] (by decide +kernel) (by decide +kernel)
set_option maxRecDepth 20000 in
theorem gX8_cell_X8_isStill : GoodIn wsX8_cell (wsV RX8 168 RX8 yX8_isStill wsX8_isStill) := goodIn_app (goodIn_of _ (by decide +kernel)) ggX8_cell_X8_isStill
theorem dX8_cell_0 : decode cX8_cell 0 = .ok (.aload_n 0, 1) := by decide +kernel
theorem dX8_cell_1 : decode cX8_cell 1 = .ok (.iload_n 1, 1) := by decide +kernel
theorem dX8_cell_2 : decode cX8_cell 2 = .ok (.iload_n 2, 1) := by decide +kernel
theorem dX8_cell_3 : decode cX8_cell 3 = .ok (.invokevirtual 202, 3) := by decide +kernel
theorem dX8_cell_6 : decode cX8_cell 6 = .ok (.ifCond .eq 15, 3) := by decide +kernel
theorem dX8_cell_9 : decode cX8_cell 9 = .ok (.iload_n 3, 1) := by decide +kernel
theorem dX8_cell_10 : decode cX8_cell 10 = .ok (.i2l, 1) := by decide +kernel
theorem dX8_cell_11 : decode cX8_cell 11 = .ok (.lconst 0, 1) := by decide +kernel
theorem dX8_cell_12 : decode cX8_cell 12 = .ok (.ldc2_w 208, 3) := by decide +kernel
theorem dX8_cell_15 : decode cX8_cell 15 = .ok (.invokestatic 61, 3) := by decide +kernel
theorem dX8_cell_18 : decode cX8_cell 18 = .ok (.ifCond .ne 5, 3) := by decide +kernel
theorem dX8_cell_21 : decode cX8_cell 21 = .ok (.iconst (-1), 1) := by decide +kernel
theorem dX8_cell_22 : decode cX8_cell 22 = .ok (.ireturn, 1) := by decide +kernel
theorem dX8_cell_23 : decode cX8_cell 23 = .ok (.aload_n 0, 1) := by decide +kernel
theorem dX8_cell_24 : decode cX8_cell 24 = .ok (.getfield 13, 3) := by decide +kernel
theorem dX8_cell_27 : decode cX8_cell 27 = .ok (.iconst 0, 1) := by decide +kernel
theorem dX8_cell_28 : decode cX8_cell 28 = .ok (.iaload, 1) := by decide +kernel
theorem dX8_cell_29 : decode cX8_cell 29 = .ok (.iload_n 2, 1) := by decide +kernel
theorem dX8_cell_30 : decode cX8_cell 30 = .ok (.imul, 1) := by decide +kernel
theorem dX8_cell_31 : decode cX8_cell 31 = .ok (.iload_n 1, 1) := by decide +kernel
theorem dX8_cell_32 : decode cX8_cell 32 = .ok (.iadd, 1) := by decide +kernel
theorem dX8_cell_33 : decode cX8_cell 33 = .ok (.istore 4, 2) := by decide +kernel
theorem dX8_cell_35 : decode cX8_cell 35 = .ok (.aload_n 0, 1) := by decide +kernel
theorem dX8_cell_36 : decode cX8_cell 36 = .ok (.aload_n 0, 1) := by decide +kernel
theorem dX8_cell_37 : decode cX8_cell 37 = .ok (.getfield 13, 3) := by decide +kernel
theorem dX8_cell_40 : decode cX8_cell 40 = .ok (.bipush 6, 2) := by decide +kernel
theorem dX8_cell_42 : decode cX8_cell 42 = .ok (.iaload, 1) := by decide +kernel
theorem dX8_cell_43 : decode cX8_cell 43 = .ok (.invokevirtual 175, 3) := by decide +kernel
theorem dX8_cell_46 : decode cX8_cell 46 = .ok (.iload_n 3, 1) := by decide +kernel
theorem dX8_cell_47 : decode cX8_cell 47 = .ok (.ifCond .ne 13, 3) := by decide +kernel
theorem dX8_cell_50 : decode cX8_cell 50 = .ok (.aload_n 0, 1) := by decide +kernel
theorem dX8_cell_51 : decode cX8_cell 51 = .ok (.getfield 43, 3) := by decide +kernel
theorem dX8_cell_54 : decode cX8_cell 54 = .ok (.iload 4, 2) := by decide +kernel
theorem dX8_cell_56 : decode cX8_cell 56 = .ok (.iaload, 1) := by decide +kernel
theorem dX8_cell_57 : decode cX8_cell 57 = .ok (.goto 53, 3) := by decide +kernel
theorem dX8_cell_60 : decode cX8_cell 60 = .ok (.iload_n 3, 1) := by decide +kernel
theorem dX8_cell_61 : decode cX8_cell 61 = .ok (.iconst 1, 1) := by decide +kernel
theorem dX8_cell_62 : decode cX8_cell 62 = .ok (.if_icmp .ne 20, 3) := by decide +kernel
theorem dX8_cell_65 : decode cX8_cell 65 = .ok (.aload_n 0, 1) := by decide +kernel
theorem dX8_cell_66 : decode cX8_cell 66 = .ok (.iload 4, 2) := by decide +kernel
theorem dX8_cell_68 : decode cX8_cell 68 = .ok (.invokevirtual 168, 3) := by decide +kernel
theorem dX8_cell_71 : decode cX8_cell 71 = .ok (.ifCond .eq 7, 3) := by decide +kernel
theorem dX8_cell_74 : decode cX8_cell 74 = .ok (.iconst 1, 1) := by decide +kernel
theorem dX8_cell_75 : decode cX8_cell 75 = .ok (.goto 35, 3) := by decide +kernel
theorem dX8_cell_78 : decode cX8_cell 78 = .ok (.iconst 0, 1) := by decide +kernel
theorem dX8_cell_79 : decode cX8_cell 79 = .ok (.goto 31, 3) := by decide +kernel
theorem dX8_cell_82 : decode cX8_cell 82 = .ok (.iload_n 3, 1) := by decide +kernel
theorem dX8_cell_83 : decode cX8_cell 83 = .ok (.iconst 2, 1) := by decide +kernel
theorem dX8_cell_84 : decode cX8_cell 84 = .ok (.if_icmp .ne 16, 3) := by decide +kernel
theorem dX8_cell_87 : decode cX8_cell 87 = .ok (.aload_n 0, 1) := by decide +kernel
theorem dX8_cell_88 : decode cX8_cell 88 = .ok (.getfield 13, 3) := by decide +kernel
theorem dX8_cell_91 : decode cX8_cell 91 = .ok (.bipush 45, 2) := by decide +kernel
theorem dX8_cell_93 : decode cX8_cell 93 = .ok (.iload 4, 2) := by decide +kernel
theorem dX8_cell_95 : decode cX8_cell 95 = .ok (.iadd, 1) := by decide +kernel
theorem dX8_cell_96 : decode cX8_cell 96 = .ok (.iaload, 1) := by decide +kernel
theorem dX8_cell_97 : decode cX8_cell 97 = .ok (.goto 13, 3) := by decide +kernel
theorem dX8_cell_100 : decode cX8_cell 100 = .ok (.aload_n 0, 1) := by decide +kernel
theorem dX8_cell_101 : decode cX8_cell 101 = .ok (.getfield 13, 3) := by decide +kernel
theorem dX8_cell_104 : decode cX8_cell 104 = .ok (.bipush 9, 2) := by decide +kernel
theorem dX8_cell_106 : decode cX8_cell 106 = .ok (.iload 4, 2) := by decide +kernel
theorem dX8_cell_108 : decode cX8_cell 108 = .ok (.iadd, 1) := by decide +kernel
theorem dX8_cell_109 : decode cX8_cell 109 = .ok (.iaload, 1) := by decide +kernel
theorem dX8_cell_110 : decode cX8_cell 110 = .ok (.ireturn, 1) := by decide +kernel
set_option maxRecDepth 20000 in
theorem ggX8_setting_X8_in : GoodIn wsX8_setting wsX8_in := goodIn_r _ [6] (by decide +kernel) (by decide +kernel)
set_option maxRecDepth 20000 in
theorem gX8_setting_X8_in : GoodIn wsX8_setting (va_wsS RX8 61 yX8_in wsX8_in) := goodIn_app (goodIn_of _ (by decide +kernel)) ggX8_setting_X8_in
theorem dX8_setting_0 : decode cX8_setting 0 = .ok (.iload_n 1, 1) := by decide +kernel
theorem dX8_setting_1 : decode cX8_setting 1 = .ok (.i2l, 1) := by decide +kernel
theorem dX8_setting_2 : decode cX8_setting 2 = .ok (.lconst 0, 1) := by decide +kernel
theorem dX8_setting_3 : decode cX8_setting 3 = .ok (.ldc2_w 210, 3) := by decide +kernel
theorem dX8_setting_6 : decode cX8_setting 6 = .ok (.invokestatic 61, 3) := by decide +kernel
theorem dX8_setting_9 : decode cX8_setting 9 = .ok (.ifCond .eq 14, 3) := by decide +kernel
theorem dX8_setting_12 : decode cX8_setting 12 = .ok (.aload_n 0, 1) := by decide +kernel
theorem dX8_setting_13 : decode cX8_setting 13 = .ok (.getfield 13, 3) := by decide +kernel
theorem dX8_setting_16 : decode cX8_setting 16 = .ok (.iconst 2, 1) := by decide +kernel
theorem dX8_setting_17 : decode cX8_setting 17 = .ok (.iload_n 1, 1) := by decide +kernel
theorem dX8_setting_18 : decode cX8_setting 18 = .ok (.iadd, 1) := by decide +kernel
theorem dX8_setting_19 : decode cX8_setting 19 = .ok (.iaload, 1) := by decide +kernel
theorem dX8_setting_20 : decode cX8_setting 20 = .ok (.goto 4, 3) := by decide +kernel
theorem dX8_setting_23 : decode cX8_setting 23 = .ok (.iconst (-1), 1) := by decide +kernel
theorem dX8_setting_24 : decode cX8_setting 24 = .ok (.ireturn, 1) := by decide +kernel
set_option maxRecDepth 20000 in
theorem ggX8_height_X8_isCell : GoodIn wsX8_height wsX8_isCell := goodIn_r _ [9, 3, 10, 11, 8, 12, 34, 35, 36, 37, 38, 39, 40, 41, 42, 43, 44, 45, 46, 47, 48, 49, 50, 51, 52, 53, 54, 55, 56, 57, 58, 59, 60, 61, 62, 63, 64] (by decide +kernel) (by decide +kernel)
set_option maxRecDepth 20000 in
theorem gX8_height_X8_isCell : GoodIn wsX8_height (wsV RX8 202 RX8 yX8_isCell wsX8_isCell) := goodIn_app (goodIn_of _ (by decide +kernel)) ggX8_height_X8_isCell
set_option maxRecDepth 20000 in
theorem ggX8_height_X8_in : GoodIn wsX8_height wsX8_in := goodIn_r _ [12] (by decide +kernel) (by decide +kernel)
set_option maxRecDepth 20000 in
theorem gX8_height_X8_in : GoodIn wsX8_height (va_wsS RX8 61 yX8_in wsX8_in) := goodIn_app (goodIn_of _ (by decide +kernel)) ggX8_height_X8_in
set_option maxRecDepth 20000 in
theorem ggX8_height_X8_rests : GoodIn wsX8_height wsX8_rests := goodIn_r _ [16, 4, 17, 34, 35, 36, 37, 38, 39, 40, 41, 42, 43, 44, 45, 46, 47, 48, 49, 50, 51, 52, 53, 54, 55, 56, 57, 58, 59, 60, 61, 62, 63, 64] (by decide +kernel) (by decide +kernel)
set_option maxRecDepth 20000 in
theorem gX8_height_X8_rests : GoodIn wsX8_height (wsV RX8 158 RX8 yX8_rests wsX8_rests) := goodIn_app (goodIn_of _ (by decide +kernel)) ggX8_height_X8_rests
set_option maxRecDepth 20000 in
theorem ggX8_height_X8_step : GoodIn wsX8_height wsX8_step := goodIn_r _ [21, 17, 3, 4, 22, 23, 24, 8, 25, 26, 27, 28, 29, 30, 31, 32, 33, 10, 11, 12, 34, 35, 36, 37, 38, 39, 40, 41, 42, 43, 44, 45, 46, 47, 48, 49, 50, 51, 52, 53, 54, 55, 56, 57, 58, 59, 60, 61, 62, 63, 64] (by decide +kernel) (by decide +kernel)
set_option maxRecDepth 20000 in
theorem gX8_height_X8_step : GoodIn wsX8_height (wsV RX8 161 RX8 yX8_step wsX8_step) := goodIn_app (goodIn_of _ (by decide +kernel)) ggX8_height_X8_step
theorem dX8_height_0 : decode cX8_height 0 = .ok (.aload_n 0, 1) := by decide +kernel
theorem dX8_height_1 : decode cX8_height 1 = .ok (.iload_n 1, 1) := by decide +kernel
theorem dX8_height_2 : decode cX8_height 2 = .ok (.iload_n 2, 1) := by decide +kernel
theorem dX8_height_3 : decode cX8_height 3 = .ok (.invokevirtual 202, 3) := by decide +kernel
theorem dX8_height_6 : decode cX8_height 6 = .ok (.ifCond .eq 15, 3) := by decide +kernel
theorem dX8_height_9 : decode cX8_height 9 = .ok (.iload_n 3, 1) := by decide +kernel
theorem dX8_height_10 : decode cX8_height 10 = .ok (.i2l, 1) := by decide +kernel
theorem dX8_height_11 : decode cX8_height 11 = .ok (.lconst 0, 1) := by decide +kernel
theorem dX8_height_12 : decode cX8_height 12 = .ok (.ldc2_w 212, 3) := by decide +kernel
theorem dX8_height_15 : decode cX8_height 15 = .ok (.invokestatic 61, 3) := by decide +kernel
theorem dX8_height_18 : decode cX8_height 18 = .ok (.ifCond .ne 6, 3) := by decide +kernel
theorem dX8_height_21 : decode cX8_height 21 = .ok (.ldc 214, 2) := by decide +kernel
theorem dX8_height_23 : decode cX8_height 23 = .ok (.ireturn, 1) := by decide +kernel
theorem dX8_height_24 : decode cX8_height 24 = .ok (.aload_n 0, 1) := by decide +kernel
theorem dX8_height_25 : decode cX8_height 25 = .ok (.invokevirtual 158, 3) := by decide +kernel
theorem dX8_height_28 : decode cX8_height 28 = .ok (.iconst 0, 1) := by decide +kernel
theorem dX8_height_29 : decode cX8_height 29 = .ok (.istore 4, 2) := by decide +kernel
theorem dX8_height_31 : decode cX8_height 31 = .ok (.iload 4, 2) := by decide +kernel
theorem dX8_height_33 : decode cX8_height 33 = .ok (.iload_n 3, 1) := by decide +kernel
theorem dX8_height_34 : decode cX8_height 34 = .ok (.if_icmp .ge 22, 3) := by decide +kernel
theorem dX8_height_37 : decode cX8_height 37 = .ok (.aload_n 0, 1) := by decide +kernel
theorem dX8_height_38 : decode cX8_height 38 = .ok (.iload 4, 2) := by decide +kernel
theorem dX8_height_40 : decode cX8_height 40 = .ok (.aload_n 0, 1) := by decide +kernel
theorem dX8_height_41 : decode cX8_height 41 = .ok (.getfield 13, 3) := by decide +kernel
theorem dX8_height_44 : decode cX8_height 44 = .ok (.bipush 6, 2) := by decide +kernel
theorem dX8_height_46 : decode cX8_height 46 = .ok (.iaload, 1) := by decide +kernel
theorem dX8_height_47 : decode cX8_height 47 = .ok (.invokevirtual 161, 3) := by decide +kernel
theorem dX8_height_50 : decode cX8_height 50 = .ok (.iinc 4 1, 3) := by decide +kernel
theorem dX8_height_53 : decode cX8_height 53 = .ok (.goto (-22), 3) := by decide +kernel
theorem dX8_height_56 : decode cX8_height 56 = .ok (.aload_n 0, 1) := by decide +kernel
theorem dX8_height_57 : decode cX8_height 57 = .ok (.getfield 31, 3) := by decide +kernel
theorem dX8_height_60 : decode cX8_height 60 = .ok (.aload_n 0, 1) := by decide +kernel
theorem dX8_height_61 : decode cX8_height 61 = .ok (.getfield 13, 3) := by decide +kernel
theorem dX8_height_64 : decode cX8_height 64 = .ok (.iconst 0, 1) := by decide +kernel
theorem dX8_height_65 : decode cX8_height 65 = .ok (.iaload, 1) := by decide +kernel
theorem dX8_height_66 : decode cX8_height 66 = .ok (.iload_n 2, 1) := by decide +kernel
theorem dX8_height_67 : decode cX8_height 67 = .ok (.imul, 1) := by decide +kernel
theorem dX8_height_68 : decode cX8_height 68 = .ok (.iload_n 1, 1) := by decide +kernel
theorem dX8_height_69 : decode cX8_height 69 = .ok (.iadd, 1) := by decide +kernel
theorem dX8_height_70 : decode cX8_height 70 = .ok (.iaload, 1) := by decide +kernel
theorem dX8_height_71 : decode cX8_height 71 = .ok (.ireturn, 1) := by decide +kernel
set_option maxRecDepth 20000 in
theorem ggX8_likeness_X8_cells : GoodIn wsX8_likeness wsX8_cells := goodIn_r _ [6, 1, 12, 13, 14, 15, 16, 17, 18, 19, 20, 21, 22, 23, 24, 25, 26, 27, 28, 29, 30, 31, 32, 33, 34, 35, 36, 37, 38, 39, 40, 41, 42] (by decide +kernel) (by decide +kernel)
set_option maxRecDepth 20000 in
theorem gX8_likeness_X8_cells : GoodIn wsX8_likeness (wsV RX8 151 RX8 yX8_cells wsX8_cells) := goodIn_app (goodIn_of _ (by decide +kernel)) ggX8_likeness_X8_cells
set_option maxRecDepth 20000 in
theorem ggX8_likeness_X8_isStill : GoodIn wsX8_likeness wsX8_isStill := goodIn_r _ [10, 11, 1, 12, 13, 14, 15, 16, 17, 18, 19, 20, 21, 22, 23, 24, 25, 26, 27, 28, 29, 30, 31, 32, 33, 34, 35, 36, 37, 38, 39, 40, 41, 42] (by decide +kernel) (by decide +kernel)
set_option maxRecDepth 20000 in
theorem gX8_likeness_X8_isStill : GoodIn wsX8_likeness (wsV RX8 168 RX8 yX8_isStill wsX8_isStill) := goodIn_app (goodIn_of _ (by decide +kernel)) ggX8_likeness_X8_isStill
theorem dX8_likeness_0 : decode cX8_likeness 0 = .ok (.iconst 0, 1) := by decide +kernel
theorem dX8_likeness_1 : decode cX8_likeness 1 = .ok (.istore_n 1, 1) := by decide +kernel
theorem dX8_likeness_2 : decode cX8_likeness 2 = .ok (.iconst 0, 1) := by decide +kernel
theorem dX8_likeness_3 : decode cX8_likeness 3 = .ok (.istore_n 2, 1) := by decide +kernel
theorem dX8_likeness_4 : decode cX8_likeness 4 = .ok (.iload_n 2, 1) := by decide +kernel
theorem dX8_likeness_5 : decode cX8_likeness 5 = .ok (.aload_n 0, 1) := by decide +kernel
theorem dX8_likeness_6 : decode cX8_likeness 6 = .ok (.invokevirtual 151, 3) := by decide +kernel
theorem dX8_likeness_9 : decode cX8_likeness 9 = .ok (.if_icmp .ge 43, 3) := by decide +kernel
theorem dX8_likeness_12 : decode cX8_likeness 12 = .ok (.iload_n 1, 1) := by decide +kernel
theorem dX8_likeness_13 : decode cX8_likeness 13 = .ok (.aload_n 0, 1) := by decide +kernel
theorem dX8_likeness_14 : decode cX8_likeness 14 = .ok (.iload_n 2, 1) := by decide +kernel
theorem dX8_likeness_15 : decode cX8_likeness 15 = .ok (.invokevirtual 168, 3) := by decide +kernel
theorem dX8_likeness_18 : decode cX8_likeness 18 = .ok (.aload_n 0, 1) := by decide +kernel
theorem dX8_likeness_19 : decode cX8_likeness 19 = .ok (.getfield 13, 3) := by decide +kernel
theorem dX8_likeness_22 : decode cX8_likeness 22 = .ok (.bipush 9, 2) := by decide +kernel
theorem dX8_likeness_24 : decode cX8_likeness 24 = .ok (.iload_n 2, 1) := by decide +kernel
theorem dX8_likeness_25 : decode cX8_likeness 25 = .ok (.iadd, 1) := by decide +kernel
theorem dX8_likeness_26 : decode cX8_likeness 26 = .ok (.iaload, 1) := by decide +kernel
theorem dX8_likeness_27 : decode cX8_likeness 27 = .ok (.iconst 1, 1) := by decide +kernel
theorem dX8_likeness_28 : decode cX8_likeness 28 = .ok (.if_icmp .ne 7, 3) := by decide +kernel
theorem dX8_likeness_31 : decode cX8_likeness 31 = .ok (.iconst 1, 1) := by decide +kernel
theorem dX8_likeness_32 : decode cX8_likeness 32 = .ok (.goto 4, 3) := by decide +kernel
theorem dX8_likeness_35 : decode cX8_likeness 35 = .ok (.iconst 0, 1) := by decide +kernel
theorem dX8_likeness_36 : decode cX8_likeness 36 = .ok (.if_icmp .ne 7, 3) := by decide +kernel
theorem dX8_likeness_39 : decode cX8_likeness 39 = .ok (.iconst 1, 1) := by decide +kernel
theorem dX8_likeness_40 : decode cX8_likeness 40 = .ok (.goto 4, 3) := by decide +kernel
theorem dX8_likeness_43 : decode cX8_likeness 43 = .ok (.iconst 0, 1) := by decide +kernel
theorem dX8_likeness_44 : decode cX8_likeness 44 = .ok (.iadd, 1) := by decide +kernel
theorem dX8_likeness_45 : decode cX8_likeness 45 = .ok (.istore_n 1, 1) := by decide +kernel
theorem dX8_likeness_46 : decode cX8_likeness 46 = .ok (.iinc 2 1, 3) := by decide +kernel
theorem dX8_likeness_49 : decode cX8_likeness 49 = .ok (.goto (-45), 3) := by decide +kernel
theorem dX8_likeness_52 : decode cX8_likeness 52 = .ok (.iload_n 1, 1) := by decide +kernel
theorem dX8_likeness_53 : decode cX8_likeness 53 = .ok (.ireturn, 1) := by decide +kernel
set_option maxRecDepth 20000 in
theorem ggX8_stillMany_X8_cells : GoodIn wsX8_stillMany wsX8_cells := goodIn_r _ [5, 6, 12, 13, 14, 15, 16, 17, 18, 19, 20, 21, 22, 23, 24, 25, 26, 27, 28, 29, 30, 31, 32, 33, 34, 35, 36, 37, 38, 39, 40, 41, 42] (by decide +kernel) (by decide +kernel)
set_option maxRecDepth 20000 in
theorem gX8_stillMany_X8_cells : GoodIn wsX8_stillMany (wsV RX8 151 RX8 yX8_cells wsX8_cells) := goodIn_app (goodIn_of _ (by decide +kernel)) ggX8_stillMany_X8_cells
set_option maxRecDepth 20000 in
theorem ggX8_stillMany_X8_isStill : GoodIn wsX8_stillMany wsX8_isStill := goodIn_r _ [10, 11, 6, 12, 13, 14, 15, 16, 17, 18, 19, 20, 21, 22, 23, 24, 25, 26, 27, 28, 29, 30, 31, 32, 33, 34, 35, 36, 37, 38, 39, 40, 41, 42] (by decide +kernel) (by decide +kernel)
