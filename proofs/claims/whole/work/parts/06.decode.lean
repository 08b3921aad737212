theorem dX8_plain_31 : decode cX8_plain 31 = .ok (.iastore, 1) := by decide +kernel
theorem dX8_plain_32 : decode cX8_plain 32 = .ok (.aload_n 0, 1) := by decide +kernel
theorem dX8_plain_33 : decode cX8_plain 33 = .ok (.bipush 7, 2) := by decide +kernel
theorem dX8_plain_35 : decode cX8_plain 35 = .ok (.bipush 10, 2) := by decide +kernel
theorem dX8_plain_37 : decode cX8_plain 37 = .ok (.iastore, 1) := by decide +kernel
theorem dX8_plain_38 : decode cX8_plain 38 = .ok (.aload_n 0, 1) := by decide +kernel
theorem dX8_plain_39 : decode cX8_plain 39 = .ok (.bipush 8, 2) := by decide +kernel
theorem dX8_plain_41 : decode cX8_plain 41 = .ok (.iconst 0, 1) := by decide +kernel
theorem dX8_plain_42 : decode cX8_plain 42 = .ok (.iastore, 1) := by decide +kernel
theorem dX8_plain_43 : decode cX8_plain 43 = .ok (.iconst 0, 1) := by decide +kernel
theorem dX8_plain_44 : decode cX8_plain 44 = .ok (.istore_n 1, 1) := by decide +kernel
theorem dX8_plain_45 : decode cX8_plain 45 = .ok (.iload_n 1, 1) := by decide +kernel
theorem dX8_plain_46 : decode cX8_plain 46 = .ok (.bipush 36, 2) := by decide +kernel
theorem dX8_plain_48 : decode cX8_plain 48 = .ok (.if_icmp .ge 23, 3) := by decide +kernel
theorem dX8_plain_51 : decode cX8_plain 51 = .ok (.aload_n 0, 1) := by decide +kernel
theorem dX8_plain_52 : decode cX8_plain 52 = .ok (.bipush 9, 2) := by decide +kernel
theorem dX8_plain_54 : decode cX8_plain 54 = .ok (.iload_n 1, 1) := by decide +kernel
theorem dX8_plain_55 : decode cX8_plain 55 = .ok (.iadd, 1) := by decide +kernel
theorem dX8_plain_56 : decode cX8_plain 56 = .ok (.iconst 0, 1) := by decide +kernel
theorem dX8_plain_57 : decode cX8_plain 57 = .ok (.iastore, 1) := by decide +kernel
theorem dX8_plain_58 : decode cX8_plain 58 = .ok (.aload_n 0, 1) := by decide +kernel
theorem dX8_plain_59 : decode cX8_plain 59 = .ok (.bipush 45, 2) := by decide +kernel
theorem dX8_plain_61 : decode cX8_plain 61 = .ok (.iload_n 1, 1) := by decide +kernel
theorem dX8_plain_62 : decode cX8_plain 62 = .ok (.iadd, 1) := by decide +kernel
theorem dX8_plain_63 : decode cX8_plain 63 = .ok (.iconst 1, 1) := by decide +kernel
theorem dX8_plain_64 : decode cX8_plain 64 = .ok (.iastore, 1) := by decide +kernel
theorem dX8_plain_65 : decode cX8_plain 65 = .ok (.iinc 1 1, 3) := by decide +kernel
theorem dX8_plain_68 : decode cX8_plain 68 = .ok (.goto (-23), 3) := by decide +kernel
theorem dX8_plain_71 : decode cX8_plain 71 = .ok (.return_, 1) := by decide +kernel
theorem dX8_in_0 : decode cX8_in 0 = .ok (.lload_n 0, 1) := by decide +kernel
theorem dX8_in_1 : decode cX8_in 1 = .ok (.lload_n 2, 1) := by decide +kernel
theorem dX8_in_2 : decode cX8_in 2 = .ok (.lcmp, 1) := by decide +kernel
theorem dX8_in_3 : decode cX8_in 3 = .ok (.ifCond .lt 14, 3) := by decide +kernel
theorem dX8_in_6 : decode cX8_in 6 = .ok (.lload_n 0, 1) := by decide +kernel
theorem dX8_in_7 : decode cX8_in 7 = .ok (.lload 4, 2) := by decide +kernel
theorem dX8_in_9 : decode cX8_in 9 = .ok (.lcmp, 1) := by decide +kernel
theorem dX8_in_10 : decode cX8_in 10 = .ok (.ifCond .gt 7, 3) := by decide +kernel
theorem dX8_in_13 : decode cX8_in 13 = .ok (.iconst 1, 1) := by decide +kernel
theorem dX8_in_14 : decode cX8_in 14 = .ok (.goto 4, 3) := by decide +kernel
theorem dX8_in_17 : decode cX8_in 17 = .ok (.iconst 0, 1) := by decide +kernel
theorem dX8_in_18 : decode cX8_in 18 = .ok (.ireturn, 1) := by decide +kernel
set_option maxRecDepth 20000 in
theorem ggX8_type_X8_in : GoodIn wsX8_type wsX8_in := goodIn_r _ [7] (by decide +kernel) (by decide +kernel)
set_option maxRecDepth 20000 in
theorem gX8_type_X8_in : GoodIn wsX8_type (va_wsS RX8 61 yX8_in wsX8_in) := goodIn_app (goodIn_of _ (by decide +kernel)) ggX8_type_X8_in
theorem dX8_type_0 : decode cX8_type 0 = .ok (.iload_n 1, 1) := by decide +kernel
theorem dX8_type_1 : decode cX8_type 1 = .ok (.i2l, 1) := by decide +kernel
theorem dX8_type_2 : decode cX8_type 2 = .ok (.lconst 0, 1) := by decide +kernel
theorem dX8_type_3 : decode cX8_type 3 = .ok (.ldc2_w 59, 3) := by decide +kernel
theorem dX8_type_6 : decode cX8_type 6 = .ok (.invokestatic 61, 3) := by decide +kernel
theorem dX8_type_9 : decode cX8_type 9 = .ok (.ifCond .ne 5, 3) := by decide +kernel
theorem dX8_type_12 : decode cX8_type 12 = .ok (.iconst (-1), 1) := by decide +kernel
theorem dX8_type_13 : decode cX8_type 13 = .ok (.ireturn, 1) := by decide +kernel
theorem dX8_type_14 : decode cX8_type 14 = .ok (.aload_n 0, 1) := by decide +kernel
theorem dX8_type_15 : decode cX8_type 15 = .ok (.getfield 65, 3) := by decide +kernel
theorem dX8_type_18 : decode cX8_type 18 = .ok (.bipush 120, 2) := by decide +kernel
theorem dX8_type_20 : decode cX8_type 20 = .ok (.if_icmp .ne 6, 3) := by decide +kernel
theorem dX8_type_23 : decode cX8_type 23 = .ok (.bipush (-3), 2) := by decide +kernel
theorem dX8_type_25 : decode cX8_type 25 = .ok (.ireturn, 1) := by decide +kernel
theorem dX8_type_26 : decode cX8_type 26 = .ok (.aload_n 0, 1) := by decide +kernel
theorem dX8_type_27 : decode cX8_type 27 = .ok (.getfield 7, 3) := by decide +kernel
theorem dX8_type_30 : decode cX8_type 30 = .ok (.aload_n 0, 1) := by decide +kernel
theorem dX8_type_31 : decode cX8_type 31 = .ok (.getfield 65, 3) := by decide +kernel
theorem dX8_type_34 : decode cX8_type 34 = .ok (.iload_n 1, 1) := by decide +kernel
theorem dX8_type_35 : decode cX8_type 35 = .ok (.iastore, 1) := by decide +kernel
theorem dX8_type_36 : decode cX8_type 36 = .ok (.aload_n 0, 1) := by decide +kernel
theorem dX8_type_37 : decode cX8_type 37 = .ok (.dup, 1) := by decide +kernel
theorem dX8_type_38 : decode cX8_type 38 = .ok (.getfield 65, 3) := by decide +kernel
theorem dX8_type_41 : decode cX8_type 41 = .ok (.iconst 1, 1) := by decide +kernel
theorem dX8_type_42 : decode cX8_type 42 = .ok (.iadd, 1) := by decide +kernel
theorem dX8_type_43 : decode cX8_type 43 = .ok (.putfield 65, 3) := by decide +kernel
theorem dX8_type_46 : decode cX8_type 46 = .ok (.aload_n 0, 1) := by decide +kernel
theorem dX8_type_47 : decode cX8_type 47 = .ok (.getfield 65, 3) := by decide +kernel
theorem dX8_type_50 : decode cX8_type 50 = .ok (.ireturn, 1) := by decide +kernel
theorem dX8_clear_0 : decode cX8_clear 0 = .ok (.aload_n 0, 1) := by decide +kernel
theorem dX8_clear_1 : decode cX8_clear 1 = .ok (.getfield 65, 3) := by decide +kernel
theorem dX8_clear_4 : decode cX8_clear 4 = .ok (.istore_n 1, 1) := by decide +kernel
theorem dX8_clear_5 : decode cX8_clear 5 = .ok (.aload_n 0, 1) := by decide +kernel
theorem dX8_clear_6 : decode cX8_clear 6 = .ok (.iconst 0, 1) := by decide +kernel
theorem dX8_clear_7 : decode cX8_clear 7 = .ok (.putfield 65, 3) := by decide +kernel
theorem dX8_clear_10 : decode cX8_clear 10 = .ok (.iload_n 1, 1) := by decide +kernel
theorem dX8_clear_11 : decode cX8_clear 11 = .ok (.ireturn, 1) := by decide +kernel
set_option maxRecDepth 20000 in
theorem ggX8_isAt_X8_in : GoodIn wsX8_isAt wsX8_in := goodIn_r _ [7] (by decide +kernel) (by decide +kernel)
set_option maxRecDepth 20000 in
theorem gX8_isAt_X8_in : GoodIn wsX8_isAt (va_wsS RX8 61 yX8_in wsX8_in) := goodIn_app (goodIn_of _ (by decide +kernel)) ggX8_isAt_X8_in
theorem dX8_isAt_0 : decode cX8_isAt 0 = .ok (.aload_n 0, 1) := by decide +kernel
theorem dX8_isAt_1 : decode cX8_isAt 1 = .ok (.getfield 69, 3) := by decide +kernel
theorem dX8_isAt_4 : decode cX8_isAt 4 = .ok (.aload_n 0, 1) := by decide +kernel
theorem dX8_isAt_5 : decode cX8_isAt 5 = .ok (.getfield 65, 3) := by decide +kernel
theorem dX8_isAt_8 : decode cX8_isAt 8 = .ok (.if_icmp .ge 27, 3) := by decide +kernel
theorem dX8_isAt_11 : decode cX8_isAt 11 = .ok (.aload_n 0, 1) := by decide +kernel
theorem dX8_isAt_12 : decode cX8_isAt 12 = .ok (.getfield 7, 3) := by decide +kernel
theorem dX8_isAt_15 : decode cX8_isAt 15 = .ok (.aload_n 0, 1) := by decide +kernel
theorem dX8_isAt_16 : decode cX8_isAt 16 = .ok (.getfield 69, 3) := by decide +kernel
theorem dX8_isAt_19 : decode cX8_isAt 19 = .ok (.iaload, 1) := by decide +kernel
theorem dX8_isAt_20 : decode cX8_isAt 20 = .ok (.i2l, 1) := by decide +kernel
theorem dX8_isAt_21 : decode cX8_isAt 21 = .ok (.iload_n 1, 1) := by decide +kernel
theorem dX8_isAt_22 : decode cX8_isAt 22 = .ok (.i2l, 1) := by decide +kernel
theorem dX8_isAt_23 : decode cX8_isAt 23 = .ok (.iload_n 2, 1) := by decide +kernel
theorem dX8_isAt_24 : decode cX8_isAt 24 = .ok (.i2l, 1) := by decide +kernel
theorem dX8_isAt_25 : decode cX8_isAt 25 = .ok (.invokestatic 61, 3) := by decide +kernel
theorem dX8_isAt_28 : decode cX8_isAt 28 = .ok (.ifCond .eq 7, 3) := by decide +kernel
theorem dX8_isAt_31 : decode cX8_isAt 31 = .ok (.iconst 1, 1) := by decide +kernel
theorem dX8_isAt_32 : decode cX8_isAt 32 = .ok (.goto 4, 3) := by decide +kernel
theorem dX8_isAt_35 : decode cX8_isAt 35 = .ok (.iconst 0, 1) := by decide +kernel
theorem dX8_isAt_36 : decode cX8_isAt 36 = .ok (.ireturn, 1) := by decide +kernel
set_option maxRecDepth 20000 in
theorem ggX8_takes_X8_isAt : GoodIn wsX8_takes wsX8_isAt := goodIn_r _ [16, 1, 6, 9, 17, 18, 15, 19, 20, 21, 22, 23, 24, 25, 26, 27, 28, 29, 30, 31, 32, 33, 34, 35, 36, 37, 38, 39, 40, 41, 42, 43, 44, 45, 46, 47, 48, 49, 50] (by decide +kernel) (by decide +kernel)
set_option maxRecDepth 20000 in
theorem gX8_takes_X8_isAt : GoodIn wsX8_takes (wsV RX8 72 RX8 yX8_isAt wsX8_isAt) := goodIn_app (goodIn_of _ (by decide +kernel)) ggX8_takes_X8_isAt
theorem dX8_takes_0 : decode cX8_takes 0 = .ok (.aload_n 0, 1) := by decide +kernel
theorem dX8_takes_1 : decode cX8_takes 1 = .ok (.bipush 32, 2) := by decide +kernel
theorem dX8_takes_3 : decode cX8_takes 3 = .ok (.bipush 32, 2) := by decide +kernel
theorem dX8_takes_5 : decode cX8_takes 5 = .ok (.invokevirtual 72, 3) := by decide +kernel
theorem dX8_takes_8 : decode cX8_takes 8 = .ok (.ifCond .eq 16, 3) := by decide +kernel
theorem dX8_takes_11 : decode cX8_takes 11 = .ok (.aload_n 0, 1) := by decide +kernel
theorem dX8_takes_12 : decode cX8_takes 12 = .ok (.dup, 1) := by decide +kernel
theorem dX8_takes_13 : decode cX8_takes 13 = .ok (.getfield 69, 3) := by decide +kernel
theorem dX8_takes_16 : decode cX8_takes 16 = .ok (.iconst 1, 1) := by decide +kernel
theorem dX8_takes_17 : decode cX8_takes 17 = .ok (.iadd, 1) := by decide +kernel
theorem dX8_takes_18 : decode cX8_takes 18 = .ok (.putfield 69, 3) := by decide +kernel
theorem dX8_takes_21 : decode cX8_takes 21 = .ok (.goto (-21), 3) := by decide +kernel
theorem dX8_takes_24 : decode cX8_takes 24 = .ok (.aload_n 0, 1) := by decide +kernel
theorem dX8_takes_25 : decode cX8_takes 25 = .ok (.aload_n 0, 1) := by decide +kernel
theorem dX8_takes_26 : decode cX8_takes 26 = .ok (.getfield 69, 3) := by decide +kernel
theorem dX8_takes_29 : decode cX8_takes 29 = .ok (.putfield 76, 3) := by decide +kernel
theorem dX8_takes_32 : decode cX8_takes 32 = .ok (.aload_n 0, 1) := by decide +kernel
theorem dX8_takes_33 : decode cX8_takes 33 = .ok (.lconst 0, 1) := by decide +kernel
theorem dX8_takes_34 : decode cX8_takes 34 = .ok (.putfield 79, 3) := by decide +kernel
theorem dX8_takes_37 : decode cX8_takes 37 = .ok (.aload_n 0, 1) := by decide +kernel
theorem dX8_takes_38 : decode cX8_takes 38 = .ok (.iconst 0, 1) := by decide +kernel
theorem dX8_takes_39 : decode cX8_takes 39 = .ok (.putfield 83, 3) := by decide +kernel
theorem dX8_takes_42 : decode cX8_takes 42 = .ok (.aload_n 0, 1) := by decide +kernel
theorem dX8_takes_43 : decode cX8_takes 43 = .ok (.iconst 0, 1) := by decide +kernel
theorem dX8_takes_44 : decode cX8_takes 44 = .ok (.putfield 86, 3) := by decide +kernel
theorem dX8_takes_47 : decode cX8_takes 47 = .ok (.aload_n 0, 1) := by decide +kernel
theorem dX8_takes_48 : decode cX8_takes 48 = .ok (.getfield 69, 3) := by decide +kernel
theorem dX8_takes_51 : decode cX8_takes 51 = .ok (.aload_n 0, 1) := by decide +kernel
theorem dX8_takes_52 : decode cX8_takes 52 = .ok (.getfield 65, 3) := by decide +kernel
theorem dX8_takes_55 : decode cX8_takes 55 = .ok (.if_icmp .ne 11, 3) := by decide +kernel
theorem dX8_takes_58 : decode cX8_takes 58 = .ok (.aload_n 0, 1) := by decide +kernel
theorem dX8_takes_59 : decode cX8_takes 59 = .ok (.iconst 0, 1) := by decide +kernel
theorem dX8_takes_60 : decode cX8_takes 60 = .ok (.putfield 89, 3) := by decide +kernel
theorem dX8_takes_63 : decode cX8_takes 63 = .ok (.goto 210, 3) := by decide +kernel
theorem dX8_takes_66 : decode cX8_takes 66 = .ok (.aload_n 0, 1) := by decide +kernel
theorem dX8_takes_67 : decode cX8_takes 67 = .ok (.bipush 97, 2) := by decide +kernel
theorem dX8_takes_69 : decode cX8_takes 69 = .ok (.bipush 122, 2) := by decide +kernel
theorem dX8_takes_71 : decode cX8_takes 71 = .ok (.invokevirtual 72, 3) := by decide +kernel
theorem dX8_takes_74 : decode cX8_takes 74 = .ok (.ifCond .eq 79, 3) := by decide +kernel
theorem dX8_takes_77 : decode cX8_takes 77 = .ok (.aload_n 0, 1) := by decide +kernel
theorem dX8_takes_78 : decode cX8_takes 78 = .ok (.iconst 1, 1) := by decide +kernel
theorem dX8_takes_79 : decode cX8_takes 79 = .ok (.putfield 89, 3) := by decide +kernel
theorem dX8_takes_82 : decode cX8_takes 82 = .ok (.aload_n 0, 1) := by decide +kernel
theorem dX8_takes_83 : decode cX8_takes 83 = .ok (.bipush 97, 2) := by decide +kernel
theorem dX8_takes_85 : decode cX8_takes 85 = .ok (.bipush 122, 2) := by decide +kernel
theorem dX8_takes_87 : decode cX8_takes 87 = .ok (.invokevirtual 72, 3) := by decide +kernel
theorem dX8_takes_90 : decode cX8_takes 90 = .ok (.ifCond .eq 183, 3) := by decide +kernel
theorem dX8_takes_93 : decode cX8_takes 93 = .ok (.aload_n 0, 1) := by decide +kernel
theorem dX8_takes_94 : decode cX8_takes 94 = .ok (.aload_n 0, 1) := by decide +kernel
theorem dX8_takes_95 : decode cX8_takes 95 = .ok (.getfield 69, 3) := by decide +kernel
theorem dX8_takes_98 : decode cX8_takes 98 = .ok (.aload_n 0, 1) := by decide +kernel
theorem dX8_takes_99 : decode cX8_takes 99 = .ok (.getfield 76, 3) := by decide +kernel
theorem dX8_takes_102 : decode cX8_takes 102 = .ok (.isub, 1) := by decide +kernel
theorem dX8_takes_103 : decode cX8_takes 103 = .ok (.bipush 9, 2) := by decide +kernel
theorem dX8_takes_105 : decode cX8_takes 105 = .ok (.if_icmp .ge 29, 3) := by decide +kernel
theorem dX8_takes_108 : decode cX8_takes 108 = .ok (.ldc2_w 92, 3) := by decide +kernel
theorem dX8_takes_111 : decode cX8_takes 111 = .ok (.aload_n 0, 1) := by decide +kernel
theorem dX8_takes_112 : decode cX8_takes 112 = .ok (.getfield 79, 3) := by decide +kernel
theorem dX8_takes_115 : decode cX8_takes 115 = .ok (.lmul, 1) := by decide +kernel
theorem dX8_takes_116 : decode cX8_takes 116 = .ok (.aload_n 0, 1) := by decide +kernel
theorem dX8_takes_117 : decode cX8_takes 117 = .ok (.getfield 7, 3) := by decide +kernel
theorem dX8_takes_120 : decode cX8_takes 120 = .ok (.aload_n 0, 1) := by decide +kernel
theorem dX8_takes_121 : decode cX8_takes 121 = .ok (.getfield 69, 3) := by decide +kernel
theorem dX8_takes_124 : decode cX8_takes 124 = .ok (.iaload, 1) := by decide +kernel
theorem dX8_takes_125 : decode cX8_takes 125 = .ok (.i2l, 1) := by decide +kernel
theorem dX8_takes_126 : decode cX8_takes 126 = .ok (.ladd, 1) := by decide +kernel
theorem dX8_takes_127 : decode cX8_takes 127 = .ok (.ldc2_w 94, 3) := by decide +kernel
theorem dX8_takes_130 : decode cX8_takes 130 = .ok (.lsub, 1) := by decide +kernel
theorem dX8_takes_131 : decode cX8_takes 131 = .ok (.goto 6, 3) := by decide +kernel
theorem dX8_takes_134 : decode cX8_takes 134 = .ok (.ldc2_w 96, 3) := by decide +kernel
theorem dX8_takes_137 : decode cX8_takes 137 = .ok (.putfield 79, 3) := by decide +kernel
theorem dX8_takes_140 : decode cX8_takes 140 = .ok (.aload_n 0, 1) := by decide +kernel
theorem dX8_takes_141 : decode cX8_takes 141 = .ok (.dup, 1) := by decide +kernel
theorem dX8_takes_142 : decode cX8_takes 142 = .ok (.getfield 69, 3) := by decide +kernel
theorem dX8_takes_145 : decode cX8_takes 145 = .ok (.iconst 1, 1) := by decide +kernel
theorem dX8_takes_146 : decode cX8_takes 146 = .ok (.iadd, 1) := by decide +kernel
theorem dX8_takes_147 : decode cX8_takes 147 = .ok (.putfield 69, 3) := by decide +kernel
theorem dX8_takes_150 : decode cX8_takes 150 = .ok (.goto (-68), 3) := by decide +kernel
theorem dX8_takes_153 : decode cX8_takes 153 = .ok (.aload_n 0, 1) := by decide +kernel
theorem dX8_takes_154 : decode cX8_takes 154 = .ok (.bipush 48, 2) := by decide +kernel
theorem dX8_takes_156 : decode cX8_takes 156 = .ok (.bipush 57, 2) := by decide +kernel
theorem dX8_takes_158 : decode cX8_takes 158 = .ok (.invokevirtual 72, 3) := by decide +kernel
theorem dX8_takes_161 : decode cX8_takes 161 = .ok (.ifCond .eq 82, 3) := by decide +kernel
theorem dX8_takes_164 : decode cX8_takes 164 = .ok (.aload_n 0, 1) := by decide +kernel
theorem dX8_takes_165 : decode cX8_takes 165 = .ok (.iconst 2, 1) := by decide +kernel
theorem dX8_takes_166 : decode cX8_takes 166 = .ok (.putfield 89, 3) := by decide +kernel
theorem dX8_takes_169 : decode cX8_takes 169 = .ok (.aload_n 0, 1) := by decide +kernel
theorem dX8_takes_170 : decode cX8_takes 170 = .ok (.bipush 48, 2) := by decide +kernel
theorem dX8_takes_172 : decode cX8_takes 172 = .ok (.bipush 57, 2) := by decide +kernel
theorem dX8_takes_174 : decode cX8_takes 174 = .ok (.invokevirtual 72, 3) := by decide +kernel
theorem dX8_takes_177 : decode cX8_takes 177 = .ok (.ifCond .eq 96, 3) := by decide +kernel
theorem dX8_takes_180 : decode cX8_takes 180 = .ok (.aload_n 0, 1) := by decide +kernel
theorem dX8_takes_181 : decode cX8_takes 181 = .ok (.dup, 1) := by decide +kernel
theorem dX8_takes_182 : decode cX8_takes 182 = .ok (.getfield 83, 3) := by decide +kernel
theorem dX8_takes_185 : decode cX8_takes 185 = .ok (.iconst 1, 1) := by decide +kernel
theorem dX8_takes_186 : decode cX8_takes 186 = .ok (.iadd, 1) := by decide +kernel
theorem dX8_takes_187 : decode cX8_takes 187 = .ok (.putfield 83, 3) := by decide +kernel
theorem dX8_takes_190 : decode cX8_takes 190 = .ok (.aload_n 0, 1) := by decide +kernel
theorem dX8_takes_191 : decode cX8_takes 191 = .ok (.aload_n 0, 1) := by decide +kernel
theorem dX8_takes_192 : decode cX8_takes 192 = .ok (.getfield 83, 3) := by decide +kernel
theorem dX8_takes_195 : decode cX8_takes 195 = .ok (.bipush 8, 2) := by decide +kernel
theorem dX8_takes_197 : decode cX8_takes 197 = .ok (.if_icmp .ge 26, 3) := by decide +kernel
theorem dX8_takes_200 : decode cX8_takes 200 = .ok (.bipush 10, 2) := by decide +kernel
theorem dX8_takes_202 : decode cX8_takes 202 = .ok (.aload_n 0, 1) := by decide +kernel
theorem dX8_takes_203 : decode cX8_takes 203 = .ok (.getfield 86, 3) := by decide +kernel
theorem dX8_takes_206 : decode cX8_takes 206 = .ok (.imul, 1) := by decide +kernel
theorem dX8_takes_207 : decode cX8_takes 207 = .ok (.aload_n 0, 1) := by decide +kernel
theorem dX8_takes_208 : decode cX8_takes 208 = .ok (.getfield 7, 3) := by decide +kernel
theorem dX8_takes_211 : decode cX8_takes 211 = .ok (.aload_n 0, 1) := by decide +kernel
theorem dX8_takes_212 : decode cX8_takes 212 = .ok (.getfield 69, 3) := by decide +kernel
theorem dX8_takes_215 : decode cX8_takes 215 = .ok (.iaload, 1) := by decide +kernel
theorem dX8_takes_216 : decode cX8_takes 216 = .ok (.iadd, 1) := by decide +kernel
theorem dX8_takes_217 : decode cX8_takes 217 = .ok (.bipush 48, 2) := by decide +kernel
theorem dX8_takes_219 : decode cX8_takes 219 = .ok (.isub, 1) := by decide +kernel
theorem dX8_takes_220 : decode cX8_takes 220 = .ok (.goto 7, 3) := by decide +kernel
theorem dX8_takes_223 : decode cX8_takes 223 = .ok (.aload_n 0, 1) := by decide +kernel
theorem dX8_takes_224 : decode cX8_takes 224 = .ok (.getfield 86, 3) := by decide +kernel
theorem dX8_takes_227 : decode cX8_takes 227 = .ok (.putfield 86, 3) := by decide +kernel
theorem dX8_takes_230 : decode cX8_takes 230 = .ok (.aload_n 0, 1) := by decide +kernel
theorem dX8_takes_231 : decode cX8_takes 231 = .ok (.dup, 1) := by decide +kernel
theorem dX8_takes_232 : decode cX8_takes 232 = .ok (.getfield 69, 3) := by decide +kernel
theorem dX8_takes_235 : decode cX8_takes 235 = .ok (.iconst 1, 1) := by decide +kernel
theorem dX8_takes_236 : decode cX8_takes 236 = .ok (.iadd, 1) := by decide +kernel
theorem dX8_takes_237 : decode cX8_takes 237 = .ok (.putfield 69, 3) := by decide +kernel
theorem dX8_takes_240 : decode cX8_takes 240 = .ok (.goto (-71), 3) := by decide +kernel
theorem dX8_takes_243 : decode cX8_takes 243 = .ok (.aload_n 0, 1) := by decide +kernel
theorem dX8_takes_244 : decode cX8_takes 244 = .ok (.aload_n 0, 1) := by decide +kernel
theorem dX8_takes_245 : decode cX8_takes 245 = .ok (.bipush 59, 2) := by decide +kernel
theorem dX8_takes_247 : decode cX8_takes 247 = .ok (.bipush 59, 2) := by decide +kernel
theorem dX8_takes_249 : decode cX8_takes 249 = .ok (.invokevirtual 72, 3) := by decide +kernel
theorem dX8_takes_252 : decode cX8_takes 252 = .ok (.ifCond .eq 7, 3) := by decide +kernel
theorem dX8_takes_255 : decode cX8_takes 255 = .ok (.iconst 3, 1) := by decide +kernel
theorem dX8_takes_256 : decode cX8_takes 256 = .ok (.goto 4, 3) := by decide +kernel
theorem dX8_takes_259 : decode cX8_takes 259 = .ok (.iconst 4, 1) := by decide +kernel
theorem dX8_takes_260 : decode cX8_takes 260 = .ok (.putfield 89, 3) := by decide +kernel
theorem dX8_takes_263 : decode cX8_takes 263 = .ok (.aload_n 0, 1) := by decide +kernel
theorem dX8_takes_264 : decode cX8_takes 264 = .ok (.dup, 1) := by decide +kernel
theorem dX8_takes_265 : decode cX8_takes 265 = .ok (.getfield 69, 3) := by decide +kernel
theorem dX8_takes_268 : decode cX8_takes 268 = .ok (.iconst 1, 1) := by decide +kernel
theorem dX8_takes_269 : decode cX8_takes 269 = .ok (.iadd, 1) := by decide +kernel
theorem dX8_takes_270 : decode cX8_takes 270 = .ok (.putfield 69, 3) := by decide +kernel
theorem dX8_takes_273 : decode cX8_takes 273 = .ok (.return_, 1) := by decide +kernel
theorem dX8_five_0 : decode cX8_five 0 = .ok (.ldc2_w 92, 3) := by decide +kernel
theorem dX8_five_3 : decode cX8_five 3 = .ok (.iload_n 0, 1) := by decide +kernel
theorem dX8_five_4 : decode cX8_five 4 = .ok (.bipush 96, 2) := by decide +kernel
theorem dX8_five_6 : decode cX8_five 6 = .ok (.isub, 1) := by decide +kernel
theorem dX8_five_7 : decode cX8_five 7 = .ok (.i2l, 1) := by decide +kernel
theorem dX8_five_8 : decode cX8_five 8 = .ok (.lmul, 1) := by decide +kernel
theorem dX8_five_9 : decode cX8_five 9 = .ok (.iload_n 1, 1) := by decide +kernel
theorem dX8_five_10 : decode cX8_five 10 = .ok (.i2l, 1) := by decide +kernel
theorem dX8_five_11 : decode cX8_five 11 = .ok (.ladd, 1) := by decide +kernel
theorem dX8_five_12 : decode cX8_five 12 = .ok (.ldc2_w 94, 3) := by decide +kernel
theorem dX8_five_15 : decode cX8_five 15 = .ok (.lsub, 1) := by decide +kernel
theorem dX8_five_16 : decode cX8_five 16 = .ok (.ldc2_w 92, 3) := by decide +kernel
theorem dX8_five_19 : decode cX8_five 19 = .ok (.lmul, 1) := by decide +kernel
theorem dX8_five_20 : decode cX8_five 20 = .ok (.iload_n 2, 1) := by decide +kernel
theorem dX8_five_21 : decode cX8_five 21 = .ok (.i2l, 1) := by decide +kernel
theorem dX8_five_22 : decode cX8_five 22 = .ok (.ladd, 1) := by decide +kernel
theorem dX8_five_23 : decode cX8_five 23 = .ok (.ldc2_w 94, 3) := by decide +kernel
theorem dX8_five_26 : decode cX8_five 26 = .ok (.lsub, 1) := by decide +kernel
theorem dX8_five_27 : decode cX8_five 27 = .ok (.ldc2_w 92, 3) := by decide +kernel
theorem dX8_five_30 : decode cX8_five 30 = .ok (.lmul, 1) := by decide +kernel
theorem dX8_five_31 : decode cX8_five 31 = .ok (.iload_n 3, 1) := by decide +kernel
theorem dX8_five_32 : decode cX8_five 32 = .ok (.i2l, 1) := by decide +kernel
theorem dX8_five_33 : decode cX8_five 33 = .ok (.ladd, 1) := by decide +kernel
theorem dX8_five_34 : decode cX8_five 34 = .ok (.ldc2_w 94, 3) := by decide +kernel
theorem dX8_five_37 : decode cX8_five 37 = .ok (.lsub, 1) := by decide +kernel
theorem dX8_five_38 : decode cX8_five 38 = .ok (.ldc2_w 92, 3) := by decide +kernel
theorem dX8_five_41 : decode cX8_five 41 = .ok (.lmul, 1) := by decide +kernel
theorem dX8_five_42 : decode cX8_five 42 = .ok (.iload 4, 2) := by decide +kernel
theorem dX8_five_44 : decode cX8_five 44 = .ok (.i2l, 1) := by decide +kernel
theorem dX8_five_45 : decode cX8_five 45 = .ok (.ladd, 1) := by decide +kernel
theorem dX8_five_46 : decode cX8_five 46 = .ok (.ldc2_w 94, 3) := by decide +kernel
theorem dX8_five_49 : decode cX8_five 49 = .ok (.lsub, 1) := by decide +kernel
theorem dX8_five_50 : decode cX8_five 50 = .ok (.lreturn, 1) := by decide +kernel
theorem dX8_four_0 : decode cX8_four 0 = .ok (.ldc2_w 92, 3) := by decide +kernel
theorem dX8_four_3 : decode cX8_four 3 = .ok (.iload_n 0, 1) := by decide +kernel
theorem dX8_four_4 : decode cX8_four 4 = .ok (.bipush 96, 2) := by decide +kernel
theorem dX8_four_6 : decode cX8_four 6 = .ok (.isub, 1) := by decide +kernel
theorem dX8_four_7 : decode cX8_four 7 = .ok (.i2l, 1) := by decide +kernel
theorem dX8_four_8 : decode cX8_four 8 = .ok (.lmul, 1) := by decide +kernel
theorem dX8_four_9 : decode cX8_four 9 = .ok (.iload_n 1, 1) := by decide +kernel
theorem dX8_four_10 : decode cX8_four 10 = .ok (.i2l, 1) := by decide +kernel
theorem dX8_four_11 : decode cX8_four 11 = .ok (.ladd, 1) := by decide +kernel
theorem dX8_four_12 : decode cX8_four 12 = .ok (.ldc2_w 94, 3) := by decide +kernel
theorem dX8_four_15 : decode cX8_four 15 = .ok (.lsub, 1) := by decide +kernel
theorem dX8_four_16 : decode cX8_four 16 = .ok (.ldc2_w 92, 3) := by decide +kernel
theorem dX8_four_19 : decode cX8_four 19 = .ok (.lmul, 1) := by decide +kernel
theorem dX8_four_20 : decode cX8_four 20 = .ok (.iload_n 2, 1) := by decide +kernel
theorem dX8_four_21 : decode cX8_four 21 = .ok (.i2l, 1) := by decide +kernel
theorem dX8_four_22 : decode cX8_four 22 = .ok (.ladd, 1) := by decide +kernel
theorem dX8_four_23 : decode cX8_four 23 = .ok (.ldc2_w 94, 3) := by decide +kernel
theorem dX8_four_26 : decode cX8_four 26 = .ok (.lsub, 1) := by decide +kernel
theorem dX8_four_27 : decode cX8_four 27 = .ok (.ldc2_w 92, 3) := by decide +kernel
theorem dX8_four_30 : decode cX8_four 30 = .ok (.lmul, 1) := by decide +kernel
theorem dX8_four_31 : decode cX8_four 31 = .ok (.iload_n 3, 1) := by decide +kernel
theorem dX8_four_32 : decode cX8_four 32 = .ok (.i2l, 1) := by decide +kernel
theorem dX8_four_33 : decode cX8_four 33 = .ok (.ladd, 1) := by decide +kernel
theorem dX8_four_34 : decode cX8_four 34 = .ok (.ldc2_w 94, 3) := by decide +kernel
theorem dX8_four_37 : decode cX8_four 37 = .ok (.lsub, 1) := by decide +kernel
theorem dX8_four_38 : decode cX8_four 38 = .ok (.lreturn, 1) := by decide +kernel
set_option maxRecDepth 20000 in
theorem ggX8_number_X8_takes : GoodIn wsX8_number wsX8_takes := goodIn_r _ [11, 12, 6, 13, 4, 2, 14, 3, 15, 5, 16, 17, 18, 19, 20, 10, 21, 22, 23, 24, 25, 26, 27, 28, 29, 30, 31, 32, 33, 34, 35, 36, 37, 38, 39, 40, 41, 42, 43, 44, 45, 46, 47, 48, 49, 50, 51, 52, 53, 54, 55] (by decide +kernel) (by decide +kernel)
set_option maxRecDepth 20000 in
theorem gX8_number_X8_takes : GoodIn wsX8_number (wsV RX8 98 RX8 yX8_takes wsX8_takes) := goodIn_app (goodIn_of _ (by decide +kernel)) ggX8_number_X8_takes
set_option maxRecDepth 20000 in
theorem ggX8_number_X8_in : GoodIn wsX8_number wsX8_in := goodIn_r _ [24] (by decide +kernel) (by decide +kernel)
set_option maxRecDepth 20000 in
theorem gX8_number_X8_in : GoodIn wsX8_number (va_wsS RX8 61 yX8_in wsX8_in) := goodIn_app (goodIn_of _ (by decide +kernel)) ggX8_number_X8_in
theorem dX8_number_0 : decode cX8_number 0 = .ok (.aload_n 0, 1) := by decide +kernel
theorem dX8_number_1 : decode cX8_number 1 = .ok (.invokevirtual 98, 3) := by decide +kernel
theorem dX8_number_4 : decode cX8_number 4 = .ok (.aload_n 0, 1) := by decide +kernel
theorem dX8_number_5 : decode cX8_number 5 = .ok (.getfield 16, 3) := by decide +kernel
theorem dX8_number_8 : decode cX8_number 8 = .ok (.iload_n 1, 1) := by decide +kernel
theorem dX8_number_9 : decode cX8_number 9 = .ok (.aload_n 0, 1) := by decide +kernel
theorem dX8_number_10 : decode cX8_number 10 = .ok (.getfield 86, 3) := by decide +kernel
theorem dX8_number_13 : decode cX8_number 13 = .ok (.iastore, 1) := by decide +kernel
theorem dX8_number_14 : decode cX8_number 14 = .ok (.aload_n 0, 1) := by decide +kernel
theorem dX8_number_15 : decode cX8_number 15 = .ok (.getfield 89, 3) := by decide +kernel
theorem dX8_number_18 : decode cX8_number 18 = .ok (.iconst 2, 1) := by decide +kernel
theorem dX8_number_19 : decode cX8_number 19 = .ok (.if_icmp .ne 52, 3) := by decide +kernel
theorem dX8_number_22 : decode cX8_number 22 = .ok (.aload_n 0, 1) := by decide +kernel
theorem dX8_number_23 : decode cX8_number 23 = .ok (.getfield 83, 3) := by decide +kernel
theorem dX8_number_26 : decode cX8_number 26 = .ok (.iconst 3, 1) := by decide +kernel
theorem dX8_number_27 : decode cX8_number 27 = .ok (.if_icmp .ge 44, 3) := by decide +kernel
theorem dX8_number_30 : decode cX8_number 30 = .ok (.aload_n 0, 1) := by decide +kernel
theorem dX8_number_31 : decode cX8_number 31 = .ok (.getfield 83, 3) := by decide +kernel
theorem dX8_number_34 : decode cX8_number 34 = .ok (.iconst 1, 1) := by decide +kernel
theorem dX8_number_35 : decode cX8_number 35 = .ok (.if_icmp .eq 17, 3) := by decide +kernel
theorem dX8_number_38 : decode cX8_number 38 = .ok (.aload_n 0, 1) := by decide +kernel
theorem dX8_number_39 : decode cX8_number 39 = .ok (.getfield 7, 3) := by decide +kernel
theorem dX8_number_42 : decode cX8_number 42 = .ok (.aload_n 0, 1) := by decide +kernel
theorem dX8_number_43 : decode cX8_number 43 = .ok (.getfield 76, 3) := by decide +kernel
theorem dX8_number_46 : decode cX8_number 46 = .ok (.iaload, 1) := by decide +kernel
theorem dX8_number_47 : decode cX8_number 47 = .ok (.bipush 48, 2) := by decide +kernel
theorem dX8_number_49 : decode cX8_number 49 = .ok (.if_icmp .eq 22, 3) := by decide +kernel
theorem dX8_number_52 : decode cX8_number 52 = .ok (.aload_n 0, 1) := by decide +kernel
theorem dX8_number_53 : decode cX8_number 53 = .ok (.getfield 86, 3) := by decide +kernel
theorem dX8_number_56 : decode cX8_number 56 = .ok (.i2l, 1) := by decide +kernel
theorem dX8_number_57 : decode cX8_number 57 = .ok (.iload_n 2, 1) := by decide +kernel
theorem dX8_number_58 : decode cX8_number 58 = .ok (.i2l, 1) := by decide +kernel
theorem dX8_number_59 : decode cX8_number 59 = .ok (.iload_n 3, 1) := by decide +kernel
theorem dX8_number_60 : decode cX8_number 60 = .ok (.i2l, 1) := by decide +kernel
theorem dX8_number_61 : decode cX8_number 61 = .ok (.invokestatic 61, 3) := by decide +kernel
theorem dX8_number_64 : decode cX8_number 64 = .ok (.ifCond .eq 7, 3) := by decide +kernel
theorem dX8_number_67 : decode cX8_number 67 = .ok (.iconst 1, 1) := by decide +kernel
theorem dX8_number_68 : decode cX8_number 68 = .ok (.goto 4, 3) := by decide +kernel
theorem dX8_number_71 : decode cX8_number 71 = .ok (.iconst 0, 1) := by decide +kernel
theorem dX8_number_72 : decode cX8_number 72 = .ok (.ireturn, 1) := by decide +kernel
set_option maxRecDepth 20000 in
theorem ggX8_stops_X8_takes : GoodIn wsX8_stops wsX8_takes := goodIn_r _ [6, 7, 8, 9, 10, 11, 12, 1, 13, 14, 15, 16, 17, 18, 19, 5, 20, 21, 22, 23, 24, 25, 26, 27, 28, 29, 30, 31, 32, 33, 34, 35, 36, 37, 38, 39, 40, 41, 42, 43, 44, 45, 46, 47, 48, 49, 50, 51, 52, 53, 54] (by decide +kernel) (by decide +kernel)
set_option maxRecDepth 20000 in
theorem gX8_stops_X8_takes : GoodIn wsX8_stops (wsV RX8 98 RX8 yX8_takes wsX8_takes) := goodIn_app (goodIn_of _ (by decide +kernel)) ggX8_stops_X8_takes
theorem dX8_stops_0 : decode cX8_stops 0 = .ok (.aload_n 0, 1) := by decide +kernel
theorem dX8_stops_1 : decode cX8_stops 1 = .ok (.invokevirtual 98, 3) := by decide +kernel
theorem dX8_stops_4 : decode cX8_stops 4 = .ok (.aload_n 0, 1) := by decide +kernel
theorem dX8_stops_5 : decode cX8_stops 5 = .ok (.getfield 89, 3) := by decide +kernel
theorem dX8_stops_8 : decode cX8_stops 8 = .ok (.iconst 3, 1) := by decide +kernel
theorem dX8_stops_9 : decode cX8_stops 9 = .ok (.if_icmp .ne 7, 3) := by decide +kernel
theorem dX8_stops_12 : decode cX8_stops 12 = .ok (.iconst 1, 1) := by decide +kernel
theorem dX8_stops_13 : decode cX8_stops 13 = .ok (.goto 4, 3) := by decide +kernel
theorem dX8_stops_16 : decode cX8_stops 16 = .ok (.iconst 0, 1) := by decide +kernel
theorem dX8_stops_17 : decode cX8_stops 17 = .ok (.ireturn, 1) := by decide +kernel
set_option maxRecDepth 20000 in
theorem ggX8_rowItem_X8_takes : GoodIn wsX8_rowItem wsX8_takes := goodIn_r _ [11, 12, 6, 13, 4, 14, 15, 3, 16, 5, 17, 18, 19, 20, 21, 10, 22, 23, 24, 25, 26, 27, 28, 29, 30, 31, 32, 33, 34, 35, 36, 37, 38, 39, 40, 41, 42, 43, 44, 45, 46, 47, 48, 49, 50, 51, 52, 53, 54, 55, 56] (by decide +kernel) (by decide +kernel)
set_option maxRecDepth 20000 in
theorem gX8_rowItem_X8_takes : GoodIn wsX8_rowItem (wsV RX8 98 RX8 yX8_takes wsX8_takes) := goodIn_app (goodIn_of _ (by decide +kernel)) ggX8_rowItem_X8_takes
theorem dX8_rowItem_0 : decode cX8_rowItem 0 = .ok (.aload_n 0, 1) := by decide +kernel
theorem dX8_rowItem_1 : decode cX8_rowItem 1 = .ok (.getfield 101, 3) := by decide +kernel
theorem dX8_rowItem_4 : decode cX8_rowItem 4 = .ok (.aload_n 0, 1) := by decide +kernel
theorem dX8_rowItem_5 : decode cX8_rowItem 5 = .ok (.getfield 16, 3) := by decide +kernel
theorem dX8_rowItem_8 : decode cX8_rowItem 8 = .ok (.iconst 1, 1) := by decide +kernel
theorem dX8_rowItem_9 : decode cX8_rowItem 9 = .ok (.iaload, 1) := by decide +kernel
theorem dX8_rowItem_10 : decode cX8_rowItem 10 = .ok (.if_icmp .ne 5, 3) := by decide +kernel
theorem dX8_rowItem_13 : decode cX8_rowItem 13 = .ok (.iconst 0, 1) := by decide +kernel
theorem dX8_rowItem_14 : decode cX8_rowItem 14 = .ok (.ireturn, 1) := by decide +kernel
theorem dX8_rowItem_15 : decode cX8_rowItem 15 = .ok (.aload_n 0, 1) := by decide +kernel
theorem dX8_rowItem_16 : decode cX8_rowItem 16 = .ok (.invokevirtual 98, 3) := by decide +kernel
theorem dX8_rowItem_19 : decode cX8_rowItem 19 = .ok (.aload_n 0, 1) := by decide +kernel
theorem dX8_rowItem_20 : decode cX8_rowItem 20 = .ok (.getfield 89, 3) := by decide +kernel
theorem dX8_rowItem_23 : decode cX8_rowItem 23 = .ok (.iconst 2, 1) := by decide +kernel
theorem dX8_rowItem_24 : decode cX8_rowItem 24 = .ok (.if_icmp .ne 20, 3) := by decide +kernel
theorem dX8_rowItem_27 : decode cX8_rowItem 27 = .ok (.aload_n 0, 1) := by decide +kernel
theorem dX8_rowItem_28 : decode cX8_rowItem 28 = .ok (.getfield 83, 3) := by decide +kernel
theorem dX8_rowItem_31 : decode cX8_rowItem 31 = .ok (.aload_n 0, 1) := by decide +kernel
theorem dX8_rowItem_32 : decode cX8_rowItem 32 = .ok (.getfield 16, 3) := by decide +kernel
theorem dX8_rowItem_35 : decode cX8_rowItem 35 = .ok (.iconst 0, 1) := by decide +kernel
theorem dX8_rowItem_36 : decode cX8_rowItem 36 = .ok (.iaload, 1) := by decide +kernel
theorem dX8_rowItem_37 : decode cX8_rowItem 37 = .ok (.if_icmp .ne 7, 3) := by decide +kernel
theorem dX8_rowItem_40 : decode cX8_rowItem 40 = .ok (.iconst 1, 1) := by decide +kernel
theorem dX8_rowItem_41 : decode cX8_rowItem 41 = .ok (.goto 4, 3) := by decide +kernel
theorem dX8_rowItem_44 : decode cX8_rowItem 44 = .ok (.iconst 0, 1) := by decide +kernel
theorem dX8_rowItem_45 : decode cX8_rowItem 45 = .ok (.istore_n 1, 1) := by decide +kernel
theorem dX8_rowItem_46 : decode cX8_rowItem 46 = .ok (.iconst 0, 1) := by decide +kernel
theorem dX8_rowItem_47 : decode cX8_rowItem 47 = .ok (.istore_n 2, 1) := by decide +kernel
theorem dX8_rowItem_48 : decode cX8_rowItem 48 = .ok (.iload_n 2, 1) := by decide +kernel
theorem dX8_rowItem_49 : decode cX8_rowItem 49 = .ok (.aload_n 0, 1) := by decide +kernel
theorem dX8_rowItem_50 : decode cX8_rowItem 50 = .ok (.getfield 83, 3) := by decide +kernel
theorem dX8_rowItem_53 : decode cX8_rowItem 53 = .ok (.if_icmp .ge 70, 3) := by decide +kernel
theorem dX8_rowItem_56 : decode cX8_rowItem 56 = .ok (.iload_n 1, 1) := by decide +kernel
theorem dX8_rowItem_57 : decode cX8_rowItem 57 = .ok (.ifCond .eq 66, 3) := by decide +kernel
theorem dX8_rowItem_60 : decode cX8_rowItem 60 = .ok (.aload_n 0, 1) := by decide +kernel
theorem dX8_rowItem_61 : decode cX8_rowItem 61 = .ok (.getfield 16, 3) := by decide +kernel
theorem dX8_rowItem_64 : decode cX8_rowItem 64 = .ok (.bipush 9, 2) := by decide +kernel
theorem dX8_rowItem_66 : decode cX8_rowItem 66 = .ok (.aload_n 0, 1) := by decide +kernel
theorem dX8_rowItem_67 : decode cX8_rowItem 67 = .ok (.getfield 16, 3) := by decide +kernel
theorem dX8_rowItem_70 : decode cX8_rowItem 70 = .ok (.iconst 0, 1) := by decide +kernel
theorem dX8_rowItem_71 : decode cX8_rowItem 71 = .ok (.iaload, 1) := by decide +kernel
theorem dX8_rowItem_72 : decode cX8_rowItem 72 = .ok (.aload_n 0, 1) := by decide +kernel
theorem dX8_rowItem_73 : decode cX8_rowItem 73 = .ok (.getfield 101, 3) := by decide +kernel
theorem dX8_rowItem_76 : decode cX8_rowItem 76 = .ok (.imul, 1) := by decide +kernel
theorem dX8_rowItem_77 : decode cX8_rowItem 77 = .ok (.iadd, 1) := by decide +kernel
theorem dX8_rowItem_78 : decode cX8_rowItem 78 = .ok (.iload_n 2, 1) := by decide +kernel
theorem dX8_rowItem_79 : decode cX8_rowItem 79 = .ok (.iadd, 1) := by decide +kernel
theorem dX8_rowItem_80 : decode cX8_rowItem 80 = .ok (.aload_n 0, 1) := by decide +kernel
theorem dX8_rowItem_81 : decode cX8_rowItem 81 = .ok (.getfield 7, 3) := by decide +kernel
theorem dX8_rowItem_84 : decode cX8_rowItem 84 = .ok (.aload_n 0, 1) := by decide +kernel
theorem dX8_rowItem_85 : decode cX8_rowItem 85 = .ok (.getfield 76, 3) := by decide +kernel
theorem dX8_rowItem_88 : decode cX8_rowItem 88 = .ok (.iload_n 2, 1) := by decide +kernel
theorem dX8_rowItem_89 : decode cX8_rowItem 89 = .ok (.iadd, 1) := by decide +kernel
theorem dX8_rowItem_90 : decode cX8_rowItem 90 = .ok (.iaload, 1) := by decide +kernel
theorem dX8_rowItem_91 : decode cX8_rowItem 91 = .ok (.bipush 48, 2) := by decide +kernel
theorem dX8_rowItem_93 : decode cX8_rowItem 93 = .ok (.isub, 1) := by decide +kernel
theorem dX8_rowItem_94 : decode cX8_rowItem 94 = .ok (.iastore, 1) := by decide +kernel
theorem dX8_rowItem_95 : decode cX8_rowItem 95 = .ok (.aload_n 0, 1) := by decide +kernel
theorem dX8_rowItem_96 : decode cX8_rowItem 96 = .ok (.getfield 7, 3) := by decide +kernel
theorem dX8_rowItem_99 : decode cX8_rowItem 99 = .ok (.aload_n 0, 1) := by decide +kernel
theorem dX8_rowItem_100 : decode cX8_rowItem 100 = .ok (.getfield 76, 3) := by decide +kernel
theorem dX8_rowItem_103 : decode cX8_rowItem 103 = .ok (.iload_n 2, 1) := by decide +kernel
theorem dX8_rowItem_104 : decode cX8_rowItem 104 = .ok (.iadd, 1) := by decide +kernel
theorem dX8_rowItem_105 : decode cX8_rowItem 105 = .ok (.iaload, 1) := by decide +kernel
theorem dX8_rowItem_106 : decode cX8_rowItem 106 = .ok (.bipush 50, 2) := by decide +kernel
theorem dX8_rowItem_108 : decode cX8_rowItem 108 = .ok (.if_icmp .ge 7, 3) := by decide +kernel
theorem dX8_rowItem_111 : decode cX8_rowItem 111 = .ok (.iconst 1, 1) := by decide +kernel
theorem dX8_rowItem_112 : decode cX8_rowItem 112 = .ok (.goto 4, 3) := by decide +kernel
theorem dX8_rowItem_115 : decode cX8_rowItem 115 = .ok (.iconst 0, 1) := by decide +kernel
theorem dX8_rowItem_116 : decode cX8_rowItem 116 = .ok (.istore_n 1, 1) := by decide +kernel
theorem dX8_rowItem_117 : decode cX8_rowItem 117 = .ok (.iinc 2 1, 3) := by decide +kernel
theorem dX8_rowItem_120 : decode cX8_rowItem 120 = .ok (.goto (-72), 3) := by decide +kernel
theorem dX8_rowItem_123 : decode cX8_rowItem 123 = .ok (.aload_n 0, 1) := by decide +kernel
theorem dX8_rowItem_124 : decode cX8_rowItem 124 = .ok (.dup, 1) := by decide +kernel
theorem dX8_rowItem_125 : decode cX8_rowItem 125 = .ok (.getfield 101, 3) := by decide +kernel
theorem dX8_rowItem_128 : decode cX8_rowItem 128 = .ok (.iconst 1, 1) := by decide +kernel
theorem dX8_rowItem_129 : decode cX8_rowItem 129 = .ok (.iadd, 1) := by decide +kernel
theorem dX8_rowItem_130 : decode cX8_rowItem 130 = .ok (.putfield 101, 3) := by decide +kernel
theorem dX8_rowItem_133 : decode cX8_rowItem 133 = .ok (.iload_n 1, 1) := by decide +kernel
theorem dX8_rowItem_134 : decode cX8_rowItem 134 = .ok (.ireturn, 1) := by decide +kernel
set_option maxRecDepth 20000 in
theorem ggX8_driveItem_X8_number : GoodIn wsX8_driveItem wsX8_number := goodIn_r _ [7, 2, 8, 9, 10, 11, 12, 13, 14, 15, 6, 16, 17, 18, 19, 20, 21, 22, 23, 24, 25, 26, 27, 28, 29, 30, 31, 32, 33, 34, 35, 36, 37, 38, 39, 40, 41, 42, 43, 44, 45, 46, 47, 48, 49, 50, 51, 52, 53, 54, 55, 56, 57, 58, 59, 60] (by decide +kernel) (by decide +kernel)
set_option maxRecDepth 20000 in
theorem gX8_driveItem_X8_number : GoodIn wsX8_driveItem (wsV RX8 108 RX8 yX8_number wsX8_number) := goodIn_app (goodIn_of _ (by decide +kernel)) ggX8_driveItem_X8_number
theorem dX8_driveItem_0 : decode cX8_driveItem 0 = .ok (.aload_n 0, 1) := by decide +kernel
theorem dX8_driveItem_1 : decode cX8_driveItem 1 = .ok (.iconst 1, 1) := by decide +kernel
theorem dX8_driveItem_2 : decode cX8_driveItem 2 = .ok (.putfield 104, 3) := by decide +kernel
theorem dX8_driveItem_5 : decode cX8_driveItem 5 = .ok (.aload_n 0, 1) := by decide +kernel
theorem dX8_driveItem_6 : decode cX8_driveItem 6 = .ok (.bipush 8, 2) := by decide +kernel
theorem dX8_driveItem_8 : decode cX8_driveItem 8 = .ok (.iconst 0, 1) := by decide +kernel
theorem dX8_driveItem_9 : decode cX8_driveItem 9 = .ok (.aload_n 0, 1) := by decide +kernel
theorem dX8_driveItem_10 : decode cX8_driveItem 10 = .ok (.getfield 16, 3) := by decide +kernel
theorem dX8_driveItem_13 : decode cX8_driveItem 13 = .ok (.iconst 0, 1) := by decide +kernel
theorem dX8_driveItem_14 : decode cX8_driveItem 14 = .ok (.iaload, 1) := by decide +kernel
theorem dX8_driveItem_15 : decode cX8_driveItem 15 = .ok (.iconst 1, 1) := by decide +kernel
theorem dX8_driveItem_16 : decode cX8_driveItem 16 = .ok (.isub, 1) := by decide +kernel
theorem dX8_driveItem_17 : decode cX8_driveItem 17 = .ok (.invokevirtual 108, 3) := by decide +kernel
theorem dX8_driveItem_20 : decode cX8_driveItem 20 = .ok (.ifCond .ne 5, 3) := by decide +kernel
theorem dX8_driveItem_23 : decode cX8_driveItem 23 = .ok (.iconst 0, 1) := by decide +kernel
theorem dX8_driveItem_24 : decode cX8_driveItem 24 = .ok (.ireturn, 1) := by decide +kernel
theorem dX8_driveItem_25 : decode cX8_driveItem 25 = .ok (.aload_n 0, 1) := by decide +kernel
theorem dX8_driveItem_26 : decode cX8_driveItem 26 = .ok (.getfield 16, 3) := by decide +kernel
theorem dX8_driveItem_29 : decode cX8_driveItem 29 = .ok (.bipush 8, 2) := by decide +kernel
theorem dX8_driveItem_31 : decode cX8_driveItem 31 = .ok (.iaload, 1) := by decide +kernel
theorem dX8_driveItem_32 : decode cX8_driveItem 32 = .ok (.istore_n 1, 1) := by decide +kernel
theorem dX8_driveItem_33 : decode cX8_driveItem 33 = .ok (.aload_n 0, 1) := by decide +kernel
theorem dX8_driveItem_34 : decode cX8_driveItem 34 = .ok (.bipush 8, 2) := by decide +kernel
theorem dX8_driveItem_36 : decode cX8_driveItem 36 = .ok (.iconst 0, 1) := by decide +kernel
theorem dX8_driveItem_37 : decode cX8_driveItem 37 = .ok (.aload_n 0, 1) := by decide +kernel
theorem dX8_driveItem_38 : decode cX8_driveItem 38 = .ok (.getfield 16, 3) := by decide +kernel
theorem dX8_driveItem_41 : decode cX8_driveItem 41 = .ok (.iconst 1, 1) := by decide +kernel
theorem dX8_driveItem_42 : decode cX8_driveItem 42 = .ok (.iaload, 1) := by decide +kernel
theorem dX8_driveItem_43 : decode cX8_driveItem 43 = .ok (.iconst 1, 1) := by decide +kernel
theorem dX8_driveItem_44 : decode cX8_driveItem 44 = .ok (.isub, 1) := by decide +kernel
theorem dX8_driveItem_45 : decode cX8_driveItem 45 = .ok (.invokevirtual 108, 3) := by decide +kernel
theorem dX8_driveItem_48 : decode cX8_driveItem 48 = .ok (.ifCond .ne 5, 3) := by decide +kernel
theorem dX8_driveItem_51 : decode cX8_driveItem 51 = .ok (.iconst 0, 1) := by decide +kernel
theorem dX8_driveItem_52 : decode cX8_driveItem 52 = .ok (.ireturn, 1) := by decide +kernel
theorem dX8_driveItem_53 : decode cX8_driveItem 53 = .ok (.aload_n 0, 1) := by decide +kernel
theorem dX8_driveItem_54 : decode cX8_driveItem 54 = .ok (.getfield 16, 3) := by decide +kernel
theorem dX8_driveItem_57 : decode cX8_driveItem 57 = .ok (.bipush 8, 2) := by decide +kernel
theorem dX8_driveItem_59 : decode cX8_driveItem 59 = .ok (.aload_n 0, 1) := by decide +kernel
theorem dX8_driveItem_60 : decode cX8_driveItem 60 = .ok (.getfield 16, 3) := by decide +kernel
theorem dX8_driveItem_63 : decode cX8_driveItem 63 = .ok (.iconst 0, 1) := by decide +kernel
theorem dX8_driveItem_64 : decode cX8_driveItem 64 = .ok (.iaload, 1) := by decide +kernel
theorem dX8_driveItem_65 : decode cX8_driveItem 65 = .ok (.aload_n 0, 1) := by decide +kernel
theorem dX8_driveItem_66 : decode cX8_driveItem 66 = .ok (.getfield 16, 3) := by decide +kernel
theorem dX8_driveItem_69 : decode cX8_driveItem 69 = .ok (.bipush 8, 2) := by decide +kernel
theorem dX8_driveItem_71 : decode cX8_driveItem 71 = .ok (.iaload, 1) := by decide +kernel
theorem dX8_driveItem_72 : decode cX8_driveItem 72 = .ok (.imul, 1) := by decide +kernel
theorem dX8_driveItem_73 : decode cX8_driveItem 73 = .ok (.iload_n 1, 1) := by decide +kernel
theorem dX8_driveItem_74 : decode cX8_driveItem 74 = .ok (.iadd, 1) := by decide +kernel
theorem dX8_driveItem_75 : decode cX8_driveItem 75 = .ok (.iastore, 1) := by decide +kernel
theorem dX8_driveItem_76 : decode cX8_driveItem 76 = .ok (.iconst 1, 1) := by decide +kernel
theorem dX8_driveItem_77 : decode cX8_driveItem 77 = .ok (.ireturn, 1) := by decide +kernel
set_option maxRecDepth 20000 in
theorem ggX8_item_X8_five : GoodIn wsX8_item wsX8_five := goodIn_r _ [12, 6, 13] (by decide +kernel) (by decide +kernel)
set_option maxRecDepth 20000 in
theorem gX8_item_X8_five : GoodIn wsX8_item (va_wsS RX8 112 yX8_five wsX8_five) := goodIn_app (goodIn_of _ (by decide +kernel)) ggX8_item_X8_five
set_option maxRecDepth 20000 in
theorem ggX8_item_X8_number : GoodIn wsX8_item wsX8_number := goodIn_r _ [17, 18, 19, 1, 20, 21, 22, 23, 24, 25, 11, 26, 27, 2, 28, 6, 13, 29, 30, 31, 32, 33, 34, 35, 36, 48, 49, 50, 51, 52, 53, 54, 55, 56, 57, 58, 59, 60, 61, 62, 63, 64, 65, 66, 67, 68, 69, 70, 71, 72, 73, 74, 75, 76, 77, 78] (by decide +kernel) (by decide +kernel)
set_option maxRecDepth 20000 in
theorem gX8_item_X8_number : GoodIn wsX8_item (wsV RX8 108 RX8 yX8_number wsX8_number) := goodIn_app (goodIn_of _ (by decide +kernel)) ggX8_item_X8_number
set_option maxRecDepth 20000 in
theorem ggX8_item_X8_four : GoodIn wsX8_item wsX8_four := goodIn_r _ [39, 6, 13] (by decide +kernel) (by decide +kernel)
set_option maxRecDepth 20000 in
theorem gX8_item_X8_four : GoodIn wsX8_item (va_wsS RX8 119 yX8_four wsX8_four) := goodIn_app (goodIn_of _ (by decide +kernel)) ggX8_item_X8_four
set_option maxRecDepth 20000 in
theorem ggX8_item_X8_driveItem : GoodIn wsX8_item wsX8_driveItem := goodIn_r _ [43, 4, 18, 14, 15, 16, 11, 17, 19, 1, 20, 21, 22, 23, 24, 25, 26, 27, 2, 28, 6, 13, 29, 30, 31, 32, 33, 34, 35, 36, 48, 49, 50, 51, 52, 53, 54, 55, 56, 57, 58, 59, 60, 61, 62, 63, 64, 65, 66, 67, 68, 69, 70, 71, 72, 73, 74, 75, 76, 77, 78] (by decide +kernel) (by decide +kernel)
set_option maxRecDepth 20000 in
theorem gX8_item_X8_driveItem : GoodIn wsX8_item (wsV RX8 125 RX8 yX8_driveItem wsX8_driveItem) := goodIn_app (goodIn_of _ (by decide +kernel)) ggX8_item_X8_driveItem
set_option maxRecDepth 20000 in
theorem ggX8_item_X8_rowItem : GoodIn wsX8_item wsX8_rowItem := goodIn_r _ [47, 5, 18, 1, 20, 21, 22, 23, 24, 25, 11, 26, 27, 2, 19, 28, 6, 13, 29, 30, 31, 32, 33, 34, 35, 36, 48, 49, 50, 51, 52, 53, 54, 55, 56, 57, 58, 59, 60, 61, 62, 63, 64, 65, 66, 67, 68, 69, 70, 71, 72, 73, 74, 75, 76, 77, 78] (by decide +kernel) (by decide +kernel)
set_option maxRecDepth 20000 in
theorem gX8_item_X8_rowItem : GoodIn wsX8_item (wsV RX8 131 RX8 yX8_rowItem wsX8_rowItem) := goodIn_app (goodIn_of _ (by decide +kernel)) ggX8_item_X8_rowItem
theorem dX8_item_0 : decode cX8_item 0 = .ok (.aload_n 0, 1) := by decide +kernel
theorem dX8_item_1 : decode cX8_item 1 = .ok (.getfield 89, 3) := by decide +kernel
theorem dX8_item_4 : decode cX8_item 4 = .ok (.iconst 1, 1) := by decide +kernel
theorem dX8_item_5 : decode cX8_item 5 = .ok (.if_icmp .eq 5, 3) := by decide +kernel
theorem dX8_item_8 : decode cX8_item 8 = .ok (.iconst 0, 1) := by decide +kernel
theorem dX8_item_9 : decode cX8_item 9 = .ok (.ireturn, 1) := by decide +kernel
theorem dX8_item_10 : decode cX8_item 10 = .ok (.aload_n 0, 1) := by decide +kernel
theorem dX8_item_11 : decode cX8_item 11 = .ok (.getfield 79, 3) := by decide +kernel
theorem dX8_item_14 : decode cX8_item 14 = .ok (.bipush 112, 2) := by decide +kernel
theorem dX8_item_16 : decode cX8_item 16 = .ok (.bipush 108, 2) := by decide +kernel
theorem dX8_item_18 : decode cX8_item 18 = .ok (.bipush 97, 2) := by decide +kernel
theorem dX8_item_20 : decode cX8_item 20 = .ok (.bipush 116, 2) := by decide +kernel
theorem dX8_item_22 : decode cX8_item 22 = .ok (.bipush 101, 2) := by decide +kernel
theorem dX8_item_24 : decode cX8_item 24 = .ok (.invokestatic 112, 3) := by decide +kernel
theorem dX8_item_27 : decode cX8_item 27 = .ok (.lcmp, 1) := by decide +kernel
theorem dX8_item_28 : decode cX8_item 28 = .ok (.ifCond .ne 59, 3) := by decide +kernel
theorem dX8_item_31 : decode cX8_item 31 = .ok (.aload_n 0, 1) := by decide +kernel
theorem dX8_item_32 : decode cX8_item 32 = .ok (.getfield 116, 3) := by decide +kernel
theorem dX8_item_35 : decode cX8_item 35 = .ok (.ifCond .ne 17, 3) := by decide +kernel
theorem dX8_item_38 : decode cX8_item 38 = .ok (.aload_n 0, 1) := by decide +kernel
theorem dX8_item_39 : decode cX8_item 39 = .ok (.getfield 104, 3) := by decide +kernel
theorem dX8_item_42 : decode cX8_item 42 = .ok (.ifCond .ne 10, 3) := by decide +kernel
theorem dX8_item_45 : decode cX8_item 45 = .ok (.aload_n 0, 1) := by decide +kernel
theorem dX8_item_46 : decode cX8_item 46 = .ok (.getfield 101, 3) := by decide +kernel
theorem dX8_item_49 : decode cX8_item 49 = .ok (.ifCond .le 5, 3) := by decide +kernel
theorem dX8_item_52 : decode cX8_item 52 = .ok (.iconst 0, 1) := by decide +kernel
theorem dX8_item_53 : decode cX8_item 53 = .ok (.ireturn, 1) := by decide +kernel
theorem dX8_item_54 : decode cX8_item 54 = .ok (.aload_n 0, 1) := by decide +kernel
theorem dX8_item_55 : decode cX8_item 55 = .ok (.iconst 1, 1) := by decide +kernel
theorem dX8_item_56 : decode cX8_item 56 = .ok (.putfield 116, 3) := by decide +kernel
theorem dX8_item_59 : decode cX8_item 59 = .ok (.aload_n 0, 1) := by decide +kernel
theorem dX8_item_60 : decode cX8_item 60 = .ok (.iconst 0, 1) := by decide +kernel
theorem dX8_item_61 : decode cX8_item 61 = .ok (.iconst 2, 1) := by decide +kernel
theorem dX8_item_62 : decode cX8_item 62 = .ok (.bipush 6, 2) := by decide +kernel
theorem dX8_item_64 : decode cX8_item 64 = .ok (.invokevirtual 108, 3) := by decide +kernel
theorem dX8_item_67 : decode cX8_item 67 = .ok (.ifCond .eq 18, 3) := by decide +kernel
theorem dX8_item_70 : decode cX8_item 70 = .ok (.aload_n 0, 1) := by decide +kernel
theorem dX8_item_71 : decode cX8_item 71 = .ok (.iconst 1, 1) := by decide +kernel
theorem dX8_item_72 : decode cX8_item 72 = .ok (.iconst 2, 1) := by decide +kernel
theorem dX8_item_73 : decode cX8_item 73 = .ok (.bipush 6, 2) := by decide +kernel
theorem dX8_item_75 : decode cX8_item 75 = .ok (.invokevirtual 108, 3) := by decide +kernel
theorem dX8_item_78 : decode cX8_item 78 = .ok (.ifCond .eq 7, 3) := by decide +kernel
theorem dX8_item_81 : decode cX8_item 81 = .ok (.iconst 1, 1) := by decide +kernel
theorem dX8_item_82 : decode cX8_item 82 = .ok (.goto 4, 3) := by decide +kernel
theorem dX8_item_85 : decode cX8_item 85 = .ok (.iconst 0, 1) := by decide +kernel
theorem dX8_item_86 : decode cX8_item 86 = .ok (.ireturn, 1) := by decide +kernel
theorem dX8_item_87 : decode cX8_item 87 = .ok (.aload_n 0, 1) := by decide +kernel
theorem dX8_item_88 : decode cX8_item 88 = .ok (.getfield 79, 3) := by decide +kernel
theorem dX8_item_91 : decode cX8_item 91 = .ok (.bipush 101, 2) := by decide +kernel
theorem dX8_item_93 : decode cX8_item 93 = .ok (.bipush 100, 2) := by decide +kernel
theorem dX8_item_95 : decode cX8_item 95 = .ok (.bipush 103, 2) := by decide +kernel
theorem dX8_item_97 : decode cX8_item 97 = .ok (.bipush 101, 2) := by decide +kernel
theorem dX8_item_99 : decode cX8_item 99 = .ok (.invokestatic 119, 3) := by decide +kernel
theorem dX8_item_102 : decode cX8_item 102 = .ok (.lcmp, 1) := by decide +kernel
theorem dX8_item_103 : decode cX8_item 103 = .ok (.ifCond .ne 11, 3) := by decide +kernel
theorem dX8_item_106 : decode cX8_item 106 = .ok (.aload_n 0, 1) := by decide +kernel
theorem dX8_item_107 : decode cX8_item 107 = .ok (.iconst 2, 1) := by decide +kernel
theorem dX8_item_108 : decode cX8_item 108 = .ok (.iconst 0, 1) := by decide +kernel
theorem dX8_item_109 : decode cX8_item 109 = .ok (.iconst 1, 1) := by decide +kernel
theorem dX8_item_110 : decode cX8_item 110 = .ok (.invokevirtual 108, 3) := by decide +kernel
theorem dX8_item_113 : decode cX8_item 113 = .ok (.ireturn, 1) := by decide +kernel
theorem dX8_item_114 : decode cX8_item 114 = .ok (.aload_n 0, 1) := by decide +kernel
theorem dX8_item_115 : decode cX8_item 115 = .ok (.getfield 79, 3) := by decide +kernel
theorem dX8_item_118 : decode cX8_item 118 = .ok (.bipush 115, 2) := by decide +kernel
theorem dX8_item_120 : decode cX8_item 120 = .ok (.bipush 116, 2) := by decide +kernel
theorem dX8_item_122 : decode cX8_item 122 = .ok (.bipush 105, 2) := by decide +kernel
theorem dX8_item_124 : decode cX8_item 124 = .ok (.bipush 102, 2) := by decide +kernel
theorem dX8_item_126 : decode cX8_item 126 = .ok (.bipush 102, 2) := by decide +kernel
theorem dX8_item_128 : decode cX8_item 128 = .ok (.invokestatic 112, 3) := by decide +kernel
theorem dX8_item_131 : decode cX8_item 131 = .ok (.lcmp, 1) := by decide +kernel
theorem dX8_item_132 : decode cX8_item 132 = .ok (.ifCond .ne 12, 3) := by decide +kernel
theorem dX8_item_135 : decode cX8_item 135 = .ok (.aload_n 0, 1) := by decide +kernel
theorem dX8_item_136 : decode cX8_item 136 = .ok (.iconst 3, 1) := by decide +kernel
theorem dX8_item_137 : decode cX8_item 137 = .ok (.iconst 1, 1) := by decide +kernel
theorem dX8_item_138 : decode cX8_item 138 = .ok (.bipush 7, 2) := by decide +kernel
theorem dX8_item_140 : decode cX8_item 140 = .ok (.invokevirtual 108, 3) := by decide +kernel
theorem dX8_item_143 : decode cX8_item 143 = .ok (.ireturn, 1) := by decide +kernel
theorem dX8_item_144 : decode cX8_item 144 = .ok (.aload_n 0, 1) := by decide +kernel
theorem dX8_item_145 : decode cX8_item 145 = .ok (.getfield 79, 3) := by decide +kernel
theorem dX8_item_148 : decode cX8_item 148 = .ok (.bipush 108, 2) := by decide +kernel
theorem dX8_item_150 : decode cX8_item 150 = .ok (.bipush 111, 2) := by decide +kernel
theorem dX8_item_152 : decode cX8_item 152 = .ok (.bipush 115, 2) := by decide +kernel
theorem dX8_item_154 : decode cX8_item 154 = .ok (.bipush 115, 2) := by decide +kernel
theorem dX8_item_156 : decode cX8_item 156 = .ok (.invokestatic 119, 3) := by decide +kernel
theorem dX8_item_159 : decode cX8_item 159 = .ok (.lcmp, 1) := by decide +kernel
theorem dX8_item_160 : decode cX8_item 160 = .ok (.ifCond .ne 12, 3) := by decide +kernel
theorem dX8_item_163 : decode cX8_item 163 = .ok (.aload_n 0, 1) := by decide +kernel
theorem dX8_item_164 : decode cX8_item 164 = .ok (.iconst 4, 1) := by decide +kernel
theorem dX8_item_165 : decode cX8_item 165 = .ok (.iconst 2, 1) := by decide +kernel
theorem dX8_item_166 : decode cX8_item 166 = .ok (.bipush 20, 2) := by decide +kernel
theorem dX8_item_168 : decode cX8_item 168 = .ok (.invokevirtual 108, 3) := by decide +kernel
theorem dX8_item_171 : decode cX8_item 171 = .ok (.ireturn, 1) := by decide +kernel
theorem dX8_item_172 : decode cX8_item 172 = .ok (.aload_n 0, 1) := by decide +kernel
theorem dX8_item_173 : decode cX8_item 173 = .ok (.getfield 79, 3) := by decide +kernel
theorem dX8_item_176 : decode cX8_item 176 = .ok (.bipush 102, 2) := by decide +kernel
theorem dX8_item_178 : decode cX8_item 178 = .ok (.bipush 111, 2) := by decide +kernel
theorem dX8_item_180 : decode cX8_item 180 = .ok (.bipush 114, 2) := by decide +kernel
theorem dX8_item_182 : decode cX8_item 182 = .ok (.bipush 99, 2) := by decide +kernel
theorem dX8_item_184 : decode cX8_item 184 = .ok (.bipush 101, 2) := by decide +kernel
theorem dX8_item_186 : decode cX8_item 186 = .ok (.invokestatic 112, 3) := by decide +kernel
theorem dX8_item_189 : decode cX8_item 189 = .ok (.lcmp, 1) := by decide +kernel
theorem dX8_item_190 : decode cX8_item 190 = .ok (.ifCond .ne 12, 3) := by decide +kernel
theorem dX8_item_193 : decode cX8_item 193 = .ok (.aload_n 0, 1) := by decide +kernel
theorem dX8_item_194 : decode cX8_item 194 = .ok (.iconst 5, 1) := by decide +kernel
theorem dX8_item_195 : decode cX8_item 195 = .ok (.iconst 1, 1) := by decide +kernel
theorem dX8_item_196 : decode cX8_item 196 = .ok (.bipush 99, 2) := by decide +kernel
theorem dX8_item_198 : decode cX8_item 198 = .ok (.invokevirtual 108, 3) := by decide +kernel
theorem dX8_item_201 : decode cX8_item 201 = .ok (.ireturn, 1) := by decide +kernel
theorem dX8_item_202 : decode cX8_item 202 = .ok (.aload_n 0, 1) := by decide +kernel
theorem dX8_item_203 : decode cX8_item 203 = .ok (.getfield 79, 3) := by decide +kernel
theorem dX8_item_206 : decode cX8_item 206 = .ok (.bipush 112, 2) := by decide +kernel
theorem dX8_item_208 : decode cX8_item 208 = .ok (.bipush 101, 2) := by decide +kernel
theorem dX8_item_210 : decode cX8_item 210 = .ok (.bipush 114, 2) := by decide +kernel
theorem dX8_item_212 : decode cX8_item 212 = .ok (.bipush 105, 2) := by decide +kernel
theorem dX8_item_214 : decode cX8_item 214 = .ok (.bipush 111, 2) := by decide +kernel
theorem dX8_item_216 : decode cX8_item 216 = .ok (.invokestatic 112, 3) := by decide +kernel
theorem dX8_item_219 : decode cX8_item 219 = .ok (.ldc2_w 92, 3) := by decide +kernel
theorem dX8_item_222 : decode cX8_item 222 = .ok (.lmul, 1) := by decide +kernel
theorem dX8_item_223 : decode cX8_item 223 = .ok (.ldc2_w 123, 3) := by decide +kernel
theorem dX8_item_226 : decode cX8_item 226 = .ok (.ladd, 1) := by decide +kernel
theorem dX8_item_227 : decode cX8_item 227 = .ok (.lcmp, 1) := by decide +kernel
theorem dX8_item_228 : decode cX8_item 228 = .ok (.ifCond .ne 13, 3) := by decide +kernel
theorem dX8_item_231 : decode cX8_item 231 = .ok (.aload_n 0, 1) := by decide +kernel
theorem dX8_item_232 : decode cX8_item 232 = .ok (.bipush 6, 2) := by decide +kernel
theorem dX8_item_234 : decode cX8_item 234 = .ok (.iconst 2, 1) := by decide +kernel
theorem dX8_item_235 : decode cX8_item 235 = .ok (.bipush 20, 2) := by decide +kernel
theorem dX8_item_237 : decode cX8_item 237 = .ok (.invokevirtual 108, 3) := by decide +kernel
theorem dX8_item_240 : decode cX8_item 240 = .ok (.ireturn, 1) := by decide +kernel
theorem dX8_item_241 : decode cX8_item 241 = .ok (.aload_n 0, 1) := by decide +kernel
theorem dX8_item_242 : decode cX8_item 242 = .ok (.getfield 79, 3) := by decide +kernel
theorem dX8_item_245 : decode cX8_item 245 = .ok (.bipush 108, 2) := by decide +kernel
theorem dX8_item_247 : decode cX8_item 247 = .ok (.bipush 105, 2) := by decide +kernel
theorem dX8_item_249 : decode cX8_item 249 = .ok (.bipush 109, 2) := by decide +kernel
theorem dX8_item_251 : decode cX8_item 251 = .ok (.bipush 105, 2) := by decide +kernel
theorem dX8_item_253 : decode cX8_item 253 = .ok (.bipush 116, 2) := by decide +kernel
theorem dX8_item_255 : decode cX8_item 255 = .ok (.invokestatic 112, 3) := by decide +kernel
theorem dX8_item_258 : decode cX8_item 258 = .ok (.lcmp, 1) := by decide +kernel
theorem dX8_item_259 : decode cX8_item 259 = .ok (.ifCond .ne 13, 3) := by decide +kernel
theorem dX8_item_262 : decode cX8_item 262 = .ok (.aload_n 0, 1) := by decide +kernel
theorem dX8_item_263 : decode cX8_item 263 = .ok (.bipush 7, 2) := by decide +kernel
theorem dX8_item_265 : decode cX8_item 265 = .ok (.iconst 0, 1) := by decide +kernel
theorem dX8_item_266 : decode cX8_item 266 = .ok (.bipush 99, 2) := by decide +kernel
theorem dX8_item_268 : decode cX8_item 268 = .ok (.invokevirtual 108, 3) := by decide +kernel
theorem dX8_item_271 : decode cX8_item 271 = .ok (.ireturn, 1) := by decide +kernel
theorem dX8_item_272 : decode cX8_item 272 = .ok (.aload_n 0, 1) := by decide +kernel
theorem dX8_item_273 : decode cX8_item 273 = .ok (.getfield 79, 3) := by decide +kernel
theorem dX8_item_276 : decode cX8_item 276 = .ok (.bipush 100, 2) := by decide +kernel
theorem dX8_item_278 : decode cX8_item 278 = .ok (.bipush 114, 2) := by decide +kernel
theorem dX8_item_280 : decode cX8_item 280 = .ok (.bipush 105, 2) := by decide +kernel
theorem dX8_item_282 : decode cX8_item 282 = .ok (.bipush 118, 2) := by decide +kernel
theorem dX8_item_284 : decode cX8_item 284 = .ok (.bipush 101, 2) := by decide +kernel
theorem dX8_item_286 : decode cX8_item 286 = .ok (.invokestatic 112, 3) := by decide +kernel
theorem dX8_item_289 : decode cX8_item 289 = .ok (.lcmp, 1) := by decide +kernel
theorem dX8_item_290 : decode cX8_item 290 = .ok (.ifCond .ne 8, 3) := by decide +kernel
theorem dX8_item_293 : decode cX8_item 293 = .ok (.aload_n 0, 1) := by decide +kernel
theorem dX8_item_294 : decode cX8_item 294 = .ok (.invokevirtual 125, 3) := by decide +kernel
theorem dX8_item_297 : decode cX8_item 297 = .ok (.ireturn, 1) := by decide +kernel
theorem dX8_item_298 : decode cX8_item 298 = .ok (.aload_n 0, 1) := by decide +kernel
theorem dX8_item_299 : decode cX8_item 299 = .ok (.getfield 79, 3) := by decide +kernel
theorem dX8_item_302 : decode cX8_item 302 = .ok (.ldc2_w 129, 3) := by decide +kernel
theorem dX8_item_305 : decode cX8_item 305 = .ok (.lcmp, 1) := by decide +kernel
theorem dX8_item_306 : decode cX8_item 306 = .ok (.ifCond .ne 14, 3) := by decide +kernel
theorem dX8_item_309 : decode cX8_item 309 = .ok (.aload_n 0, 1) := by decide +kernel
theorem dX8_item_310 : decode cX8_item 310 = .ok (.invokevirtual 131, 3) := by decide +kernel
theorem dX8_item_313 : decode cX8_item 313 = .ok (.ifCond .eq 7, 3) := by decide +kernel
theorem dX8_item_316 : decode cX8_item 316 = .ok (.iconst 1, 1) := by decide +kernel
theorem dX8_item_317 : decode cX8_item 317 = .ok (.goto 4, 3) := by decide +kernel
theorem dX8_item_320 : decode cX8_item 320 = .ok (.iconst 0, 1) := by decide +kernel
theorem dX8_item_321 : decode cX8_item 321 = .ok (.ireturn, 1) := by decide +kernel
set_option maxRecDepth 20000 in
theorem ggX8_reads_X8_plain : GoodIn wsX8_reads wsX8_plain := goodIn_r _ [11] (by decide +kernel) (by decide +kernel)
set_option maxRecDepth 20000 in
theorem gX8_reads_X8_plain : GoodIn wsX8_reads (va_wsS RX8 55 yX8_plain wsX8_plain) := goodIn_app (goodIn_of _ (by decide +kernel)) ggX8_reads_X8_plain
set_option maxRecDepth 20000 in
theorem ggX8_reads_X8_takes : GoodIn wsX8_reads wsX8_takes := goodIn_r _ [15, 5, 7, 16, 17, 18, 19, 6, 20, 21, 22, 23, 24, 25, 26, 10, 27, 28, 29, 30, 59, 60, 61, 62, 63, 64, 65, 66, 67, 68, 69, 70, 71, 72, 73, 74, 75, 76, 77, 78, 79, 80, 81, 82, 83, 84, 85, 86, 87, 88, 89] (by decide +kernel) (by decide +kernel)
set_option maxRecDepth 20000 in
theorem gX8_reads_X8_takes : GoodIn wsX8_reads (wsV RX8 98 RX8 yX8_takes wsX8_takes) := goodIn_app (goodIn_of _ (by decide +kernel)) ggX8_reads_X8_takes
set_option maxRecDepth 20000 in
theorem ggX8_reads_X8_item : GoodIn wsX8_reads wsX8_item := goodIn_r _ [34, 6, 16, 2, 3, 4, 20, 35, 36, 37, 38, 10, 39, 22, 40, 41, 42, 43, 1, 18, 17, 21, 7, 12, 13, 14, 15, 5, 19, 23, 24, 25, 26, 27, 28, 29, 30, 44, 45, 46, 47, 48, 49, 50, 51, 52, 53, 54, 59, 60, 61, 62, 63, 64, 65, 66, 67, 68, 69, 70, 71, 72, 73, 74, 75, 76, 77, 78, 79, 80, 81, 82, 83, 84, 85, 86, 87, 88, 89] (by decide +kernel) (by decide +kernel)
set_option maxRecDepth 20000 in
theorem gX8_reads_X8_item : GoodIn wsX8_reads (wsV RX8 134 RX8 yX8_item wsX8_item) := goodIn_app (goodIn_of _ (by decide +kernel)) ggX8_reads_X8_item
set_option maxRecDepth 20000 in
theorem ggX8_reads_X8_stops : GoodIn wsX8_reads wsX8_stops := goodIn_r _ [58, 6, 12, 13, 14, 10, 15, 5, 7, 16, 17, 18, 19, 20, 21, 22, 23, 24, 25, 26, 27, 28, 29, 30, 59, 60, 61, 62, 63, 64, 65, 66, 67, 68, 69, 70, 71, 72, 73, 74, 75, 76, 77, 78, 79, 80, 81, 82, 83, 84, 85, 86, 87, 88, 89] (by decide +kernel) (by decide +kernel)
set_option maxRecDepth 20000 in
theorem gX8_reads_X8_stops : GoodIn wsX8_reads (wsV RX8 137 RX8 yX8_stops wsX8_stops) := goodIn_app (goodIn_of _ (by decide +kernel)) ggX8_reads_X8_stops
theorem dX8_reads_0 : decode cX8_reads 0 = .ok (.aload_n 0, 1) := by decide +kernel
theorem dX8_reads_1 : decode cX8_reads 1 = .ok (.getfield 16, 3) := by decide +kernel
theorem dX8_reads_4 : decode cX8_reads 4 = .ok (.invokestatic 55, 3) := by decide +kernel
theorem dX8_reads_7 : decode cX8_reads 7 = .ok (.aload_n 0, 1) := by decide +kernel
theorem dX8_reads_8 : decode cX8_reads 8 = .ok (.iconst 0, 1) := by decide +kernel
theorem dX8_reads_9 : decode cX8_reads 9 = .ok (.putfield 116, 3) := by decide +kernel
theorem dX8_reads_12 : decode cX8_reads 12 = .ok (.aload_n 0, 1) := by decide +kernel
theorem dX8_reads_13 : decode cX8_reads 13 = .ok (.iconst 0, 1) := by decide +kernel
theorem dX8_reads_14 : decode cX8_reads 14 = .ok (.putfield 104, 3) := by decide +kernel
theorem dX8_reads_17 : decode cX8_reads 17 = .ok (.aload_n 0, 1) := by decide +kernel
theorem dX8_reads_18 : decode cX8_reads 18 = .ok (.iconst 0, 1) := by decide +kernel
theorem dX8_reads_19 : decode cX8_reads 19 = .ok (.putfield 101, 3) := by decide +kernel
theorem dX8_reads_22 : decode cX8_reads 22 = .ok (.aload_n 0, 1) := by decide +kernel
theorem dX8_reads_23 : decode cX8_reads 23 = .ok (.iconst 0, 1) := by decide +kernel
theorem dX8_reads_24 : decode cX8_reads 24 = .ok (.putfield 69, 3) := by decide +kernel
theorem dX8_reads_27 : decode cX8_reads 27 = .ok (.iconst 0, 1) := by decide +kernel
theorem dX8_reads_28 : decode cX8_reads 28 = .ok (.istore_n 1, 1) := by decide +kernel
theorem dX8_reads_29 : decode cX8_reads 29 = .ok (.aload_n 0, 1) := by decide +kernel
theorem dX8_reads_30 : decode cX8_reads 30 = .ok (.invokevirtual 98, 3) := by decide +kernel
theorem dX8_reads_33 : decode cX8_reads 33 = .ok (.aload_n 0, 1) := by decide +kernel
theorem dX8_reads_34 : decode cX8_reads 34 = .ok (.getfield 89, 3) := by decide +kernel
theorem dX8_reads_37 : decode cX8_reads 37 = .ok (.ifCond .eq 35, 3) := by decide +kernel
theorem dX8_reads_40 : decode cX8_reads 40 = .ok (.aload_n 0, 1) := by decide +kernel
theorem dX8_reads_41 : decode cX8_reads 41 = .ok (.invokevirtual 134, 3) := by decide +kernel
theorem dX8_reads_44 : decode cX8_reads 44 = .ok (.ifCond .eq 10, 3) := by decide +kernel
theorem dX8_reads_47 : decode cX8_reads 47 = .ok (.aload_n 0, 1) := by decide +kernel
theorem dX8_reads_48 : decode cX8_reads 48 = .ok (.invokevirtual 137, 3) := by decide +kernel
theorem dX8_reads_51 : decode cX8_reads 51 = .ok (.ifCond .ne 11, 3) := by decide +kernel
theorem dX8_reads_54 : decode cX8_reads 54 = .ok (.bipush (-10), 2) := by decide +kernel
theorem dX8_reads_56 : decode cX8_reads 56 = .ok (.aload_n 0, 1) := by decide +kernel
theorem dX8_reads_57 : decode cX8_reads 57 = .ok (.getfield 76, 3) := by decide +kernel
theorem dX8_reads_60 : decode cX8_reads 60 = .ok (.isub, 1) := by decide +kernel
theorem dX8_reads_61 : decode cX8_reads 61 = .ok (.ireturn, 1) := by decide +kernel
theorem dX8_reads_62 : decode cX8_reads 62 = .ok (.iinc 1 1, 3) := by decide +kernel
theorem dX8_reads_65 : decode cX8_reads 65 = .ok (.aload_n 0, 1) := by decide +kernel
theorem dX8_reads_66 : decode cX8_reads 66 = .ok (.invokevirtual 98, 3) := by decide +kernel
theorem dX8_reads_69 : decode cX8_reads 69 = .ok (.goto (-36), 3) := by decide +kernel
theorem dX8_reads_72 : decode cX8_reads 72 = .ok (.iload_n 1, 1) := by decide +kernel
theorem dX8_reads_73 : decode cX8_reads 73 = .ok (.ireturn, 1) := by decide +kernel
set_option maxRecDepth 20000 in
theorem ggX8_tells_X8_reads : GoodIn wsX8_tells wsX8_reads := goodIn_r _ [8, 2, 9, 10, 11, 12, 13, 14, 15, 16, 7, 17, 18, 19, 20, 21, 22, 23, 24, 3, 25, 26, 27, 28, 29, 30, 31, 32, 33, 34, 35, 36, 37, 38, 39, 40, 41, 42, 43, 44, 45, 46, 47, 48, 49, 50, 51, 52, 53, 54, 55, 56, 57, 58, 59, 60, 61, 62, 63, 70, 71, 72, 73, 74, 75, 76, 77, 78, 79, 80, 81, 82, 83, 84, 85, 86, 87, 88, 89, 90, 91, 92, 93, 94, 95, 96, 97, 98, 99, 100] (by decide +kernel) (by decide +kernel)
set_option maxRecDepth 20000 in
theorem gX8_tells_X8_reads : GoodIn wsX8_tells (wsV RX8 140 RX8 yX8_reads wsX8_reads) := goodIn_app (goodIn_of _ (by decide +kernel)) ggX8_tells_X8_reads
set_option maxRecDepth 20000 in
theorem ggX8_tells_X8_note : GoodIn wsX8_tells wsX8_note := goodIn_r _ [67, 68, 69, 1, 70, 71, 72, 73, 74, 75, 76, 77, 78, 79, 80, 81, 82, 83, 84, 85, 86, 87, 88, 89, 90, 91, 92, 93, 94, 95, 96, 97, 98, 99, 100] (by decide +kernel) (by decide +kernel)
set_option maxRecDepth 20000 in
theorem gX8_tells_X8_note : GoodIn wsX8_tells (wsV RX8 144 RX8 yX8_note wsX8_note) := goodIn_app (goodIn_of _ (by decide +kernel)) ggX8_tells_X8_note
theorem dX8_tells_0 : decode cX8_tells 0 = .ok (.aload_n 0, 1) := by decide +kernel
theorem dX8_tells_1 : decode cX8_tells 1 = .ok (.invokevirtual 140, 3) := by decide +kernel
theorem dX8_tells_4 : decode cX8_tells 4 = .ok (.istore_n 1, 1) := by decide +kernel
theorem dX8_tells_5 : decode cX8_tells 5 = .ok (.iload_n 1, 1) := by decide +kernel
theorem dX8_tells_6 : decode cX8_tells 6 = .ok (.ifCond .ge 5, 3) := by decide +kernel
theorem dX8_tells_9 : decode cX8_tells 9 = .ok (.iload_n 1, 1) := by decide +kernel
theorem dX8_tells_10 : decode cX8_tells 10 = .ok (.ireturn, 1) := by decide +kernel
theorem dX8_tells_11 : decode cX8_tells 11 = .ok (.aload_n 0, 1) := by decide +kernel
theorem dX8_tells_12 : decode cX8_tells 12 = .ok (.invokevirtual 144, 3) := by decide +kernel
theorem dX8_tells_15 : decode cX8_tells 15 = .ok (.iconst 0, 1) := by decide +kernel
theorem dX8_tells_16 : decode cX8_tells 16 = .ok (.istore_n 2, 1) := by decide +kernel
theorem dX8_tells_17 : decode cX8_tells 17 = .ok (.iload_n 2, 1) := by decide +kernel
theorem dX8_tells_18 : decode cX8_tells 18 = .ok (.bipush 81, 2) := by decide +kernel
theorem dX8_tells_20 : decode cX8_tells 20 = .ok (.if_icmp .ge 21, 3) := by decide +kernel
theorem dX8_tells_23 : decode cX8_tells 23 = .ok (.aload_n 0, 1) := by decide +kernel
theorem dX8_tells_24 : decode cX8_tells 24 = .ok (.getfield 13, 3) := by decide +kernel
theorem dX8_tells_27 : decode cX8_tells 27 = .ok (.iload_n 2, 1) := by decide +kernel
theorem dX8_tells_28 : decode cX8_tells 28 = .ok (.aload_n 0, 1) := by decide +kernel
theorem dX8_tells_29 : decode cX8_tells 29 = .ok (.getfield 16, 3) := by decide +kernel
theorem dX8_tells_32 : decode cX8_tells 32 = .ok (.iload_n 2, 1) := by decide +kernel
theorem dX8_tells_33 : decode cX8_tells 33 = .ok (.iaload, 1) := by decide +kernel
theorem dX8_tells_34 : decode cX8_tells 34 = .ok (.iastore, 1) := by decide +kernel
theorem dX8_tells_35 : decode cX8_tells 35 = .ok (.iinc 2 1, 3) := by decide +kernel
theorem dX8_tells_38 : decode cX8_tells 38 = .ok (.goto (-21), 3) := by decide +kernel
theorem dX8_tells_41 : decode cX8_tells 41 = .ok (.aload_n 0, 1) := by decide +kernel
theorem dX8_tells_42 : decode cX8_tells 42 = .ok (.iconst 0, 1) := by decide +kernel
theorem dX8_tells_43 : decode cX8_tells 43 = .ok (.putfield 65, 3) := by decide +kernel
theorem dX8_tells_46 : decode cX8_tells 46 = .ok (.iload_n 1, 1) := by decide +kernel
theorem dX8_tells_47 : decode cX8_tells 47 = .ok (.ireturn, 1) := by decide +kernel
theorem dX8_cells_0 : decode cX8_cells 0 = .ok (.aload_n 0, 1) := by decide +kernel
theorem dX8_cells_1 : decode cX8_cells 1 = .ok (.getfield 13, 3) := by decide +kernel
theorem dX8_cells_4 : decode cX8_cells 4 = .ok (.iconst 0, 1) := by decide +kernel
theorem dX8_cells_5 : decode cX8_cells 5 = .ok (.iaload, 1) := by decide +kernel
theorem dX8_cells_6 : decode cX8_cells 6 = .ok (.aload_n 0, 1) := by decide +kernel
theorem dX8_cells_7 : decode cX8_cells 7 = .ok (.getfield 13, 3) := by decide +kernel
theorem dX8_cells_10 : decode cX8_cells 10 = .ok (.iconst 1, 1) := by decide +kernel
theorem dX8_cells_11 : decode cX8_cells 11 = .ok (.iaload, 1) := by decide +kernel
theorem dX8_cells_12 : decode cX8_cells 12 = .ok (.imul, 1) := by decide +kernel
theorem dX8_cells_13 : decode cX8_cells 13 = .ok (.ireturn, 1) := by decide +kernel
set_option maxRecDepth 20000 in
theorem ggX8_next_X8_in : GoodIn wsX8_next wsX8_in := goodIn_r _ [5] (by decide +kernel) (by decide +kernel)
set_option maxRecDepth 20000 in
theorem gX8_next_X8_in : GoodIn wsX8_next (va_wsS RX8 61 yX8_in wsX8_in) := goodIn_app (goodIn_of _ (by decide +kernel)) ggX8_next_X8_in
theorem dX8_next_0 : decode cX8_next 0 = .ok (.iload_n 1, 1) := by decide +kernel
theorem dX8_next_1 : decode cX8_next 1 = .ok (.aload_n 0, 1) := by decide +kernel
theorem dX8_next_2 : decode cX8_next 2 = .ok (.getfield 13, 3) := by decide +kernel
theorem dX8_next_5 : decode cX8_next 5 = .ok (.iconst 0, 1) := by decide +kernel
theorem dX8_next_6 : decode cX8_next 6 = .ok (.iaload, 1) := by decide +kernel
theorem dX8_next_7 : decode cX8_next 7 = .ok (.irem, 1) := by decide +kernel
theorem dX8_next_8 : decode cX8_next 8 = .ok (.istore_n 3, 1) := by decide +kernel
theorem dX8_next_9 : decode cX8_next 9 = .ok (.iload_n 1, 1) := by decide +kernel
theorem dX8_next_10 : decode cX8_next 10 = .ok (.aload_n 0, 1) := by decide +kernel
theorem dX8_next_11 : decode cX8_next 11 = .ok (.getfield 13, 3) := by decide +kernel
theorem dX8_next_14 : decode cX8_next 14 = .ok (.iconst 0, 1) := by decide +kernel
theorem dX8_next_15 : decode cX8_next 15 = .ok (.iaload, 1) := by decide +kernel
theorem dX8_next_16 : decode cX8_next 16 = .ok (.idiv, 1) := by decide +kernel
theorem dX8_next_17 : decode cX8_next 17 = .ok (.istore 4, 2) := by decide +kernel
theorem dX8_next_19 : decode cX8_next 19 = .ok (.iload_n 2, 1) := by decide +kernel
theorem dX8_next_20 : decode cX8_next 20 = .ok (.iconst 1, 1) := by decide +kernel
theorem dX8_next_21 : decode cX8_next 21 = .ok (.if_icmp .ne 9, 3) := by decide +kernel
theorem dX8_next_24 : decode cX8_next 24 = .ok (.iload_n 3, 1) := by decide +kernel
theorem dX8_next_25 : decode cX8_next 25 = .ok (.iconst 1, 1) := by decide +kernel
theorem dX8_next_26 : decode cX8_next 26 = .ok (.iadd, 1) := by decide +kernel
theorem dX8_next_27 : decode cX8_next 27 = .ok (.goto 15, 3) := by decide +kernel
theorem dX8_next_30 : decode cX8_next 30 = .ok (.iload_n 2, 1) := by decide +kernel
theorem dX8_next_31 : decode cX8_next 31 = .ok (.iconst 3, 1) := by decide +kernel
theorem dX8_next_32 : decode cX8_next 32 = .ok (.if_icmp .ne 9, 3) := by decide +kernel
theorem dX8_next_35 : decode cX8_next 35 = .ok (.iload_n 3, 1) := by decide +kernel
theorem dX8_next_36 : decode cX8_next 36 = .ok (.iconst 1, 1) := by decide +kernel
theorem dX8_next_37 : decode cX8_next 37 = .ok (.isub, 1) := by decide +kernel
theorem dX8_next_38 : decode cX8_next 38 = .ok (.goto 4, 3) := by decide +kernel
theorem dX8_next_41 : decode cX8_next 41 = .ok (.iload_n 3, 1) := by decide +kernel
theorem dX8_next_42 : decode cX8_next 42 = .ok (.istore 5, 2) := by decide +kernel
theorem dX8_next_44 : decode cX8_next 44 = .ok (.iload_n 2, 1) := by decide +kernel
theorem dX8_next_45 : decode cX8_next 45 = .ok (.ifCond .ne 10, 3) := by decide +kernel
theorem dX8_next_48 : decode cX8_next 48 = .ok (.iload 4, 2) := by decide +kernel
theorem dX8_next_50 : decode cX8_next 50 = .ok (.iconst 1, 1) := by decide +kernel
theorem dX8_next_51 : decode cX8_next 51 = .ok (.isub, 1) := by decide +kernel
theorem dX8_next_52 : decode cX8_next 52 = .ok (.goto 17, 3) := by decide +kernel
theorem dX8_next_55 : decode cX8_next 55 = .ok (.iload_n 2, 1) := by decide +kernel
theorem dX8_next_56 : decode cX8_next 56 = .ok (.iconst 2, 1) := by decide +kernel
theorem dX8_next_57 : decode cX8_next 57 = .ok (.if_icmp .ne 10, 3) := by decide +kernel
theorem dX8_next_60 : decode cX8_next 60 = .ok (.iload 4, 2) := by decide +kernel
theorem dX8_next_62 : decode cX8_next 62 = .ok (.iconst 1, 1) := by decide +kernel
theorem dX8_next_63 : decode cX8_next 63 = .ok (.iadd, 1) := by decide +kernel
theorem dX8_next_64 : decode cX8_next 64 = .ok (.goto 5, 3) := by decide +kernel
theorem dX8_next_67 : decode cX8_next 67 = .ok (.iload 4, 2) := by decide +kernel
theorem dX8_next_69 : decode cX8_next 69 = .ok (.istore 6, 2) := by decide +kernel
theorem dX8_next_71 : decode cX8_next 71 = .ok (.iload 5, 2) := by decide +kernel
theorem dX8_next_73 : decode cX8_next 73 = .ok (.i2l, 1) := by decide +kernel
theorem dX8_next_74 : decode cX8_next 74 = .ok (.lconst 0, 1) := by decide +kernel
theorem dX8_next_75 : decode cX8_next 75 = .ok (.aload_n 0, 1) := by decide +kernel
theorem dX8_next_76 : decode cX8_next 76 = .ok (.getfield 13, 3) := by decide +kernel
theorem dX8_next_79 : decode cX8_next 79 = .ok (.iconst 0, 1) := by decide +kernel
theorem dX8_next_80 : decode cX8_next 80 = .ok (.iaload, 1) := by decide +kernel
theorem dX8_next_81 : decode cX8_next 81 = .ok (.iconst 1, 1) := by decide +kernel
theorem dX8_next_82 : decode cX8_next 82 = .ok (.isub, 1) := by decide +kernel
theorem dX8_next_83 : decode cX8_next 83 = .ok (.i2l, 1) := by decide +kernel
theorem dX8_next_84 : decode cX8_next 84 = .ok (.invokestatic 61, 3) := by decide +kernel
theorem dX8_next_87 : decode cX8_next 87 = .ok (.ifCond .eq 37, 3) := by decide +kernel
theorem dX8_next_90 : decode cX8_next 90 = .ok (.iload 6, 2) := by decide +kernel
theorem dX8_next_92 : decode cX8_next 92 = .ok (.i2l, 1) := by decide +kernel
theorem dX8_next_93 : decode cX8_next 93 = .ok (.lconst 0, 1) := by decide +kernel
theorem dX8_next_94 : decode cX8_next 94 = .ok (.aload_n 0, 1) := by decide +kernel
theorem dX8_next_95 : decode cX8_next 95 = .ok (.getfield 13, 3) := by decide +kernel
theorem dX8_next_98 : decode cX8_next 98 = .ok (.iconst 1, 1) := by decide +kernel
theorem dX8_next_99 : decode cX8_next 99 = .ok (.iaload, 1) := by decide +kernel
theorem dX8_next_100 : decode cX8_next 100 = .ok (.iconst 1, 1) := by decide +kernel
theorem dX8_next_101 : decode cX8_next 101 = .ok (.isub, 1) := by decide +kernel
theorem dX8_next_102 : decode cX8_next 102 = .ok (.i2l, 1) := by decide +kernel
theorem dX8_next_103 : decode cX8_next 103 = .ok (.invokestatic 61, 3) := by decide +kernel
theorem dX8_next_106 : decode cX8_next 106 = .ok (.ifCond .eq 18, 3) := by decide +kernel
theorem dX8_next_109 : decode cX8_next 109 = .ok (.aload_n 0, 1) := by decide +kernel
theorem dX8_next_110 : decode cX8_next 110 = .ok (.getfield 13, 3) := by decide +kernel
theorem dX8_next_113 : decode cX8_next 113 = .ok (.iconst 0, 1) := by decide +kernel
theorem dX8_next_114 : decode cX8_next 114 = .ok (.iaload, 1) := by decide +kernel
theorem dX8_next_115 : decode cX8_next 115 = .ok (.iload 6, 2) := by decide +kernel
theorem dX8_next_117 : decode cX8_next 117 = .ok (.imul, 1) := by decide +kernel
theorem dX8_next_118 : decode cX8_next 118 = .ok (.iload 5, 2) := by decide +kernel
theorem dX8_next_120 : decode cX8_next 120 = .ok (.iadd, 1) := by decide +kernel
theorem dX8_next_121 : decode cX8_next 121 = .ok (.goto 4, 3) := by decide +kernel
theorem dX8_next_124 : decode cX8_next 124 = .ok (.iconst (-1), 1) := by decide +kernel
theorem dX8_next_125 : decode cX8_next 125 = .ok (.ireturn, 1) := by decide +kernel
set_option maxRecDepth 20000 in
theorem ggX8_pull_X8_next : GoodIn wsX8_pull wsX8_next := goodIn_r _ [7, 2, 8, 9, 6, 10, 11, 12, 13, 14, 15, 16, 17, 18, 19, 20, 21, 22, 23, 24, 25, 26, 27, 28, 29, 30, 31, 32, 33, 34, 35, 36, 37, 38, 39, 40, 41] (by decide +kernel) (by decide +kernel)
set_option maxRecDepth 20000 in
theorem gX8_pull_X8_next : GoodIn wsX8_pull (wsV RX8 147 RX8 yX8_next wsX8_next) := goodIn_app (goodIn_of _ (by decide +kernel)) ggX8_pull_X8_next
theorem dX8_pull_0 : decode cX8_pull 0 = .ok (.bipush (-4), 2) := by decide +kernel
theorem dX8_pull_2 : decode cX8_pull 2 = .ok (.aload_n 0, 1) := by decide +kernel
theorem dX8_pull_3 : decode cX8_pull 3 = .ok (.getfield 31, 3) := by decide +kernel
theorem dX8_pull_6 : decode cX8_pull 6 = .ok (.iload_n 1, 1) := by decide +kernel
theorem dX8_pull_7 : decode cX8_pull 7 = .ok (.iaload, 1) := by decide +kernel
theorem dX8_pull_8 : decode cX8_pull 8 = .ok (.imul, 1) := by decide +kernel
theorem dX8_pull_9 : decode cX8_pull 9 = .ok (.istore_n 2, 1) := by decide +kernel
theorem dX8_pull_10 : decode cX8_pull 10 = .ok (.iconst 0, 1) := by decide +kernel
theorem dX8_pull_11 : decode cX8_pull 11 = .ok (.istore_n 3, 1) := by decide +kernel
theorem dX8_pull_12 : decode cX8_pull 12 = .ok (.iload_n 3, 1) := by decide +kernel
theorem dX8_pull_13 : decode cX8_pull 13 = .ok (.iconst 4, 1) := by decide +kernel
theorem dX8_pull_14 : decode cX8_pull 14 = .ok (.if_icmp .ge 55, 3) := by decide +kernel
theorem dX8_pull_17 : decode cX8_pull 17 = .ok (.aload_n 0, 1) := by decide +kernel
theorem dX8_pull_18 : decode cX8_pull 18 = .ok (.iload_n 1, 1) := by decide +kernel
theorem dX8_pull_19 : decode cX8_pull 19 = .ok (.iload_n 3, 1) := by decide +kernel
theorem dX8_pull_20 : decode cX8_pull 20 = .ok (.invokevirtual 147, 3) := by decide +kernel
theorem dX8_pull_23 : decode cX8_pull 23 = .ok (.istore 4, 2) := by decide +kernel
theorem dX8_pull_25 : decode cX8_pull 25 = .ok (.iload_n 2, 1) := by decide +kernel
theorem dX8_pull_26 : decode cX8_pull 26 = .ok (.iload 4, 2) := by decide +kernel
theorem dX8_pull_28 : decode cX8_pull 28 = .ok (.ifCond .lt 13, 3) := by decide +kernel
theorem dX8_pull_31 : decode cX8_pull 31 = .ok (.aload_n 0, 1) := by decide +kernel
theorem dX8_pull_32 : decode cX8_pull 32 = .ok (.getfield 31, 3) := by decide +kernel
theorem dX8_pull_35 : decode cX8_pull 35 = .ok (.iload 4, 2) := by decide +kernel
theorem dX8_pull_37 : decode cX8_pull 37 = .ok (.iaload, 1) := by decide +kernel
theorem dX8_pull_38 : decode cX8_pull 38 = .ok (.goto 23, 3) := by decide +kernel
theorem dX8_pull_41 : decode cX8_pull 41 = .ok (.aload_n 0, 1) := by decide +kernel
theorem dX8_pull_42 : decode cX8_pull 42 = .ok (.getfield 13, 3) := by decide +kernel
theorem dX8_pull_45 : decode cX8_pull 45 = .ok (.iconst 2, 1) := by decide +kernel
theorem dX8_pull_46 : decode cX8_pull 46 = .ok (.iaload, 1) := by decide +kernel
theorem dX8_pull_47 : decode cX8_pull 47 = .ok (.iconst 1, 1) := by decide +kernel
theorem dX8_pull_48 : decode cX8_pull 48 = .ok (.if_icmp .ne 12, 3) := by decide +kernel
theorem dX8_pull_51 : decode cX8_pull 51 = .ok (.aload_n 0, 1) := by decide +kernel
theorem dX8_pull_52 : decode cX8_pull 52 = .ok (.getfield 31, 3) := by decide +kernel
theorem dX8_pull_55 : decode cX8_pull 55 = .ok (.iload_n 1, 1) := by decide +kernel
theorem dX8_pull_56 : decode cX8_pull 56 = .ok (.iaload, 1) := by decide +kernel
theorem dX8_pull_57 : decode cX8_pull 57 = .ok (.goto 4, 3) := by decide +kernel
theorem dX8_pull_60 : decode cX8_pull 60 = .ok (.iconst 0, 1) := by decide +kernel
theorem dX8_pull_61 : decode cX8_pull 61 = .ok (.iadd, 1) := by decide +kernel
theorem dX8_pull_62 : decode cX8_pull 62 = .ok (.istore_n 2, 1) := by decide +kernel
theorem dX8_pull_63 : decode cX8_pull 63 = .ok (.iinc 3 1, 3) := by decide +kernel
theorem dX8_pull_66 : decode cX8_pull 66 = .ok (.goto (-54), 3) := by decide +kernel
theorem dX8_pull_69 : decode cX8_pull 69 = .ok (.iload_n 2, 1) := by decide +kernel
theorem dX8_pull_70 : decode cX8_pull 70 = .ok (.ireturn, 1) := by decide +kernel
theorem dX8_rests_0 : decode cX8_rests 0 = .ok (.iconst 0, 1) := by decide +kernel
theorem dX8_rests_1 : decode cX8_rests 1 = .ok (.istore_n 1, 1) := by decide +kernel
theorem dX8_rests_2 : decode cX8_rests 2 = .ok (.iload_n 1, 1) := by decide +kernel
theorem dX8_rests_3 : decode cX8_rests 3 = .ok (.bipush 36, 2) := by decide +kernel
theorem dX8_rests_5 : decode cX8_rests 5 = .ok (.if_icmp .ge 23, 3) := by decide +kernel
theorem dX8_rests_8 : decode cX8_rests 8 = .ok (.aload_n 0, 1) := by decide +kernel
theorem dX8_rests_9 : decode cX8_rests 9 = .ok (.getfield 31, 3) := by decide +kernel
theorem dX8_rests_12 : decode cX8_rests 12 = .ok (.iload_n 1, 1) := by decide +kernel
theorem dX8_rests_13 : decode cX8_rests 13 = .ok (.iconst 0, 1) := by decide +kernel
theorem dX8_rests_14 : decode cX8_rests 14 = .ok (.iastore, 1) := by decide +kernel
theorem dX8_rests_15 : decode cX8_rests 15 = .ok (.aload_n 0, 1) := by decide +kernel
theorem dX8_rests_16 : decode cX8_rests 16 = .ok (.getfield 34, 3) := by decide +kernel
theorem dX8_rests_19 : decode cX8_rests 19 = .ok (.iload_n 1, 1) := by decide +kernel
theorem dX8_rests_20 : decode cX8_rests 20 = .ok (.iconst 0, 1) := by decide +kernel
theorem dX8_rests_21 : decode cX8_rests 21 = .ok (.iastore, 1) := by decide +kernel
theorem dX8_rests_22 : decode cX8_rests 22 = .ok (.iinc 1 1, 3) := by decide +kernel
theorem dX8_rests_25 : decode cX8_rests 25 = .ok (.goto (-23), 3) := by decide +kernel
theorem dX8_rests_28 : decode cX8_rests 28 = .ok (.return_, 1) := by decide +kernel
set_option maxRecDepth 20000 in
theorem ggX8_step_X8_cells : GoodIn wsX8_step wsX8_cells := goodIn_r _ [8, 2, 20, 21, 22, 23, 24, 25, 26, 27, 28, 29, 30, 31, 32, 33, 34, 35, 36, 37, 38, 39, 40, 41, 42, 43, 44, 45, 46, 47, 48, 49, 50] (by decide +kernel) (by decide +kernel)
set_option maxRecDepth 20000 in
theorem gX8_step_X8_cells : GoodIn wsX8_step (wsV RX8 151 RX8 yX8_cells wsX8_cells) := goodIn_app (goodIn_of _ (by decide +kernel)) ggX8_step_X8_cells
set_option maxRecDepth 20000 in
theorem ggX8_step_X8_pull : GoodIn wsX8_step wsX8_pull := goodIn_r _ [12, 3, 2, 13, 14, 15, 7, 16, 17, 18, 19, 20, 21, 22, 23, 24, 25, 26, 27, 28, 29, 30, 31, 32, 33, 34, 35, 36, 37, 38, 39, 40, 41, 42, 43, 44, 45, 46, 47, 48, 49, 50] (by decide +kernel) (by decide +kernel)
set_option maxRecDepth 20000 in
theorem gX8_step_X8_pull : GoodIn wsX8_step (wsV RX8 154 RX8 yX8_pull wsX8_pull) := goodIn_app (goodIn_of _ (by decide +kernel)) ggX8_step_X8_pull
theorem dX8_step_0 : decode cX8_step 0 = .ok (.iconst 0, 1) := by decide +kernel
theorem dX8_step_1 : decode cX8_step 1 = .ok (.istore_n 3, 1) := by decide +kernel
theorem dX8_step_2 : decode cX8_step 2 = .ok (.iload_n 3, 1) := by decide +kernel
theorem dX8_step_3 : decode cX8_step 3 = .ok (.aload_n 0, 1) := by decide +kernel
theorem dX8_step_4 : decode cX8_step 4 = .ok (.invokevirtual 151, 3) := by decide +kernel
theorem dX8_step_7 : decode cX8_step 7 = .ok (.if_icmp .ge 100, 3) := by decide +kernel
theorem dX8_step_10 : decode cX8_step 10 = .ok (.aload_n 0, 1) := by decide +kernel
theorem dX8_step_11 : decode cX8_step 11 = .ok (.getfield 34, 3) := by decide +kernel
theorem dX8_step_14 : decode cX8_step 14 = .ok (.iload_n 3, 1) := by decide +kernel
theorem dX8_step_15 : decode cX8_step 15 = .ok (.iaload, 1) := by decide +kernel
theorem dX8_step_16 : decode cX8_step 16 = .ok (.aload_n 0, 1) := by decide +kernel
theorem dX8_step_17 : decode cX8_step 17 = .ok (.getfield 13, 3) := by decide +kernel
theorem dX8_step_20 : decode cX8_step 20 = .ok (.iconst 3, 1) := by decide +kernel
theorem dX8_step_21 : decode cX8_step 21 = .ok (.iaload, 1) := by decide +kernel
theorem dX8_step_22 : decode cX8_step 22 = .ok (.aload_n 0, 1) := by decide +kernel
theorem dX8_step_23 : decode cX8_step 23 = .ok (.iload_n 3, 1) := by decide +kernel
theorem dX8_step_24 : decode cX8_step 24 = .ok (.invokevirtual 154, 3) := by decide +kernel
theorem dX8_step_27 : decode cX8_step 27 = .ok (.imul, 1) := by decide +kernel
theorem dX8_step_28 : decode cX8_step 28 = .ok (.bipush 16, 2) := by decide +kernel
theorem dX8_step_30 : decode cX8_step 30 = .ok (.idiv, 1) := by decide +kernel
theorem dX8_step_31 : decode cX8_step 31 = .ok (.iadd, 1) := by decide +kernel
theorem dX8_step_32 : decode cX8_step 32 = .ok (.istore 4, 2) := by decide +kernel
theorem dX8_step_34 : decode cX8_step 34 = .ok (.iload_n 1, 1) := by decide +kernel
theorem dX8_step_35 : decode cX8_step 35 = .ok (.iload_n 2, 1) := by decide +kernel
theorem dX8_step_36 : decode cX8_step 36 = .ok (.irem, 1) := by decide +kernel
theorem dX8_step_37 : decode cX8_step 37 = .ok (.iload_n 2, 1) := by decide +kernel
theorem dX8_step_38 : decode cX8_step 38 = .ok (.iconst 2, 1) := by decide +kernel
theorem dX8_step_39 : decode cX8_step 39 = .ok (.idiv, 1) := by decide +kernel
theorem dX8_step_40 : decode cX8_step 40 = .ok (.if_icmp .ge 12, 3) := by decide +kernel
theorem dX8_step_43 : decode cX8_step 43 = .ok (.aload_n 0, 1) := by decide +kernel
theorem dX8_step_44 : decode cX8_step 44 = .ok (.getfield 13, 3) := by decide +kernel
theorem dX8_step_47 : decode cX8_step 47 = .ok (.iconst 5, 1) := by decide +kernel
theorem dX8_step_48 : decode cX8_step 48 = .ok (.iaload, 1) := by decide +kernel
theorem dX8_step_49 : decode cX8_step 49 = .ok (.goto 10, 3) := by decide +kernel
theorem dX8_step_52 : decode cX8_step 52 = .ok (.aload_n 0, 1) := by decide +kernel
theorem dX8_step_53 : decode cX8_step 53 = .ok (.getfield 13, 3) := by decide +kernel
theorem dX8_step_56 : decode cX8_step 56 = .ok (.iconst 5, 1) := by decide +kernel
theorem dX8_step_57 : decode cX8_step 57 = .ok (.iaload, 1) := by decide +kernel
theorem dX8_step_58 : decode cX8_step 58 = .ok (.ineg, 1) := by decide +kernel
