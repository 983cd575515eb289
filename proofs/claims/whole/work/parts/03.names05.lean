theorem dX6_isWeight_5 : decode cX6_isWeight 5 = .ok (.sipush 1000, 3) := by decide +kernel
theorem dX6_isWeight_8 : decode cX6_isWeight 8 = .ok (.if_icmp .gt 7, 3) := by decide +kernel
theorem dX6_isWeight_11 : decode cX6_isWeight 11 = .ok (.iconst 1, 1) := by decide +kernel
theorem dX6_isWeight_12 : decode cX6_isWeight 12 = .ok (.goto 4, 3) := by decide +kernel
theorem dX6_isWeight_15 : decode cX6_isWeight 15 = .ok (.iconst 0, 1) := by decide +kernel
theorem dX6_isWeight_16 : decode cX6_isWeight 16 = .ok (.ireturn, 1) := by decide +kernel
theorem dX6_contains_0 : decode cX6_contains 0 = .ok (.iload_n 0, 1) := by decide +kernel
theorem dX6_contains_1 : decode cX6_contains 1 = .ok (.iload_n 1, 1) := by decide +kernel
theorem dX6_contains_2 : decode cX6_contains 2 = .ok (.ishr, 1) := by decide +kernel
theorem dX6_contains_3 : decode cX6_contains 3 = .ok (.iconst 1, 1) := by decide +kernel
theorem dX6_contains_4 : decode cX6_contains 4 = .ok (.iand, 1) := by decide +kernel
theorem dX6_contains_5 : decode cX6_contains 5 = .ok (.ifCond .eq 7, 3) := by decide +kernel
theorem dX6_contains_8 : decode cX6_contains 8 = .ok (.iconst 1, 1) := by decide +kernel
theorem dX6_contains_9 : decode cX6_contains 9 = .ok (.goto 4, 3) := by decide +kernel
theorem dX6_contains_12 : decode cX6_contains 12 = .ok (.iconst 0, 1) := by decide +kernel
theorem dX6_contains_13 : decode cX6_contains 13 = .ok (.ireturn, 1) := by decide +kernel
set_option maxRecDepth 20000 in
theorem ggX6_sumOver_X6_contains : GoodIn wsX6_sumOver wsX6_contains := goodIn_r _ [4] (by decide +kernel) (by decide +kernel)
set_option maxRecDepth 20000 in
theorem gX6_sumOver_X6_contains : GoodIn wsX6_sumOver (va_wsS RX6 148 yX6_contains wsX6_contains) := goodIn_app (goodIn_of _ (by decide +kernel)) ggX6_sumOver_X6_contains
theorem dX6_sumOver_0 : decode cX6_sumOver 0 = .ok (.iconst 0, 1) := by decide +kernel
theorem dX6_sumOver_1 : decode cX6_sumOver 1 = .ok (.istore_n 2, 1) := by decide +kernel
theorem dX6_sumOver_2 : decode cX6_sumOver 2 = .ok (.iconst 0, 1) := by decide +kernel
theorem dX6_sumOver_3 : decode cX6_sumOver 3 = .ok (.istore_n 3, 1) := by decide +kernel
theorem dX6_sumOver_4 : decode cX6_sumOver 4 = .ok (.iload_n 3, 1) := by decide +kernel
theorem dX6_sumOver_5 : decode cX6_sumOver 5 = .ok (.bipush 16, 2) := by decide +kernel
theorem dX6_sumOver_7 : decode cX6_sumOver 7 = .ok (.if_icmp .ge 23, 3) := by decide +kernel
theorem dX6_sumOver_10 : decode cX6_sumOver 10 = .ok (.iload_n 1, 1) := by decide +kernel
theorem dX6_sumOver_11 : decode cX6_sumOver 11 = .ok (.iload_n 3, 1) := by decide +kernel
theorem dX6_sumOver_12 : decode cX6_sumOver 12 = .ok (.invokestatic 148, 3) := by decide +kernel
theorem dX6_sumOver_15 : decode cX6_sumOver 15 = .ok (.ifCond .eq 9, 3) := by decide +kernel
theorem dX6_sumOver_18 : decode cX6_sumOver 18 = .ok (.iload_n 2, 1) := by decide +kernel
theorem dX6_sumOver_19 : decode cX6_sumOver 19 = .ok (.aload_n 0, 1) := by decide +kernel
theorem dX6_sumOver_20 : decode cX6_sumOver 20 = .ok (.iload_n 3, 1) := by decide +kernel
theorem dX6_sumOver_21 : decode cX6_sumOver 21 = .ok (.iaload, 1) := by decide +kernel
theorem dX6_sumOver_22 : decode cX6_sumOver 22 = .ok (.iadd, 1) := by decide +kernel
theorem dX6_sumOver_23 : decode cX6_sumOver 23 = .ok (.istore_n 2, 1) := by decide +kernel
theorem dX6_sumOver_24 : decode cX6_sumOver 24 = .ok (.iinc 3 1, 3) := by decide +kernel
theorem dX6_sumOver_27 : decode cX6_sumOver 27 = .ok (.goto (-23), 3) := by decide +kernel
theorem dX6_sumOver_30 : decode cX6_sumOver 30 = .ok (.iload_n 2, 1) := by decide +kernel
theorem dX6_sumOver_31 : decode cX6_sumOver 31 = .ok (.ireturn, 1) := by decide +kernel
set_option maxRecDepth 20000 in
theorem ggX6_isWhole_X6_isStrong : GoodIn wsX6_isWhole wsX6_isStrong := goodIn_r _ [6, 7, 8, 9, 10, 11, 12, 13, 14, 15, 16, 17, 18, 19, 20, 21, 5, 22, 23, 24, 25, 26, 27, 28, 29, 30, 31, 32, 33, 34, 35, 36, 37, 38, 39, 40, 41, 42, 43, 44, 45, 46, 47, 48, 49, 50, 51] (by decide +kernel) (by decide +kernel)
set_option maxRecDepth 20000 in
theorem gX6_isWhole_X6_isStrong : GoodIn wsX6_isWhole (wsV RX6 127 RX6 yX6_isStrong wsX6_isStrong) := goodIn_app (goodIn_of _ (by decide +kernel)) ggX6_isWhole_X6_isStrong
theorem dX6_isWhole_0 : decode cX6_isWhole 0 = .ok (.aload_n 0, 1) := by decide +kernel
theorem dX6_isWhole_1 : decode cX6_isWhole 1 = .ok (.ldc 112, 2) := by decide +kernel
theorem dX6_isWhole_3 : decode cX6_isWhole 3 = .ok (.invokevirtual 127, 3) := by decide +kernel
theorem dX6_isWhole_6 : decode cX6_isWhole 6 = .ok (.ireturn, 1) := by decide +kernel
theorem dX6_imagesMade_0 : decode cX6_imagesMade 0 = .ok (.iconst 0, 1) := by decide +kernel
theorem dX6_imagesMade_1 : decode cX6_imagesMade 1 = .ok (.istore_n 1, 1) := by decide +kernel
theorem dX6_imagesMade_2 : decode cX6_imagesMade 2 = .ok (.iconst 0, 1) := by decide +kernel
theorem dX6_imagesMade_3 : decode cX6_imagesMade 3 = .ok (.istore_n 2, 1) := by decide +kernel
theorem dX6_imagesMade_4 : decode cX6_imagesMade 4 = .ok (.iload_n 2, 1) := by decide +kernel
theorem dX6_imagesMade_5 : decode cX6_imagesMade 5 = .ok (.iconst 4, 1) := by decide +kernel
theorem dX6_imagesMade_6 : decode cX6_imagesMade 6 = .ok (.if_icmp .ge 21, 3) := by decide +kernel
theorem dX6_imagesMade_9 : decode cX6_imagesMade 9 = .ok (.aload_n 0, 1) := by decide +kernel
theorem dX6_imagesMade_10 : decode cX6_imagesMade 10 = .ok (.getfield 16, 3) := by decide +kernel
theorem dX6_imagesMade_13 : decode cX6_imagesMade 13 = .ok (.iload_n 2, 1) := by decide +kernel
theorem dX6_imagesMade_14 : decode cX6_imagesMade 14 = .ok (.aaload, 1) := by decide +kernel
theorem dX6_imagesMade_15 : decode cX6_imagesMade 15 = .ok (.ifnull 6, 3) := by decide +kernel
theorem dX6_imagesMade_18 : decode cX6_imagesMade 18 = .ok (.iinc 1 1, 3) := by decide +kernel
theorem dX6_imagesMade_21 : decode cX6_imagesMade 21 = .ok (.iinc 2 1, 3) := by decide +kernel
theorem dX6_imagesMade_24 : decode cX6_imagesMade 24 = .ok (.goto (-20), 3) := by decide +kernel
theorem dX6_imagesMade_27 : decode cX6_imagesMade 27 = .ok (.iload_n 1, 1) := by decide +kernel
theorem dX6_imagesMade_28 : decode cX6_imagesMade 28 = .ok (.ireturn, 1) := by decide +kernel
set_option maxRecDepth 20000 in
theorem ggX6_prepareSearch_X5_find : GoodIn wsX6_prepareSearch wsX5_find := goodIn_r _ [9, 10, 11, 12, 13, 14, 15, 16, 17, 8, 18, 19, 20, 21, 22, 23, 24, 25, 26, 27, 28, 29, 30, 31, 32, 33, 34, 35, 36, 37, 38, 39, 40, 62, 63, 64, 65, 66, 67, 68, 69, 70, 71] (by decide +kernel) (by decide +kernel)
set_option maxRecDepth 20000 in
theorem gX6_prepareSearch_X5_find : GoodIn wsX6_prepareSearch (wsV RX6 130 RX5 yX5_find wsX5_find) := goodIn_app (goodIn_of _ (by decide +kernel)) ggX6_prepareSearch_X5_find
set_option maxRecDepth 20000 in
theorem ggX6_prepareSearch_X4_takeBorders : GoodIn wsX6_prepareSearch wsX4_takeBorders := goodIn_r _ [45, 46, 47, 48, 49, 50, 51, 44, 52, 53, 72, 73, 74, 75, 76, 77, 78, 79, 80, 81, 62, 63, 64, 65, 66] (by decide +kernel) (by decide +kernel)
set_option maxRecDepth 20000 in
theorem gX6_prepareSearch_X4_takeBorders : GoodIn wsX6_prepareSearch (wsV RX6 224 RX4 yX4_takeBorders wsX4_takeBorders) := goodIn_app (goodIn_of _ (by decide +kernel)) ggX6_prepareSearch_X4_takeBorders
theorem dX6_prepareSearch_0 : decode cX6_prepareSearch 0 = .ok (.aload_n 0, 1) := by decide +kernel
theorem dX6_prepareSearch_1 : decode cX6_prepareSearch 1 = .ok (.getfield 30, 3) := by decide +kernel
theorem dX6_prepareSearch_4 : decode cX6_prepareSearch 4 = .ok (.aload_n 0, 1) := by decide +kernel
theorem dX6_prepareSearch_5 : decode cX6_prepareSearch 5 = .ok (.getfield 10, 3) := by decide +kernel
theorem dX6_prepareSearch_8 : decode cX6_prepareSearch 8 = .ok (.getfield 41, 3) := by decide +kernel
theorem dX6_prepareSearch_11 : decode cX6_prepareSearch 11 = .ok (.invokevirtual 130, 3) := by decide +kernel
theorem dX6_prepareSearch_14 : decode cX6_prepareSearch 14 = .ok (.aload_n 0, 1) := by decide +kernel
theorem dX6_prepareSearch_15 : decode cX6_prepareSearch 15 = .ok (.getfield 37, 3) := by decide +kernel
theorem dX6_prepareSearch_18 : decode cX6_prepareSearch 18 = .ok (.aload_n 0, 1) := by decide +kernel
theorem dX6_prepareSearch_19 : decode cX6_prepareSearch 19 = .ok (.getfield 30, 3) := by decide +kernel
theorem dX6_prepareSearch_22 : decode cX6_prepareSearch 22 = .ok (.invokevirtual 224, 3) := by decide +kernel
theorem dX6_prepareSearch_25 : decode cX6_prepareSearch 25 = .ok (.return_, 1) := by decide +kernel
theorem dX7_init_0 : decode cX7_init 0 = .ok (.aload_n 0, 1) := by decide +kernel
theorem dX7_init_1 : decode cX7_init 1 = .ok (.invokespecial 1, 3) := by decide +kernel
theorem dX7_init_4 : decode cX7_init 4 = .ok (.aload_n 0, 1) := by decide +kernel
theorem dX7_init_5 : decode cX7_init 5 = .ok (.iconst 1, 1) := by decide +kernel
theorem dX7_init_6 : decode cX7_init 6 = .ok (.putfield 7, 3) := by decide +kernel
theorem dX7_init_9 : decode cX7_init 9 = .ok (.aload_n 0, 1) := by decide +kernel
theorem dX7_init_10 : decode cX7_init 10 = .ok (.bipush 16, 2) := by decide +kernel
theorem dX7_init_12 : decode cX7_init 12 = .ok (.newarray .int, 2) := by decide +kernel
theorem dX7_init_14 : decode cX7_init 14 = .ok (.putfield 13, 3) := by decide +kernel
theorem dX7_init_17 : decode cX7_init 17 = .ok (.aload_n 0, 1) := by decide +kernel
theorem dX7_init_18 : decode cX7_init 18 = .ok (.bipush 16, 2) := by decide +kernel
theorem dX7_init_20 : decode cX7_init 20 = .ok (.newarray .int, 2) := by decide +kernel
theorem dX7_init_22 : decode cX7_init 22 = .ok (.putfield 17, 3) := by decide +kernel
theorem dX7_init_25 : decode cX7_init 25 = .ok (.aload_n 0, 1) := by decide +kernel
theorem dX7_init_26 : decode cX7_init 26 = .ok (.bipush 16, 2) := by decide +kernel
theorem dX7_init_28 : decode cX7_init 28 = .ok (.newarray .int, 2) := by decide +kernel
theorem dX7_init_30 : decode cX7_init 30 = .ok (.putfield 20, 3) := by decide +kernel
theorem dX7_init_33 : decode cX7_init 33 = .ok (.aload_n 0, 1) := by decide +kernel
theorem dX7_init_34 : decode cX7_init 34 = .ok (.bipush 16, 2) := by decide +kernel
theorem dX7_init_36 : decode cX7_init 36 = .ok (.newarray .int, 2) := by decide +kernel
theorem dX7_init_38 : decode cX7_init 38 = .ok (.putfield 23, 3) := by decide +kernel
theorem dX7_init_41 : decode cX7_init 41 = .ok (.aload_n 0, 1) := by decide +kernel
theorem dX7_init_42 : decode cX7_init 42 = .ok (.sipush 256, 3) := by decide +kernel
theorem dX7_init_45 : decode cX7_init 45 = .ok (.newarray .int, 2) := by decide +kernel
theorem dX7_init_47 : decode cX7_init 47 = .ok (.putfield 26, 3) := by decide +kernel
theorem dX7_init_50 : decode cX7_init 50 = .ok (.aload_n 0, 1) := by decide +kernel
theorem dX7_init_51 : decode cX7_init 51 = .ok (.iconst 4, 1) := by decide +kernel
theorem dX7_init_52 : decode cX7_init 52 = .ok (.newarray .boolean, 2) := by decide +kernel
theorem dX7_init_54 : decode cX7_init 54 = .ok (.putfield 29, 3) := by decide +kernel
theorem dX7_init_57 : decode cX7_init 57 = .ok (.aload_n 0, 1) := by decide +kernel
theorem dX7_init_58 : decode cX7_init 58 = .ok (.iconst 4, 1) := by decide +kernel
theorem dX7_init_59 : decode cX7_init 59 = .ok (.newarray .int, 2) := by decide +kernel
theorem dX7_init_61 : decode cX7_init 61 = .ok (.putfield 33, 3) := by decide +kernel
theorem dX7_init_64 : decode cX7_init 64 = .ok (.aload_n 0, 1) := by decide +kernel
theorem dX7_init_65 : decode cX7_init 65 = .ok (.iconst 4, 1) := by decide +kernel
theorem dX7_init_66 : decode cX7_init 66 = .ok (.newarray .int, 2) := by decide +kernel
theorem dX7_init_68 : decode cX7_init 68 = .ok (.putfield 36, 3) := by decide +kernel
theorem dX7_init_71 : decode cX7_init 71 = .ok (.aload_n 0, 1) := by decide +kernel
theorem dX7_init_72 : decode cX7_init 72 = .ok (.bipush 64, 2) := by decide +kernel
theorem dX7_init_74 : decode cX7_init 74 = .ok (.newarray .int, 2) := by decide +kernel
theorem dX7_init_76 : decode cX7_init 76 = .ok (.putfield 39, 3) := by decide +kernel
theorem dX7_init_79 : decode cX7_init 79 = .ok (.aload_n 0, 1) := by decide +kernel
theorem dX7_init_80 : decode cX7_init 80 = .ok (.bipush 64, 2) := by decide +kernel
theorem dX7_init_82 : decode cX7_init 82 = .ok (.newarray .int, 2) := by decide +kernel
theorem dX7_init_84 : decode cX7_init 84 = .ok (.putfield 42, 3) := by decide +kernel
theorem dX7_init_87 : decode cX7_init 87 = .ok (.aload_n 0, 1) := by decide +kernel
theorem dX7_init_88 : decode cX7_init 88 = .ok (.bipush 64, 2) := by decide +kernel
theorem dX7_init_90 : decode cX7_init 90 = .ok (.newarray .int, 2) := by decide +kernel
theorem dX7_init_92 : decode cX7_init 92 = .ok (.putfield 45, 3) := by decide +kernel
theorem dX7_init_95 : decode cX7_init 95 = .ok (.aload_n 0, 1) := by decide +kernel
theorem dX7_init_96 : decode cX7_init 96 = .ok (.iconst 4, 1) := by decide +kernel
theorem dX7_init_97 : decode cX7_init 97 = .ok (.newarray .boolean, 2) := by decide +kernel
theorem dX7_init_99 : decode cX7_init 99 = .ok (.putfield 48, 3) := by decide +kernel
theorem dX7_init_102 : decode cX7_init 102 = .ok (.aload_n 0, 1) := by decide +kernel
theorem dX7_init_103 : decode cX7_init 103 = .ok (.iconst 4, 1) := by decide +kernel
theorem dX7_init_104 : decode cX7_init 104 = .ok (.newarray .int, 2) := by decide +kernel
theorem dX7_init_106 : decode cX7_init 106 = .ok (.putfield 51, 3) := by decide +kernel
theorem dX7_init_109 : decode cX7_init 109 = .ok (.aload_n 0, 1) := by decide +kernel
theorem dX7_init_110 : decode cX7_init 110 = .ok (.iconst 4, 1) := by decide +kernel
theorem dX7_init_111 : decode cX7_init 111 = .ok (.newarray .boolean, 2) := by decide +kernel
theorem dX7_init_113 : decode cX7_init 113 = .ok (.putfield 54, 3) := by decide +kernel
theorem dX7_init_116 : decode cX7_init 116 = .ok (.aload_n 0, 1) := by decide +kernel
theorem dX7_init_117 : decode cX7_init 117 = .ok (.iconst 4, 1) := by decide +kernel
theorem dX7_init_118 : decode cX7_init 118 = .ok (.newarray .int, 2) := by decide +kernel
theorem dX7_init_120 : decode cX7_init 120 = .ok (.putfield 57, 3) := by decide +kernel
theorem dX7_init_123 : decode cX7_init 123 = .ok (.aload_n 0, 1) := by decide +kernel
theorem dX7_init_124 : decode cX7_init 124 = .ok (.bipush 64, 2) := by decide +kernel
theorem dX7_init_126 : decode cX7_init 126 = .ok (.newarray .int, 2) := by decide +kernel
theorem dX7_init_128 : decode cX7_init 128 = .ok (.putfield 60, 3) := by decide +kernel
theorem dX7_init_131 : decode cX7_init 131 = .ok (.aload_n 0, 1) := by decide +kernel
theorem dX7_init_132 : decode cX7_init 132 = .ok (.sipush 1024, 3) := by decide +kernel
theorem dX7_init_135 : decode cX7_init 135 = .ok (.newarray .int, 2) := by decide +kernel
theorem dX7_init_137 : decode cX7_init 137 = .ok (.putfield 63, 3) := by decide +kernel
theorem dX7_init_140 : decode cX7_init 140 = .ok (.aload_n 0, 1) := by decide +kernel
theorem dX7_init_141 : decode cX7_init 141 = .ok (.sipush 256, 3) := by decide +kernel
theorem dX7_init_144 : decode cX7_init 144 = .ok (.newarray .int, 2) := by decide +kernel
theorem dX7_init_146 : decode cX7_init 146 = .ok (.putfield 66, 3) := by decide +kernel
theorem dX7_init_149 : decode cX7_init 149 = .ok (.aload_n 0, 1) := by decide +kernel
theorem dX7_init_150 : decode cX7_init 150 = .ok (.sipush 256, 3) := by decide +kernel
theorem dX7_init_153 : decode cX7_init 153 = .ok (.newarray .int, 2) := by decide +kernel
theorem dX7_init_155 : decode cX7_init 155 = .ok (.putfield 69, 3) := by decide +kernel
theorem dX7_init_158 : decode cX7_init 158 = .ok (.aload_n 0, 1) := by decide +kernel
theorem dX7_init_159 : decode cX7_init 159 = .ok (.ldc 72, 2) := by decide +kernel
theorem dX7_init_161 : decode cX7_init 161 = .ok (.newarray .boolean, 2) := by decide +kernel
theorem dX7_init_163 : decode cX7_init 163 = .ok (.putfield 73, 3) := by decide +kernel
theorem dX7_init_166 : decode cX7_init 166 = .ok (.aload_n 0, 1) := by decide +kernel
theorem dX7_init_167 : decode cX7_init 167 = .ok (.sipush 13000, 3) := by decide +kernel
theorem dX7_init_170 : decode cX7_init 170 = .ok (.newarray .int, 2) := by decide +kernel
theorem dX7_init_172 : decode cX7_init 172 = .ok (.putfield 76, 3) := by decide +kernel
theorem dX7_init_175 : decode cX7_init 175 = .ok (.aload_n 0, 1) := by decide +kernel
theorem dX7_init_176 : decode cX7_init 176 = .ok (.sipush 13000, 3) := by decide +kernel
theorem dX7_init_179 : decode cX7_init 179 = .ok (.newarray .int, 2) := by decide +kernel
theorem dX7_init_181 : decode cX7_init 181 = .ok (.putfield 79, 3) := by decide +kernel
theorem dX7_init_184 : decode cX7_init 184 = .ok (.aload_n 0, 1) := by decide +kernel
theorem dX7_init_185 : decode cX7_init 185 = .ok (.bipush 16, 2) := by decide +kernel
theorem dX7_init_187 : decode cX7_init 187 = .ok (.newarray .int, 2) := by decide +kernel
theorem dX7_init_189 : decode cX7_init 189 = .ok (.putfield 82, 3) := by decide +kernel
theorem dX7_init_192 : decode cX7_init 192 = .ok (.return_, 1) := by decide +kernel
theorem dX7_in_0 : decode cX7_in 0 = .ok (.iload_n 0, 1) := by decide +kernel
theorem dX7_in_1 : decode cX7_in 1 = .ok (.iload_n 1, 1) := by decide +kernel
theorem dX7_in_2 : decode cX7_in 2 = .ok (.if_icmp .lt 12, 3) := by decide +kernel
theorem dX7_in_5 : decode cX7_in 5 = .ok (.iload_n 0, 1) := by decide +kernel
theorem dX7_in_6 : decode cX7_in 6 = .ok (.iload_n 2, 1) := by decide +kernel
theorem dX7_in_7 : decode cX7_in 7 = .ok (.if_icmp .gt 7, 3) := by decide +kernel
theorem dX7_in_10 : decode cX7_in 10 = .ok (.iconst 1, 1) := by decide +kernel
theorem dX7_in_11 : decode cX7_in 11 = .ok (.goto 4, 3) := by decide +kernel
theorem dX7_in_14 : decode cX7_in 14 = .ok (.iconst 0, 1) := by decide +kernel
theorem dX7_in_15 : decode cX7_in 15 = .ok (.ireturn, 1) := by decide +kernel
theorem dX7_all_0 : decode cX7_all 0 = .ok (.iconst 1, 1) := by decide +kernel
theorem dX7_all_1 : decode cX7_all 1 = .ok (.aload_n 0, 1) := by decide +kernel
theorem dX7_all_2 : decode cX7_all 2 = .ok (.getfield 7, 3) := by decide +kernel
theorem dX7_all_5 : decode cX7_all 5 = .ok (.ishl, 1) := by decide +kernel
theorem dX7_all_6 : decode cX7_all 6 = .ok (.iconst 1, 1) := by decide +kernel
theorem dX7_all_7 : decode cX7_all 7 = .ok (.isub, 1) := by decide +kernel
theorem dX7_all_8 : decode cX7_all 8 = .ok (.ireturn, 1) := by decide +kernel
theorem dX7_ones_0 : decode cX7_ones 0 = .ok (.iconst 0, 1) := by decide +kernel
theorem dX7_ones_1 : decode cX7_ones 1 = .ok (.istore_n 1, 1) := by decide +kernel
theorem dX7_ones_2 : decode cX7_ones 2 = .ok (.iload_n 0, 1) := by decide +kernel
theorem dX7_ones_3 : decode cX7_ones 3 = .ok (.istore_n 2, 1) := by decide +kernel
theorem dX7_ones_4 : decode cX7_ones 4 = .ok (.iload_n 2, 1) := by decide +kernel
theorem dX7_ones_5 : decode cX7_ones 5 = .ok (.ifCond .eq 15, 3) := by decide +kernel
theorem dX7_ones_8 : decode cX7_ones 8 = .ok (.iinc 1 1, 3) := by decide +kernel
theorem dX7_ones_11 : decode cX7_ones 11 = .ok (.iload_n 2, 1) := by decide +kernel
theorem dX7_ones_12 : decode cX7_ones 12 = .ok (.iload_n 2, 1) := by decide +kernel
theorem dX7_ones_13 : decode cX7_ones 13 = .ok (.iconst 1, 1) := by decide +kernel
theorem dX7_ones_14 : decode cX7_ones 14 = .ok (.isub, 1) := by decide +kernel
theorem dX7_ones_15 : decode cX7_ones 15 = .ok (.iand, 1) := by decide +kernel
theorem dX7_ones_16 : decode cX7_ones 16 = .ok (.istore_n 2, 1) := by decide +kernel
theorem dX7_ones_17 : decode cX7_ones 17 = .ok (.goto (-13), 3) := by decide +kernel
theorem dX7_ones_20 : decode cX7_ones 20 = .ok (.iload_n 1, 1) := by decide +kernel
theorem dX7_ones_21 : decode cX7_ones 21 = .ok (.ireturn, 1) := by decide +kernel
theorem dX7_changed_0 : decode cX7_changed 0 = .ok (.aload_n 0, 1) := by decide +kernel
theorem dX7_changed_1 : decode cX7_changed 1 = .ok (.iconst 0, 1) := by decide +kernel
theorem dX7_changed_2 : decode cX7_changed 2 = .ok (.putfield 88, 3) := by decide +kernel
theorem dX7_changed_5 : decode cX7_changed 5 = .ok (.aload_n 0, 1) := by decide +kernel
theorem dX7_changed_6 : decode cX7_changed 6 = .ok (.iconst 0, 1) := by decide +kernel
theorem dX7_changed_7 : decode cX7_changed 7 = .ok (.putfield 92, 3) := by decide +kernel
theorem dX7_changed_10 : decode cX7_changed 10 = .ok (.return_, 1) := by decide +kernel
theorem dX7_isSide_0 : decode cX7_isSide 0 = .ok (.iconst 0, 1) := by decide +kernel
theorem dX7_isSide_1 : decode cX7_isSide 1 = .ok (.istore_n 2, 1) := by decide +kernel
theorem dX7_isSide_2 : decode cX7_isSide 2 = .ok (.iload_n 2, 1) := by decide +kernel
theorem dX7_isSide_3 : decode cX7_isSide 3 = .ok (.aload_n 0, 1) := by decide +kernel
theorem dX7_isSide_4 : decode cX7_isSide 4 = .ok (.getfield 95, 3) := by decide +kernel
theorem dX7_isSide_7 : decode cX7_isSide 7 = .ok (.if_icmp .ge 37, 3) := by decide +kernel
theorem dX7_isSide_10 : decode cX7_isSide 10 = .ok (.iload_n 1, 1) := by decide +kernel
theorem dX7_isSide_11 : decode cX7_isSide 11 = .ok (.aload_n 0, 1) := by decide +kernel
theorem dX7_isSide_12 : decode cX7_isSide 12 = .ok (.getfield 13, 3) := by decide +kernel
theorem dX7_isSide_15 : decode cX7_isSide 15 = .ok (.iload_n 2, 1) := by decide +kernel
theorem dX7_isSide_16 : decode cX7_isSide 16 = .ok (.iaload, 1) := by decide +kernel
theorem dX7_isSide_17 : decode cX7_isSide 17 = .ok (.ishr, 1) := by decide +kernel
theorem dX7_isSide_18 : decode cX7_isSide 18 = .ok (.iconst 1, 1) := by decide +kernel
theorem dX7_isSide_19 : decode cX7_isSide 19 = .ok (.iand, 1) := by decide +kernel
theorem dX7_isSide_20 : decode cX7_isSide 20 = .ok (.ifCond .eq 18, 3) := by decide +kernel
theorem dX7_isSide_23 : decode cX7_isSide 23 = .ok (.iload_n 1, 1) := by decide +kernel
theorem dX7_isSide_24 : decode cX7_isSide 24 = .ok (.aload_n 0, 1) := by decide +kernel
theorem dX7_isSide_25 : decode cX7_isSide 25 = .ok (.getfield 17, 3) := by decide +kernel
theorem dX7_isSide_28 : decode cX7_isSide 28 = .ok (.iload_n 2, 1) := by decide +kernel
theorem dX7_isSide_29 : decode cX7_isSide 29 = .ok (.iaload, 1) := by decide +kernel
theorem dX7_isSide_30 : decode cX7_isSide 30 = .ok (.ishr, 1) := by decide +kernel
theorem dX7_isSide_31 : decode cX7_isSide 31 = .ok (.iconst 1, 1) := by decide +kernel
theorem dX7_isSide_32 : decode cX7_isSide 32 = .ok (.iand, 1) := by decide +kernel
theorem dX7_isSide_33 : decode cX7_isSide 33 = .ok (.ifCond .ne 5, 3) := by decide +kernel
theorem dX7_isSide_36 : decode cX7_isSide 36 = .ok (.iconst 0, 1) := by decide +kernel
theorem dX7_isSide_37 : decode cX7_isSide 37 = .ok (.ireturn, 1) := by decide +kernel
theorem dX7_isSide_38 : decode cX7_isSide 38 = .ok (.iinc 2 1, 3) := by decide +kernel
theorem dX7_isSide_41 : decode cX7_isSide 41 = .ok (.goto (-39), 3) := by decide +kernel
theorem dX7_isSide_44 : decode cX7_isSide 44 = .ok (.iconst 1, 1) := by decide +kernel
theorem dX7_isSide_45 : decode cX7_isSide 45 = .ok (.ireturn, 1) := by decide +kernel
theorem dX7_borderOf_0 : decode cX7_borderOf 0 = .ok (.iconst 0, 1) := by decide +kernel
theorem dX7_borderOf_1 : decode cX7_borderOf 1 = .ok (.istore_n 2, 1) := by decide +kernel
theorem dX7_borderOf_2 : decode cX7_borderOf 2 = .ok (.iconst 0, 1) := by decide +kernel
theorem dX7_borderOf_3 : decode cX7_borderOf 3 = .ok (.istore_n 3, 1) := by decide +kernel
theorem dX7_borderOf_4 : decode cX7_borderOf 4 = .ok (.iload_n 3, 1) := by decide +kernel
theorem dX7_borderOf_5 : decode cX7_borderOf 5 = .ok (.aload_n 0, 1) := by decide +kernel
theorem dX7_borderOf_6 : decode cX7_borderOf 6 = .ok (.getfield 95, 3) := by decide +kernel
theorem dX7_borderOf_9 : decode cX7_borderOf 9 = .ok (.if_icmp .ge 45, 3) := by decide +kernel
theorem dX7_borderOf_12 : decode cX7_borderOf 12 = .ok (.iload_n 2, 1) := by decide +kernel
theorem dX7_borderOf_13 : decode cX7_borderOf 13 = .ok (.iload_n 1, 1) := by decide +kernel
theorem dX7_borderOf_14 : decode cX7_borderOf 14 = .ok (.aload_n 0, 1) := by decide +kernel
theorem dX7_borderOf_15 : decode cX7_borderOf 15 = .ok (.getfield 17, 3) := by decide +kernel
theorem dX7_borderOf_18 : decode cX7_borderOf 18 = .ok (.iload_n 3, 1) := by decide +kernel
theorem dX7_borderOf_19 : decode cX7_borderOf 19 = .ok (.iaload, 1) := by decide +kernel
theorem dX7_borderOf_20 : decode cX7_borderOf 20 = .ok (.ishr, 1) := by decide +kernel
theorem dX7_borderOf_21 : decode cX7_borderOf 21 = .ok (.iconst 1, 1) := by decide +kernel
theorem dX7_borderOf_22 : decode cX7_borderOf 22 = .ok (.iand, 1) := by decide +kernel
theorem dX7_borderOf_23 : decode cX7_borderOf 23 = .ok (.ifCond .eq 22, 3) := by decide +kernel
theorem dX7_borderOf_26 : decode cX7_borderOf 26 = .ok (.iload_n 1, 1) := by decide +kernel
theorem dX7_borderOf_27 : decode cX7_borderOf 27 = .ok (.aload_n 0, 1) := by decide +kernel
theorem dX7_borderOf_28 : decode cX7_borderOf 28 = .ok (.getfield 13, 3) := by decide +kernel
theorem dX7_borderOf_31 : decode cX7_borderOf 31 = .ok (.iload_n 3, 1) := by decide +kernel
theorem dX7_borderOf_32 : decode cX7_borderOf 32 = .ok (.iaload, 1) := by decide +kernel
theorem dX7_borderOf_33 : decode cX7_borderOf 33 = .ok (.ishr, 1) := by decide +kernel
theorem dX7_borderOf_34 : decode cX7_borderOf 34 = .ok (.iconst 1, 1) := by decide +kernel
theorem dX7_borderOf_35 : decode cX7_borderOf 35 = .ok (.iand, 1) := by decide +kernel
theorem dX7_borderOf_36 : decode cX7_borderOf 36 = .ok (.ifCond .ne 9, 3) := by decide +kernel
theorem dX7_borderOf_39 : decode cX7_borderOf 39 = .ok (.iconst 1, 1) := by decide +kernel
theorem dX7_borderOf_40 : decode cX7_borderOf 40 = .ok (.iload_n 3, 1) := by decide +kernel
theorem dX7_borderOf_41 : decode cX7_borderOf 41 = .ok (.ishl, 1) := by decide +kernel
theorem dX7_borderOf_42 : decode cX7_borderOf 42 = .ok (.goto 4, 3) := by decide +kernel
theorem dX7_borderOf_45 : decode cX7_borderOf 45 = .ok (.iconst 0, 1) := by decide +kernel
theorem dX7_borderOf_46 : decode cX7_borderOf 46 = .ok (.ior, 1) := by decide +kernel
theorem dX7_borderOf_47 : decode cX7_borderOf 47 = .ok (.istore_n 2, 1) := by decide +kernel
theorem dX7_borderOf_48 : decode cX7_borderOf 48 = .ok (.iinc 3 1, 3) := by decide +kernel
theorem dX7_borderOf_51 : decode cX7_borderOf 51 = .ok (.goto (-47), 3) := by decide +kernel
theorem dX7_borderOf_54 : decode cX7_borderOf 54 = .ok (.iload_n 2, 1) := by decide +kernel
theorem dX7_borderOf_55 : decode cX7_borderOf 55 = .ok (.ireturn, 1) := by decide +kernel
set_option maxRecDepth 20000 in
theorem ggX7_makeSides_X7_all : GoodIn wsX7_makeSides wsX7_all := goodIn_r _ [9, 10, 22, 23, 24, 25, 26, 27, 28, 29, 30, 31, 32, 33, 34, 35, 36, 37, 38, 39, 40, 41, 42, 43, 44, 45, 46, 47, 48, 49, 50, 51, 52, 53, 54, 55] (by decide +kernel) (by decide +kernel)
set_option maxRecDepth 20000 in
theorem gX7_makeSides_X7_all : GoodIn wsX7_makeSides (wsV RX7 101 RX7 yX7_all wsX7_all) := goodIn_app (goodIn_of _ (by decide +kernel)) ggX7_makeSides_X7_all
set_option maxRecDepth 20000 in
theorem ggX7_makeSides_X7_isSide : GoodIn wsX7_makeSides wsX7_isSide := goodIn_r _ [14, 15, 16, 17, 22, 23, 24, 25, 26, 27, 28, 29, 30, 31, 32, 33, 34, 35, 36, 37, 38, 39, 40, 41, 42, 43, 44, 45, 46, 47, 48, 49, 50, 51, 52, 53, 54, 55] (by decide +kernel) (by decide +kernel)
set_option maxRecDepth 20000 in
theorem gX7_makeSides_X7_isSide : GoodIn wsX7_makeSides (wsV RX7 105 RX7 yX7_isSide wsX7_isSide) := goodIn_app (goodIn_of _ (by decide +kernel)) ggX7_makeSides_X7_isSide
set_option maxRecDepth 20000 in
theorem ggX7_makeSides_X7_borderOf : GoodIn wsX7_makeSides wsX7_borderOf := goodIn_r _ [21, 15, 17, 16, 22, 23, 24, 25, 26, 27, 28, 29, 30, 31, 32, 33, 34, 35, 36, 37, 38, 39, 40, 41, 42, 43, 44, 45, 46, 47, 48, 49, 50, 51, 52, 53, 54, 55] (by decide +kernel) (by decide +kernel)
set_option maxRecDepth 20000 in
theorem gX7_makeSides_X7_borderOf : GoodIn wsX7_makeSides (wsV RX7 109 RX7 yX7_borderOf wsX7_borderOf) := goodIn_app (goodIn_of _ (by decide +kernel)) ggX7_makeSides_X7_borderOf
theorem dX7_makeSides_0 : decode cX7_makeSides 0 = .ok (.aload_n 0, 1) := by decide +kernel
theorem dX7_makeSides_1 : decode cX7_makeSides 1 = .ok (.getfield 88, 3) := by decide +kernel
theorem dX7_makeSides_4 : decode cX7_makeSides 4 = .ok (.ifCond .eq 4, 3) := by decide +kernel
theorem dX7_makeSides_7 : decode cX7_makeSides 7 = .ok (.return_, 1) := by decide +kernel
theorem dX7_makeSides_8 : decode cX7_makeSides 8 = .ok (.aload_n 0, 1) := by decide +kernel
theorem dX7_makeSides_9 : decode cX7_makeSides 9 = .ok (.iconst 1, 1) := by decide +kernel
theorem dX7_makeSides_10 : decode cX7_makeSides 10 = .ok (.putfield 88, 3) := by decide +kernel
theorem dX7_makeSides_13 : decode cX7_makeSides 13 = .ok (.aload_n 0, 1) := by decide +kernel
theorem dX7_makeSides_14 : decode cX7_makeSides 14 = .ok (.iconst 0, 1) := by decide +kernel
theorem dX7_makeSides_15 : decode cX7_makeSides 15 = .ok (.putfield 98, 3) := by decide +kernel
theorem dX7_makeSides_18 : decode cX7_makeSides 18 = .ok (.iconst 1, 1) := by decide +kernel
theorem dX7_makeSides_19 : decode cX7_makeSides 19 = .ok (.istore_n 1, 1) := by decide +kernel
theorem dX7_makeSides_20 : decode cX7_makeSides 20 = .ok (.iload_n 1, 1) := by decide +kernel
theorem dX7_makeSides_21 : decode cX7_makeSides 21 = .ok (.aload_n 0, 1) := by decide +kernel
theorem dX7_makeSides_22 : decode cX7_makeSides 22 = .ok (.invokevirtual 101, 3) := by decide +kernel
theorem dX7_makeSides_25 : decode cX7_makeSides 25 = .ok (.if_icmp .ge 51, 3) := by decide +kernel
theorem dX7_makeSides_28 : decode cX7_makeSides 28 = .ok (.aload_n 0, 1) := by decide +kernel
theorem dX7_makeSides_29 : decode cX7_makeSides 29 = .ok (.iload_n 1, 1) := by decide +kernel
theorem dX7_makeSides_30 : decode cX7_makeSides 30 = .ok (.invokevirtual 105, 3) := by decide +kernel
theorem dX7_makeSides_33 : decode cX7_makeSides 33 = .ok (.ifCond .eq 37, 3) := by decide +kernel
theorem dX7_makeSides_36 : decode cX7_makeSides 36 = .ok (.aload_n 0, 1) := by decide +kernel
theorem dX7_makeSides_37 : decode cX7_makeSides 37 = .ok (.getfield 66, 3) := by decide +kernel
theorem dX7_makeSides_40 : decode cX7_makeSides 40 = .ok (.aload_n 0, 1) := by decide +kernel
theorem dX7_makeSides_41 : decode cX7_makeSides 41 = .ok (.getfield 98, 3) := by decide +kernel
theorem dX7_makeSides_44 : decode cX7_makeSides 44 = .ok (.iload_n 1, 1) := by decide +kernel
theorem dX7_makeSides_45 : decode cX7_makeSides 45 = .ok (.iastore, 1) := by decide +kernel
theorem dX7_makeSides_46 : decode cX7_makeSides 46 = .ok (.aload_n 0, 1) := by decide +kernel
theorem dX7_makeSides_47 : decode cX7_makeSides 47 = .ok (.getfield 69, 3) := by decide +kernel
theorem dX7_makeSides_50 : decode cX7_makeSides 50 = .ok (.aload_n 0, 1) := by decide +kernel
theorem dX7_makeSides_51 : decode cX7_makeSides 51 = .ok (.getfield 98, 3) := by decide +kernel
theorem dX7_makeSides_54 : decode cX7_makeSides 54 = .ok (.aload_n 0, 1) := by decide +kernel
theorem dX7_makeSides_55 : decode cX7_makeSides 55 = .ok (.iload_n 1, 1) := by decide +kernel
theorem dX7_makeSides_56 : decode cX7_makeSides 56 = .ok (.invokevirtual 109, 3) := by decide +kernel
theorem dX7_makeSides_59 : decode cX7_makeSides 59 = .ok (.iastore, 1) := by decide +kernel
theorem dX7_makeSides_60 : decode cX7_makeSides 60 = .ok (.aload_n 0, 1) := by decide +kernel
theorem dX7_makeSides_61 : decode cX7_makeSides 61 = .ok (.dup, 1) := by decide +kernel
theorem dX7_makeSides_62 : decode cX7_makeSides 62 = .ok (.getfield 98, 3) := by decide +kernel
theorem dX7_makeSides_65 : decode cX7_makeSides 65 = .ok (.iconst 1, 1) := by decide +kernel
theorem dX7_makeSides_66 : decode cX7_makeSides 66 = .ok (.iadd, 1) := by decide +kernel
theorem dX7_makeSides_67 : decode cX7_makeSides 67 = .ok (.putfield 98, 3) := by decide +kernel
theorem dX7_makeSides_70 : decode cX7_makeSides 70 = .ok (.iinc 1 1, 3) := by decide +kernel
theorem dX7_makeSides_73 : decode cX7_makeSides 73 = .ok (.goto (-53), 3) := by decide +kernel
theorem dX7_makeSides_76 : decode cX7_makeSides 76 = .ok (.return_, 1) := by decide +kernel
set_option maxRecDepth 20000 in
theorem ggX7_makeSets_X7_makeSides : GoodIn wsX7_makeSets wsX7_makeSides := goodIn_r _ [12, 13, 4, 14, 5, 15, 16, 17, 11, 18, 19, 20, 21, 22, 23, 2, 24, 25, 26, 27, 28, 29, 34, 35, 36, 37, 38, 39, 40, 41, 42, 43, 44, 45, 46, 47, 48, 49, 50, 51, 52, 53, 54, 55, 56, 57, 58, 59, 60, 61, 62, 63, 64, 65, 66, 67] (by decide +kernel) (by decide +kernel)
set_option maxRecDepth 20000 in
theorem gX7_makeSets_X7_makeSides : GoodIn wsX7_makeSets (wsV RX7 113 RX7 yX7_makeSides wsX7_makeSides) := goodIn_app (goodIn_of _ (by decide +kernel)) ggX7_makeSets_X7_makeSides
set_option maxRecDepth 20000 in
theorem ggX7_makeSets_X7_hasNoneToSpare : GoodIn wsX7_makeSets wsX7_hasNoneToSpare := goodIn_r _ [33, 2, 3, 34, 35, 36, 37, 38, 39, 40, 41, 42, 43, 44, 45, 46, 47, 48, 49, 50, 51, 52, 53, 54, 55, 56, 57, 58, 59, 60, 61, 62, 63, 64, 65, 66, 67] (by decide +kernel) (by decide +kernel)
set_option maxRecDepth 20000 in
theorem gX7_makeSets_X7_hasNoneToSpare : GoodIn wsX7_makeSets (wsV RX7 119 RX7 yX7_hasNoneToSpare wsX7_hasNoneToSpare) := goodIn_app (goodIn_of _ (by decide +kernel)) ggX7_makeSets_X7_hasNoneToSpare
theorem dX7_makeSets_0 : decode cX7_makeSets 0 = .ok (.aload_n 0, 1) := by decide +kernel
theorem dX7_makeSets_1 : decode cX7_makeSets 1 = .ok (.invokevirtual 113, 3) := by decide +kernel
theorem dX7_makeSets_4 : decode cX7_makeSets 4 = .ok (.aload_n 0, 1) := by decide +kernel
theorem dX7_makeSets_5 : decode cX7_makeSets 5 = .ok (.getfield 92, 3) := by decide +kernel
theorem dX7_makeSets_8 : decode cX7_makeSets 8 = .ok (.ifCond .eq 4, 3) := by decide +kernel
theorem dX7_makeSets_11 : decode cX7_makeSets 11 = .ok (.return_, 1) := by decide +kernel
theorem dX7_makeSets_12 : decode cX7_makeSets 12 = .ok (.aload_n 0, 1) := by decide +kernel
theorem dX7_makeSets_13 : decode cX7_makeSets 13 = .ok (.iconst 1, 1) := by decide +kernel
theorem dX7_makeSets_14 : decode cX7_makeSets 14 = .ok (.putfield 92, 3) := by decide +kernel
theorem dX7_makeSets_17 : decode cX7_makeSets 17 = .ok (.iconst 1, 1) := by decide +kernel
theorem dX7_makeSets_18 : decode cX7_makeSets 18 = .ok (.aload_n 0, 1) := by decide +kernel
theorem dX7_makeSets_19 : decode cX7_makeSets 19 = .ok (.getfield 95, 3) := by decide +kernel
theorem dX7_makeSets_22 : decode cX7_makeSets 22 = .ok (.ishl, 1) := by decide +kernel
theorem dX7_makeSets_23 : decode cX7_makeSets 23 = .ok (.istore_n 1, 1) := by decide +kernel
theorem dX7_makeSets_24 : decode cX7_makeSets 24 = .ok (.iconst 0, 1) := by decide +kernel
theorem dX7_makeSets_25 : decode cX7_makeSets 25 = .ok (.istore_n 2, 1) := by decide +kernel
theorem dX7_makeSets_26 : decode cX7_makeSets 26 = .ok (.iload_n 2, 1) := by decide +kernel
theorem dX7_makeSets_27 : decode cX7_makeSets 27 = .ok (.iload_n 1, 1) := by decide +kernel
theorem dX7_makeSets_28 : decode cX7_makeSets 28 = .ok (.if_icmp .ge 16, 3) := by decide +kernel
theorem dX7_makeSets_31 : decode cX7_makeSets 31 = .ok (.aload_n 0, 1) := by decide +kernel
theorem dX7_makeSets_32 : decode cX7_makeSets 32 = .ok (.getfield 73, 3) := by decide +kernel
theorem dX7_makeSets_35 : decode cX7_makeSets 35 = .ok (.iload_n 2, 1) := by decide +kernel
theorem dX7_makeSets_36 : decode cX7_makeSets 36 = .ok (.iconst 0, 1) := by decide +kernel
theorem dX7_makeSets_37 : decode cX7_makeSets 37 = .ok (.bastore, 1) := by decide +kernel
theorem dX7_makeSets_38 : decode cX7_makeSets 38 = .ok (.iinc 2 1, 3) := by decide +kernel
theorem dX7_makeSets_41 : decode cX7_makeSets 41 = .ok (.goto (-15), 3) := by decide +kernel
theorem dX7_makeSets_44 : decode cX7_makeSets 44 = .ok (.iconst 0, 1) := by decide +kernel
theorem dX7_makeSets_45 : decode cX7_makeSets 45 = .ok (.istore_n 2, 1) := by decide +kernel
theorem dX7_makeSets_46 : decode cX7_makeSets 46 = .ok (.iload_n 2, 1) := by decide +kernel
theorem dX7_makeSets_47 : decode cX7_makeSets 47 = .ok (.aload_n 0, 1) := by decide +kernel
theorem dX7_makeSets_48 : decode cX7_makeSets 48 = .ok (.getfield 98, 3) := by decide +kernel
theorem dX7_makeSets_51 : decode cX7_makeSets 51 = .ok (.if_icmp .ge 27, 3) := by decide +kernel
theorem dX7_makeSets_54 : decode cX7_makeSets 54 = .ok (.aload_n 0, 1) := by decide +kernel
theorem dX7_makeSets_55 : decode cX7_makeSets 55 = .ok (.getfield 73, 3) := by decide +kernel
theorem dX7_makeSets_58 : decode cX7_makeSets 58 = .ok (.iload_n 1, 1) := by decide +kernel
theorem dX7_makeSets_59 : decode cX7_makeSets 59 = .ok (.iconst 1, 1) := by decide +kernel
theorem dX7_makeSets_60 : decode cX7_makeSets 60 = .ok (.isub, 1) := by decide +kernel
theorem dX7_makeSets_61 : decode cX7_makeSets 61 = .ok (.aload_n 0, 1) := by decide +kernel
theorem dX7_makeSets_62 : decode cX7_makeSets 62 = .ok (.getfield 69, 3) := by decide +kernel
theorem dX7_makeSets_65 : decode cX7_makeSets 65 = .ok (.iload_n 2, 1) := by decide +kernel
theorem dX7_makeSets_66 : decode cX7_makeSets 66 = .ok (.iaload, 1) := by decide +kernel
theorem dX7_makeSets_67 : decode cX7_makeSets 67 = .ok (.iconst (-1), 1) := by decide +kernel
theorem dX7_makeSets_68 : decode cX7_makeSets 68 = .ok (.ixor, 1) := by decide +kernel
theorem dX7_makeSets_69 : decode cX7_makeSets 69 = .ok (.iand, 1) := by decide +kernel
theorem dX7_makeSets_70 : decode cX7_makeSets 70 = .ok (.iconst 1, 1) := by decide +kernel
theorem dX7_makeSets_71 : decode cX7_makeSets 71 = .ok (.bastore, 1) := by decide +kernel
theorem dX7_makeSets_72 : decode cX7_makeSets 72 = .ok (.iinc 2 1, 3) := by decide +kernel
theorem dX7_makeSets_75 : decode cX7_makeSets 75 = .ok (.goto (-29), 3) := by decide +kernel
theorem dX7_makeSets_78 : decode cX7_makeSets 78 = .ok (.iconst 0, 1) := by decide +kernel
theorem dX7_makeSets_79 : decode cX7_makeSets 79 = .ok (.istore_n 2, 1) := by decide +kernel
theorem dX7_makeSets_80 : decode cX7_makeSets 80 = .ok (.iload_n 2, 1) := by decide +kernel
theorem dX7_makeSets_81 : decode cX7_makeSets 81 = .ok (.aload_n 0, 1) := by decide +kernel
theorem dX7_makeSets_82 : decode cX7_makeSets 82 = .ok (.getfield 95, 3) := by decide +kernel
theorem dX7_makeSets_85 : decode cX7_makeSets 85 = .ok (.if_icmp .ge 50, 3) := by decide +kernel
theorem dX7_makeSets_88 : decode cX7_makeSets 88 = .ok (.iconst 0, 1) := by decide +kernel
theorem dX7_makeSets_89 : decode cX7_makeSets 89 = .ok (.istore_n 3, 1) := by decide +kernel
theorem dX7_makeSets_90 : decode cX7_makeSets 90 = .ok (.iload_n 3, 1) := by decide +kernel
theorem dX7_makeSets_91 : decode cX7_makeSets 91 = .ok (.iload_n 1, 1) := by decide +kernel
theorem dX7_makeSets_92 : decode cX7_makeSets 92 = .ok (.if_icmp .ge 37, 3) := by decide +kernel
theorem dX7_makeSets_95 : decode cX7_makeSets 95 = .ok (.iload_n 3, 1) := by decide +kernel
theorem dX7_makeSets_96 : decode cX7_makeSets 96 = .ok (.iload_n 2, 1) := by decide +kernel
theorem dX7_makeSets_97 : decode cX7_makeSets 97 = .ok (.ishr, 1) := by decide +kernel
theorem dX7_makeSets_98 : decode cX7_makeSets 98 = .ok (.iconst 1, 1) := by decide +kernel
theorem dX7_makeSets_99 : decode cX7_makeSets 99 = .ok (.iand, 1) := by decide +kernel
theorem dX7_makeSets_100 : decode cX7_makeSets 100 = .ok (.ifCond .ne 23, 3) := by decide +kernel
theorem dX7_makeSets_103 : decode cX7_makeSets 103 = .ok (.aload_n 0, 1) := by decide +kernel
theorem dX7_makeSets_104 : decode cX7_makeSets 104 = .ok (.getfield 73, 3) := by decide +kernel
theorem dX7_makeSets_107 : decode cX7_makeSets 107 = .ok (.iload_n 3, 1) := by decide +kernel
theorem dX7_makeSets_108 : decode cX7_makeSets 108 = .ok (.iconst 1, 1) := by decide +kernel
theorem dX7_makeSets_109 : decode cX7_makeSets 109 = .ok (.iload_n 2, 1) := by decide +kernel
theorem dX7_makeSets_110 : decode cX7_makeSets 110 = .ok (.ishl, 1) := by decide +kernel
theorem dX7_makeSets_111 : decode cX7_makeSets 111 = .ok (.ior, 1) := by decide +kernel
theorem dX7_makeSets_112 : decode cX7_makeSets 112 = .ok (.baload, 1) := by decide +kernel
theorem dX7_makeSets_113 : decode cX7_makeSets 113 = .ok (.ifCond .eq 10, 3) := by decide +kernel
theorem dX7_makeSets_116 : decode cX7_makeSets 116 = .ok (.aload_n 0, 1) := by decide +kernel
theorem dX7_makeSets_117 : decode cX7_makeSets 117 = .ok (.getfield 73, 3) := by decide +kernel
theorem dX7_makeSets_120 : decode cX7_makeSets 120 = .ok (.iload_n 3, 1) := by decide +kernel
theorem dX7_makeSets_121 : decode cX7_makeSets 121 = .ok (.iconst 1, 1) := by decide +kernel
theorem dX7_makeSets_122 : decode cX7_makeSets 122 = .ok (.bastore, 1) := by decide +kernel
theorem dX7_makeSets_123 : decode cX7_makeSets 123 = .ok (.iinc 3 1, 3) := by decide +kernel
theorem dX7_makeSets_126 : decode cX7_makeSets 126 = .ok (.goto (-36), 3) := by decide +kernel
theorem dX7_makeSets_129 : decode cX7_makeSets 129 = .ok (.iinc 2 1, 3) := by decide +kernel
theorem dX7_makeSets_132 : decode cX7_makeSets 132 = .ok (.goto (-52), 3) := by decide +kernel
theorem dX7_makeSets_135 : decode cX7_makeSets 135 = .ok (.aload_n 0, 1) := by decide +kernel
theorem dX7_makeSets_136 : decode cX7_makeSets 136 = .ok (.iconst 0, 1) := by decide +kernel
theorem dX7_makeSets_137 : decode cX7_makeSets 137 = .ok (.putfield 116, 3) := by decide +kernel
theorem dX7_makeSets_140 : decode cX7_makeSets 140 = .ok (.iconst 0, 1) := by decide +kernel
theorem dX7_makeSets_141 : decode cX7_makeSets 141 = .ok (.istore_n 2, 1) := by decide +kernel
theorem dX7_makeSets_142 : decode cX7_makeSets 142 = .ok (.iload_n 2, 1) := by decide +kernel
theorem dX7_makeSets_143 : decode cX7_makeSets 143 = .ok (.iload_n 1, 1) := by decide +kernel
theorem dX7_makeSets_144 : decode cX7_makeSets 144 = .ok (.if_icmp .ge 46, 3) := by decide +kernel
theorem dX7_makeSets_147 : decode cX7_makeSets 147 = .ok (.aload_n 0, 1) := by decide +kernel
theorem dX7_makeSets_148 : decode cX7_makeSets 148 = .ok (.getfield 73, 3) := by decide +kernel
theorem dX7_makeSets_151 : decode cX7_makeSets 151 = .ok (.iload_n 2, 1) := by decide +kernel
theorem dX7_makeSets_152 : decode cX7_makeSets 152 = .ok (.baload, 1) := by decide +kernel
theorem dX7_makeSets_153 : decode cX7_makeSets 153 = .ok (.ifCond .ne 31, 3) := by decide +kernel
theorem dX7_makeSets_156 : decode cX7_makeSets 156 = .ok (.aload_n 0, 1) := by decide +kernel
theorem dX7_makeSets_157 : decode cX7_makeSets 157 = .ok (.iload_n 2, 1) := by decide +kernel
theorem dX7_makeSets_158 : decode cX7_makeSets 158 = .ok (.invokevirtual 119, 3) := by decide +kernel
theorem dX7_makeSets_161 : decode cX7_makeSets 161 = .ok (.ifCond .eq 23, 3) := by decide +kernel
theorem dX7_makeSets_164 : decode cX7_makeSets 164 = .ok (.aload_n 0, 1) := by decide +kernel
theorem dX7_makeSets_165 : decode cX7_makeSets 165 = .ok (.getfield 76, 3) := by decide +kernel
theorem dX7_makeSets_168 : decode cX7_makeSets 168 = .ok (.aload_n 0, 1) := by decide +kernel
theorem dX7_makeSets_169 : decode cX7_makeSets 169 = .ok (.getfield 116, 3) := by decide +kernel
theorem dX7_makeSets_172 : decode cX7_makeSets 172 = .ok (.iload_n 2, 1) := by decide +kernel
theorem dX7_makeSets_173 : decode cX7_makeSets 173 = .ok (.iastore, 1) := by decide +kernel
theorem dX7_makeSets_174 : decode cX7_makeSets 174 = .ok (.aload_n 0, 1) := by decide +kernel
theorem dX7_makeSets_175 : decode cX7_makeSets 175 = .ok (.dup, 1) := by decide +kernel
theorem dX7_makeSets_176 : decode cX7_makeSets 176 = .ok (.getfield 116, 3) := by decide +kernel
theorem dX7_makeSets_179 : decode cX7_makeSets 179 = .ok (.iconst 1, 1) := by decide +kernel
theorem dX7_makeSets_180 : decode cX7_makeSets 180 = .ok (.iadd, 1) := by decide +kernel
theorem dX7_makeSets_181 : decode cX7_makeSets 181 = .ok (.putfield 116, 3) := by decide +kernel
theorem dX7_makeSets_184 : decode cX7_makeSets 184 = .ok (.iinc 2 1, 3) := by decide +kernel
theorem dX7_makeSets_187 : decode cX7_makeSets 187 = .ok (.goto (-45), 3) := by decide +kernel
theorem dX7_makeSets_190 : decode cX7_makeSets 190 = .ok (.return_, 1) := by decide +kernel
theorem dX7_hasNoneToSpare_0 : decode cX7_hasNoneToSpare 0 = .ok (.iconst 0, 1) := by decide +kernel
theorem dX7_hasNoneToSpare_1 : decode cX7_hasNoneToSpare 1 = .ok (.istore_n 2, 1) := by decide +kernel
theorem dX7_hasNoneToSpare_2 : decode cX7_hasNoneToSpare 2 = .ok (.iload_n 2, 1) := by decide +kernel
theorem dX7_hasNoneToSpare_3 : decode cX7_hasNoneToSpare 3 = .ok (.aload_n 0, 1) := by decide +kernel
theorem dX7_hasNoneToSpare_4 : decode cX7_hasNoneToSpare 4 = .ok (.getfield 95, 3) := by decide +kernel
theorem dX7_hasNoneToSpare_7 : decode cX7_hasNoneToSpare 7 = .ok (.if_icmp .ge 34, 3) := by decide +kernel
theorem dX7_hasNoneToSpare_10 : decode cX7_hasNoneToSpare 10 = .ok (.iload_n 1, 1) := by decide +kernel
theorem dX7_hasNoneToSpare_11 : decode cX7_hasNoneToSpare 11 = .ok (.iload_n 2, 1) := by decide +kernel
theorem dX7_hasNoneToSpare_12 : decode cX7_hasNoneToSpare 12 = .ok (.ishr, 1) := by decide +kernel
theorem dX7_hasNoneToSpare_13 : decode cX7_hasNoneToSpare 13 = .ok (.iconst 1, 1) := by decide +kernel
theorem dX7_hasNoneToSpare_14 : decode cX7_hasNoneToSpare 14 = .ok (.iand, 1) := by decide +kernel
theorem dX7_hasNoneToSpare_15 : decode cX7_hasNoneToSpare 15 = .ok (.ifCond .eq 20, 3) := by decide +kernel
theorem dX7_hasNoneToSpare_18 : decode cX7_hasNoneToSpare 18 = .ok (.aload_n 0, 1) := by decide +kernel
theorem dX7_hasNoneToSpare_19 : decode cX7_hasNoneToSpare 19 = .ok (.getfield 73, 3) := by decide +kernel
theorem dX7_hasNoneToSpare_22 : decode cX7_hasNoneToSpare 22 = .ok (.iload_n 1, 1) := by decide +kernel
theorem dX7_hasNoneToSpare_23 : decode cX7_hasNoneToSpare 23 = .ok (.iconst 1, 1) := by decide +kernel
theorem dX7_hasNoneToSpare_24 : decode cX7_hasNoneToSpare 24 = .ok (.iload_n 2, 1) := by decide +kernel
theorem dX7_hasNoneToSpare_25 : decode cX7_hasNoneToSpare 25 = .ok (.ishl, 1) := by decide +kernel
theorem dX7_hasNoneToSpare_26 : decode cX7_hasNoneToSpare 26 = .ok (.iconst (-1), 1) := by decide +kernel
theorem dX7_hasNoneToSpare_27 : decode cX7_hasNoneToSpare 27 = .ok (.ixor, 1) := by decide +kernel
theorem dX7_hasNoneToSpare_28 : decode cX7_hasNoneToSpare 28 = .ok (.iand, 1) := by decide +kernel
theorem dX7_hasNoneToSpare_29 : decode cX7_hasNoneToSpare 29 = .ok (.baload, 1) := by decide +kernel
theorem dX7_hasNoneToSpare_30 : decode cX7_hasNoneToSpare 30 = .ok (.ifCond .ne 5, 3) := by decide +kernel
theorem dX7_hasNoneToSpare_33 : decode cX7_hasNoneToSpare 33 = .ok (.iconst 0, 1) := by decide +kernel
theorem dX7_hasNoneToSpare_34 : decode cX7_hasNoneToSpare 34 = .ok (.ireturn, 1) := by decide +kernel
theorem dX7_hasNoneToSpare_35 : decode cX7_hasNoneToSpare 35 = .ok (.iinc 2 1, 3) := by decide +kernel
theorem dX7_hasNoneToSpare_38 : decode cX7_hasNoneToSpare 38 = .ok (.goto (-36), 3) := by decide +kernel
theorem dX7_hasNoneToSpare_41 : decode cX7_hasNoneToSpare 41 = .ok (.iconst 1, 1) := by decide +kernel
theorem dX7_hasNoneToSpare_42 : decode cX7_hasNoneToSpare 42 = .ok (.ireturn, 1) := by decide +kernel
theorem dX7_reach_0 : decode cX7_reach 0 = .ok (.iload_n 1, 1) := by decide +kernel
theorem dX7_reach_1 : decode cX7_reach 1 = .ok (.istore 4, 2) := by decide +kernel
theorem dX7_reach_3 : decode cX7_reach 3 = .ok (.iconst 0, 1) := by decide +kernel
theorem dX7_reach_4 : decode cX7_reach 4 = .ok (.istore 5, 2) := by decide +kernel
theorem dX7_reach_6 : decode cX7_reach 6 = .ok (.iload 4, 2) := by decide +kernel
theorem dX7_reach_8 : decode cX7_reach 8 = .ok (.iload 5, 2) := by decide +kernel
theorem dX7_reach_10 : decode cX7_reach 10 = .ok (.if_icmp .eq 121, 3) := by decide +kernel
theorem dX7_reach_13 : decode cX7_reach 13 = .ok (.iload 4, 2) := by decide +kernel
theorem dX7_reach_15 : decode cX7_reach 15 = .ok (.istore 5, 2) := by decide +kernel
theorem dX7_reach_17 : decode cX7_reach 17 = .ok (.iconst 0, 1) := by decide +kernel
theorem dX7_reach_18 : decode cX7_reach 18 = .ok (.istore 6, 2) := by decide +kernel
theorem dX7_reach_20 : decode cX7_reach 20 = .ok (.iload 6, 2) := by decide +kernel
theorem dX7_reach_22 : decode cX7_reach 22 = .ok (.aload_n 0, 1) := by decide +kernel
theorem dX7_reach_23 : decode cX7_reach 23 = .ok (.getfield 95, 3) := by decide +kernel
theorem dX7_reach_26 : decode cX7_reach 26 = .ok (.if_icmp .ge 102, 3) := by decide +kernel
theorem dX7_reach_29 : decode cX7_reach 29 = .ok (.iload_n 3, 1) := by decide +kernel
theorem dX7_reach_30 : decode cX7_reach 30 = .ok (.ifCond .eq 13, 3) := by decide +kernel
theorem dX7_reach_33 : decode cX7_reach 33 = .ok (.aload_n 0, 1) := by decide +kernel
theorem dX7_reach_34 : decode cX7_reach 34 = .ok (.getfield 13, 3) := by decide +kernel
theorem dX7_reach_37 : decode cX7_reach 37 = .ok (.iload 6, 2) := by decide +kernel
theorem dX7_reach_39 : decode cX7_reach 39 = .ok (.iaload, 1) := by decide +kernel
theorem dX7_reach_40 : decode cX7_reach 40 = .ok (.goto 10, 3) := by decide +kernel
theorem dX7_reach_43 : decode cX7_reach 43 = .ok (.aload_n 0, 1) := by decide +kernel
theorem dX7_reach_44 : decode cX7_reach 44 = .ok (.getfield 17, 3) := by decide +kernel
theorem dX7_reach_47 : decode cX7_reach 47 = .ok (.iload 6, 2) := by decide +kernel
theorem dX7_reach_49 : decode cX7_reach 49 = .ok (.iaload, 1) := by decide +kernel
theorem dX7_reach_50 : decode cX7_reach 50 = .ok (.istore 7, 2) := by decide +kernel
theorem dX7_reach_52 : decode cX7_reach 52 = .ok (.iload_n 3, 1) := by decide +kernel
theorem dX7_reach_53 : decode cX7_reach 53 = .ok (.ifCond .eq 13, 3) := by decide +kernel
theorem dX7_reach_56 : decode cX7_reach 56 = .ok (.aload_n 0, 1) := by decide +kernel
theorem dX7_reach_57 : decode cX7_reach 57 = .ok (.getfield 17, 3) := by decide +kernel
theorem dX7_reach_60 : decode cX7_reach 60 = .ok (.iload 6, 2) := by decide +kernel
theorem dX7_reach_62 : decode cX7_reach 62 = .ok (.iaload, 1) := by decide +kernel
theorem dX7_reach_63 : decode cX7_reach 63 = .ok (.goto 10, 3) := by decide +kernel
theorem dX7_reach_66 : decode cX7_reach 66 = .ok (.aload_n 0, 1) := by decide +kernel
theorem dX7_reach_67 : decode cX7_reach 67 = .ok (.getfield 13, 3) := by decide +kernel
theorem dX7_reach_70 : decode cX7_reach 70 = .ok (.iload 6, 2) := by decide +kernel
theorem dX7_reach_72 : decode cX7_reach 72 = .ok (.iaload, 1) := by decide +kernel
theorem dX7_reach_73 : decode cX7_reach 73 = .ok (.istore 8, 2) := by decide +kernel
theorem dX7_reach_75 : decode cX7_reach 75 = .ok (.iload 4, 2) := by decide +kernel
theorem dX7_reach_77 : decode cX7_reach 77 = .ok (.iload 7, 2) := by decide +kernel
theorem dX7_reach_79 : decode cX7_reach 79 = .ok (.ishr, 1) := by decide +kernel
theorem dX7_reach_80 : decode cX7_reach 80 = .ok (.iconst 1, 1) := by decide +kernel
theorem dX7_reach_81 : decode cX7_reach 81 = .ok (.iand, 1) := by decide +kernel
theorem dX7_reach_82 : decode cX7_reach 82 = .ok (.ifCond .eq 12, 3) := by decide +kernel
theorem dX7_reach_85 : decode cX7_reach 85 = .ok (.iload 4, 2) := by decide +kernel
theorem dX7_reach_87 : decode cX7_reach 87 = .ok (.iconst 1, 1) := by decide +kernel
theorem dX7_reach_88 : decode cX7_reach 88 = .ok (.iload 8, 2) := by decide +kernel
theorem dX7_reach_90 : decode cX7_reach 90 = .ok (.ishl, 1) := by decide +kernel
theorem dX7_reach_91 : decode cX7_reach 91 = .ok (.ior, 1) := by decide +kernel
theorem dX7_reach_92 : decode cX7_reach 92 = .ok (.istore 4, 2) := by decide +kernel
theorem dX7_reach_94 : decode cX7_reach 94 = .ok (.iload_n 2, 1) := by decide +kernel
theorem dX7_reach_95 : decode cX7_reach 95 = .ok (.iload 6, 2) := by decide +kernel
theorem dX7_reach_97 : decode cX7_reach 97 = .ok (.ishr, 1) := by decide +kernel
theorem dX7_reach_98 : decode cX7_reach 98 = .ok (.iconst 1, 1) := by decide +kernel
theorem dX7_reach_99 : decode cX7_reach 99 = .ok (.iand, 1) := by decide +kernel
theorem dX7_reach_100 : decode cX7_reach 100 = .ok (.ifCond .eq 22, 3) := by decide +kernel
theorem dX7_reach_103 : decode cX7_reach 103 = .ok (.iload 4, 2) := by decide +kernel
theorem dX7_reach_105 : decode cX7_reach 105 = .ok (.iload 8, 2) := by decide +kernel
theorem dX7_reach_107 : decode cX7_reach 107 = .ok (.ishr, 1) := by decide +kernel
theorem dX7_reach_108 : decode cX7_reach 108 = .ok (.iconst 1, 1) := by decide +kernel
theorem dX7_reach_109 : decode cX7_reach 109 = .ok (.iand, 1) := by decide +kernel
theorem dX7_reach_110 : decode cX7_reach 110 = .ok (.ifCond .eq 12, 3) := by decide +kernel
theorem dX7_reach_113 : decode cX7_reach 113 = .ok (.iload 4, 2) := by decide +kernel
theorem dX7_reach_115 : decode cX7_reach 115 = .ok (.iconst 1, 1) := by decide +kernel
theorem dX7_reach_116 : decode cX7_reach 116 = .ok (.iload 7, 2) := by decide +kernel
theorem dX7_reach_118 : decode cX7_reach 118 = .ok (.ishl, 1) := by decide +kernel
theorem dX7_reach_119 : decode cX7_reach 119 = .ok (.ior, 1) := by decide +kernel
theorem dX7_reach_120 : decode cX7_reach 120 = .ok (.istore 4, 2) := by decide +kernel
theorem dX7_reach_122 : decode cX7_reach 122 = .ok (.iinc 6 1, 3) := by decide +kernel
theorem dX7_reach_125 : decode cX7_reach 125 = .ok (.goto (-105), 3) := by decide +kernel
theorem dX7_reach_128 : decode cX7_reach 128 = .ok (.goto (-122), 3) := by decide +kernel
theorem dX7_reach_131 : decode cX7_reach 131 = .ok (.iload 4, 2) := by decide +kernel
theorem dX7_reach_133 : decode cX7_reach 133 = .ok (.ireturn, 1) := by decide +kernel
set_option maxRecDepth 20000 in
theorem ggX7_isWhole_X7_reach : GoodIn wsX7_isWhole wsX7_reach := goodIn_r _ [6, 7, 8, 9, 15, 16, 17, 18, 19, 20, 21, 22, 23, 24, 25, 26, 27, 28, 29, 30, 31, 32, 33, 34, 35, 36, 37, 38, 39, 40, 41, 42, 43, 44, 45, 46, 47, 48] (by decide +kernel) (by decide +kernel)
set_option maxRecDepth 20000 in
theorem gX7_isWhole_X7_reach : GoodIn wsX7_isWhole (wsV RX7 123 RX7 yX7_reach wsX7_reach) := goodIn_app (goodIn_of _ (by decide +kernel)) ggX7_isWhole_X7_reach
set_option maxRecDepth 20000 in
theorem ggX7_isWhole_X7_all : GoodIn wsX7_isWhole wsX7_all := goodIn_r _ [13, 14, 15, 16, 17, 18, 19, 20, 21, 22, 23, 24, 25, 26, 27, 28, 29, 30, 31, 32, 33, 34, 35, 36, 37, 38, 39, 40, 41, 42, 43, 44, 45, 46, 47, 48] (by decide +kernel) (by decide +kernel)
set_option maxRecDepth 20000 in
theorem gX7_isWhole_X7_all : GoodIn wsX7_isWhole (wsV RX7 101 RX7 yX7_all wsX7_all) := goodIn_app (goodIn_of _ (by decide +kernel)) ggX7_isWhole_X7_all
theorem dX7_isWhole_0 : decode cX7_isWhole 0 = .ok (.aload_n 0, 1) := by decide +kernel
theorem dX7_isWhole_1 : decode cX7_isWhole 1 = .ok (.iconst 1, 1) := by decide +kernel
theorem dX7_isWhole_2 : decode cX7_isWhole 2 = .ok (.ldc 122, 2) := by decide +kernel
theorem dX7_isWhole_4 : decode cX7_isWhole 4 = .ok (.iconst 1, 1) := by decide +kernel
theorem dX7_isWhole_5 : decode cX7_isWhole 5 = .ok (.invokevirtual 123, 3) := by decide +kernel
theorem dX7_isWhole_8 : decode cX7_isWhole 8 = .ok (.aload_n 0, 1) := by decide +kernel
theorem dX7_isWhole_9 : decode cX7_isWhole 9 = .ok (.invokevirtual 101, 3) := by decide +kernel
theorem dX7_isWhole_12 : decode cX7_isWhole 12 = .ok (.if_icmp .ne 7, 3) := by decide +kernel
theorem dX7_isWhole_15 : decode cX7_isWhole 15 = .ok (.iconst 1, 1) := by decide +kernel
theorem dX7_isWhole_16 : decode cX7_isWhole 16 = .ok (.goto 4, 3) := by decide +kernel
theorem dX7_isWhole_19 : decode cX7_isWhole 19 = .ok (.iconst 0, 1) := by decide +kernel
theorem dX7_isWhole_20 : decode cX7_isWhole 20 = .ok (.ireturn, 1) := by decide +kernel
set_option maxRecDepth 20000 in
theorem ggX7_isStrongWith_X7_reach : GoodIn wsX7_isStrongWith wsX7_reach := goodIn_r _ [5, 6, 7, 8, 14, 15, 16, 17, 18, 19, 20, 21, 22, 23, 24, 25, 26, 27, 28, 29, 30, 31, 32, 33, 34, 35, 36, 37, 38, 39, 40, 41, 42, 43, 44, 45, 46, 47] (by decide +kernel) (by decide +kernel)
set_option maxRecDepth 20000 in
theorem gX7_isStrongWith_X7_reach : GoodIn wsX7_isStrongWith (wsV RX7 123 RX7 yX7_reach wsX7_reach) := goodIn_app (goodIn_of _ (by decide +kernel)) ggX7_isStrongWith_X7_reach
set_option maxRecDepth 20000 in
theorem ggX7_isStrongWith_X7_all : GoodIn wsX7_isStrongWith wsX7_all := goodIn_r _ [12, 13, 14, 15, 16, 17, 18, 19, 20, 21, 22, 23, 24, 25, 26, 27, 28, 29, 30, 31, 32, 33, 34, 35, 36, 37, 38, 39, 40, 41, 42, 43, 44, 45, 46, 47] (by decide +kernel) (by decide +kernel)
set_option maxRecDepth 20000 in
theorem gX7_isStrongWith_X7_all : GoodIn wsX7_isStrongWith (wsV RX7 101 RX7 yX7_all wsX7_all) := goodIn_app (goodIn_of _ (by decide +kernel)) ggX7_isStrongWith_X7_all
theorem dX7_isStrongWith_0 : decode cX7_isStrongWith 0 = .ok (.aload_n 0, 1) := by decide +kernel
theorem dX7_isStrongWith_1 : decode cX7_isStrongWith 1 = .ok (.iconst 1, 1) := by decide +kernel
theorem dX7_isStrongWith_2 : decode cX7_isStrongWith 2 = .ok (.iload_n 1, 1) := by decide +kernel
theorem dX7_isStrongWith_3 : decode cX7_isStrongWith 3 = .ok (.iconst 1, 1) := by decide +kernel
theorem dX7_isStrongWith_4 : decode cX7_isStrongWith 4 = .ok (.invokevirtual 123, 3) := by decide +kernel
theorem dX7_isStrongWith_7 : decode cX7_isStrongWith 7 = .ok (.aload_n 0, 1) := by decide +kernel
theorem dX7_isStrongWith_8 : decode cX7_isStrongWith 8 = .ok (.invokevirtual 101, 3) := by decide +kernel
theorem dX7_isStrongWith_11 : decode cX7_isStrongWith 11 = .ok (.if_icmp .ne 21, 3) := by decide +kernel
theorem dX7_isStrongWith_14 : decode cX7_isStrongWith 14 = .ok (.aload_n 0, 1) := by decide +kernel
theorem dX7_isStrongWith_15 : decode cX7_isStrongWith 15 = .ok (.iconst 1, 1) := by decide +kernel
theorem dX7_isStrongWith_16 : decode cX7_isStrongWith 16 = .ok (.iload_n 1, 1) := by decide +kernel
theorem dX7_isStrongWith_17 : decode cX7_isStrongWith 17 = .ok (.iconst 0, 1) := by decide +kernel
theorem dX7_isStrongWith_18 : decode cX7_isStrongWith 18 = .ok (.invokevirtual 123, 3) := by decide +kernel
theorem dX7_isStrongWith_21 : decode cX7_isStrongWith 21 = .ok (.aload_n 0, 1) := by decide +kernel
theorem dX7_isStrongWith_22 : decode cX7_isStrongWith 22 = .ok (.invokevirtual 101, 3) := by decide +kernel
theorem dX7_isStrongWith_25 : decode cX7_isStrongWith 25 = .ok (.if_icmp .ne 7, 3) := by decide +kernel
theorem dX7_isStrongWith_28 : decode cX7_isStrongWith 28 = .ok (.iconst 1, 1) := by decide +kernel
theorem dX7_isStrongWith_29 : decode cX7_isStrongWith 29 = .ok (.goto 4, 3) := by decide +kernel
theorem dX7_isStrongWith_32 : decode cX7_isStrongWith 32 = .ok (.iconst 0, 1) := by decide +kernel
theorem dX7_isStrongWith_33 : decode cX7_isStrongWith 33 = .ok (.ireturn, 1) := by decide +kernel
theorem dX7_lowest_0 : decode cX7_lowest 0 = .ok (.iconst 0, 1) := by decide +kernel
theorem dX7_lowest_1 : decode cX7_lowest 1 = .ok (.istore_n 1, 1) := by decide +kernel
theorem dX7_lowest_2 : decode cX7_lowest 2 = .ok (.iload_n 0, 1) := by decide +kernel
theorem dX7_lowest_3 : decode cX7_lowest 3 = .ok (.iload_n 1, 1) := by decide +kernel
theorem dX7_lowest_4 : decode cX7_lowest 4 = .ok (.ishr, 1) := by decide +kernel
theorem dX7_lowest_5 : decode cX7_lowest 5 = .ok (.iconst 1, 1) := by decide +kernel
theorem dX7_lowest_6 : decode cX7_lowest 6 = .ok (.iand, 1) := by decide +kernel
theorem dX7_lowest_7 : decode cX7_lowest 7 = .ok (.ifCond .ne 9, 3) := by decide +kernel
theorem dX7_lowest_10 : decode cX7_lowest 10 = .ok (.iinc 1 1, 3) := by decide +kernel
theorem dX7_lowest_13 : decode cX7_lowest 13 = .ok (.goto (-11), 3) := by decide +kernel
theorem dX7_lowest_16 : decode cX7_lowest 16 = .ok (.iload_n 1, 1) := by decide +kernel
theorem dX7_lowest_17 : decode cX7_lowest 17 = .ok (.ireturn, 1) := by decide +kernel
set_option maxRecDepth 20000 in
theorem ggX7_partOf_X7_reach : GoodIn wsX7_partOf wsX7_reach := goodIn_r _ [5, 6, 7, 8, 12, 13, 14, 15, 16, 17, 18, 19, 20, 21, 22, 23, 24, 25, 26, 27, 28, 29, 30, 31, 32, 33, 34, 35, 36, 37, 38, 39, 40, 41, 42, 43, 44, 45] (by decide +kernel) (by decide +kernel)
set_option maxRecDepth 20000 in
theorem gX7_partOf_X7_reach : GoodIn wsX7_partOf (wsV RX7 123 RX7 yX7_reach wsX7_reach) := goodIn_app (goodIn_of _ (by decide +kernel)) ggX7_partOf_X7_reach
set_option maxRecDepth 20000 in
theorem ggX7_partOf_X7_lowest : GoodIn wsX7_partOf wsX7_lowest := goodIn_r _ [11] (by decide +kernel) (by decide +kernel)
set_option maxRecDepth 20000 in
theorem gX7_partOf_X7_lowest : GoodIn wsX7_partOf (va_wsS RX7 127 yX7_lowest wsX7_lowest) := goodIn_app (goodIn_of _ (by decide +kernel)) ggX7_partOf_X7_lowest
theorem dX7_partOf_0 : decode cX7_partOf 0 = .ok (.aload_n 0, 1) := by decide +kernel
theorem dX7_partOf_1 : decode cX7_partOf 1 = .ok (.iconst 1, 1) := by decide +kernel
theorem dX7_partOf_2 : decode cX7_partOf 2 = .ok (.iload_n 1, 1) := by decide +kernel
theorem dX7_partOf_3 : decode cX7_partOf 3 = .ok (.ishl, 1) := by decide +kernel
theorem dX7_partOf_4 : decode cX7_partOf 4 = .ok (.iconst 0, 1) := by decide +kernel
theorem dX7_partOf_5 : decode cX7_partOf 5 = .ok (.iconst 1, 1) := by decide +kernel
theorem dX7_partOf_6 : decode cX7_partOf 6 = .ok (.invokevirtual 123, 3) := by decide +kernel
theorem dX7_partOf_9 : decode cX7_partOf 9 = .ok (.aload_n 0, 1) := by decide +kernel
theorem dX7_partOf_10 : decode cX7_partOf 10 = .ok (.iconst 1, 1) := by decide +kernel
