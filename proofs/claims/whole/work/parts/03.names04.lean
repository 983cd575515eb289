theorem dX6_count_48 : decode cX6_count 48 = .ok (.aload_n 0, 1) := by decide +kernel
theorem dX6_count_49 : decode cX6_count 49 = .ok (.getfield 10, 3) := by decide +kernel
theorem dX6_count_52 : decode cX6_count 52 = .ok (.getfield 41, 3) := by decide +kernel
theorem dX6_count_55 : decode cX6_count 55 = .ok (.getfield 98, 3) := by decide +kernel
theorem dX6_count_58 : decode cX6_count 58 = .ok (.ireturn, 1) := by decide +kernel
theorem dX6_count_59 : decode cX6_count 59 = .ok (.aload_n 0, 1) := by decide +kernel
theorem dX6_count_60 : decode cX6_count 60 = .ok (.getfield 10, 3) := by decide +kernel
theorem dX6_count_63 : decode cX6_count 63 = .ok (.getfield 41, 3) := by decide +kernel
theorem dX6_count_66 : decode cX6_count 66 = .ok (.getfield 64, 3) := by decide +kernel
theorem dX6_count_69 : decode cX6_count 69 = .ok (.ireturn, 1) := by decide +kernel
theorem dX6_count_70 : decode cX6_count 70 = .ok (.aload_n 0, 1) := by decide +kernel
theorem dX6_count_71 : decode cX6_count 71 = .ok (.getfield 23, 3) := by decide +kernel
theorem dX6_count_74 : decode cX6_count 74 = .ok (.aload_n 0, 1) := by decide +kernel
theorem dX6_count_75 : decode cX6_count 75 = .ok (.getfield 10, 3) := by decide +kernel
theorem dX6_count_78 : decode cX6_count 78 = .ok (.getfield 41, 3) := by decide +kernel
theorem dX6_count_81 : decode cX6_count 81 = .ok (.iconst 0, 1) := by decide +kernel
theorem dX6_count_82 : decode cX6_count 82 = .ok (.invokevirtual 104, 3) := by decide +kernel
theorem dX6_count_85 : decode cX6_count 85 = .ok (.aload_n 0, 1) := by decide +kernel
theorem dX6_count_86 : decode cX6_count 86 = .ok (.getfield 23, 3) := by decide +kernel
theorem dX6_count_89 : decode cX6_count 89 = .ok (.invokevirtual 119, 3) := by decide +kernel
theorem dX6_count_92 : decode cX6_count 92 = .ok (.ireturn, 1) := by decide +kernel
theorem dX6_count_93 : decode cX6_count 93 = .ok (.aload_n 0, 1) := by decide +kernel
theorem dX6_count_94 : decode cX6_count 94 = .ok (.invokevirtual 123, 3) := by decide +kernel
theorem dX6_count_97 : decode cX6_count 97 = .ok (.ifCond .eq 7, 3) := by decide +kernel
theorem dX6_count_100 : decode cX6_count 100 = .ok (.iconst 1, 1) := by decide +kernel
theorem dX6_count_101 : decode cX6_count 101 = .ok (.goto 4, 3) := by decide +kernel
theorem dX6_count_104 : decode cX6_count 104 = .ok (.iconst 0, 1) := by decide +kernel
theorem dX6_count_105 : decode cX6_count 105 = .ok (.ireturn, 1) := by decide +kernel
theorem dX6_count_106 : decode cX6_count 106 = .ok (.aload_n 0, 1) := by decide +kernel
theorem dX6_count_107 : decode cX6_count 107 = .ok (.iconst 0, 1) := by decide +kernel
theorem dX6_count_108 : decode cX6_count 108 = .ok (.invokevirtual 127, 3) := by decide +kernel
theorem dX6_count_111 : decode cX6_count 111 = .ok (.ifCond .eq 7, 3) := by decide +kernel
theorem dX6_count_114 : decode cX6_count 114 = .ok (.iconst 1, 1) := by decide +kernel
theorem dX6_count_115 : decode cX6_count 115 = .ok (.goto 4, 3) := by decide +kernel
theorem dX6_count_118 : decode cX6_count 118 = .ok (.iconst 0, 1) := by decide +kernel
theorem dX6_count_119 : decode cX6_count 119 = .ok (.ireturn, 1) := by decide +kernel
theorem dX6_count_120 : decode cX6_count 120 = .ok (.aload_n 0, 1) := by decide +kernel
theorem dX6_count_121 : decode cX6_count 121 = .ok (.getfield 30, 3) := by decide +kernel
theorem dX6_count_124 : decode cX6_count 124 = .ok (.aload_n 0, 1) := by decide +kernel
theorem dX6_count_125 : decode cX6_count 125 = .ok (.getfield 10, 3) := by decide +kernel
theorem dX6_count_128 : decode cX6_count 128 = .ok (.getfield 41, 3) := by decide +kernel
theorem dX6_count_131 : decode cX6_count 131 = .ok (.invokevirtual 130, 3) := by decide +kernel
theorem dX6_count_134 : decode cX6_count 134 = .ok (.aload_n 0, 1) := by decide +kernel
theorem dX6_count_135 : decode cX6_count 135 = .ok (.getfield 30, 3) := by decide +kernel
theorem dX6_count_138 : decode cX6_count 138 = .ok (.getfield 134, 3) := by decide +kernel
theorem dX6_count_141 : decode cX6_count 141 = .ok (.ireturn, 1) := by decide +kernel
theorem dX6_count_142 : decode cX6_count 142 = .ok (.aload_n 0, 1) := by decide +kernel
theorem dX6_count_143 : decode cX6_count 143 = .ok (.getfield 10, 3) := by decide +kernel
theorem dX6_count_146 : decode cX6_count 146 = .ok (.getfield 55, 3) := by decide +kernel
theorem dX6_count_149 : decode cX6_count 149 = .ok (.invokevirtual 137, 3) := by decide +kernel
theorem dX6_count_152 : decode cX6_count 152 = .ok (.ireturn, 1) := by decide +kernel
theorem dX6_count_153 : decode cX6_count 153 = .ok (.aload_n 0, 1) := by decide +kernel
theorem dX6_count_154 : decode cX6_count 154 = .ok (.invokevirtual 139, 3) := by decide +kernel
theorem dX6_count_157 : decode cX6_count 157 = .ok (.ireturn, 1) := by decide +kernel
theorem dX6_count_158 : decode cX6_count 158 = .ok (.iconst (-1), 1) := by decide +kernel
theorem dX6_count_159 : decode cX6_count 159 = .ok (.ireturn, 1) := by decide +kernel
set_option maxRecDepth 20000 in
theorem ggX6_side_X5_find : GoodIn wsX6_side wsX5_find := goodIn_r _ [11, 12, 13, 14, 15, 16, 17, 18, 19, 10, 20, 21, 22, 23, 24, 25, 26, 27, 28, 29, 30, 31, 32, 33, 34, 35, 36, 37, 38, 39, 40, 41, 42, 51, 52, 53, 54, 55, 56, 57, 58, 59, 60] (by decide +kernel) (by decide +kernel)
set_option maxRecDepth 20000 in
theorem gX6_side_X5_find : GoodIn wsX6_side (wsV RX6 130 RX5 yX5_find wsX5_find) := goodIn_app (goodIn_of _ (by decide +kernel)) ggX6_side_X5_find
theorem dX6_side_0 : decode cX6_side 0 = .ok (.iload_n 1, 1) := by decide +kernel
theorem dX6_side_1 : decode cX6_side 1 = .ok (.ifCond .lt 12, 3) := by decide +kernel
theorem dX6_side_4 : decode cX6_side 4 = .ok (.iload_n 2, 1) := by decide +kernel
theorem dX6_side_5 : decode cX6_side 5 = .ok (.ifCond .lt 8, 3) := by decide +kernel
theorem dX6_side_8 : decode cX6_side 8 = .ok (.iload_n 2, 1) := by decide +kernel
theorem dX6_side_9 : decode cX6_side 9 = .ok (.iconst 1, 1) := by decide +kernel
theorem dX6_side_10 : decode cX6_side 10 = .ok (.if_icmp .le 5, 3) := by decide +kernel
theorem dX6_side_13 : decode cX6_side 13 = .ok (.iconst (-1), 1) := by decide +kernel
theorem dX6_side_14 : decode cX6_side 14 = .ok (.ireturn, 1) := by decide +kernel
theorem dX6_side_15 : decode cX6_side 15 = .ok (.aload_n 0, 1) := by decide +kernel
theorem dX6_side_16 : decode cX6_side 16 = .ok (.getfield 30, 3) := by decide +kernel
theorem dX6_side_19 : decode cX6_side 19 = .ok (.aload_n 0, 1) := by decide +kernel
theorem dX6_side_20 : decode cX6_side 20 = .ok (.getfield 10, 3) := by decide +kernel
theorem dX6_side_23 : decode cX6_side 23 = .ok (.getfield 41, 3) := by decide +kernel
theorem dX6_side_26 : decode cX6_side 26 = .ok (.invokevirtual 130, 3) := by decide +kernel
theorem dX6_side_29 : decode cX6_side 29 = .ok (.iload_n 1, 1) := by decide +kernel
theorem dX6_side_30 : decode cX6_side 30 = .ok (.aload_n 0, 1) := by decide +kernel
theorem dX6_side_31 : decode cX6_side 31 = .ok (.getfield 30, 3) := by decide +kernel
theorem dX6_side_34 : decode cX6_side 34 = .ok (.getfield 134, 3) := by decide +kernel
theorem dX6_side_37 : decode cX6_side 37 = .ok (.if_icmp .lt 5, 3) := by decide +kernel
theorem dX6_side_40 : decode cX6_side 40 = .ok (.iconst (-1), 1) := by decide +kernel
theorem dX6_side_41 : decode cX6_side 41 = .ok (.ireturn, 1) := by decide +kernel
theorem dX6_side_42 : decode cX6_side 42 = .ok (.iload_n 2, 1) := by decide +kernel
theorem dX6_side_43 : decode cX6_side 43 = .ok (.ifCond .ne 15, 3) := by decide +kernel
theorem dX6_side_46 : decode cX6_side 46 = .ok (.aload_n 0, 1) := by decide +kernel
theorem dX6_side_47 : decode cX6_side 47 = .ok (.getfield 30, 3) := by decide +kernel
theorem dX6_side_50 : decode cX6_side 50 = .ok (.getfield 142, 3) := by decide +kernel
theorem dX6_side_53 : decode cX6_side 53 = .ok (.iload_n 1, 1) := by decide +kernel
theorem dX6_side_54 : decode cX6_side 54 = .ok (.iaload, 1) := by decide +kernel
theorem dX6_side_55 : decode cX6_side 55 = .ok (.goto 12, 3) := by decide +kernel
theorem dX6_side_58 : decode cX6_side 58 = .ok (.aload_n 0, 1) := by decide +kernel
theorem dX6_side_59 : decode cX6_side 59 = .ok (.getfield 30, 3) := by decide +kernel
theorem dX6_side_62 : decode cX6_side 62 = .ok (.getfield 145, 3) := by decide +kernel
theorem dX6_side_65 : decode cX6_side 65 = .ok (.iload_n 1, 1) := by decide +kernel
theorem dX6_side_66 : decode cX6_side 66 = .ok (.iaload, 1) := by decide +kernel
theorem dX6_side_67 : decode cX6_side 67 = .ok (.ireturn, 1) := by decide +kernel
set_option maxRecDepth 20000 in
theorem ggX6_bounds_X2_hasArc : GoodIn wsX6_bounds wsX2_hasArc := goodIn_r _ [12, 13, 51, 52, 53, 54, 55] (by decide +kernel) (by decide +kernel)
set_option maxRecDepth 20000 in
theorem gX6_bounds_X2_hasArc : GoodIn wsX6_bounds (wsV RX6 78 RX2 yX2_hasArc wsX2_hasArc) := goodIn_app (goodIn_of _ (by decide +kernel)) ggX6_bounds_X2_hasArc
set_option maxRecDepth 20000 in
theorem ggX6_bounds_X3_follow : GoodIn wsX6_bounds wsX3_follow := goodIn_r _ [18, 19, 20, 21, 22, 23, 24, 25, 26, 27, 28, 29, 30, 17, 31, 32, 33, 34, 35, 36, 51, 52, 53, 54, 55, 56, 57, 58] (by decide +kernel) (by decide +kernel)
set_option maxRecDepth 20000 in
theorem gX6_bounds_X3_follow : GoodIn wsX6_bounds (wsV RX6 104 RX3 yX3_follow wsX3_follow) := goodIn_app (goodIn_of _ (by decide +kernel)) ggX6_bounds_X3_follow
set_option maxRecDepth 20000 in
theorem ggX6_bounds_X6_contains : GoodIn wsX6_bounds wsX6_contains := goodIn_r _ [27] (by decide +kernel) (by decide +kernel)
set_option maxRecDepth 20000 in
theorem gX6_bounds_X6_contains : GoodIn wsX6_bounds (va_wsS RX6 148 yX6_contains wsX6_contains) := goodIn_app (goodIn_of _ (by decide +kernel)) ggX6_bounds_X6_contains
set_option maxRecDepth 20000 in
theorem ggX6_bounds_X2_allNodes : GoodIn wsX6_bounds wsX2_allNodes := goodIn_r _ [41, 42, 51, 52, 53, 54, 55] (by decide +kernel) (by decide +kernel)
set_option maxRecDepth 20000 in
theorem gX6_bounds_X2_allNodes : GoodIn wsX6_bounds (wsV RX6 152 RX2 yX2_allNodes wsX2_allNodes) := goodIn_app (goodIn_of _ (by decide +kernel)) ggX6_bounds_X2_allNodes
theorem dX6_bounds_0 : decode cX6_bounds 0 = .ok (.aload_n 0, 1) := by decide +kernel
theorem dX6_bounds_1 : decode cX6_bounds 1 = .ok (.getfield 10, 3) := by decide +kernel
theorem dX6_bounds_4 : decode cX6_bounds 4 = .ok (.getfield 41, 3) := by decide +kernel
theorem dX6_bounds_7 : decode cX6_bounds 7 = .ok (.iload_n 1, 1) := by decide +kernel
theorem dX6_bounds_8 : decode cX6_bounds 8 = .ok (.invokevirtual 78, 3) := by decide +kernel
theorem dX6_bounds_11 : decode cX6_bounds 11 = .ok (.ifCond .ne 5, 3) := by decide +kernel
theorem dX6_bounds_14 : decode cX6_bounds 14 = .ok (.iconst 0, 1) := by decide +kernel
theorem dX6_bounds_15 : decode cX6_bounds 15 = .ok (.ireturn, 1) := by decide +kernel
theorem dX6_bounds_16 : decode cX6_bounds 16 = .ok (.aload_n 0, 1) := by decide +kernel
theorem dX6_bounds_17 : decode cX6_bounds 17 = .ok (.getfield 10, 3) := by decide +kernel
theorem dX6_bounds_20 : decode cX6_bounds 20 = .ok (.getfield 41, 3) := by decide +kernel
theorem dX6_bounds_23 : decode cX6_bounds 23 = .ok (.getfield 88, 3) := by decide +kernel
theorem dX6_bounds_26 : decode cX6_bounds 26 = .ok (.iload_n 1, 1) := by decide +kernel
theorem dX6_bounds_27 : decode cX6_bounds 27 = .ok (.iaload, 1) := by decide +kernel
theorem dX6_bounds_28 : decode cX6_bounds 28 = .ok (.istore_n 3, 1) := by decide +kernel
theorem dX6_bounds_29 : decode cX6_bounds 29 = .ok (.aload_n 0, 1) := by decide +kernel
theorem dX6_bounds_30 : decode cX6_bounds 30 = .ok (.getfield 10, 3) := by decide +kernel
theorem dX6_bounds_33 : decode cX6_bounds 33 = .ok (.getfield 41, 3) := by decide +kernel
theorem dX6_bounds_36 : decode cX6_bounds 36 = .ok (.getfield 91, 3) := by decide +kernel
theorem dX6_bounds_39 : decode cX6_bounds 39 = .ok (.iload_n 1, 1) := by decide +kernel
theorem dX6_bounds_40 : decode cX6_bounds 40 = .ok (.iaload, 1) := by decide +kernel
theorem dX6_bounds_41 : decode cX6_bounds 41 = .ok (.istore 4, 2) := by decide +kernel
theorem dX6_bounds_43 : decode cX6_bounds 43 = .ok (.aload_n 0, 1) := by decide +kernel
theorem dX6_bounds_44 : decode cX6_bounds 44 = .ok (.getfield 23, 3) := by decide +kernel
theorem dX6_bounds_47 : decode cX6_bounds 47 = .ok (.aload_n 0, 1) := by decide +kernel
theorem dX6_bounds_48 : decode cX6_bounds 48 = .ok (.getfield 10, 3) := by decide +kernel
theorem dX6_bounds_51 : decode cX6_bounds 51 = .ok (.getfield 41, 3) := by decide +kernel
theorem dX6_bounds_54 : decode cX6_bounds 54 = .ok (.iconst 0, 1) := by decide +kernel
theorem dX6_bounds_55 : decode cX6_bounds 55 = .ok (.invokevirtual 104, 3) := by decide +kernel
theorem dX6_bounds_58 : decode cX6_bounds 58 = .ok (.aload_n 0, 1) := by decide +kernel
theorem dX6_bounds_59 : decode cX6_bounds 59 = .ok (.getfield 23, 3) := by decide +kernel
theorem dX6_bounds_62 : decode cX6_bounds 62 = .ok (.getfield 113, 3) := by decide +kernel
theorem dX6_bounds_65 : decode cX6_bounds 65 = .ok (.iload 4, 2) := by decide +kernel
theorem dX6_bounds_67 : decode cX6_bounds 67 = .ok (.iaload, 1) := by decide +kernel
theorem dX6_bounds_68 : decode cX6_bounds 68 = .ok (.iload_n 3, 1) := by decide +kernel
theorem dX6_bounds_69 : decode cX6_bounds 69 = .ok (.invokestatic 148, 3) := by decide +kernel
theorem dX6_bounds_72 : decode cX6_bounds 72 = .ok (.ifCond .eq 5, 3) := by decide +kernel
theorem dX6_bounds_75 : decode cX6_bounds 75 = .ok (.iconst 0, 1) := by decide +kernel
theorem dX6_bounds_76 : decode cX6_bounds 76 = .ok (.ireturn, 1) := by decide +kernel
theorem dX6_bounds_77 : decode cX6_bounds 77 = .ok (.iload_n 2, 1) := by decide +kernel
theorem dX6_bounds_78 : decode cX6_bounds 78 = .ok (.ifCond .eq 28, 3) := by decide +kernel
theorem dX6_bounds_81 : decode cX6_bounds 81 = .ok (.aload_n 0, 1) := by decide +kernel
theorem dX6_bounds_82 : decode cX6_bounds 82 = .ok (.getfield 10, 3) := by decide +kernel
theorem dX6_bounds_85 : decode cX6_bounds 85 = .ok (.getfield 41, 3) := by decide +kernel
theorem dX6_bounds_88 : decode cX6_bounds 88 = .ok (.invokevirtual 152, 3) := by decide +kernel
theorem dX6_bounds_91 : decode cX6_bounds 91 = .ok (.aload_n 0, 1) := by decide +kernel
theorem dX6_bounds_92 : decode cX6_bounds 92 = .ok (.getfield 23, 3) := by decide +kernel
theorem dX6_bounds_95 : decode cX6_bounds 95 = .ok (.getfield 116, 3) := by decide +kernel
theorem dX6_bounds_98 : decode cX6_bounds 98 = .ok (.iload_n 3, 1) := by decide +kernel
theorem dX6_bounds_99 : decode cX6_bounds 99 = .ok (.iaload, 1) := by decide +kernel
theorem dX6_bounds_100 : decode cX6_bounds 100 = .ok (.iconst (-1), 1) := by decide +kernel
theorem dX6_bounds_101 : decode cX6_bounds 101 = .ok (.ixor, 1) := by decide +kernel
theorem dX6_bounds_102 : decode cX6_bounds 102 = .ok (.iand, 1) := by decide +kernel
theorem dX6_bounds_103 : decode cX6_bounds 103 = .ok (.goto 13, 3) := by decide +kernel
theorem dX6_bounds_106 : decode cX6_bounds 106 = .ok (.aload_n 0, 1) := by decide +kernel
theorem dX6_bounds_107 : decode cX6_bounds 107 = .ok (.getfield 23, 3) := by decide +kernel
theorem dX6_bounds_110 : decode cX6_bounds 110 = .ok (.getfield 113, 3) := by decide +kernel
theorem dX6_bounds_113 : decode cX6_bounds 113 = .ok (.iload 4, 2) := by decide +kernel
theorem dX6_bounds_115 : decode cX6_bounds 115 = .ok (.iaload, 1) := by decide +kernel
theorem dX6_bounds_116 : decode cX6_bounds 116 = .ok (.ireturn, 1) := by decide +kernel
set_option maxRecDepth 20000 in
theorem ggX6_isDijoin_X5_find : GoodIn wsX6_isDijoin wsX5_find := goodIn_r _ [10, 11, 12, 13, 14, 15, 16, 17, 18, 9, 19, 20, 21, 22, 23, 24, 25, 26, 27, 28, 29, 30, 31, 32, 33, 34, 35, 36, 37, 38, 39, 40, 41, 50, 51, 52, 53, 54, 55, 56, 57, 58, 59] (by decide +kernel) (by decide +kernel)
set_option maxRecDepth 20000 in
theorem gX6_isDijoin_X5_find : GoodIn wsX6_isDijoin (wsV RX6 130 RX5 yX5_find wsX5_find) := goodIn_app (goodIn_of _ (by decide +kernel)) ggX6_isDijoin_X5_find
theorem dX6_isDijoin_0 : decode cX6_isDijoin 0 = .ok (.aload_n 0, 1) := by decide +kernel
theorem dX6_isDijoin_1 : decode cX6_isDijoin 1 = .ok (.getfield 30, 3) := by decide +kernel
theorem dX6_isDijoin_4 : decode cX6_isDijoin 4 = .ok (.aload_n 0, 1) := by decide +kernel
theorem dX6_isDijoin_5 : decode cX6_isDijoin 5 = .ok (.getfield 10, 3) := by decide +kernel
theorem dX6_isDijoin_8 : decode cX6_isDijoin 8 = .ok (.getfield 41, 3) := by decide +kernel
theorem dX6_isDijoin_11 : decode cX6_isDijoin 11 = .ok (.invokevirtual 130, 3) := by decide +kernel
theorem dX6_isDijoin_14 : decode cX6_isDijoin 14 = .ok (.iconst 0, 1) := by decide +kernel
theorem dX6_isDijoin_15 : decode cX6_isDijoin 15 = .ok (.istore_n 2, 1) := by decide +kernel
theorem dX6_isDijoin_16 : decode cX6_isDijoin 16 = .ok (.iload_n 2, 1) := by decide +kernel
theorem dX6_isDijoin_17 : decode cX6_isDijoin 17 = .ok (.aload_n 0, 1) := by decide +kernel
theorem dX6_isDijoin_18 : decode cX6_isDijoin 18 = .ok (.getfield 30, 3) := by decide +kernel
theorem dX6_isDijoin_21 : decode cX6_isDijoin 21 = .ok (.getfield 134, 3) := by decide +kernel
theorem dX6_isDijoin_24 : decode cX6_isDijoin 24 = .ok (.if_icmp .ge 25, 3) := by decide +kernel
theorem dX6_isDijoin_27 : decode cX6_isDijoin 27 = .ok (.aload_n 0, 1) := by decide +kernel
theorem dX6_isDijoin_28 : decode cX6_isDijoin 28 = .ok (.getfield 30, 3) := by decide +kernel
theorem dX6_isDijoin_31 : decode cX6_isDijoin 31 = .ok (.getfield 145, 3) := by decide +kernel
theorem dX6_isDijoin_34 : decode cX6_isDijoin 34 = .ok (.iload_n 2, 1) := by decide +kernel
theorem dX6_isDijoin_35 : decode cX6_isDijoin 35 = .ok (.iaload, 1) := by decide +kernel
theorem dX6_isDijoin_36 : decode cX6_isDijoin 36 = .ok (.iload_n 1, 1) := by decide +kernel
theorem dX6_isDijoin_37 : decode cX6_isDijoin 37 = .ok (.iand, 1) := by decide +kernel
theorem dX6_isDijoin_38 : decode cX6_isDijoin 38 = .ok (.ifCond .ne 5, 3) := by decide +kernel
theorem dX6_isDijoin_41 : decode cX6_isDijoin 41 = .ok (.iconst 0, 1) := by decide +kernel
theorem dX6_isDijoin_42 : decode cX6_isDijoin 42 = .ok (.ireturn, 1) := by decide +kernel
theorem dX6_isDijoin_43 : decode cX6_isDijoin 43 = .ok (.iinc 2 1, 3) := by decide +kernel
theorem dX6_isDijoin_46 : decode cX6_isDijoin 46 = .ok (.goto (-30), 3) := by decide +kernel
theorem dX6_isDijoin_49 : decode cX6_isDijoin 49 = .ok (.iconst 1, 1) := by decide +kernel
theorem dX6_isDijoin_50 : decode cX6_isDijoin 50 = .ok (.ireturn, 1) := by decide +kernel
set_option maxRecDepth 20000 in
theorem ggX6_isStrong_X3_follow : GoodIn wsX6_isStrong wsX3_follow := goodIn_r _ [8, 9, 10, 11, 12, 13, 14, 15, 16, 17, 18, 19, 20, 7, 21, 22, 23, 24, 25, 26, 39, 40, 41, 42, 43, 44, 45, 46] (by decide +kernel) (by decide +kernel)
set_option maxRecDepth 20000 in
theorem gX6_isStrong_X3_follow : GoodIn wsX6_isStrong (wsV RX6 104 RX3 yX3_follow wsX3_follow) := goodIn_app (goodIn_of _ (by decide +kernel)) ggX6_isStrong_X3_follow
set_option maxRecDepth 20000 in
theorem ggX6_isStrong_X3_areStrong : GoodIn wsX6_isStrong wsX3_areStrong := goodIn_r _ [30, 10, 11, 26, 44, 45, 46] (by decide +kernel) (by decide +kernel)
set_option maxRecDepth 20000 in
theorem gX6_isStrong_X3_areStrong : GoodIn wsX6_isStrong (wsV RX6 155 RX3 yX3_areStrong wsX3_areStrong) := goodIn_app (goodIn_of _ (by decide +kernel)) ggX6_isStrong_X3_areStrong
theorem dX6_isStrong_0 : decode cX6_isStrong 0 = .ok (.aload_n 0, 1) := by decide +kernel
theorem dX6_isStrong_1 : decode cX6_isStrong 1 = .ok (.getfield 23, 3) := by decide +kernel
theorem dX6_isStrong_4 : decode cX6_isStrong 4 = .ok (.aload_n 0, 1) := by decide +kernel
theorem dX6_isStrong_5 : decode cX6_isStrong 5 = .ok (.getfield 10, 3) := by decide +kernel
theorem dX6_isStrong_8 : decode cX6_isStrong 8 = .ok (.getfield 41, 3) := by decide +kernel
theorem dX6_isStrong_11 : decode cX6_isStrong 11 = .ok (.iload_n 1, 1) := by decide +kernel
theorem dX6_isStrong_12 : decode cX6_isStrong 12 = .ok (.invokevirtual 104, 3) := by decide +kernel
theorem dX6_isStrong_15 : decode cX6_isStrong 15 = .ok (.aload_n 0, 1) := by decide +kernel
theorem dX6_isStrong_16 : decode cX6_isStrong 16 = .ok (.getfield 23, 3) := by decide +kernel
theorem dX6_isStrong_19 : decode cX6_isStrong 19 = .ok (.invokevirtual 155, 3) := by decide +kernel
theorem dX6_isStrong_22 : decode cX6_isStrong 22 = .ok (.ireturn, 1) := by decide +kernel
set_option maxRecDepth 20000 in
theorem ggX6_dijoin_X6_isWhole : GoodIn wsX6_dijoin wsX6_isWhole := goodIn_r _ [12, 13, 14, 15, 16, 11, 17, 18, 2, 3, 19, 20, 21, 22, 23, 24, 25, 26, 27, 28, 29, 30, 31, 32, 33, 34, 35, 36, 37, 38, 39, 40, 41, 42, 43, 44, 148, 149, 150, 151, 152, 153, 154, 155, 166, 167, 168, 169, 170, 171, 172, 173] (by decide +kernel) (by decide +kernel)
set_option maxRecDepth 20000 in
theorem gX6_dijoin_X6_isWhole : GoodIn wsX6_dijoin (wsV RX6 123 RX6 yX6_isWhole wsX6_isWhole) := goodIn_app (goodIn_of _ (by decide +kernel)) ggX6_dijoin_X6_isWhole
set_option maxRecDepth 20000 in
theorem ggX6_dijoin_X6_prepareSearch : GoodIn wsX6_dijoin wsX6_prepareSearch := goodIn_r _ [48, 49, 2, 3, 1, 50, 51, 52, 53, 54, 55, 56, 57, 58, 59, 60, 61, 62, 63, 64, 65, 66, 67, 68, 69, 70, 71, 72, 73, 74, 75, 76, 77, 78, 79, 80, 81, 82, 83, 84, 85, 86, 87, 88, 89, 90, 91, 92, 93, 94, 95, 96, 97, 98, 148, 149, 150, 151, 152, 153, 154, 155, 174, 175, 176, 177, 178, 166, 167, 168, 169, 170, 156, 157, 158, 159, 160, 161, 162, 163, 164, 165] (by decide +kernel) (by decide +kernel)
set_option maxRecDepth 20000 in
theorem gX6_dijoin_X6_prepareSearch : GoodIn wsX6_dijoin (wsV RX6 158 RX6 yX6_prepareSearch wsX6_prepareSearch) := goodIn_app (goodIn_of _ (by decide +kernel)) ggX6_dijoin_X6_prepareSearch
set_option maxRecDepth 20000 in
theorem ggX6_dijoin_X4_priceWithTies : GoodIn wsX6_dijoin wsX4_priceWithTies := goodIn_r _ [102, 103, 104, 105, 106, 107, 166, 167, 168, 169, 170, 156, 157, 158, 159, 160, 161, 162, 163, 164, 165] (by decide +kernel) (by decide +kernel)
set_option maxRecDepth 20000 in
theorem gX6_dijoin_X4_priceWithTies : GoodIn wsX6_dijoin (wsV RX6 161 RX4 yX4_priceWithTies wsX4_priceWithTies) := goodIn_app (goodIn_of _ (by decide +kernel)) ggX6_dijoin_X4_priceWithTies
set_option maxRecDepth 20000 in
theorem ggX6_dijoin_X4_findBelow : GoodIn wsX6_dijoin wsX4_findBelow := goodIn_r _ [111, 112, 113, 104, 106, 105, 114, 115, 89, 116, 117, 118, 119, 120, 121, 122, 123, 124, 125, 126, 127, 91, 98, 128, 129, 130, 131, 132, 133, 134, 135, 136, 30, 11, 31, 137, 138, 139, 140, 141, 142, 143, 156, 157, 158, 159, 160, 161, 162, 163, 164, 165] (by decide +kernel) (by decide +kernel)
set_option maxRecDepth 20000 in
theorem gX6_dijoin_X4_findBelow : GoodIn wsX6_dijoin (wsV RX6 165 RX4 yX4_findBelow wsX4_findBelow) := goodIn_app (goodIn_of _ (by decide +kernel)) ggX6_dijoin_X4_findBelow
set_option maxRecDepth 20000 in
theorem ggX6_dijoin_X6_sumOver : GoodIn wsX6_dijoin wsX6_sumOver := goodIn_r _ [146, 147, 30, 11, 31] (by decide +kernel) (by decide +kernel)
set_option maxRecDepth 20000 in
theorem gX6_dijoin_X6_sumOver : GoodIn wsX6_dijoin (va_wsS RX6 171 yX6_sumOver wsX6_sumOver) := goodIn_app (goodIn_of _ (by decide +kernel)) ggX6_dijoin_X6_sumOver
theorem dX6_dijoin_0 : decode cX6_dijoin 0 = .ok (.aload_n 0, 1) := by decide +kernel
theorem dX6_dijoin_1 : decode cX6_dijoin 1 = .ok (.invokevirtual 123, 3) := by decide +kernel
theorem dX6_dijoin_4 : decode cX6_dijoin 4 = .ok (.ifCond .ne 5, 3) := by decide +kernel
theorem dX6_dijoin_7 : decode cX6_dijoin 7 = .ok (.iconst (-1), 1) := by decide +kernel
theorem dX6_dijoin_8 : decode cX6_dijoin 8 = .ok (.ireturn, 1) := by decide +kernel
theorem dX6_dijoin_9 : decode cX6_dijoin 9 = .ok (.aload_n 0, 1) := by decide +kernel
theorem dX6_dijoin_10 : decode cX6_dijoin 10 = .ok (.invokevirtual 158, 3) := by decide +kernel
theorem dX6_dijoin_13 : decode cX6_dijoin 13 = .ok (.aload_n 0, 1) := by decide +kernel
theorem dX6_dijoin_14 : decode cX6_dijoin 14 = .ok (.getfield 37, 3) := by decide +kernel
theorem dX6_dijoin_17 : decode cX6_dijoin 17 = .ok (.aload_n 0, 1) := by decide +kernel
theorem dX6_dijoin_18 : decode cX6_dijoin 18 = .ok (.getfield 10, 3) := by decide +kernel
theorem dX6_dijoin_21 : decode cX6_dijoin 21 = .ok (.getfield 41, 3) := by decide +kernel
theorem dX6_dijoin_24 : decode cX6_dijoin 24 = .ok (.invokevirtual 161, 3) := by decide +kernel
theorem dX6_dijoin_27 : decode cX6_dijoin 27 = .ok (.aload_n 0, 1) := by decide +kernel
theorem dX6_dijoin_28 : decode cX6_dijoin 28 = .ok (.getfield 37, 3) := by decide +kernel
theorem dX6_dijoin_31 : decode cX6_dijoin 31 = .ok (.ldc 164, 2) := by decide +kernel
theorem dX6_dijoin_33 : decode cX6_dijoin 33 = .ok (.invokevirtual 165, 3) := by decide +kernel
theorem dX6_dijoin_36 : decode cX6_dijoin 36 = .ok (.pop, 1) := by decide +kernel
theorem dX6_dijoin_37 : decode cX6_dijoin 37 = .ok (.aload_n 0, 1) := by decide +kernel
theorem dX6_dijoin_38 : decode cX6_dijoin 38 = .ok (.getfield 10, 3) := by decide +kernel
theorem dX6_dijoin_41 : decode cX6_dijoin 41 = .ok (.aload_n 0, 1) := by decide +kernel
theorem dX6_dijoin_42 : decode cX6_dijoin 42 = .ok (.getfield 37, 3) := by decide +kernel
theorem dX6_dijoin_45 : decode cX6_dijoin 45 = .ok (.getfield 168, 3) := by decide +kernel
theorem dX6_dijoin_48 : decode cX6_dijoin 48 = .ok (.putfield 51, 3) := by decide +kernel
theorem dX6_dijoin_51 : decode cX6_dijoin 51 = .ok (.aload_n 0, 1) := by decide +kernel
theorem dX6_dijoin_52 : decode cX6_dijoin 52 = .ok (.getfield 10, 3) := by decide +kernel
theorem dX6_dijoin_55 : decode cX6_dijoin 55 = .ok (.getfield 41, 3) := by decide +kernel
theorem dX6_dijoin_58 : decode cX6_dijoin 58 = .ok (.getfield 84, 3) := by decide +kernel
theorem dX6_dijoin_61 : decode cX6_dijoin 61 = .ok (.aload_n 0, 1) := by decide +kernel
theorem dX6_dijoin_62 : decode cX6_dijoin 62 = .ok (.getfield 37, 3) := by decide +kernel
theorem dX6_dijoin_65 : decode cX6_dijoin 65 = .ok (.getfield 168, 3) := by decide +kernel
theorem dX6_dijoin_68 : decode cX6_dijoin 68 = .ok (.invokestatic 171, 3) := by decide +kernel
theorem dX6_dijoin_71 : decode cX6_dijoin 71 = .ok (.ireturn, 1) := by decide +kernel
theorem dX6_chosen_0 : decode cX6_chosen 0 = .ok (.aload_n 0, 1) := by decide +kernel
theorem dX6_chosen_1 : decode cX6_chosen 1 = .ok (.getfield 10, 3) := by decide +kernel
theorem dX6_chosen_4 : decode cX6_chosen 4 = .ok (.getfield 51, 3) := by decide +kernel
theorem dX6_chosen_7 : decode cX6_chosen 7 = .ok (.ireturn, 1) := by decide +kernel
set_option maxRecDepth 20000 in
theorem ggX6_cost_X2_hasArc : GoodIn wsX6_cost wsX2_hasArc := goodIn_r _ [10, 11, 171, 172, 173, 174, 175] (by decide +kernel) (by decide +kernel)
set_option maxRecDepth 20000 in
theorem gX6_cost_X2_hasArc : GoodIn wsX6_cost (wsV RX6 78 RX2 yX2_hasArc wsX2_hasArc) := goodIn_app (goodIn_of _ (by decide +kernel)) ggX6_cost_X2_hasArc
set_option maxRecDepth 20000 in
theorem ggX6_cost_X6_isWeight : GoodIn wsX6_cost wsX6_isWeight := goodIn_r _ [15] (by decide +kernel) (by decide +kernel)
set_option maxRecDepth 20000 in
theorem gX6_cost_X6_isWeight : GoodIn wsX6_cost (va_wsS RX6 71 yX6_isWeight wsX6_isWeight) := goodIn_app (goodIn_of _ (by decide +kernel)) ggX6_cost_X6_isWeight
set_option maxRecDepth 20000 in
theorem ggX6_cost_X6_isWhole : GoodIn wsX6_cost wsX6_isWhole := goodIn_r _ [19, 20, 21, 22, 23, 14, 24, 25, 1, 2, 26, 27, 28, 29, 30, 31, 32, 33, 34, 35, 36, 37, 38, 39, 40, 41, 42, 43, 44, 45, 46, 47, 48, 49, 50, 51, 153, 154, 155, 156, 157, 158, 159, 160, 171, 172, 173, 174, 175, 176, 177, 178] (by decide +kernel) (by decide +kernel)
set_option maxRecDepth 20000 in
theorem gX6_cost_X6_isWhole : GoodIn wsX6_cost (wsV RX6 123 RX6 yX6_isWhole wsX6_isWhole) := goodIn_app (goodIn_of _ (by decide +kernel)) ggX6_cost_X6_isWhole
set_option maxRecDepth 20000 in
theorem ggX6_cost_X6_prepareSearch : GoodIn wsX6_cost wsX6_prepareSearch := goodIn_r _ [55, 56, 1, 2, 3, 57, 58, 59, 60, 61, 62, 63, 64, 65, 66, 67, 68, 69, 70, 71, 72, 73, 74, 9, 75, 76, 77, 78, 79, 80, 11, 81, 82, 83, 84, 85, 86, 87, 88, 89, 90, 91, 92, 93, 94, 95, 96, 97, 98, 99, 100, 101, 102, 103, 153, 154, 155, 156, 157, 158, 159, 160, 179, 180, 181, 182, 183, 171, 172, 173, 174, 175, 161, 162, 163, 164, 165, 166, 167, 168, 169, 170] (by decide +kernel) (by decide +kernel)
set_option maxRecDepth 20000 in
theorem gX6_cost_X6_prepareSearch : GoodIn wsX6_cost (wsV RX6 158 RX6 yX6_prepareSearch wsX6_prepareSearch) := goodIn_app (goodIn_of _ (by decide +kernel)) ggX6_cost_X6_prepareSearch
set_option maxRecDepth 20000 in
theorem ggX6_cost_X4_priceByWeight : GoodIn wsX6_cost wsX4_priceByWeight := goodIn_r _ [107, 108, 109, 110, 111, 112, 113, 114, 115, 116, 171, 172, 173, 174, 175, 161, 162, 163, 164, 165, 166, 167, 168, 169, 170] (by decide +kernel) (by decide +kernel)
set_option maxRecDepth 20000 in
theorem gX6_cost_X4_priceByWeight : GoodIn wsX6_cost (wsV RX6 175 RX4 yX4_priceByWeight wsX4_priceByWeight) := goodIn_app (goodIn_of _ (by decide +kernel)) ggX6_cost_X4_priceByWeight
set_option maxRecDepth 20000 in
theorem ggX6_cost_X4_reprice : GoodIn wsX6_cost wsX4_reprice := goodIn_r _ [120, 110, 112, 161, 162, 163, 164, 165, 166, 167, 168, 169, 170] (by decide +kernel) (by decide +kernel)
set_option maxRecDepth 20000 in
theorem gX6_cost_X4_reprice : GoodIn wsX6_cost (wsV RX6 178 RX4 yX4_reprice wsX4_reprice) := goodIn_app (goodIn_of _ (by decide +kernel)) ggX6_cost_X4_reprice
set_option maxRecDepth 20000 in
theorem ggX6_cost_X4_findBelow : GoodIn wsX6_cost wsX4_findBelow := goodIn_r _ [124, 125, 126, 109, 112, 110, 127, 128, 94, 129, 130, 131, 132, 133, 134, 135, 136, 113, 114, 115, 116, 96, 103, 137, 138, 139, 140, 141, 142, 143, 144, 145, 37, 14, 38, 146, 147, 148, 149, 150, 151, 152, 161, 162, 163, 164, 165, 166, 167, 168, 169, 170] (by decide +kernel) (by decide +kernel)
set_option maxRecDepth 20000 in
theorem gX6_cost_X4_findBelow : GoodIn wsX6_cost (wsV RX6 165 RX4 yX4_findBelow wsX4_findBelow) := goodIn_app (goodIn_of _ (by decide +kernel)) ggX6_cost_X4_findBelow
theorem dX6_cost_0 : decode cX6_cost 0 = .ok (.aload_n 0, 1) := by decide +kernel
theorem dX6_cost_1 : decode cX6_cost 1 = .ok (.getfield 10, 3) := by decide +kernel
theorem dX6_cost_4 : decode cX6_cost 4 = .ok (.getfield 41, 3) := by decide +kernel
theorem dX6_cost_7 : decode cX6_cost 7 = .ok (.iload_n 1, 1) := by decide +kernel
theorem dX6_cost_8 : decode cX6_cost 8 = .ok (.invokevirtual 78, 3) := by decide +kernel
theorem dX6_cost_11 : decode cX6_cost 11 = .ok (.ifCond .eq 22, 3) := by decide +kernel
theorem dX6_cost_14 : decode cX6_cost 14 = .ok (.iload_n 2, 1) := by decide +kernel
theorem dX6_cost_15 : decode cX6_cost 15 = .ok (.iconst (-1), 1) := by decide +kernel
theorem dX6_cost_16 : decode cX6_cost 16 = .ok (.if_icmp .eq 10, 3) := by decide +kernel
theorem dX6_cost_19 : decode cX6_cost 19 = .ok (.iload_n 2, 1) := by decide +kernel
theorem dX6_cost_20 : decode cX6_cost 20 = .ok (.invokestatic 71, 3) := by decide +kernel
theorem dX6_cost_23 : decode cX6_cost 23 = .ok (.ifCond .eq 10, 3) := by decide +kernel
theorem dX6_cost_26 : decode cX6_cost 26 = .ok (.aload_n 0, 1) := by decide +kernel
theorem dX6_cost_27 : decode cX6_cost 27 = .ok (.invokevirtual 123, 3) := by decide +kernel
theorem dX6_cost_30 : decode cX6_cost 30 = .ok (.ifCond .ne 5, 3) := by decide +kernel
theorem dX6_cost_33 : decode cX6_cost 33 = .ok (.iconst (-1), 1) := by decide +kernel
theorem dX6_cost_34 : decode cX6_cost 34 = .ok (.ireturn, 1) := by decide +kernel
theorem dX6_cost_35 : decode cX6_cost 35 = .ok (.aload_n 0, 1) := by decide +kernel
theorem dX6_cost_36 : decode cX6_cost 36 = .ok (.invokevirtual 158, 3) := by decide +kernel
theorem dX6_cost_39 : decode cX6_cost 39 = .ok (.aload_n 0, 1) := by decide +kernel
theorem dX6_cost_40 : decode cX6_cost 40 = .ok (.getfield 37, 3) := by decide +kernel
theorem dX6_cost_43 : decode cX6_cost 43 = .ok (.aload_n 0, 1) := by decide +kernel
theorem dX6_cost_44 : decode cX6_cost 44 = .ok (.getfield 10, 3) := by decide +kernel
theorem dX6_cost_47 : decode cX6_cost 47 = .ok (.getfield 41, 3) := by decide +kernel
theorem dX6_cost_50 : decode cX6_cost 50 = .ok (.invokevirtual 175, 3) := by decide +kernel
theorem dX6_cost_53 : decode cX6_cost 53 = .ok (.aload_n 0, 1) := by decide +kernel
theorem dX6_cost_54 : decode cX6_cost 54 = .ok (.getfield 37, 3) := by decide +kernel
theorem dX6_cost_57 : decode cX6_cost 57 = .ok (.iload_n 1, 1) := by decide +kernel
theorem dX6_cost_58 : decode cX6_cost 58 = .ok (.iload_n 2, 1) := by decide +kernel
theorem dX6_cost_59 : decode cX6_cost 59 = .ok (.invokevirtual 178, 3) := by decide +kernel
theorem dX6_cost_62 : decode cX6_cost 62 = .ok (.aload_n 0, 1) := by decide +kernel
theorem dX6_cost_63 : decode cX6_cost 63 = .ok (.getfield 37, 3) := by decide +kernel
theorem dX6_cost_66 : decode cX6_cost 66 = .ok (.ldc 164, 2) := by decide +kernel
theorem dX6_cost_68 : decode cX6_cost 68 = .ok (.invokevirtual 165, 3) := by decide +kernel
theorem dX6_cost_71 : decode cX6_cost 71 = .ok (.ifCond .eq 13, 3) := by decide +kernel
theorem dX6_cost_74 : decode cX6_cost 74 = .ok (.aload_n 0, 1) := by decide +kernel
theorem dX6_cost_75 : decode cX6_cost 75 = .ok (.getfield 37, 3) := by decide +kernel
theorem dX6_cost_78 : decode cX6_cost 78 = .ok (.getfield 181, 3) := by decide +kernel
theorem dX6_cost_81 : decode cX6_cost 81 = .ok (.goto 4, 3) := by decide +kernel
theorem dX6_cost_84 : decode cX6_cost 84 = .ok (.iconst (-1), 1) := by decide +kernel
theorem dX6_cost_85 : decode cX6_cost 85 = .ok (.ireturn, 1) := by decide +kernel
set_option maxRecDepth 20000 in
theorem ggX6_packing_X6_isWhole : GoodIn wsX6_packing wsX6_isWhole := goodIn_r _ [16, 17, 18, 19, 20, 15, 21, 22, 2, 3, 23, 24, 25, 26, 27, 28, 29, 30, 31, 32, 33, 34, 35, 36, 37, 38, 39, 40, 41, 42, 43, 44, 45, 46, 47, 48, 181, 182, 183, 184, 185, 186, 187, 188, 199, 200, 201, 202, 203, 209, 210, 211] (by decide +kernel) (by decide +kernel)
set_option maxRecDepth 20000 in
theorem gX6_packing_X6_isWhole : GoodIn wsX6_packing (wsV RX6 123 RX6 yX6_isWhole wsX6_isWhole) := goodIn_app (goodIn_of _ (by decide +kernel)) ggX6_packing_X6_isWhole
set_option maxRecDepth 20000 in
theorem ggX6_packing_X6_prepareSearch : GoodIn wsX6_packing wsX6_prepareSearch := goodIn_r _ [52, 8, 2, 3, 1, 53, 54, 55, 56, 57, 58, 59, 60, 61, 62, 63, 64, 65, 66, 67, 68, 69, 70, 71, 72, 73, 74, 75, 76, 77, 78, 79, 80, 81, 82, 83, 84, 85, 86, 87, 88, 89, 90, 91, 92, 93, 94, 95, 96, 97, 98, 99, 100, 101, 181, 182, 183, 184, 185, 186, 187, 188, 204, 205, 206, 207, 208, 199, 200, 201, 202, 203, 189, 190, 191, 192, 193, 194, 195, 196, 197, 198] (by decide +kernel) (by decide +kernel)
set_option maxRecDepth 20000 in
theorem gX6_packing_X6_prepareSearch : GoodIn wsX6_packing (wsV RX6 158 RX6 yX6_prepareSearch wsX6_prepareSearch) := goodIn_app (goodIn_of _ (by decide +kernel)) ggX6_packing_X6_prepareSearch
set_option maxRecDepth 20000 in
theorem ggX6_packing_X4_priceByWeight : GoodIn wsX6_packing wsX4_priceByWeight := goodIn_r _ [105, 106, 107, 108, 109, 110, 111, 112, 113, 114, 199, 200, 201, 202, 203, 189, 190, 191, 192, 193, 194, 195, 196, 197, 198] (by decide +kernel) (by decide +kernel)
set_option maxRecDepth 20000 in
theorem gX6_packing_X4_priceByWeight : GoodIn wsX6_packing (wsV RX6 175 RX4 yX4_priceByWeight wsX4_priceByWeight) := goodIn_app (goodIn_of _ (by decide +kernel)) ggX6_packing_X4_priceByWeight
set_option maxRecDepth 20000 in
theorem ggX6_packing_X4_findBelow : GoodIn wsX6_packing wsX4_findBelow := goodIn_r _ [118, 119, 120, 107, 110, 108, 121, 122, 92, 123, 124, 125, 126, 127, 128, 129, 130, 111, 112, 113, 114, 94, 101, 131, 132, 133, 134, 135, 136, 137, 138, 139, 34, 15, 35, 140, 141, 142, 143, 144, 145, 146, 189, 190, 191, 192, 193, 194, 195, 196, 197, 198] (by decide +kernel) (by decide +kernel)
set_option maxRecDepth 20000 in
theorem gX6_packing_X4_findBelow : GoodIn wsX6_packing (wsV RX6 165 RX4 yX4_findBelow wsX4_findBelow) := goodIn_app (goodIn_of _ (by decide +kernel)) ggX6_packing_X4_findBelow
set_option maxRecDepth 20000 in
theorem ggX6_packing_X1_open : GoodIn wsX6_packing wsX1_open := goodIn_r _ [151, 152, 153, 154, 155, 156, 157, 158, 159, 212, 213, 214, 215] (by decide +kernel) (by decide +kernel)
set_option maxRecDepth 20000 in
theorem gX6_packing_X1_open : GoodIn wsX6_packing (wsV RX6 184 RX1 yX1_open wsX1_open) := goodIn_app (goodIn_of _ (by decide +kernel)) ggX6_packing_X1_open
set_option maxRecDepth 20000 in
theorem ggX6_packing_X4_mostTimes : GoodIn wsX6_packing wsX4_mostTimes := goodIn_r _ [163, 107, 110, 136, 137, 138, 139, 120, 34, 15, 35, 164, 165, 166, 92, 167, 168, 116, 117, 118, 119, 108, 121, 122, 123, 124, 125, 126, 127, 128, 129, 130, 111, 112, 113, 114, 94, 101, 131, 132, 133, 134, 135, 140, 141, 142, 143, 144, 145, 146, 169, 170, 171, 172, 173, 174, 175, 189, 190, 191, 192, 193, 194, 195, 196, 197, 198] (by decide +kernel) (by decide +kernel)
set_option maxRecDepth 20000 in
theorem gX6_packing_X4_mostTimes : GoodIn wsX6_packing (wsV RX6 187 RX4 yX4_mostTimes wsX4_mostTimes) := goodIn_app (goodIn_of _ (by decide +kernel)) ggX6_packing_X4_mostTimes
set_option maxRecDepth 20000 in
theorem ggX6_packing_X4_spend : GoodIn wsX6_packing wsX4_spend := goodIn_r _ [167, 107, 110, 34, 15, 35, 189, 190, 191, 192, 193, 194, 195, 196, 197, 198] (by decide +kernel) (by decide +kernel)
set_option maxRecDepth 20000 in
theorem gX6_packing_X4_spend : GoodIn wsX6_packing (wsV RX6 191 RX4 yX4_spend wsX4_spend) := goodIn_app (goodIn_of _ (by decide +kernel)) ggX6_packing_X4_spend
set_option maxRecDepth 20000 in
theorem ggX6_packing_X1_change : GoodIn wsX6_packing wsX1_change := goodIn_r _ [180, 154, 155, 34, 15, 35, 212, 213, 214, 215] (by decide +kernel) (by decide +kernel)
set_option maxRecDepth 20000 in
theorem gX6_packing_X1_change : GoodIn wsX6_packing (wsV RX6 194 RX1 yX1_change wsX1_change) := goodIn_app (goodIn_of _ (by decide +kernel)) ggX6_packing_X1_change
theorem dX6_packing_0 : decode cX6_packing 0 = .ok (.aload_n 0, 1) := by decide +kernel
theorem dX6_packing_1 : decode cX6_packing 1 = .ok (.invokevirtual 123, 3) := by decide +kernel
theorem dX6_packing_4 : decode cX6_packing 4 = .ok (.ifCond .ne 5, 3) := by decide +kernel
theorem dX6_packing_7 : decode cX6_packing 7 = .ok (.iconst (-1), 1) := by decide +kernel
theorem dX6_packing_8 : decode cX6_packing 8 = .ok (.ireturn, 1) := by decide +kernel
theorem dX6_packing_9 : decode cX6_packing 9 = .ok (.aload_n 0, 1) := by decide +kernel
theorem dX6_packing_10 : decode cX6_packing 10 = .ok (.invokevirtual 158, 3) := by decide +kernel
theorem dX6_packing_13 : decode cX6_packing 13 = .ok (.aload_n 0, 1) := by decide +kernel
theorem dX6_packing_14 : decode cX6_packing 14 = .ok (.getfield 37, 3) := by decide +kernel
theorem dX6_packing_17 : decode cX6_packing 17 = .ok (.aload_n 0, 1) := by decide +kernel
theorem dX6_packing_18 : decode cX6_packing 18 = .ok (.getfield 10, 3) := by decide +kernel
theorem dX6_packing_21 : decode cX6_packing 21 = .ok (.getfield 41, 3) := by decide +kernel
theorem dX6_packing_24 : decode cX6_packing 24 = .ok (.invokevirtual 175, 3) := by decide +kernel
theorem dX6_packing_27 : decode cX6_packing 27 = .ok (.aload_n 0, 1) := by decide +kernel
theorem dX6_packing_28 : decode cX6_packing 28 = .ok (.getfield 37, 3) := by decide +kernel
theorem dX6_packing_31 : decode cX6_packing 31 = .ok (.ldc 164, 2) := by decide +kernel
theorem dX6_packing_33 : decode cX6_packing 33 = .ok (.invokevirtual 165, 3) := by decide +kernel
theorem dX6_packing_36 : decode cX6_packing 36 = .ok (.pop, 1) := by decide +kernel
theorem dX6_packing_37 : decode cX6_packing 37 = .ok (.aload_n 0, 1) := by decide +kernel
theorem dX6_packing_38 : decode cX6_packing 38 = .ok (.getfield 37, 3) := by decide +kernel
theorem dX6_packing_41 : decode cX6_packing 41 = .ok (.getfield 181, 3) := by decide +kernel
theorem dX6_packing_44 : decode cX6_packing 44 = .ok (.istore_n 1, 1) := by decide +kernel
theorem dX6_packing_45 : decode cX6_packing 45 = .ok (.aload_n 0, 1) := by decide +kernel
theorem dX6_packing_46 : decode cX6_packing 46 = .ok (.getfield 10, 3) := by decide +kernel
theorem dX6_packing_49 : decode cX6_packing 49 = .ok (.getfield 55, 3) := by decide +kernel
theorem dX6_packing_52 : decode cX6_packing 52 = .ok (.aload_n 0, 1) := by decide +kernel
theorem dX6_packing_53 : decode cX6_packing 53 = .ok (.getfield 10, 3) := by decide +kernel
theorem dX6_packing_56 : decode cX6_packing 56 = .ok (.getfield 41, 3) := by decide +kernel
theorem dX6_packing_59 : decode cX6_packing 59 = .ok (.getfield 98, 3) := by decide +kernel
theorem dX6_packing_62 : decode cX6_packing 62 = .ok (.invokevirtual 184, 3) := by decide +kernel
theorem dX6_packing_65 : decode cX6_packing 65 = .ok (.iload_n 1, 1) := by decide +kernel
theorem dX6_packing_66 : decode cX6_packing 66 = .ok (.istore_n 2, 1) := by decide +kernel
theorem dX6_packing_67 : decode cX6_packing 67 = .ok (.iconst 0, 1) := by decide +kernel
theorem dX6_packing_68 : decode cX6_packing 68 = .ok (.istore_n 3, 1) := by decide +kernel
theorem dX6_packing_69 : decode cX6_packing 69 = .ok (.iload_n 3, 1) := by decide +kernel
theorem dX6_packing_70 : decode cX6_packing 70 = .ok (.aload_n 0, 1) := by decide +kernel
theorem dX6_packing_71 : decode cX6_packing 71 = .ok (.getfield 30, 3) := by decide +kernel
theorem dX6_packing_74 : decode cX6_packing 74 = .ok (.getfield 134, 3) := by decide +kernel
theorem dX6_packing_77 : decode cX6_packing 77 = .ok (.if_icmp .ge 85, 3) := by decide +kernel
theorem dX6_packing_80 : decode cX6_packing 80 = .ok (.iload_n 2, 1) := by decide +kernel
theorem dX6_packing_81 : decode cX6_packing 81 = .ok (.ifCond .le 81, 3) := by decide +kernel
theorem dX6_packing_84 : decode cX6_packing 84 = .ok (.aload_n 0, 1) := by decide +kernel
theorem dX6_packing_85 : decode cX6_packing 85 = .ok (.getfield 37, 3) := by decide +kernel
theorem dX6_packing_88 : decode cX6_packing 88 = .ok (.aload_n 0, 1) := by decide +kernel
theorem dX6_packing_89 : decode cX6_packing 89 = .ok (.getfield 30, 3) := by decide +kernel
theorem dX6_packing_92 : decode cX6_packing 92 = .ok (.getfield 145, 3) := by decide +kernel
theorem dX6_packing_95 : decode cX6_packing 95 = .ok (.iload_n 3, 1) := by decide +kernel
theorem dX6_packing_96 : decode cX6_packing 96 = .ok (.iaload, 1) := by decide +kernel
theorem dX6_packing_97 : decode cX6_packing 97 = .ok (.iload_n 2, 1) := by decide +kernel
theorem dX6_packing_98 : decode cX6_packing 98 = .ok (.invokevirtual 187, 3) := by decide +kernel
theorem dX6_packing_101 : decode cX6_packing 101 = .ok (.istore 4, 2) := by decide +kernel
theorem dX6_packing_103 : decode cX6_packing 103 = .ok (.aload_n 0, 1) := by decide +kernel
theorem dX6_packing_104 : decode cX6_packing 104 = .ok (.getfield 37, 3) := by decide +kernel
theorem dX6_packing_107 : decode cX6_packing 107 = .ok (.aload_n 0, 1) := by decide +kernel
theorem dX6_packing_108 : decode cX6_packing 108 = .ok (.getfield 30, 3) := by decide +kernel
theorem dX6_packing_111 : decode cX6_packing 111 = .ok (.getfield 145, 3) := by decide +kernel
theorem dX6_packing_114 : decode cX6_packing 114 = .ok (.iload_n 3, 1) := by decide +kernel
theorem dX6_packing_115 : decode cX6_packing 115 = .ok (.iaload, 1) := by decide +kernel
theorem dX6_packing_116 : decode cX6_packing 116 = .ok (.iload 4, 2) := by decide +kernel
theorem dX6_packing_118 : decode cX6_packing 118 = .ok (.invokevirtual 191, 3) := by decide +kernel
theorem dX6_packing_121 : decode cX6_packing 121 = .ok (.aload_n 0, 1) := by decide +kernel
theorem dX6_packing_122 : decode cX6_packing 122 = .ok (.getfield 10, 3) := by decide +kernel
theorem dX6_packing_125 : decode cX6_packing 125 = .ok (.getfield 55, 3) := by decide +kernel
theorem dX6_packing_128 : decode cX6_packing 128 = .ok (.aload_n 0, 1) := by decide +kernel
theorem dX6_packing_129 : decode cX6_packing 129 = .ok (.getfield 30, 3) := by decide +kernel
theorem dX6_packing_132 : decode cX6_packing 132 = .ok (.getfield 142, 3) := by decide +kernel
theorem dX6_packing_135 : decode cX6_packing 135 = .ok (.iload_n 3, 1) := by decide +kernel
theorem dX6_packing_136 : decode cX6_packing 136 = .ok (.iaload, 1) := by decide +kernel
theorem dX6_packing_137 : decode cX6_packing 137 = .ok (.aload_n 0, 1) := by decide +kernel
theorem dX6_packing_138 : decode cX6_packing 138 = .ok (.getfield 30, 3) := by decide +kernel
theorem dX6_packing_141 : decode cX6_packing 141 = .ok (.getfield 145, 3) := by decide +kernel
theorem dX6_packing_144 : decode cX6_packing 144 = .ok (.iload_n 3, 1) := by decide +kernel
theorem dX6_packing_145 : decode cX6_packing 145 = .ok (.iaload, 1) := by decide +kernel
theorem dX6_packing_146 : decode cX6_packing 146 = .ok (.iload 4, 2) := by decide +kernel
theorem dX6_packing_148 : decode cX6_packing 148 = .ok (.invokevirtual 194, 3) := by decide +kernel
theorem dX6_packing_151 : decode cX6_packing 151 = .ok (.iload_n 2, 1) := by decide +kernel
theorem dX6_packing_152 : decode cX6_packing 152 = .ok (.iload 4, 2) := by decide +kernel
theorem dX6_packing_154 : decode cX6_packing 154 = .ok (.isub, 1) := by decide +kernel
theorem dX6_packing_155 : decode cX6_packing 155 = .ok (.istore_n 2, 1) := by decide +kernel
theorem dX6_packing_156 : decode cX6_packing 156 = .ok (.iinc 3 1, 3) := by decide +kernel
theorem dX6_packing_159 : decode cX6_packing 159 = .ok (.goto (-90), 3) := by decide +kernel
theorem dX6_packing_162 : decode cX6_packing 162 = .ok (.iload_n 1, 1) := by decide +kernel
theorem dX6_packing_163 : decode cX6_packing 163 = .ok (.ireturn, 1) := by decide +kernel
set_option maxRecDepth 20000 in
theorem ggX6_draw_X2_isSide : GoodIn wsX6_draw wsX2_isSide := goodIn_r _ [13, 14, 15, 16, 12, 17, 18, 19, 20, 21, 22, 23, 24, 25, 26, 27, 28, 29, 30, 31, 32, 63, 64, 65, 66, 67] (by decide +kernel) (by decide +kernel)
set_option maxRecDepth 20000 in
theorem gX6_draw_X2_isSide : GoodIn wsX6_draw (wsV RX6 198 RX2 yX2_isSide wsX2_isSide) := goodIn_app (goodIn_of _ (by decide +kernel)) ggX6_draw_X2_isSide
set_option maxRecDepth 20000 in
theorem ggX6_draw_X1_open : GoodIn wsX6_draw wsX1_open := goodIn_r _ [37, 38, 39, 40, 41, 42, 43, 44, 45, 59, 60, 61, 62] (by decide +kernel) (by decide +kernel)
set_option maxRecDepth 20000 in
theorem gX6_draw_X1_open : GoodIn wsX6_draw (wsV RX6 184 RX1 yX1_open wsX1_open) := goodIn_app (goodIn_of _ (by decide +kernel)) ggX6_draw_X1_open
set_option maxRecDepth 20000 in
theorem ggX6_draw_X2_entering : GoodIn wsX6_draw wsX2_entering := goodIn_r _ [26, 27, 28, 29, 30, 31, 32, 63, 64, 65, 66, 67] (by decide +kernel) (by decide +kernel)
set_option maxRecDepth 20000 in
theorem gX6_draw_X2_entering : GoodIn wsX6_draw (wsV RX6 211 RX2 yX2_entering wsX2_entering) := goodIn_app (goodIn_of _ (by decide +kernel)) ggX6_draw_X2_entering
set_option maxRecDepth 20000 in
theorem ggX6_draw_X1_change : GoodIn wsX6_draw wsX1_change := goodIn_r _ [50, 40, 41, 30, 31, 32, 59, 60, 61, 62] (by decide +kernel) (by decide +kernel)
set_option maxRecDepth 20000 in
theorem gX6_draw_X1_change : GoodIn wsX6_draw (wsV RX6 194 RX1 yX1_change wsX1_change) := goodIn_app (goodIn_of _ (by decide +kernel)) ggX6_draw_X1_change
theorem dX6_draw_0 : decode cX6_draw 0 = .ok (.aload_n 0, 1) := by decide +kernel
theorem dX6_draw_1 : decode cX6_draw 1 = .ok (.getfield 10, 3) := by decide +kernel
theorem dX6_draw_4 : decode cX6_draw 4 = .ok (.getfield 55, 3) := by decide +kernel
theorem dX6_draw_7 : decode cX6_draw 7 = .ok (.astore_n 3, 1) := by decide +kernel
theorem dX6_draw_8 : decode cX6_draw 8 = .ok (.aload_n 0, 1) := by decide +kernel
theorem dX6_draw_9 : decode cX6_draw 9 = .ok (.getfield 10, 3) := by decide +kernel
theorem dX6_draw_12 : decode cX6_draw 12 = .ok (.getfield 41, 3) := by decide +kernel
theorem dX6_draw_15 : decode cX6_draw 15 = .ok (.iload_n 1, 1) := by decide +kernel
theorem dX6_draw_16 : decode cX6_draw 16 = .ok (.invokevirtual 198, 3) := by decide +kernel
theorem dX6_draw_19 : decode cX6_draw 19 = .ok (.ifCond .eq 27, 3) := by decide +kernel
theorem dX6_draw_22 : decode cX6_draw 22 = .ok (.aload_n 3, 1) := by decide +kernel
theorem dX6_draw_23 : decode cX6_draw 23 = .ok (.getfield 201, 3) := by decide +kernel
theorem dX6_draw_26 : decode cX6_draw 26 = .ok (.ifCond .eq 22, 3) := by decide +kernel
theorem dX6_draw_29 : decode cX6_draw 29 = .ok (.aload_n 3, 1) := by decide +kernel
theorem dX6_draw_30 : decode cX6_draw 30 = .ok (.getfield 205, 3) := by decide +kernel
theorem dX6_draw_33 : decode cX6_draw 33 = .ok (.aload_n 0, 1) := by decide +kernel
theorem dX6_draw_34 : decode cX6_draw 34 = .ok (.getfield 10, 3) := by decide +kernel
theorem dX6_draw_37 : decode cX6_draw 37 = .ok (.getfield 41, 3) := by decide +kernel
theorem dX6_draw_40 : decode cX6_draw 40 = .ok (.getfield 98, 3) := by decide +kernel
theorem dX6_draw_43 : decode cX6_draw 43 = .ok (.if_icmp .eq 5, 3) := by decide +kernel
theorem dX6_draw_46 : decode cX6_draw 46 = .ok (.iconst (-1), 1) := by decide +kernel
theorem dX6_draw_47 : decode cX6_draw 47 = .ok (.ireturn, 1) := by decide +kernel
theorem dX6_draw_48 : decode cX6_draw 48 = .ok (.aload_n 3, 1) := by decide +kernel
theorem dX6_draw_49 : decode cX6_draw 49 = .ok (.getfield 206, 3) := by decide +kernel
theorem dX6_draw_52 : decode cX6_draw 52 = .ok (.iload_n 1, 1) := by decide +kernel
theorem dX6_draw_53 : decode cX6_draw 53 = .ok (.iaload, 1) := by decide +kernel
theorem dX6_draw_54 : decode cX6_draw 54 = .ok (.i2l, 1) := by decide +kernel
theorem dX6_draw_55 : decode cX6_draw 55 = .ok (.iload_n 2, 1) := by decide +kernel
theorem dX6_draw_56 : decode cX6_draw 56 = .ok (.i2l, 1) := by decide +kernel
theorem dX6_draw_57 : decode cX6_draw 57 = .ok (.ladd, 1) := by decide +kernel
theorem dX6_draw_58 : decode cX6_draw 58 = .ok (.lstore 4, 2) := by decide +kernel
theorem dX6_draw_60 : decode cX6_draw 60 = .ok (.lload 4, 2) := by decide +kernel
theorem dX6_draw_62 : decode cX6_draw 62 = .ok (.lconst 0, 1) := by decide +kernel
theorem dX6_draw_63 : decode cX6_draw 63 = .ok (.lcmp, 1) := by decide +kernel
theorem dX6_draw_64 : decode cX6_draw 64 = .ok (.ifCond .lt 12, 3) := by decide +kernel
theorem dX6_draw_67 : decode cX6_draw 67 = .ok (.lload 4, 2) := by decide +kernel
theorem dX6_draw_69 : decode cX6_draw 69 = .ok (.ldc2_w 209, 3) := by decide +kernel
theorem dX6_draw_72 : decode cX6_draw 72 = .ok (.lcmp, 1) := by decide +kernel
theorem dX6_draw_73 : decode cX6_draw 73 = .ok (.ifCond .le 5, 3) := by decide +kernel
theorem dX6_draw_76 : decode cX6_draw 76 = .ok (.iconst (-1), 1) := by decide +kernel
theorem dX6_draw_77 : decode cX6_draw 77 = .ok (.ireturn, 1) := by decide +kernel
theorem dX6_draw_78 : decode cX6_draw 78 = .ok (.aload_n 3, 1) := by decide +kernel
theorem dX6_draw_79 : decode cX6_draw 79 = .ok (.getfield 201, 3) := by decide +kernel
theorem dX6_draw_82 : decode cX6_draw 82 = .ok (.ifCond .ne 17, 3) := by decide +kernel
theorem dX6_draw_85 : decode cX6_draw 85 = .ok (.aload_n 3, 1) := by decide +kernel
theorem dX6_draw_86 : decode cX6_draw 86 = .ok (.aload_n 0, 1) := by decide +kernel
theorem dX6_draw_87 : decode cX6_draw 87 = .ok (.getfield 10, 3) := by decide +kernel
theorem dX6_draw_90 : decode cX6_draw 90 = .ok (.getfield 41, 3) := by decide +kernel
theorem dX6_draw_93 : decode cX6_draw 93 = .ok (.getfield 98, 3) := by decide +kernel
theorem dX6_draw_96 : decode cX6_draw 96 = .ok (.invokevirtual 184, 3) := by decide +kernel
theorem dX6_draw_99 : decode cX6_draw 99 = .ok (.aload_n 3, 1) := by decide +kernel
theorem dX6_draw_100 : decode cX6_draw 100 = .ok (.iload_n 1, 1) := by decide +kernel
theorem dX6_draw_101 : decode cX6_draw 101 = .ok (.aload_n 0, 1) := by decide +kernel
theorem dX6_draw_102 : decode cX6_draw 102 = .ok (.getfield 10, 3) := by decide +kernel
theorem dX6_draw_105 : decode cX6_draw 105 = .ok (.getfield 41, 3) := by decide +kernel
theorem dX6_draw_108 : decode cX6_draw 108 = .ok (.iload_n 1, 1) := by decide +kernel
theorem dX6_draw_109 : decode cX6_draw 109 = .ok (.invokevirtual 211, 3) := by decide +kernel
theorem dX6_draw_112 : decode cX6_draw 112 = .ok (.iload_n 2, 1) := by decide +kernel
theorem dX6_draw_113 : decode cX6_draw 113 = .ok (.invokevirtual 194, 3) := by decide +kernel
theorem dX6_draw_116 : decode cX6_draw 116 = .ok (.aload_n 3, 1) := by decide +kernel
theorem dX6_draw_117 : decode cX6_draw 117 = .ok (.getfield 206, 3) := by decide +kernel
theorem dX6_draw_120 : decode cX6_draw 120 = .ok (.iload_n 1, 1) := by decide +kernel
theorem dX6_draw_121 : decode cX6_draw 121 = .ok (.iaload, 1) := by decide +kernel
theorem dX6_draw_122 : decode cX6_draw 122 = .ok (.ireturn, 1) := by decide +kernel
set_option maxRecDepth 20000 in
theorem ggX6_uncross_X1_uncrossAll : GoodIn wsX6_uncross wsX1_uncrossAll := goodIn_r _ [8, 9, 10, 11, 12, 7, 13, 14, 15, 16, 17, 18, 19, 20, 21, 22, 23, 24, 25, 26, 27, 28, 29, 30, 31, 40, 41, 42, 43] (by decide +kernel) (by decide +kernel)
set_option maxRecDepth 20000 in
theorem gX6_uncross_X1_uncrossAll : GoodIn wsX6_uncross (wsV RX6 214 RX1 yX1_uncrossAll wsX1_uncrossAll) := goodIn_app (goodIn_of _ (by decide +kernel)) ggX6_uncross_X1_uncrossAll
theorem dX6_uncross_0 : decode cX6_uncross 0 = .ok (.aload_n 0, 1) := by decide +kernel
theorem dX6_uncross_1 : decode cX6_uncross 1 = .ok (.getfield 10, 3) := by decide +kernel
theorem dX6_uncross_4 : decode cX6_uncross 4 = .ok (.getfield 55, 3) := by decide +kernel
theorem dX6_uncross_7 : decode cX6_uncross 7 = .ok (.getfield 201, 3) := by decide +kernel
theorem dX6_uncross_10 : decode cX6_uncross 10 = .ok (.ifCond .ne 5, 3) := by decide +kernel
theorem dX6_uncross_13 : decode cX6_uncross 13 = .ok (.iconst (-1), 1) := by decide +kernel
theorem dX6_uncross_14 : decode cX6_uncross 14 = .ok (.ireturn, 1) := by decide +kernel
theorem dX6_uncross_15 : decode cX6_uncross 15 = .ok (.aload_n 0, 1) := by decide +kernel
theorem dX6_uncross_16 : decode cX6_uncross 16 = .ok (.getfield 10, 3) := by decide +kernel
theorem dX6_uncross_19 : decode cX6_uncross 19 = .ok (.getfield 55, 3) := by decide +kernel
theorem dX6_uncross_22 : decode cX6_uncross 22 = .ok (.invokevirtual 214, 3) := by decide +kernel
theorem dX6_uncross_25 : decode cX6_uncross 25 = .ok (.ireturn, 1) := by decide +kernel
set_option maxRecDepth 20000 in
theorem ggX6_member_X1_memberAt : GoodIn wsX6_member wsX1_memberAt := goodIn_r _ [8, 9, 18, 19, 20, 21] (by decide +kernel) (by decide +kernel)
set_option maxRecDepth 20000 in
theorem gX6_member_X1_memberAt : GoodIn wsX6_member (wsV RX6 217 RX1 yX1_memberAt wsX1_memberAt) := goodIn_app (goodIn_of _ (by decide +kernel)) ggX6_member_X1_memberAt
theorem dX6_member_0 : decode cX6_member 0 = .ok (.aload_n 0, 1) := by decide +kernel
theorem dX6_member_1 : decode cX6_member 1 = .ok (.getfield 10, 3) := by decide +kernel
theorem dX6_member_4 : decode cX6_member 4 = .ok (.getfield 55, 3) := by decide +kernel
theorem dX6_member_7 : decode cX6_member 7 = .ok (.iload_n 1, 1) := by decide +kernel
theorem dX6_member_8 : decode cX6_member 8 = .ok (.invokevirtual 217, 3) := by decide +kernel
theorem dX6_member_11 : decode cX6_member 11 = .ok (.istore_n 3, 1) := by decide +kernel
theorem dX6_member_12 : decode cX6_member 12 = .ok (.iload_n 3, 1) := by decide +kernel
theorem dX6_member_13 : decode cX6_member 13 = .ok (.ifCond .ne 5, 3) := by decide +kernel
theorem dX6_member_16 : decode cX6_member 16 = .ok (.iconst (-1), 1) := by decide +kernel
theorem dX6_member_17 : decode cX6_member 17 = .ok (.ireturn, 1) := by decide +kernel
theorem dX6_member_18 : decode cX6_member 18 = .ok (.iload_n 2, 1) := by decide +kernel
theorem dX6_member_19 : decode cX6_member 19 = .ok (.lookupswitch 40 #[(0, 25), (1, 27)], 25) := by decide +kernel
theorem dX6_member_44 : decode cX6_member 44 = .ok (.iload_n 3, 1) := by decide +kernel
theorem dX6_member_45 : decode cX6_member 45 = .ok (.ireturn, 1) := by decide +kernel
theorem dX6_member_46 : decode cX6_member 46 = .ok (.aload_n 0, 1) := by decide +kernel
theorem dX6_member_47 : decode cX6_member 47 = .ok (.getfield 10, 3) := by decide +kernel
theorem dX6_member_50 : decode cX6_member 50 = .ok (.getfield 55, 3) := by decide +kernel
theorem dX6_member_53 : decode cX6_member 53 = .ok (.getfield 206, 3) := by decide +kernel
theorem dX6_member_56 : decode cX6_member 56 = .ok (.iload_n 3, 1) := by decide +kernel
theorem dX6_member_57 : decode cX6_member 57 = .ok (.iaload, 1) := by decide +kernel
theorem dX6_member_58 : decode cX6_member 58 = .ok (.ireturn, 1) := by decide +kernel
theorem dX6_member_59 : decode cX6_member 59 = .ok (.iconst (-1), 1) := by decide +kernel
theorem dX6_member_60 : decode cX6_member 60 = .ok (.ireturn, 1) := by decide +kernel
set_option maxRecDepth 20000 in
theorem ggX6_image_X0_init : GoodIn wsX6_image wsX0_init := goodIn_r _ [7, 8, 9, 10, 11, 12, 13, 14, 15, 16, 17, 18, 19, 20, 21, 22, 23, 24, 25, 26, 27, 28, 29, 30, 61, 62, 63, 64, 65, 58, 59, 60, 66, 67, 68, 69] (by decide +kernel) (by decide +kernel)
set_option maxRecDepth 20000 in
theorem gX6_image_X0_init_n9 : GoodIn wsX6_image (wsX0_init) := ggX6_image_X0_init
set_option maxRecDepth 20000 in
theorem ggX6_image_X0_copyFrom : GoodIn wsX6_image wsX0_copyFrom := goodIn_r _ [34, 14, 18, 35, 36, 37, 38, 13, 39, 40, 41, 23, 42, 43, 44, 45, 24, 25, 46, 47, 48, 17, 49, 50, 51, 29, 52, 30, 58, 59, 60, 61, 62, 63, 64, 65, 66, 67, 68, 69] (by decide +kernel) (by decide +kernel)
set_option maxRecDepth 20000 in
theorem gX6_image_X0_copyFrom : GoodIn wsX6_image (wsV RX6 220 RX0 yX0_copyFrom wsX0_copyFrom) := goodIn_app (goodIn_of _ (by decide +kernel)) ggX6_image_X0_copyFrom
theorem dX6_image_0 : decode cX6_image 0 = .ok (.iload_n 1, 1) := by decide +kernel
theorem dX6_image_1 : decode cX6_image 1 = .ok (.ifCond .lt 8, 3) := by decide +kernel
theorem dX6_image_4 : decode cX6_image 4 = .ok (.iload_n 1, 1) := by decide +kernel
theorem dX6_image_5 : decode cX6_image 5 = .ok (.iconst 4, 1) := by decide +kernel
theorem dX6_image_6 : decode cX6_image 6 = .ok (.if_icmp .lt 5, 3) := by decide +kernel
theorem dX6_image_9 : decode cX6_image 9 = .ok (.iconst 0, 1) := by decide +kernel
theorem dX6_image_10 : decode cX6_image 10 = .ok (.ireturn, 1) := by decide +kernel
theorem dX6_image_11 : decode cX6_image 11 = .ok (.aload_n 0, 1) := by decide +kernel
theorem dX6_image_12 : decode cX6_image 12 = .ok (.getfield 16, 3) := by decide +kernel
theorem dX6_image_15 : decode cX6_image 15 = .ok (.iload_n 1, 1) := by decide +kernel
theorem dX6_image_16 : decode cX6_image 16 = .ok (.aaload, 1) := by decide +kernel
theorem dX6_image_17 : decode cX6_image 17 = .ok (.ifnonnull 16, 3) := by decide +kernel
theorem dX6_image_20 : decode cX6_image 20 = .ok (.aload_n 0, 1) := by decide +kernel
theorem dX6_image_21 : decode cX6_image 21 = .ok (.getfield 16, 3) := by decide +kernel
theorem dX6_image_24 : decode cX6_image 24 = .ok (.iload_n 1, 1) := by decide +kernel
theorem dX6_image_25 : decode cX6_image 25 = .ok (.new 7, 3) := by decide +kernel
theorem dX6_image_28 : decode cX6_image 28 = .ok (.dup, 1) := by decide +kernel
theorem dX6_image_29 : decode cX6_image 29 = .ok (.invokespecial 9, 3) := by decide +kernel
theorem dX6_image_32 : decode cX6_image 32 = .ok (.aastore, 1) := by decide +kernel
theorem dX6_image_33 : decode cX6_image 33 = .ok (.aload_n 0, 1) := by decide +kernel
theorem dX6_image_34 : decode cX6_image 34 = .ok (.getfield 16, 3) := by decide +kernel
theorem dX6_image_37 : decode cX6_image 37 = .ok (.iload_n 1, 1) := by decide +kernel
theorem dX6_image_38 : decode cX6_image 38 = .ok (.aaload, 1) := by decide +kernel
theorem dX6_image_39 : decode cX6_image 39 = .ok (.aload_n 0, 1) := by decide +kernel
theorem dX6_image_40 : decode cX6_image 40 = .ok (.getfield 10, 3) := by decide +kernel
theorem dX6_image_43 : decode cX6_image 43 = .ok (.invokevirtual 220, 3) := by decide +kernel
theorem dX6_image_46 : decode cX6_image 46 = .ok (.iconst 1, 1) := by decide +kernel
theorem dX6_image_47 : decode cX6_image 47 = .ok (.ireturn, 1) := by decide +kernel
set_option maxRecDepth 20000 in
theorem ggX6_again_X0_copyFrom : GoodIn wsX6_again wsX0_copyFrom := goodIn_r _ [7, 8, 9, 10, 11, 12, 13, 14, 15, 16, 17, 18, 19, 20, 21, 22, 23, 24, 25, 26, 27, 28, 29, 30, 31, 32, 33, 34, 40, 41, 42, 43, 44, 45, 46, 47, 48, 49, 50, 51] (by decide +kernel) (by decide +kernel)
set_option maxRecDepth 20000 in
theorem gX6_again_X0_copyFrom : GoodIn wsX6_again (wsV RX6 220 RX0 yX0_copyFrom wsX0_copyFrom) := goodIn_app (goodIn_of _ (by decide +kernel)) ggX6_again_X0_copyFrom
theorem dX6_again_0 : decode cX6_again 0 = .ok (.iload_n 1, 1) := by decide +kernel
theorem dX6_again_1 : decode cX6_again 1 = .ok (.ifCond .lt 17, 3) := by decide +kernel
theorem dX6_again_4 : decode cX6_again 4 = .ok (.iload_n 1, 1) := by decide +kernel
theorem dX6_again_5 : decode cX6_again 5 = .ok (.iconst 4, 1) := by decide +kernel
theorem dX6_again_6 : decode cX6_again 6 = .ok (.if_icmp .ge 12, 3) := by decide +kernel
theorem dX6_again_9 : decode cX6_again 9 = .ok (.aload_n 0, 1) := by decide +kernel
theorem dX6_again_10 : decode cX6_again 10 = .ok (.getfield 16, 3) := by decide +kernel
theorem dX6_again_13 : decode cX6_again 13 = .ok (.iload_n 1, 1) := by decide +kernel
theorem dX6_again_14 : decode cX6_again 14 = .ok (.aaload, 1) := by decide +kernel
theorem dX6_again_15 : decode cX6_again 15 = .ok (.ifnonnull 5, 3) := by decide +kernel
theorem dX6_again_18 : decode cX6_again 18 = .ok (.iconst 0, 1) := by decide +kernel
theorem dX6_again_19 : decode cX6_again 19 = .ok (.ireturn, 1) := by decide +kernel
theorem dX6_again_20 : decode cX6_again 20 = .ok (.aload_n 0, 1) := by decide +kernel
theorem dX6_again_21 : decode cX6_again 21 = .ok (.getfield 10, 3) := by decide +kernel
theorem dX6_again_24 : decode cX6_again 24 = .ok (.aload_n 0, 1) := by decide +kernel
theorem dX6_again_25 : decode cX6_again 25 = .ok (.getfield 16, 3) := by decide +kernel
theorem dX6_again_28 : decode cX6_again 28 = .ok (.iload_n 1, 1) := by decide +kernel
theorem dX6_again_29 : decode cX6_again 29 = .ok (.aaload, 1) := by decide +kernel
theorem dX6_again_30 : decode cX6_again 30 = .ok (.invokevirtual 220, 3) := by decide +kernel
theorem dX6_again_33 : decode cX6_again 33 = .ok (.iconst 1, 1) := by decide +kernel
theorem dX6_again_34 : decode cX6_again 34 = .ok (.ireturn, 1) := by decide +kernel
theorem dX6_isWeight_0 : decode cX6_isWeight 0 = .ok (.iload_n 0, 1) := by decide +kernel
theorem dX6_isWeight_1 : decode cX6_isWeight 1 = .ok (.ifCond .lt 14, 3) := by decide +kernel
theorem dX6_isWeight_4 : decode cX6_isWeight 4 = .ok (.iload_n 0, 1) := by decide +kernel
