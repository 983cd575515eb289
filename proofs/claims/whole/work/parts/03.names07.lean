theorem dX7_bounds_49 : decode cX7_bounds 49 = .ok (.iload 5, 2) := by decide +kernel
theorem dX7_bounds_51 : decode cX7_bounds 51 = .ok (.iaload, 1) := by decide +kernel
theorem dX7_bounds_52 : decode cX7_bounds 52 = .ok (.iload_n 1, 1) := by decide +kernel
theorem dX7_bounds_53 : decode cX7_bounds 53 = .ok (.ishr, 1) := by decide +kernel
theorem dX7_bounds_54 : decode cX7_bounds 54 = .ok (.iconst 1, 1) := by decide +kernel
theorem dX7_bounds_55 : decode cX7_bounds 55 = .ok (.iand, 1) := by decide +kernel
theorem dX7_bounds_56 : decode cX7_bounds 56 = .ok (.ifCond .eq 32, 3) := by decide +kernel
theorem dX7_bounds_59 : decode cX7_bounds 59 = .ok (.iload_n 2, 1) := by decide +kernel
theorem dX7_bounds_60 : decode cX7_bounds 60 = .ok (.ifCond .eq 15, 3) := by decide +kernel
theorem dX7_bounds_63 : decode cX7_bounds 63 = .ok (.iload_n 3, 1) := by decide +kernel
theorem dX7_bounds_64 : decode cX7_bounds 64 = .ok (.aload_n 0, 1) := by decide +kernel
theorem dX7_bounds_65 : decode cX7_bounds 65 = .ok (.getfield 66, 3) := by decide +kernel
theorem dX7_bounds_68 : decode cX7_bounds 68 = .ok (.iload 5, 2) := by decide +kernel
theorem dX7_bounds_70 : decode cX7_bounds 70 = .ok (.iaload, 1) := by decide +kernel
theorem dX7_bounds_71 : decode cX7_bounds 71 = .ok (.ior, 1) := by decide +kernel
theorem dX7_bounds_72 : decode cX7_bounds 72 = .ok (.goto 12, 3) := by decide +kernel
theorem dX7_bounds_75 : decode cX7_bounds 75 = .ok (.iload_n 3, 1) := by decide +kernel
theorem dX7_bounds_76 : decode cX7_bounds 76 = .ok (.aload_n 0, 1) := by decide +kernel
theorem dX7_bounds_77 : decode cX7_bounds 77 = .ok (.getfield 66, 3) := by decide +kernel
theorem dX7_bounds_80 : decode cX7_bounds 80 = .ok (.iload 5, 2) := by decide +kernel
theorem dX7_bounds_82 : decode cX7_bounds 82 = .ok (.iaload, 1) := by decide +kernel
theorem dX7_bounds_83 : decode cX7_bounds 83 = .ok (.iand, 1) := by decide +kernel
theorem dX7_bounds_84 : decode cX7_bounds 84 = .ok (.istore_n 3, 1) := by decide +kernel
theorem dX7_bounds_85 : decode cX7_bounds 85 = .ok (.iconst 1, 1) := by decide +kernel
theorem dX7_bounds_86 : decode cX7_bounds 86 = .ok (.istore 4, 2) := by decide +kernel
theorem dX7_bounds_88 : decode cX7_bounds 88 = .ok (.iinc 5 1, 3) := by decide +kernel
theorem dX7_bounds_91 : decode cX7_bounds 91 = .ok (.goto (-63), 3) := by decide +kernel
theorem dX7_bounds_94 : decode cX7_bounds 94 = .ok (.iload 4, 2) := by decide +kernel
theorem dX7_bounds_96 : decode cX7_bounds 96 = .ok (.ifCond .eq 7, 3) := by decide +kernel
theorem dX7_bounds_99 : decode cX7_bounds 99 = .ok (.iload_n 3, 1) := by decide +kernel
theorem dX7_bounds_100 : decode cX7_bounds 100 = .ok (.goto 4, 3) := by decide +kernel
theorem dX7_bounds_103 : decode cX7_bounds 103 = .ok (.iconst 0, 1) := by decide +kernel
theorem dX7_bounds_104 : decode cX7_bounds 104 = .ok (.ireturn, 1) := by decide +kernel
set_option maxRecDepth 20000 in
theorem ggX7_isDijoin_X7_makeSides : GoodIn wsX7_isDijoin wsX7_makeSides := goodIn_r _ [8, 9, 2, 10, 3, 11, 12, 13, 7, 14, 15, 16, 17, 18, 19, 20, 21, 22, 23, 24, 25, 26, 27, 28, 29, 30, 31, 32, 33, 34, 35, 36, 37, 38, 39, 40, 41, 42, 43, 44, 45, 46, 47, 48, 49, 50, 51, 52, 53, 54, 55, 56, 57, 58, 59, 60] (by decide +kernel) (by decide +kernel)
set_option maxRecDepth 20000 in
theorem gX7_isDijoin_X7_makeSides : GoodIn wsX7_isDijoin (wsV RX7 113 RX7 yX7_makeSides wsX7_makeSides) := goodIn_app (goodIn_of _ (by decide +kernel)) ggX7_isDijoin_X7_makeSides
theorem dX7_isDijoin_0 : decode cX7_isDijoin 0 = .ok (.aload_n 0, 1) := by decide +kernel
theorem dX7_isDijoin_1 : decode cX7_isDijoin 1 = .ok (.iconst 0, 1) := by decide +kernel
theorem dX7_isDijoin_2 : decode cX7_isDijoin 2 = .ok (.putfield 85, 3) := by decide +kernel
theorem dX7_isDijoin_5 : decode cX7_isDijoin 5 = .ok (.aload_n 0, 1) := by decide +kernel
theorem dX7_isDijoin_6 : decode cX7_isDijoin 6 = .ok (.invokevirtual 113, 3) := by decide +kernel
theorem dX7_isDijoin_9 : decode cX7_isDijoin 9 = .ok (.iconst 0, 1) := by decide +kernel
theorem dX7_isDijoin_10 : decode cX7_isDijoin 10 = .ok (.istore_n 2, 1) := by decide +kernel
theorem dX7_isDijoin_11 : decode cX7_isDijoin 11 = .ok (.iload_n 2, 1) := by decide +kernel
theorem dX7_isDijoin_12 : decode cX7_isDijoin 12 = .ok (.aload_n 0, 1) := by decide +kernel
theorem dX7_isDijoin_13 : decode cX7_isDijoin 13 = .ok (.getfield 98, 3) := by decide +kernel
theorem dX7_isDijoin_16 : decode cX7_isDijoin 16 = .ok (.if_icmp .ge 22, 3) := by decide +kernel
theorem dX7_isDijoin_19 : decode cX7_isDijoin 19 = .ok (.aload_n 0, 1) := by decide +kernel
theorem dX7_isDijoin_20 : decode cX7_isDijoin 20 = .ok (.getfield 69, 3) := by decide +kernel
theorem dX7_isDijoin_23 : decode cX7_isDijoin 23 = .ok (.iload_n 2, 1) := by decide +kernel
theorem dX7_isDijoin_24 : decode cX7_isDijoin 24 = .ok (.iaload, 1) := by decide +kernel
theorem dX7_isDijoin_25 : decode cX7_isDijoin 25 = .ok (.iload_n 1, 1) := by decide +kernel
theorem dX7_isDijoin_26 : decode cX7_isDijoin 26 = .ok (.iand, 1) := by decide +kernel
theorem dX7_isDijoin_27 : decode cX7_isDijoin 27 = .ok (.ifCond .ne 5, 3) := by decide +kernel
theorem dX7_isDijoin_30 : decode cX7_isDijoin 30 = .ok (.iconst 0, 1) := by decide +kernel
theorem dX7_isDijoin_31 : decode cX7_isDijoin 31 = .ok (.ireturn, 1) := by decide +kernel
theorem dX7_isDijoin_32 : decode cX7_isDijoin 32 = .ok (.iinc 2 1, 3) := by decide +kernel
theorem dX7_isDijoin_35 : decode cX7_isDijoin 35 = .ok (.goto (-24), 3) := by decide +kernel
theorem dX7_isDijoin_38 : decode cX7_isDijoin 38 = .ok (.iconst 1, 1) := by decide +kernel
theorem dX7_isDijoin_39 : decode cX7_isDijoin 39 = .ok (.ireturn, 1) := by decide +kernel
set_option maxRecDepth 20000 in
theorem ggX7_isStrong_X7_isStrongWith : GoodIn wsX7_isStrong wsX7_isStrongWith := goodIn_r _ [6, 7, 8, 9, 5, 10, 11, 12, 13, 14, 15, 16, 17, 18, 19, 20, 21, 22, 23, 24, 25, 26, 27, 28, 29, 30, 31, 32, 33, 34, 35, 36, 37, 38, 39, 40, 41, 42, 43, 44, 45, 46, 47, 48, 49, 50, 51, 52] (by decide +kernel) (by decide +kernel)
set_option maxRecDepth 20000 in
theorem gX7_isStrong_X7_isStrongWith : GoodIn wsX7_isStrong (wsV RX7 163 RX7 yX7_isStrongWith wsX7_isStrongWith) := goodIn_app (goodIn_of _ (by decide +kernel)) ggX7_isStrong_X7_isStrongWith
theorem dX7_isStrong_0 : decode cX7_isStrong 0 = .ok (.aload_n 0, 1) := by decide +kernel
theorem dX7_isStrong_1 : decode cX7_isStrong 1 = .ok (.iconst 0, 1) := by decide +kernel
theorem dX7_isStrong_2 : decode cX7_isStrong 2 = .ok (.putfield 85, 3) := by decide +kernel
theorem dX7_isStrong_5 : decode cX7_isStrong 5 = .ok (.aload_n 0, 1) := by decide +kernel
theorem dX7_isStrong_6 : decode cX7_isStrong 6 = .ok (.iload_n 1, 1) := by decide +kernel
theorem dX7_isStrong_7 : decode cX7_isStrong 7 = .ok (.invokevirtual 163, 3) := by decide +kernel
theorem dX7_isStrong_10 : decode cX7_isStrong 10 = .ok (.ireturn, 1) := by decide +kernel
theorem dX7_weightOf_0 : decode cX7_weightOf 0 = .ok (.iconst 0, 1) := by decide +kernel
theorem dX7_weightOf_1 : decode cX7_weightOf 1 = .ok (.istore_n 2, 1) := by decide +kernel
theorem dX7_weightOf_2 : decode cX7_weightOf 2 = .ok (.iconst 0, 1) := by decide +kernel
theorem dX7_weightOf_3 : decode cX7_weightOf 3 = .ok (.istore_n 3, 1) := by decide +kernel
theorem dX7_weightOf_4 : decode cX7_weightOf 4 = .ok (.iload_n 3, 1) := by decide +kernel
theorem dX7_weightOf_5 : decode cX7_weightOf 5 = .ok (.aload_n 0, 1) := by decide +kernel
theorem dX7_weightOf_6 : decode cX7_weightOf 6 = .ok (.getfield 95, 3) := by decide +kernel
theorem dX7_weightOf_9 : decode cX7_weightOf 9 = .ok (.if_icmp .ge 30, 3) := by decide +kernel
theorem dX7_weightOf_12 : decode cX7_weightOf 12 = .ok (.iload_n 2, 1) := by decide +kernel
theorem dX7_weightOf_13 : decode cX7_weightOf 13 = .ok (.iload_n 1, 1) := by decide +kernel
theorem dX7_weightOf_14 : decode cX7_weightOf 14 = .ok (.iload_n 3, 1) := by decide +kernel
theorem dX7_weightOf_15 : decode cX7_weightOf 15 = .ok (.ishr, 1) := by decide +kernel
theorem dX7_weightOf_16 : decode cX7_weightOf 16 = .ok (.iconst 1, 1) := by decide +kernel
theorem dX7_weightOf_17 : decode cX7_weightOf 17 = .ok (.iand, 1) := by decide +kernel
theorem dX7_weightOf_18 : decode cX7_weightOf 18 = .ok (.ifCond .eq 12, 3) := by decide +kernel
theorem dX7_weightOf_21 : decode cX7_weightOf 21 = .ok (.aload_n 0, 1) := by decide +kernel
theorem dX7_weightOf_22 : decode cX7_weightOf 22 = .ok (.getfield 20, 3) := by decide +kernel
theorem dX7_weightOf_25 : decode cX7_weightOf 25 = .ok (.iload_n 3, 1) := by decide +kernel
theorem dX7_weightOf_26 : decode cX7_weightOf 26 = .ok (.iaload, 1) := by decide +kernel
theorem dX7_weightOf_27 : decode cX7_weightOf 27 = .ok (.goto 4, 3) := by decide +kernel
theorem dX7_weightOf_30 : decode cX7_weightOf 30 = .ok (.iconst 0, 1) := by decide +kernel
theorem dX7_weightOf_31 : decode cX7_weightOf 31 = .ok (.iadd, 1) := by decide +kernel
theorem dX7_weightOf_32 : decode cX7_weightOf 32 = .ok (.istore_n 2, 1) := by decide +kernel
theorem dX7_weightOf_33 : decode cX7_weightOf 33 = .ok (.iinc 3 1, 3) := by decide +kernel
theorem dX7_weightOf_36 : decode cX7_weightOf 36 = .ok (.goto (-32), 3) := by decide +kernel
theorem dX7_weightOf_39 : decode cX7_weightOf 39 = .ok (.iload_n 2, 1) := by decide +kernel
theorem dX7_weightOf_40 : decode cX7_weightOf 40 = .ok (.ireturn, 1) := by decide +kernel
set_option maxRecDepth 20000 in
theorem ggX7_dijoin_X7_isWhole : GoodIn wsX7_dijoin wsX7_isWhole := goodIn_r _ [10, 11, 12, 13, 14, 9, 15, 16, 17, 18, 19, 20, 21, 22, 23, 55, 56, 57, 58, 59, 60, 61, 62, 63, 64, 65, 66, 67, 68, 69, 70, 71, 72, 73, 74, 75, 76, 77, 78, 79, 80, 81, 82, 83, 84, 85, 86, 87, 88] (by decide +kernel) (by decide +kernel)
set_option maxRecDepth 20000 in
theorem gX7_dijoin_X7_isWhole : GoodIn wsX7_dijoin (wsV RX7 159 RX7 yX7_isWhole wsX7_isWhole) := goodIn_app (goodIn_of _ (by decide +kernel)) ggX7_dijoin_X7_isWhole
set_option maxRecDepth 20000 in
theorem ggX7_dijoin_X7_makeSets : GoodIn wsX7_dijoin wsX7_makeSets := goodIn_r _ [27, 28, 16, 29, 30, 31, 2, 3, 32, 33, 34, 9, 35, 36, 37, 19, 20, 21, 22, 23, 38, 39, 40, 41, 17, 18, 42, 43, 44, 45, 46, 47, 48, 49, 55, 56, 57, 58, 59, 60, 61, 62, 63, 64, 65, 66, 67, 68, 69, 70, 71, 72, 73, 74, 75, 76, 77, 78, 79, 80, 81, 82, 83, 84, 85, 86, 87, 88] (by decide +kernel) (by decide +kernel)
set_option maxRecDepth 20000 in
theorem gX7_dijoin_X7_makeSets : GoodIn wsX7_dijoin (wsV RX7 169 RX7 yX7_makeSets wsX7_makeSets) := goodIn_app (goodIn_of _ (by decide +kernel)) ggX7_dijoin_X7_makeSets
set_option maxRecDepth 20000 in
theorem ggX7_dijoin_X7_weightOf : GoodIn wsX7_dijoin wsX7_weightOf := goodIn_r _ [53, 16, 54, 55, 56, 57, 58, 59, 60, 61, 62, 63, 64, 65, 66, 67, 68, 69, 70, 71, 72, 73, 74, 75, 76, 77, 78, 79, 80, 81, 82, 83, 84, 85, 86, 87, 88] (by decide +kernel) (by decide +kernel)
set_option maxRecDepth 20000 in
theorem gX7_dijoin_X7_weightOf : GoodIn wsX7_dijoin (wsV RX7 172 RX7 yX7_weightOf wsX7_weightOf) := goodIn_app (goodIn_of _ (by decide +kernel)) ggX7_dijoin_X7_weightOf
theorem dX7_dijoin_0 : decode cX7_dijoin 0 = .ok (.aload_n 0, 1) := by decide +kernel
theorem dX7_dijoin_1 : decode cX7_dijoin 1 = .ok (.iconst 0, 1) := by decide +kernel
theorem dX7_dijoin_2 : decode cX7_dijoin 2 = .ok (.putfield 85, 3) := by decide +kernel
theorem dX7_dijoin_5 : decode cX7_dijoin 5 = .ok (.aload_n 0, 1) := by decide +kernel
theorem dX7_dijoin_6 : decode cX7_dijoin 6 = .ok (.invokevirtual 159, 3) := by decide +kernel
theorem dX7_dijoin_9 : decode cX7_dijoin 9 = .ok (.ifCond .ne 5, 3) := by decide +kernel
theorem dX7_dijoin_12 : decode cX7_dijoin 12 = .ok (.iconst (-1), 1) := by decide +kernel
theorem dX7_dijoin_13 : decode cX7_dijoin 13 = .ok (.ireturn, 1) := by decide +kernel
theorem dX7_dijoin_14 : decode cX7_dijoin 14 = .ok (.aload_n 0, 1) := by decide +kernel
theorem dX7_dijoin_15 : decode cX7_dijoin 15 = .ok (.invokevirtual 169, 3) := by decide +kernel
theorem dX7_dijoin_18 : decode cX7_dijoin 18 = .ok (.iconst 0, 1) := by decide +kernel
theorem dX7_dijoin_19 : decode cX7_dijoin 19 = .ok (.istore_n 1, 1) := by decide +kernel
theorem dX7_dijoin_20 : decode cX7_dijoin 20 = .ok (.iconst 1, 1) := by decide +kernel
theorem dX7_dijoin_21 : decode cX7_dijoin 21 = .ok (.istore_n 2, 1) := by decide +kernel
theorem dX7_dijoin_22 : decode cX7_dijoin 22 = .ok (.iload_n 2, 1) := by decide +kernel
theorem dX7_dijoin_23 : decode cX7_dijoin 23 = .ok (.aload_n 0, 1) := by decide +kernel
theorem dX7_dijoin_24 : decode cX7_dijoin 24 = .ok (.getfield 116, 3) := by decide +kernel
theorem dX7_dijoin_27 : decode cX7_dijoin 27 = .ok (.if_icmp .ge 38, 3) := by decide +kernel
theorem dX7_dijoin_30 : decode cX7_dijoin 30 = .ok (.aload_n 0, 1) := by decide +kernel
theorem dX7_dijoin_31 : decode cX7_dijoin 31 = .ok (.aload_n 0, 1) := by decide +kernel
theorem dX7_dijoin_32 : decode cX7_dijoin 32 = .ok (.getfield 76, 3) := by decide +kernel
theorem dX7_dijoin_35 : decode cX7_dijoin 35 = .ok (.iload_n 2, 1) := by decide +kernel
theorem dX7_dijoin_36 : decode cX7_dijoin 36 = .ok (.iaload, 1) := by decide +kernel
theorem dX7_dijoin_37 : decode cX7_dijoin 37 = .ok (.invokevirtual 172, 3) := by decide +kernel
theorem dX7_dijoin_40 : decode cX7_dijoin 40 = .ok (.aload_n 0, 1) := by decide +kernel
theorem dX7_dijoin_41 : decode cX7_dijoin 41 = .ok (.aload_n 0, 1) := by decide +kernel
theorem dX7_dijoin_42 : decode cX7_dijoin 42 = .ok (.getfield 76, 3) := by decide +kernel
theorem dX7_dijoin_45 : decode cX7_dijoin 45 = .ok (.iload_n 1, 1) := by decide +kernel
theorem dX7_dijoin_46 : decode cX7_dijoin 46 = .ok (.iaload, 1) := by decide +kernel
theorem dX7_dijoin_47 : decode cX7_dijoin 47 = .ok (.invokevirtual 172, 3) := by decide +kernel
theorem dX7_dijoin_50 : decode cX7_dijoin 50 = .ok (.if_icmp .ge 7, 3) := by decide +kernel
theorem dX7_dijoin_53 : decode cX7_dijoin 53 = .ok (.iload_n 2, 1) := by decide +kernel
theorem dX7_dijoin_54 : decode cX7_dijoin 54 = .ok (.goto 4, 3) := by decide +kernel
theorem dX7_dijoin_57 : decode cX7_dijoin 57 = .ok (.iload_n 1, 1) := by decide +kernel
theorem dX7_dijoin_58 : decode cX7_dijoin 58 = .ok (.istore_n 1, 1) := by decide +kernel
theorem dX7_dijoin_59 : decode cX7_dijoin 59 = .ok (.iinc 2 1, 3) := by decide +kernel
theorem dX7_dijoin_62 : decode cX7_dijoin 62 = .ok (.goto (-40), 3) := by decide +kernel
theorem dX7_dijoin_65 : decode cX7_dijoin 65 = .ok (.aload_n 0, 1) := by decide +kernel
theorem dX7_dijoin_66 : decode cX7_dijoin 66 = .ok (.iconst 1, 1) := by decide +kernel
theorem dX7_dijoin_67 : decode cX7_dijoin 67 = .ok (.putfield 134, 3) := by decide +kernel
theorem dX7_dijoin_70 : decode cX7_dijoin 70 = .ok (.aload_n 0, 1) := by decide +kernel
theorem dX7_dijoin_71 : decode cX7_dijoin 71 = .ok (.aload_n 0, 1) := by decide +kernel
theorem dX7_dijoin_72 : decode cX7_dijoin 72 = .ok (.getfield 76, 3) := by decide +kernel
theorem dX7_dijoin_75 : decode cX7_dijoin 75 = .ok (.iload_n 1, 1) := by decide +kernel
theorem dX7_dijoin_76 : decode cX7_dijoin 76 = .ok (.iaload, 1) := by decide +kernel
theorem dX7_dijoin_77 : decode cX7_dijoin 77 = .ok (.putfield 153, 3) := by decide +kernel
theorem dX7_dijoin_80 : decode cX7_dijoin 80 = .ok (.aload_n 0, 1) := by decide +kernel
theorem dX7_dijoin_81 : decode cX7_dijoin 81 = .ok (.aload_n 0, 1) := by decide +kernel
theorem dX7_dijoin_82 : decode cX7_dijoin 82 = .ok (.getfield 153, 3) := by decide +kernel
theorem dX7_dijoin_85 : decode cX7_dijoin 85 = .ok (.invokevirtual 172, 3) := by decide +kernel
theorem dX7_dijoin_88 : decode cX7_dijoin 88 = .ok (.ireturn, 1) := by decide +kernel
theorem dX7_chosen_0 : decode cX7_chosen 0 = .ok (.aload_n 0, 1) := by decide +kernel
theorem dX7_chosen_1 : decode cX7_chosen 1 = .ok (.iconst 0, 1) := by decide +kernel
theorem dX7_chosen_2 : decode cX7_chosen 2 = .ok (.putfield 85, 3) := by decide +kernel
theorem dX7_chosen_5 : decode cX7_chosen 5 = .ok (.aload_n 0, 1) := by decide +kernel
theorem dX7_chosen_6 : decode cX7_chosen 6 = .ok (.getfield 134, 3) := by decide +kernel
theorem dX7_chosen_9 : decode cX7_chosen 9 = .ok (.ifCond .eq 10, 3) := by decide +kernel
theorem dX7_chosen_12 : decode cX7_chosen 12 = .ok (.aload_n 0, 1) := by decide +kernel
theorem dX7_chosen_13 : decode cX7_chosen 13 = .ok (.getfield 153, 3) := by decide +kernel
theorem dX7_chosen_16 : decode cX7_chosen 16 = .ok (.goto 4, 3) := by decide +kernel
theorem dX7_chosen_19 : decode cX7_chosen 19 = .ok (.iconst 0, 1) := by decide +kernel
theorem dX7_chosen_20 : decode cX7_chosen 20 = .ok (.ireturn, 1) := by decide +kernel
set_option maxRecDepth 20000 in
theorem ggX7_cost_X7_isArc : GoodIn wsX7_cost wsX7_isArc := goodIn_r _ [9, 10, 11, 12, 8, 13, 60, 61, 62, 63, 64, 65, 66, 67, 68, 69, 70, 71, 72, 73, 74, 75, 76, 77, 78, 79, 80, 81, 82, 83, 84, 85, 86, 87, 88, 89, 90, 91, 92, 93] (by decide +kernel) (by decide +kernel)
set_option maxRecDepth 20000 in
theorem gX7_cost_X7_isArc : GoodIn wsX7_cost (wsV RX7 143 RX7 yX7_isArc wsX7_isArc) := goodIn_app (goodIn_of _ (by decide +kernel)) ggX7_cost_X7_isArc
set_option maxRecDepth 20000 in
theorem ggX7_cost_X7_isWhole : GoodIn wsX7_cost wsX7_isWhole := goodIn_r _ [17, 18, 19, 20, 21, 8, 22, 10, 23, 24, 25, 26, 27, 28, 29, 60, 61, 62, 63, 64, 65, 66, 67, 68, 69, 70, 71, 72, 73, 74, 75, 76, 77, 78, 79, 80, 81, 82, 83, 84, 85, 86, 87, 88, 89, 90, 91, 92, 93] (by decide +kernel) (by decide +kernel)
set_option maxRecDepth 20000 in
theorem gX7_cost_X7_isWhole : GoodIn wsX7_cost (wsV RX7 159 RX7 yX7_isWhole wsX7_isWhole) := goodIn_app (goodIn_of _ (by decide +kernel)) ggX7_cost_X7_isWhole
set_option maxRecDepth 20000 in
theorem ggX7_cost_X7_in : GoodIn wsX7_cost wsX7_in := goodIn_r _ [13] (by decide +kernel) (by decide +kernel)
set_option maxRecDepth 20000 in
theorem gX7_cost_X7_in : GoodIn wsX7_cost (va_wsS RX7 130 yX7_in wsX7_in) := goodIn_app (goodIn_of _ (by decide +kernel)) ggX7_cost_X7_in
set_option maxRecDepth 20000 in
theorem ggX7_cost_X7_makeSets : GoodIn wsX7_cost wsX7_makeSets := goodIn_r _ [33, 34, 10, 35, 36, 37, 2, 3, 38, 39, 40, 8, 41, 42, 43, 25, 26, 27, 28, 29, 44, 45, 46, 47, 23, 24, 48, 49, 50, 51, 52, 53, 54, 55, 60, 61, 62, 63, 64, 65, 66, 67, 68, 69, 70, 71, 72, 73, 74, 75, 76, 77, 78, 79, 80, 81, 82, 83, 84, 85, 86, 87, 88, 89, 90, 91, 92, 93] (by decide +kernel) (by decide +kernel)
set_option maxRecDepth 20000 in
theorem gX7_cost_X7_makeSets : GoodIn wsX7_cost (wsV RX7 169 RX7 yX7_makeSets wsX7_makeSets) := goodIn_app (goodIn_of _ (by decide +kernel)) ggX7_cost_X7_makeSets
set_option maxRecDepth 20000 in
theorem ggX7_cost_X7_weightOf : GoodIn wsX7_cost wsX7_weightOf := goodIn_r _ [59, 10, 4, 60, 61, 62, 63, 64, 65, 66, 67, 68, 69, 70, 71, 72, 73, 74, 75, 76, 77, 78, 79, 80, 81, 82, 83, 84, 85, 86, 87, 88, 89, 90, 91, 92, 93] (by decide +kernel) (by decide +kernel)
set_option maxRecDepth 20000 in
theorem gX7_cost_X7_weightOf : GoodIn wsX7_cost (wsV RX7 172 RX7 yX7_weightOf wsX7_weightOf) := goodIn_app (goodIn_of _ (by decide +kernel)) ggX7_cost_X7_weightOf
theorem dX7_cost_0 : decode cX7_cost 0 = .ok (.aload_n 0, 1) := by decide +kernel
theorem dX7_cost_1 : decode cX7_cost 1 = .ok (.iconst 0, 1) := by decide +kernel
theorem dX7_cost_2 : decode cX7_cost 2 = .ok (.putfield 85, 3) := by decide +kernel
theorem dX7_cost_5 : decode cX7_cost 5 = .ok (.aload_n 0, 1) := by decide +kernel
theorem dX7_cost_6 : decode cX7_cost 6 = .ok (.iload_n 1, 1) := by decide +kernel
theorem dX7_cost_7 : decode cX7_cost 7 = .ok (.invokevirtual 143, 3) := by decide +kernel
theorem dX7_cost_10 : decode cX7_cost 10 = .ok (.ifCond .eq 21, 3) := by decide +kernel
theorem dX7_cost_13 : decode cX7_cost 13 = .ok (.aload_n 0, 1) := by decide +kernel
theorem dX7_cost_14 : decode cX7_cost 14 = .ok (.invokevirtual 159, 3) := by decide +kernel
theorem dX7_cost_17 : decode cX7_cost 17 = .ok (.ifCond .eq 14, 3) := by decide +kernel
theorem dX7_cost_20 : decode cX7_cost 20 = .ok (.iload_n 2, 1) := by decide +kernel
theorem dX7_cost_21 : decode cX7_cost 21 = .ok (.iconst (-1), 1) := by decide +kernel
theorem dX7_cost_22 : decode cX7_cost 22 = .ok (.sipush 1000, 3) := by decide +kernel
theorem dX7_cost_25 : decode cX7_cost 25 = .ok (.invokestatic 130, 3) := by decide +kernel
theorem dX7_cost_28 : decode cX7_cost 28 = .ok (.ifCond .ne 5, 3) := by decide +kernel
theorem dX7_cost_31 : decode cX7_cost 31 = .ok (.iconst (-1), 1) := by decide +kernel
theorem dX7_cost_32 : decode cX7_cost 32 = .ok (.ireturn, 1) := by decide +kernel
theorem dX7_cost_33 : decode cX7_cost 33 = .ok (.aload_n 0, 1) := by decide +kernel
theorem dX7_cost_34 : decode cX7_cost 34 = .ok (.invokevirtual 169, 3) := by decide +kernel
theorem dX7_cost_37 : decode cX7_cost 37 = .ok (.iconst (-1), 1) := by decide +kernel
theorem dX7_cost_38 : decode cX7_cost 38 = .ok (.istore_n 3, 1) := by decide +kernel
theorem dX7_cost_39 : decode cX7_cost 39 = .ok (.iconst 0, 1) := by decide +kernel
theorem dX7_cost_40 : decode cX7_cost 40 = .ok (.istore 4, 2) := by decide +kernel
theorem dX7_cost_42 : decode cX7_cost 42 = .ok (.iload 4, 2) := by decide +kernel
theorem dX7_cost_44 : decode cX7_cost 44 = .ok (.aload_n 0, 1) := by decide +kernel
theorem dX7_cost_45 : decode cX7_cost 45 = .ok (.getfield 116, 3) := by decide +kernel
theorem dX7_cost_48 : decode cX7_cost 48 = .ok (.if_icmp .ge 91, 3) := by decide +kernel
theorem dX7_cost_51 : decode cX7_cost 51 = .ok (.aload_n 0, 1) := by decide +kernel
theorem dX7_cost_52 : decode cX7_cost 52 = .ok (.getfield 76, 3) := by decide +kernel
theorem dX7_cost_55 : decode cX7_cost 55 = .ok (.iload 4, 2) := by decide +kernel
theorem dX7_cost_57 : decode cX7_cost 57 = .ok (.iaload, 1) := by decide +kernel
theorem dX7_cost_58 : decode cX7_cost 58 = .ok (.iload_n 1, 1) := by decide +kernel
theorem dX7_cost_59 : decode cX7_cost 59 = .ok (.ishr, 1) := by decide +kernel
theorem dX7_cost_60 : decode cX7_cost 60 = .ok (.iconst 1, 1) := by decide +kernel
theorem dX7_cost_61 : decode cX7_cost 61 = .ok (.iand, 1) := by decide +kernel
theorem dX7_cost_62 : decode cX7_cost 62 = .ok (.ifCond .eq 7, 3) := by decide +kernel
theorem dX7_cost_65 : decode cX7_cost 65 = .ok (.iconst 1, 1) := by decide +kernel
theorem dX7_cost_66 : decode cX7_cost 66 = .ok (.goto 4, 3) := by decide +kernel
theorem dX7_cost_69 : decode cX7_cost 69 = .ok (.iconst 0, 1) := by decide +kernel
theorem dX7_cost_70 : decode cX7_cost 70 = .ok (.istore 5, 2) := by decide +kernel
theorem dX7_cost_72 : decode cX7_cost 72 = .ok (.iload 5, 2) := by decide +kernel
theorem dX7_cost_74 : decode cX7_cost 74 = .ok (.ifCond .eq 10, 3) := by decide +kernel
theorem dX7_cost_77 : decode cX7_cost 77 = .ok (.iload_n 2, 1) := by decide +kernel
theorem dX7_cost_78 : decode cX7_cost 78 = .ok (.ifCond .ge 6, 3) := by decide +kernel
theorem dX7_cost_81 : decode cX7_cost 81 = .ok (.goto 52, 3) := by decide +kernel
theorem dX7_cost_84 : decode cX7_cost 84 = .ok (.aload_n 0, 1) := by decide +kernel
theorem dX7_cost_85 : decode cX7_cost 85 = .ok (.aload_n 0, 1) := by decide +kernel
theorem dX7_cost_86 : decode cX7_cost 86 = .ok (.getfield 76, 3) := by decide +kernel
theorem dX7_cost_89 : decode cX7_cost 89 = .ok (.iload 4, 2) := by decide +kernel
theorem dX7_cost_91 : decode cX7_cost 91 = .ok (.iaload, 1) := by decide +kernel
theorem dX7_cost_92 : decode cX7_cost 92 = .ok (.invokevirtual 172, 3) := by decide +kernel
theorem dX7_cost_95 : decode cX7_cost 95 = .ok (.iload 5, 2) := by decide +kernel
theorem dX7_cost_97 : decode cX7_cost 97 = .ok (.ifCond .eq 14, 3) := by decide +kernel
theorem dX7_cost_100 : decode cX7_cost 100 = .ok (.iload_n 2, 1) := by decide +kernel
theorem dX7_cost_101 : decode cX7_cost 101 = .ok (.aload_n 0, 1) := by decide +kernel
theorem dX7_cost_102 : decode cX7_cost 102 = .ok (.getfield 20, 3) := by decide +kernel
theorem dX7_cost_105 : decode cX7_cost 105 = .ok (.iload_n 1, 1) := by decide +kernel
theorem dX7_cost_106 : decode cX7_cost 106 = .ok (.iaload, 1) := by decide +kernel
theorem dX7_cost_107 : decode cX7_cost 107 = .ok (.isub, 1) := by decide +kernel
theorem dX7_cost_108 : decode cX7_cost 108 = .ok (.goto 4, 3) := by decide +kernel
theorem dX7_cost_111 : decode cX7_cost 111 = .ok (.iconst 0, 1) := by decide +kernel
theorem dX7_cost_112 : decode cX7_cost 112 = .ok (.iadd, 1) := by decide +kernel
theorem dX7_cost_113 : decode cX7_cost 113 = .ok (.istore 6, 2) := by decide +kernel
theorem dX7_cost_115 : decode cX7_cost 115 = .ok (.iload_n 3, 1) := by decide +kernel
theorem dX7_cost_116 : decode cX7_cost 116 = .ok (.iconst (-1), 1) := by decide +kernel
theorem dX7_cost_117 : decode cX7_cost 117 = .ok (.if_icmp .eq 9, 3) := by decide +kernel
theorem dX7_cost_120 : decode cX7_cost 120 = .ok (.iload 6, 2) := by decide +kernel
theorem dX7_cost_122 : decode cX7_cost 122 = .ok (.iload_n 3, 1) := by decide +kernel
theorem dX7_cost_123 : decode cX7_cost 123 = .ok (.if_icmp .ge 8, 3) := by decide +kernel
theorem dX7_cost_126 : decode cX7_cost 126 = .ok (.iload 6, 2) := by decide +kernel
theorem dX7_cost_128 : decode cX7_cost 128 = .ok (.goto 4, 3) := by decide +kernel
theorem dX7_cost_131 : decode cX7_cost 131 = .ok (.iload_n 3, 1) := by decide +kernel
theorem dX7_cost_132 : decode cX7_cost 132 = .ok (.istore_n 3, 1) := by decide +kernel
theorem dX7_cost_133 : decode cX7_cost 133 = .ok (.iinc 4 1, 3) := by decide +kernel
theorem dX7_cost_136 : decode cX7_cost 136 = .ok (.goto (-94), 3) := by decide +kernel
theorem dX7_cost_139 : decode cX7_cost 139 = .ok (.iload_n 3, 1) := by decide +kernel
theorem dX7_cost_140 : decode cX7_cost 140 = .ok (.ireturn, 1) := by decide +kernel
set_option maxRecDepth 20000 in
theorem ggX7_packing_X7_isWhole : GoodIn wsX7_packing wsX7_isWhole := goodIn_r _ [20, 21, 22, 23, 24, 19, 25, 7, 26, 27, 28, 29, 30, 31, 11, 66, 67, 68, 69, 70, 71, 72, 73, 74, 75, 76, 77, 78, 79, 80, 81, 82, 83, 84, 85, 86, 87, 88, 89, 90, 91, 92, 93, 94, 95, 96, 97, 98, 99] (by decide +kernel) (by decide +kernel)
set_option maxRecDepth 20000 in
theorem gX7_packing_X7_isWhole : GoodIn wsX7_packing (wsV RX7 159 RX7 yX7_isWhole wsX7_isWhole) := goodIn_app (goodIn_of _ (by decide +kernel)) ggX7_packing_X7_isWhole
set_option maxRecDepth 20000 in
theorem ggX7_packing_X7_makeSets : GoodIn wsX7_packing wsX7_makeSets := goodIn_r _ [35, 36, 7, 37, 13, 14, 2, 4, 38, 39, 40, 19, 41, 42, 15, 28, 29, 30, 31, 11, 43, 44, 45, 46, 26, 27, 47, 48, 49, 50, 51, 52, 53, 54, 66, 67, 68, 69, 70, 71, 72, 73, 74, 75, 76, 77, 78, 79, 80, 81, 82, 83, 84, 85, 86, 87, 88, 89, 90, 91, 92, 93, 94, 95, 96, 97, 98, 99] (by decide +kernel) (by decide +kernel)
set_option maxRecDepth 20000 in
theorem gX7_packing_X7_makeSets : GoodIn wsX7_packing (wsV RX7 169 RX7 yX7_makeSets wsX7_makeSets) := goodIn_app (goodIn_of _ (by decide +kernel)) ggX7_packing_X7_makeSets
set_option maxRecDepth 20000 in
theorem ggX7_packing_X7_weightOf : GoodIn wsX7_packing wsX7_weightOf := goodIn_r _ [58, 7, 8, 66, 67, 68, 69, 70, 71, 72, 73, 74, 75, 76, 77, 78, 79, 80, 81, 82, 83, 84, 85, 86, 87, 88, 89, 90, 91, 92, 93, 94, 95, 96, 97, 98, 99] (by decide +kernel) (by decide +kernel)
set_option maxRecDepth 20000 in
theorem gX7_packing_X7_weightOf : GoodIn wsX7_packing (wsV RX7 172 RX7 yX7_weightOf wsX7_weightOf) := goodIn_app (goodIn_of _ (by decide +kernel)) ggX7_packing_X7_weightOf
set_option maxRecDepth 20000 in
theorem ggX7_packing_X7_oftenAtMost : GoodIn wsX7_packing wsX7_oftenAtMost := goodIn_r _ [62, 7, 6, 2, 4, 3, 63, 64, 19, 65, 66, 67, 68, 69, 70, 71, 72, 73, 74, 75, 76, 77, 78, 79, 80, 81, 82, 83, 84, 85, 86, 87, 88, 89, 90, 91, 92, 93, 94, 95, 96, 97, 98, 99] (by decide +kernel) (by decide +kernel)
set_option maxRecDepth 20000 in
theorem gX7_packing_X7_oftenAtMost : GoodIn wsX7_packing (wsV RX7 178 RX7 yX7_oftenAtMost wsX7_oftenAtMost) := goodIn_app (goodIn_of _ (by decide +kernel)) ggX7_packing_X7_oftenAtMost
set_option maxRecDepth 20000 in
theorem ggX7_packing_X7_ones : GoodIn wsX7_packing wsX7_ones := goodIn_r _ [65] (by decide +kernel) (by decide +kernel)
set_option maxRecDepth 20000 in
theorem gX7_packing_X7_ones : GoodIn wsX7_packing (va_wsS RX7 182 yX7_ones wsX7_ones) := goodIn_app (goodIn_of _ (by decide +kernel)) ggX7_packing_X7_ones
theorem dX7_packing_0 : decode cX7_packing 0 = .ok (.aload_n 0, 1) := by decide +kernel
theorem dX7_packing_1 : decode cX7_packing 1 = .ok (.iconst 0, 1) := by decide +kernel
theorem dX7_packing_2 : decode cX7_packing 2 = .ok (.putfield 85, 3) := by decide +kernel
theorem dX7_packing_5 : decode cX7_packing 5 = .ok (.aload_n 0, 1) := by decide +kernel
theorem dX7_packing_6 : decode cX7_packing 6 = .ok (.invokevirtual 159, 3) := by decide +kernel
theorem dX7_packing_9 : decode cX7_packing 9 = .ok (.ifCond .ne 5, 3) := by decide +kernel
theorem dX7_packing_12 : decode cX7_packing 12 = .ok (.iconst (-1), 1) := by decide +kernel
theorem dX7_packing_13 : decode cX7_packing 13 = .ok (.ireturn, 1) := by decide +kernel
theorem dX7_packing_14 : decode cX7_packing 14 = .ok (.aload_n 0, 1) := by decide +kernel
theorem dX7_packing_15 : decode cX7_packing 15 = .ok (.invokevirtual 169, 3) := by decide +kernel
theorem dX7_packing_18 : decode cX7_packing 18 = .ok (.iconst (-1), 1) := by decide +kernel
theorem dX7_packing_19 : decode cX7_packing 19 = .ok (.istore_n 1, 1) := by decide +kernel
theorem dX7_packing_20 : decode cX7_packing 20 = .ok (.iconst 0, 1) := by decide +kernel
theorem dX7_packing_21 : decode cX7_packing 21 = .ok (.istore_n 2, 1) := by decide +kernel
theorem dX7_packing_22 : decode cX7_packing 22 = .ok (.iload_n 2, 1) := by decide +kernel
theorem dX7_packing_23 : decode cX7_packing 23 = .ok (.aload_n 0, 1) := by decide +kernel
theorem dX7_packing_24 : decode cX7_packing 24 = .ok (.getfield 116, 3) := by decide +kernel
theorem dX7_packing_27 : decode cX7_packing 27 = .ok (.if_icmp .ge 51, 3) := by decide +kernel
theorem dX7_packing_30 : decode cX7_packing 30 = .ok (.aload_n 0, 1) := by decide +kernel
theorem dX7_packing_31 : decode cX7_packing 31 = .ok (.getfield 79, 3) := by decide +kernel
theorem dX7_packing_34 : decode cX7_packing 34 = .ok (.iload_n 2, 1) := by decide +kernel
theorem dX7_packing_35 : decode cX7_packing 35 = .ok (.aload_n 0, 1) := by decide +kernel
theorem dX7_packing_36 : decode cX7_packing 36 = .ok (.aload_n 0, 1) := by decide +kernel
theorem dX7_packing_37 : decode cX7_packing 37 = .ok (.getfield 76, 3) := by decide +kernel
theorem dX7_packing_40 : decode cX7_packing 40 = .ok (.iload_n 2, 1) := by decide +kernel
theorem dX7_packing_41 : decode cX7_packing 41 = .ok (.iaload, 1) := by decide +kernel
theorem dX7_packing_42 : decode cX7_packing 42 = .ok (.invokevirtual 172, 3) := by decide +kernel
theorem dX7_packing_45 : decode cX7_packing 45 = .ok (.iastore, 1) := by decide +kernel
theorem dX7_packing_46 : decode cX7_packing 46 = .ok (.iload_n 1, 1) := by decide +kernel
theorem dX7_packing_47 : decode cX7_packing 47 = .ok (.iconst (-1), 1) := by decide +kernel
theorem dX7_packing_48 : decode cX7_packing 48 = .ok (.if_icmp .eq 13, 3) := by decide +kernel
theorem dX7_packing_51 : decode cX7_packing 51 = .ok (.aload_n 0, 1) := by decide +kernel
theorem dX7_packing_52 : decode cX7_packing 52 = .ok (.getfield 79, 3) := by decide +kernel
theorem dX7_packing_55 : decode cX7_packing 55 = .ok (.iload_n 2, 1) := by decide +kernel
theorem dX7_packing_56 : decode cX7_packing 56 = .ok (.iaload, 1) := by decide +kernel
theorem dX7_packing_57 : decode cX7_packing 57 = .ok (.iload_n 1, 1) := by decide +kernel
theorem dX7_packing_58 : decode cX7_packing 58 = .ok (.if_icmp .ge 12, 3) := by decide +kernel
theorem dX7_packing_61 : decode cX7_packing 61 = .ok (.aload_n 0, 1) := by decide +kernel
theorem dX7_packing_62 : decode cX7_packing 62 = .ok (.getfield 79, 3) := by decide +kernel
theorem dX7_packing_65 : decode cX7_packing 65 = .ok (.iload_n 2, 1) := by decide +kernel
theorem dX7_packing_66 : decode cX7_packing 66 = .ok (.iaload, 1) := by decide +kernel
theorem dX7_packing_67 : decode cX7_packing 67 = .ok (.goto 4, 3) := by decide +kernel
theorem dX7_packing_70 : decode cX7_packing 70 = .ok (.iload_n 1, 1) := by decide +kernel
theorem dX7_packing_71 : decode cX7_packing 71 = .ok (.istore_n 1, 1) := by decide +kernel
theorem dX7_packing_72 : decode cX7_packing 72 = .ok (.iinc 2 1, 3) := by decide +kernel
theorem dX7_packing_75 : decode cX7_packing 75 = .ok (.goto (-53), 3) := by decide +kernel
theorem dX7_packing_78 : decode cX7_packing 78 = .ok (.iload_n 1, 1) := by decide +kernel
theorem dX7_packing_79 : decode cX7_packing 79 = .ok (.istore_n 2, 1) := by decide +kernel
theorem dX7_packing_80 : decode cX7_packing 80 = .ok (.iconst 0, 1) := by decide +kernel
theorem dX7_packing_81 : decode cX7_packing 81 = .ok (.istore_n 3, 1) := by decide +kernel
theorem dX7_packing_82 : decode cX7_packing 82 = .ok (.iload_n 3, 1) := by decide +kernel
theorem dX7_packing_83 : decode cX7_packing 83 = .ok (.sipush 256, 3) := by decide +kernel
theorem dX7_packing_86 : decode cX7_packing 86 = .ok (.if_icmp .ge 16, 3) := by decide +kernel
theorem dX7_packing_89 : decode cX7_packing 89 = .ok (.aload_n 0, 1) := by decide +kernel
theorem dX7_packing_90 : decode cX7_packing 90 = .ok (.getfield 26, 3) := by decide +kernel
theorem dX7_packing_93 : decode cX7_packing 93 = .ok (.iload_n 3, 1) := by decide +kernel
theorem dX7_packing_94 : decode cX7_packing 94 = .ok (.iconst 0, 1) := by decide +kernel
theorem dX7_packing_95 : decode cX7_packing 95 = .ok (.iastore, 1) := by decide +kernel
theorem dX7_packing_96 : decode cX7_packing 96 = .ok (.iinc 3 1, 3) := by decide +kernel
theorem dX7_packing_99 : decode cX7_packing 99 = .ok (.goto (-17), 3) := by decide +kernel
theorem dX7_packing_102 : decode cX7_packing 102 = .ok (.iconst 0, 1) := by decide +kernel
theorem dX7_packing_103 : decode cX7_packing 103 = .ok (.istore_n 3, 1) := by decide +kernel
theorem dX7_packing_104 : decode cX7_packing 104 = .ok (.iload_n 3, 1) := by decide +kernel
theorem dX7_packing_105 : decode cX7_packing 105 = .ok (.bipush 16, 2) := by decide +kernel
theorem dX7_packing_107 : decode cX7_packing 107 = .ok (.if_icmp .ge 40, 3) := by decide +kernel
theorem dX7_packing_110 : decode cX7_packing 110 = .ok (.aload_n 0, 1) := by decide +kernel
theorem dX7_packing_111 : decode cX7_packing 111 = .ok (.getfield 82, 3) := by decide +kernel
theorem dX7_packing_114 : decode cX7_packing 114 = .ok (.iload_n 3, 1) := by decide +kernel
theorem dX7_packing_115 : decode cX7_packing 115 = .ok (.iload_n 3, 1) := by decide +kernel
theorem dX7_packing_116 : decode cX7_packing 116 = .ok (.aload_n 0, 1) := by decide +kernel
theorem dX7_packing_117 : decode cX7_packing 117 = .ok (.getfield 95, 3) := by decide +kernel
theorem dX7_packing_120 : decode cX7_packing 120 = .ok (.if_icmp .ge 12, 3) := by decide +kernel
theorem dX7_packing_123 : decode cX7_packing 123 = .ok (.aload_n 0, 1) := by decide +kernel
theorem dX7_packing_124 : decode cX7_packing 124 = .ok (.getfield 20, 3) := by decide +kernel
theorem dX7_packing_127 : decode cX7_packing 127 = .ok (.iload_n 3, 1) := by decide +kernel
theorem dX7_packing_128 : decode cX7_packing 128 = .ok (.iaload, 1) := by decide +kernel
theorem dX7_packing_129 : decode cX7_packing 129 = .ok (.goto 4, 3) := by decide +kernel
theorem dX7_packing_132 : decode cX7_packing 132 = .ok (.iconst 0, 1) := by decide +kernel
theorem dX7_packing_133 : decode cX7_packing 133 = .ok (.iastore, 1) := by decide +kernel
theorem dX7_packing_134 : decode cX7_packing 134 = .ok (.aload_n 0, 1) := by decide +kernel
theorem dX7_packing_135 : decode cX7_packing 135 = .ok (.getfield 23, 3) := by decide +kernel
theorem dX7_packing_138 : decode cX7_packing 138 = .ok (.iload_n 3, 1) := by decide +kernel
theorem dX7_packing_139 : decode cX7_packing 139 = .ok (.iconst 0, 1) := by decide +kernel
theorem dX7_packing_140 : decode cX7_packing 140 = .ok (.iastore, 1) := by decide +kernel
theorem dX7_packing_141 : decode cX7_packing 141 = .ok (.iinc 3 1, 3) := by decide +kernel
theorem dX7_packing_144 : decode cX7_packing 144 = .ok (.goto (-40), 3) := by decide +kernel
theorem dX7_packing_147 : decode cX7_packing 147 = .ok (.aload_n 0, 1) := by decide +kernel
theorem dX7_packing_148 : decode cX7_packing 148 = .ok (.iconst 1, 1) := by decide +kernel
theorem dX7_packing_149 : decode cX7_packing 149 = .ok (.putfield 137, 3) := by decide +kernel
theorem dX7_packing_152 : decode cX7_packing 152 = .ok (.aload_n 0, 1) := by decide +kernel
theorem dX7_packing_153 : decode cX7_packing 153 = .ok (.aload_n 0, 1) := by decide +kernel
theorem dX7_packing_154 : decode cX7_packing 154 = .ok (.getfield 7, 3) := by decide +kernel
theorem dX7_packing_157 : decode cX7_packing 157 = .ok (.putfield 175, 3) := by decide +kernel
theorem dX7_packing_160 : decode cX7_packing 160 = .ok (.iconst 0, 1) := by decide +kernel
theorem dX7_packing_161 : decode cX7_packing 161 = .ok (.istore_n 3, 1) := by decide +kernel
theorem dX7_packing_162 : decode cX7_packing 162 = .ok (.iload_n 3, 1) := by decide +kernel
theorem dX7_packing_163 : decode cX7_packing 163 = .ok (.aload_n 0, 1) := by decide +kernel
theorem dX7_packing_164 : decode cX7_packing 164 = .ok (.getfield 98, 3) := by decide +kernel
theorem dX7_packing_167 : decode cX7_packing 167 = .ok (.if_icmp .ge 144, 3) := by decide +kernel
theorem dX7_packing_170 : decode cX7_packing 170 = .ok (.aload_n 0, 1) := by decide +kernel
theorem dX7_packing_171 : decode cX7_packing 171 = .ok (.aload_n 0, 1) := by decide +kernel
theorem dX7_packing_172 : decode cX7_packing 172 = .ok (.getfield 69, 3) := by decide +kernel
theorem dX7_packing_175 : decode cX7_packing 175 = .ok (.iload_n 3, 1) := by decide +kernel
theorem dX7_packing_176 : decode cX7_packing 176 = .ok (.iaload, 1) := by decide +kernel
theorem dX7_packing_177 : decode cX7_packing 177 = .ok (.iload_n 1, 1) := by decide +kernel
theorem dX7_packing_178 : decode cX7_packing 178 = .ok (.invokevirtual 178, 3) := by decide +kernel
theorem dX7_packing_181 : decode cX7_packing 181 = .ok (.istore 4, 2) := by decide +kernel
theorem dX7_packing_183 : decode cX7_packing 183 = .ok (.aload_n 0, 1) := by decide +kernel
theorem dX7_packing_184 : decode cX7_packing 184 = .ok (.getfield 26, 3) := by decide +kernel
theorem dX7_packing_187 : decode cX7_packing 187 = .ok (.aload_n 0, 1) := by decide +kernel
theorem dX7_packing_188 : decode cX7_packing 188 = .ok (.getfield 66, 3) := by decide +kernel
theorem dX7_packing_191 : decode cX7_packing 191 = .ok (.iload_n 3, 1) := by decide +kernel
theorem dX7_packing_192 : decode cX7_packing 192 = .ok (.iaload, 1) := by decide +kernel
theorem dX7_packing_193 : decode cX7_packing 193 = .ok (.iload 4, 2) := by decide +kernel
theorem dX7_packing_195 : decode cX7_packing 195 = .ok (.iastore, 1) := by decide +kernel
theorem dX7_packing_196 : decode cX7_packing 196 = .ok (.iload_n 1, 1) := by decide +kernel
theorem dX7_packing_197 : decode cX7_packing 197 = .ok (.iload 4, 2) := by decide +kernel
theorem dX7_packing_199 : decode cX7_packing 199 = .ok (.isub, 1) := by decide +kernel
theorem dX7_packing_200 : decode cX7_packing 200 = .ok (.istore_n 1, 1) := by decide +kernel
theorem dX7_packing_201 : decode cX7_packing 201 = .ok (.iconst 0, 1) := by decide +kernel
theorem dX7_packing_202 : decode cX7_packing 202 = .ok (.istore 5, 2) := by decide +kernel
theorem dX7_packing_204 : decode cX7_packing 204 = .ok (.iload 5, 2) := by decide +kernel
theorem dX7_packing_206 : decode cX7_packing 206 = .ok (.aload_n 0, 1) := by decide +kernel
theorem dX7_packing_207 : decode cX7_packing 207 = .ok (.getfield 116, 3) := by decide +kernel
theorem dX7_packing_210 : decode cX7_packing 210 = .ok (.if_icmp .ge 39, 3) := by decide +kernel
theorem dX7_packing_213 : decode cX7_packing 213 = .ok (.aload_n 0, 1) := by decide +kernel
theorem dX7_packing_214 : decode cX7_packing 214 = .ok (.getfield 79, 3) := by decide +kernel
theorem dX7_packing_217 : decode cX7_packing 217 = .ok (.iload 5, 2) := by decide +kernel
theorem dX7_packing_219 : decode cX7_packing 219 = .ok (.dup2, 1) := by decide +kernel
theorem dX7_packing_220 : decode cX7_packing 220 = .ok (.iaload, 1) := by decide +kernel
theorem dX7_packing_221 : decode cX7_packing 221 = .ok (.iload 4, 2) := by decide +kernel
theorem dX7_packing_223 : decode cX7_packing 223 = .ok (.aload_n 0, 1) := by decide +kernel
theorem dX7_packing_224 : decode cX7_packing 224 = .ok (.getfield 76, 3) := by decide +kernel
theorem dX7_packing_227 : decode cX7_packing 227 = .ok (.iload 5, 2) := by decide +kernel
theorem dX7_packing_229 : decode cX7_packing 229 = .ok (.iaload, 1) := by decide +kernel
theorem dX7_packing_230 : decode cX7_packing 230 = .ok (.aload_n 0, 1) := by decide +kernel
theorem dX7_packing_231 : decode cX7_packing 231 = .ok (.getfield 69, 3) := by decide +kernel
theorem dX7_packing_234 : decode cX7_packing 234 = .ok (.iload_n 3, 1) := by decide +kernel
theorem dX7_packing_235 : decode cX7_packing 235 = .ok (.iaload, 1) := by decide +kernel
theorem dX7_packing_236 : decode cX7_packing 236 = .ok (.iand, 1) := by decide +kernel
theorem dX7_packing_237 : decode cX7_packing 237 = .ok (.invokestatic 182, 3) := by decide +kernel
theorem dX7_packing_240 : decode cX7_packing 240 = .ok (.imul, 1) := by decide +kernel
theorem dX7_packing_241 : decode cX7_packing 241 = .ok (.isub, 1) := by decide +kernel
theorem dX7_packing_242 : decode cX7_packing 242 = .ok (.iastore, 1) := by decide +kernel
theorem dX7_packing_243 : decode cX7_packing 243 = .ok (.iinc 5 1, 3) := by decide +kernel
theorem dX7_packing_246 : decode cX7_packing 246 = .ok (.goto (-42), 3) := by decide +kernel
theorem dX7_packing_249 : decode cX7_packing 249 = .ok (.iconst 0, 1) := by decide +kernel
theorem dX7_packing_250 : decode cX7_packing 250 = .ok (.istore 5, 2) := by decide +kernel
theorem dX7_packing_252 : decode cX7_packing 252 = .ok (.iload 5, 2) := by decide +kernel
theorem dX7_packing_254 : decode cX7_packing 254 = .ok (.aload_n 0, 1) := by decide +kernel
theorem dX7_packing_255 : decode cX7_packing 255 = .ok (.getfield 95, 3) := by decide +kernel
theorem dX7_packing_258 : decode cX7_packing 258 = .ok (.if_icmp .ge 47, 3) := by decide +kernel
theorem dX7_packing_261 : decode cX7_packing 261 = .ok (.aload_n 0, 1) := by decide +kernel
theorem dX7_packing_262 : decode cX7_packing 262 = .ok (.getfield 69, 3) := by decide +kernel
theorem dX7_packing_265 : decode cX7_packing 265 = .ok (.iload_n 3, 1) := by decide +kernel
theorem dX7_packing_266 : decode cX7_packing 266 = .ok (.iaload, 1) := by decide +kernel
theorem dX7_packing_267 : decode cX7_packing 267 = .ok (.iload 5, 2) := by decide +kernel
theorem dX7_packing_269 : decode cX7_packing 269 = .ok (.ishr, 1) := by decide +kernel
theorem dX7_packing_270 : decode cX7_packing 270 = .ok (.iconst 1, 1) := by decide +kernel
theorem dX7_packing_271 : decode cX7_packing 271 = .ok (.iand, 1) := by decide +kernel
theorem dX7_packing_272 : decode cX7_packing 272 = .ok (.ifCond .eq 27, 3) := by decide +kernel
theorem dX7_packing_275 : decode cX7_packing 275 = .ok (.aload_n 0, 1) := by decide +kernel
theorem dX7_packing_276 : decode cX7_packing 276 = .ok (.getfield 82, 3) := by decide +kernel
theorem dX7_packing_279 : decode cX7_packing 279 = .ok (.iload 5, 2) := by decide +kernel
theorem dX7_packing_281 : decode cX7_packing 281 = .ok (.dup2, 1) := by decide +kernel
theorem dX7_packing_282 : decode cX7_packing 282 = .ok (.iaload, 1) := by decide +kernel
theorem dX7_packing_283 : decode cX7_packing 283 = .ok (.iload 4, 2) := by decide +kernel
theorem dX7_packing_285 : decode cX7_packing 285 = .ok (.isub, 1) := by decide +kernel
theorem dX7_packing_286 : decode cX7_packing 286 = .ok (.iastore, 1) := by decide +kernel
theorem dX7_packing_287 : decode cX7_packing 287 = .ok (.aload_n 0, 1) := by decide +kernel
theorem dX7_packing_288 : decode cX7_packing 288 = .ok (.getfield 23, 3) := by decide +kernel
theorem dX7_packing_291 : decode cX7_packing 291 = .ok (.iload 5, 2) := by decide +kernel
theorem dX7_packing_293 : decode cX7_packing 293 = .ok (.dup2, 1) := by decide +kernel
theorem dX7_packing_294 : decode cX7_packing 294 = .ok (.iaload, 1) := by decide +kernel
theorem dX7_packing_295 : decode cX7_packing 295 = .ok (.iload 4, 2) := by decide +kernel
theorem dX7_packing_297 : decode cX7_packing 297 = .ok (.iadd, 1) := by decide +kernel
theorem dX7_packing_298 : decode cX7_packing 298 = .ok (.iastore, 1) := by decide +kernel
theorem dX7_packing_299 : decode cX7_packing 299 = .ok (.iinc 5 1, 3) := by decide +kernel
theorem dX7_packing_302 : decode cX7_packing 302 = .ok (.goto (-50), 3) := by decide +kernel
theorem dX7_packing_305 : decode cX7_packing 305 = .ok (.iinc 3 1, 3) := by decide +kernel
theorem dX7_packing_308 : decode cX7_packing 308 = .ok (.goto (-146), 3) := by decide +kernel
theorem dX7_packing_311 : decode cX7_packing 311 = .ok (.iload_n 2, 1) := by decide +kernel
theorem dX7_packing_312 : decode cX7_packing 312 = .ok (.ireturn, 1) := by decide +kernel
set_option maxRecDepth 20000 in
theorem ggX7_oftenAtMost_X7_ones : GoodIn wsX7_oftenAtMost wsX7_ones := goodIn_r _ [9] (by decide +kernel) (by decide +kernel)
set_option maxRecDepth 20000 in
theorem gX7_oftenAtMost_X7_ones : GoodIn wsX7_oftenAtMost (va_wsS RX7 182 yX7_ones wsX7_ones) := goodIn_app (goodIn_of _ (by decide +kernel)) ggX7_oftenAtMost_X7_ones
theorem dX7_oftenAtMost_0 : decode cX7_oftenAtMost 0 = .ok (.iload_n 2, 1) := by decide +kernel
theorem dX7_oftenAtMost_1 : decode cX7_oftenAtMost 1 = .ok (.istore_n 3, 1) := by decide +kernel
theorem dX7_oftenAtMost_2 : decode cX7_oftenAtMost 2 = .ok (.iconst 0, 1) := by decide +kernel
theorem dX7_oftenAtMost_3 : decode cX7_oftenAtMost 3 = .ok (.istore 4, 2) := by decide +kernel
theorem dX7_oftenAtMost_5 : decode cX7_oftenAtMost 5 = .ok (.iload 4, 2) := by decide +kernel
theorem dX7_oftenAtMost_7 : decode cX7_oftenAtMost 7 = .ok (.aload_n 0, 1) := by decide +kernel
theorem dX7_oftenAtMost_8 : decode cX7_oftenAtMost 8 = .ok (.getfield 95, 3) := by decide +kernel
theorem dX7_oftenAtMost_11 : decode cX7_oftenAtMost 11 = .ok (.if_icmp .ge 41, 3) := by decide +kernel
theorem dX7_oftenAtMost_14 : decode cX7_oftenAtMost 14 = .ok (.iload_n 1, 1) := by decide +kernel
theorem dX7_oftenAtMost_15 : decode cX7_oftenAtMost 15 = .ok (.iload 4, 2) := by decide +kernel
theorem dX7_oftenAtMost_17 : decode cX7_oftenAtMost 17 = .ok (.ishr, 1) := by decide +kernel
theorem dX7_oftenAtMost_18 : decode cX7_oftenAtMost 18 = .ok (.iconst 1, 1) := by decide +kernel
theorem dX7_oftenAtMost_19 : decode cX7_oftenAtMost 19 = .ok (.iand, 1) := by decide +kernel
theorem dX7_oftenAtMost_20 : decode cX7_oftenAtMost 20 = .ok (.ifCond .eq 24, 3) := by decide +kernel
theorem dX7_oftenAtMost_23 : decode cX7_oftenAtMost 23 = .ok (.aload_n 0, 1) := by decide +kernel
theorem dX7_oftenAtMost_24 : decode cX7_oftenAtMost 24 = .ok (.getfield 82, 3) := by decide +kernel
theorem dX7_oftenAtMost_27 : decode cX7_oftenAtMost 27 = .ok (.iload 4, 2) := by decide +kernel
theorem dX7_oftenAtMost_29 : decode cX7_oftenAtMost 29 = .ok (.iaload, 1) := by decide +kernel
theorem dX7_oftenAtMost_30 : decode cX7_oftenAtMost 30 = .ok (.iload_n 3, 1) := by decide +kernel
theorem dX7_oftenAtMost_31 : decode cX7_oftenAtMost 31 = .ok (.if_icmp .ge 13, 3) := by decide +kernel
theorem dX7_oftenAtMost_34 : decode cX7_oftenAtMost 34 = .ok (.aload_n 0, 1) := by decide +kernel
theorem dX7_oftenAtMost_35 : decode cX7_oftenAtMost 35 = .ok (.getfield 82, 3) := by decide +kernel
theorem dX7_oftenAtMost_38 : decode cX7_oftenAtMost 38 = .ok (.iload 4, 2) := by decide +kernel
theorem dX7_oftenAtMost_40 : decode cX7_oftenAtMost 40 = .ok (.iaload, 1) := by decide +kernel
theorem dX7_oftenAtMost_41 : decode cX7_oftenAtMost 41 = .ok (.goto 4, 3) := by decide +kernel
theorem dX7_oftenAtMost_44 : decode cX7_oftenAtMost 44 = .ok (.iload_n 3, 1) := by decide +kernel
theorem dX7_oftenAtMost_45 : decode cX7_oftenAtMost 45 = .ok (.istore_n 3, 1) := by decide +kernel
theorem dX7_oftenAtMost_46 : decode cX7_oftenAtMost 46 = .ok (.iinc 4 1, 3) := by decide +kernel
theorem dX7_oftenAtMost_49 : decode cX7_oftenAtMost 49 = .ok (.goto (-44), 3) := by decide +kernel
theorem dX7_oftenAtMost_52 : decode cX7_oftenAtMost 52 = .ok (.iconst 0, 1) := by decide +kernel
theorem dX7_oftenAtMost_53 : decode cX7_oftenAtMost 53 = .ok (.istore 4, 2) := by decide +kernel
theorem dX7_oftenAtMost_55 : decode cX7_oftenAtMost 55 = .ok (.iload 4, 2) := by decide +kernel
theorem dX7_oftenAtMost_57 : decode cX7_oftenAtMost 57 = .ok (.aload_n 0, 1) := by decide +kernel
theorem dX7_oftenAtMost_58 : decode cX7_oftenAtMost 58 = .ok (.getfield 116, 3) := by decide +kernel
theorem dX7_oftenAtMost_61 : decode cX7_oftenAtMost 61 = .ok (.if_icmp .ge 59, 3) := by decide +kernel
theorem dX7_oftenAtMost_64 : decode cX7_oftenAtMost 64 = .ok (.aload_n 0, 1) := by decide +kernel
theorem dX7_oftenAtMost_65 : decode cX7_oftenAtMost 65 = .ok (.getfield 76, 3) := by decide +kernel
theorem dX7_oftenAtMost_68 : decode cX7_oftenAtMost 68 = .ok (.iload 4, 2) := by decide +kernel
theorem dX7_oftenAtMost_70 : decode cX7_oftenAtMost 70 = .ok (.iaload, 1) := by decide +kernel
theorem dX7_oftenAtMost_71 : decode cX7_oftenAtMost 71 = .ok (.iload_n 1, 1) := by decide +kernel
theorem dX7_oftenAtMost_72 : decode cX7_oftenAtMost 72 = .ok (.iand, 1) := by decide +kernel
theorem dX7_oftenAtMost_73 : decode cX7_oftenAtMost 73 = .ok (.invokestatic 182, 3) := by decide +kernel
theorem dX7_oftenAtMost_76 : decode cX7_oftenAtMost 76 = .ok (.iconst 1, 1) := by decide +kernel
theorem dX7_oftenAtMost_77 : decode cX7_oftenAtMost 77 = .ok (.isub, 1) := by decide +kernel
theorem dX7_oftenAtMost_78 : decode cX7_oftenAtMost 78 = .ok (.istore 5, 2) := by decide +kernel
theorem dX7_oftenAtMost_80 : decode cX7_oftenAtMost 80 = .ok (.iload 5, 2) := by decide +kernel
theorem dX7_oftenAtMost_82 : decode cX7_oftenAtMost 82 = .ok (.ifCond .le 32, 3) := by decide +kernel
theorem dX7_oftenAtMost_85 : decode cX7_oftenAtMost 85 = .ok (.aload_n 0, 1) := by decide +kernel
theorem dX7_oftenAtMost_86 : decode cX7_oftenAtMost 86 = .ok (.getfield 79, 3) := by decide +kernel
theorem dX7_oftenAtMost_89 : decode cX7_oftenAtMost 89 = .ok (.iload 4, 2) := by decide +kernel
theorem dX7_oftenAtMost_91 : decode cX7_oftenAtMost 91 = .ok (.iaload, 1) := by decide +kernel
theorem dX7_oftenAtMost_92 : decode cX7_oftenAtMost 92 = .ok (.iload_n 2, 1) := by decide +kernel
theorem dX7_oftenAtMost_93 : decode cX7_oftenAtMost 93 = .ok (.isub, 1) := by decide +kernel
theorem dX7_oftenAtMost_94 : decode cX7_oftenAtMost 94 = .ok (.iload 5, 2) := by decide +kernel
theorem dX7_oftenAtMost_96 : decode cX7_oftenAtMost 96 = .ok (.idiv, 1) := by decide +kernel
theorem dX7_oftenAtMost_97 : decode cX7_oftenAtMost 97 = .ok (.iload_n 3, 1) := by decide +kernel
theorem dX7_oftenAtMost_98 : decode cX7_oftenAtMost 98 = .ok (.if_icmp .ge 16, 3) := by decide +kernel
theorem dX7_oftenAtMost_101 : decode cX7_oftenAtMost 101 = .ok (.aload_n 0, 1) := by decide +kernel
theorem dX7_oftenAtMost_102 : decode cX7_oftenAtMost 102 = .ok (.getfield 79, 3) := by decide +kernel
theorem dX7_oftenAtMost_105 : decode cX7_oftenAtMost 105 = .ok (.iload 4, 2) := by decide +kernel
theorem dX7_oftenAtMost_107 : decode cX7_oftenAtMost 107 = .ok (.iaload, 1) := by decide +kernel
theorem dX7_oftenAtMost_108 : decode cX7_oftenAtMost 108 = .ok (.iload_n 2, 1) := by decide +kernel
theorem dX7_oftenAtMost_109 : decode cX7_oftenAtMost 109 = .ok (.isub, 1) := by decide +kernel
theorem dX7_oftenAtMost_110 : decode cX7_oftenAtMost 110 = .ok (.iload 5, 2) := by decide +kernel
theorem dX7_oftenAtMost_112 : decode cX7_oftenAtMost 112 = .ok (.idiv, 1) := by decide +kernel
theorem dX7_oftenAtMost_113 : decode cX7_oftenAtMost 113 = .ok (.istore_n 3, 1) := by decide +kernel
theorem dX7_oftenAtMost_114 : decode cX7_oftenAtMost 114 = .ok (.iinc 4 1, 3) := by decide +kernel
theorem dX7_oftenAtMost_117 : decode cX7_oftenAtMost 117 = .ok (.goto (-62), 3) := by decide +kernel
theorem dX7_oftenAtMost_120 : decode cX7_oftenAtMost 120 = .ok (.iload_n 3, 1) := by decide +kernel
theorem dX7_oftenAtMost_121 : decode cX7_oftenAtMost 121 = .ok (.ireturn, 1) := by decide +kernel
set_option maxRecDepth 20000 in
theorem ggX7_draw_X7_makeSides : GoodIn wsX7_draw wsX7_makeSides := goodIn_r _ [16, 17, 2, 3, 11, 18, 19, 20, 15, 21, 6, 22, 23, 24, 25, 10, 26, 27, 28, 29, 30, 31, 32, 33, 34, 35, 36, 37, 38, 39, 40, 41, 42, 43, 44, 45, 46, 47, 48, 49, 50, 51, 52, 53, 54, 55, 56, 57, 58, 59, 60, 61, 62, 63, 64, 65] (by decide +kernel) (by decide +kernel)
set_option maxRecDepth 20000 in
theorem gX7_draw_X7_makeSides : GoodIn wsX7_draw (wsV RX7 113 RX7 yX7_makeSides wsX7_makeSides) := goodIn_app (goodIn_of _ (by decide +kernel)) ggX7_draw_X7_makeSides
theorem dX7_draw_0 : decode cX7_draw 0 = .ok (.aload_n 0, 1) := by decide +kernel
theorem dX7_draw_1 : decode cX7_draw 1 = .ok (.iconst 0, 1) := by decide +kernel
theorem dX7_draw_2 : decode cX7_draw 2 = .ok (.putfield 85, 3) := by decide +kernel
theorem dX7_draw_5 : decode cX7_draw 5 = .ok (.aload_n 0, 1) := by decide +kernel
theorem dX7_draw_6 : decode cX7_draw 6 = .ok (.invokevirtual 113, 3) := by decide +kernel
theorem dX7_draw_9 : decode cX7_draw 9 = .ok (.iconst 0, 1) := by decide +kernel
theorem dX7_draw_10 : decode cX7_draw 10 = .ok (.istore_n 3, 1) := by decide +kernel
theorem dX7_draw_11 : decode cX7_draw 11 = .ok (.iload_n 3, 1) := by decide +kernel
theorem dX7_draw_12 : decode cX7_draw 12 = .ok (.aload_n 0, 1) := by decide +kernel
theorem dX7_draw_13 : decode cX7_draw 13 = .ok (.getfield 98, 3) := by decide +kernel
theorem dX7_draw_16 : decode cX7_draw 16 = .ok (.if_icmp .ge 19, 3) := by decide +kernel
theorem dX7_draw_19 : decode cX7_draw 19 = .ok (.aload_n 0, 1) := by decide +kernel
theorem dX7_draw_20 : decode cX7_draw 20 = .ok (.getfield 66, 3) := by decide +kernel
theorem dX7_draw_23 : decode cX7_draw 23 = .ok (.iload_n 3, 1) := by decide +kernel
theorem dX7_draw_24 : decode cX7_draw 24 = .ok (.iaload, 1) := by decide +kernel
theorem dX7_draw_25 : decode cX7_draw 25 = .ok (.iload_n 1, 1) := by decide +kernel
theorem dX7_draw_26 : decode cX7_draw 26 = .ok (.if_icmp .eq 9, 3) := by decide +kernel
theorem dX7_draw_29 : decode cX7_draw 29 = .ok (.iinc 3 1, 3) := by decide +kernel
theorem dX7_draw_32 : decode cX7_draw 32 = .ok (.goto (-21), 3) := by decide +kernel
theorem dX7_draw_35 : decode cX7_draw 35 = .ok (.iload_n 3, 1) := by decide +kernel
theorem dX7_draw_36 : decode cX7_draw 36 = .ok (.aload_n 0, 1) := by decide +kernel
theorem dX7_draw_37 : decode cX7_draw 37 = .ok (.getfield 98, 3) := by decide +kernel
theorem dX7_draw_40 : decode cX7_draw 40 = .ok (.if_icmp .eq 21, 3) := by decide +kernel
theorem dX7_draw_43 : decode cX7_draw 43 = .ok (.aload_n 0, 1) := by decide +kernel
theorem dX7_draw_44 : decode cX7_draw 44 = .ok (.getfield 137, 3) := by decide +kernel
theorem dX7_draw_47 : decode cX7_draw 47 = .ok (.ifCond .eq 16, 3) := by decide +kernel
theorem dX7_draw_50 : decode cX7_draw 50 = .ok (.aload_n 0, 1) := by decide +kernel
theorem dX7_draw_51 : decode cX7_draw 51 = .ok (.getfield 175, 3) := by decide +kernel
theorem dX7_draw_54 : decode cX7_draw 54 = .ok (.aload_n 0, 1) := by decide +kernel
theorem dX7_draw_55 : decode cX7_draw 55 = .ok (.getfield 7, 3) := by decide +kernel
theorem dX7_draw_58 : decode cX7_draw 58 = .ok (.if_icmp .eq 5, 3) := by decide +kernel
theorem dX7_draw_61 : decode cX7_draw 61 = .ok (.iconst (-1), 1) := by decide +kernel
theorem dX7_draw_62 : decode cX7_draw 62 = .ok (.ireturn, 1) := by decide +kernel
theorem dX7_draw_63 : decode cX7_draw 63 = .ok (.aload_n 0, 1) := by decide +kernel
theorem dX7_draw_64 : decode cX7_draw 64 = .ok (.getfield 137, 3) := by decide +kernel
theorem dX7_draw_67 : decode cX7_draw 67 = .ok (.ifCond .eq 12, 3) := by decide +kernel
theorem dX7_draw_70 : decode cX7_draw 70 = .ok (.aload_n 0, 1) := by decide +kernel
theorem dX7_draw_71 : decode cX7_draw 71 = .ok (.getfield 26, 3) := by decide +kernel
theorem dX7_draw_74 : decode cX7_draw 74 = .ok (.iload_n 1, 1) := by decide +kernel
theorem dX7_draw_75 : decode cX7_draw 75 = .ok (.iaload, 1) := by decide +kernel
theorem dX7_draw_76 : decode cX7_draw 76 = .ok (.goto 4, 3) := by decide +kernel
theorem dX7_draw_79 : decode cX7_draw 79 = .ok (.iconst 0, 1) := by decide +kernel
theorem dX7_draw_80 : decode cX7_draw 80 = .ok (.i2l, 1) := by decide +kernel
theorem dX7_draw_81 : decode cX7_draw 81 = .ok (.iload_n 2, 1) := by decide +kernel
theorem dX7_draw_82 : decode cX7_draw 82 = .ok (.i2l, 1) := by decide +kernel
theorem dX7_draw_83 : decode cX7_draw 83 = .ok (.ladd, 1) := by decide +kernel
theorem dX7_draw_84 : decode cX7_draw 84 = .ok (.lstore 4, 2) := by decide +kernel
theorem dX7_draw_86 : decode cX7_draw 86 = .ok (.lload 4, 2) := by decide +kernel
theorem dX7_draw_88 : decode cX7_draw 88 = .ok (.lconst 0, 1) := by decide +kernel
theorem dX7_draw_89 : decode cX7_draw 89 = .ok (.lcmp, 1) := by decide +kernel
theorem dX7_draw_90 : decode cX7_draw 90 = .ok (.ifCond .lt 12, 3) := by decide +kernel
theorem dX7_draw_93 : decode cX7_draw 93 = .ok (.lload 4, 2) := by decide +kernel
theorem dX7_draw_95 : decode cX7_draw 95 = .ok (.ldc2_w 185, 3) := by decide +kernel
theorem dX7_draw_98 : decode cX7_draw 98 = .ok (.lcmp, 1) := by decide +kernel
theorem dX7_draw_99 : decode cX7_draw 99 = .ok (.ifCond .le 5, 3) := by decide +kernel
theorem dX7_draw_102 : decode cX7_draw 102 = .ok (.iconst (-1), 1) := by decide +kernel
theorem dX7_draw_103 : decode cX7_draw 103 = .ok (.ireturn, 1) := by decide +kernel
theorem dX7_draw_104 : decode cX7_draw 104 = .ok (.aload_n 0, 1) := by decide +kernel
theorem dX7_draw_105 : decode cX7_draw 105 = .ok (.getfield 137, 3) := by decide +kernel
theorem dX7_draw_108 : decode cX7_draw 108 = .ok (.ifCond .ne 65, 3) := by decide +kernel
theorem dX7_draw_111 : decode cX7_draw 111 = .ok (.aload_n 0, 1) := by decide +kernel
theorem dX7_draw_112 : decode cX7_draw 112 = .ok (.iconst 1, 1) := by decide +kernel
theorem dX7_draw_113 : decode cX7_draw 113 = .ok (.putfield 137, 3) := by decide +kernel
theorem dX7_draw_116 : decode cX7_draw 116 = .ok (.aload_n 0, 1) := by decide +kernel
theorem dX7_draw_117 : decode cX7_draw 117 = .ok (.aload_n 0, 1) := by decide +kernel
theorem dX7_draw_118 : decode cX7_draw 118 = .ok (.getfield 7, 3) := by decide +kernel
theorem dX7_draw_121 : decode cX7_draw 121 = .ok (.putfield 175, 3) := by decide +kernel
theorem dX7_draw_124 : decode cX7_draw 124 = .ok (.iconst 0, 1) := by decide +kernel
theorem dX7_draw_125 : decode cX7_draw 125 = .ok (.istore 6, 2) := by decide +kernel
theorem dX7_draw_127 : decode cX7_draw 127 = .ok (.iload 6, 2) := by decide +kernel
theorem dX7_draw_129 : decode cX7_draw 129 = .ok (.sipush 256, 3) := by decide +kernel
theorem dX7_draw_132 : decode cX7_draw 132 = .ok (.if_icmp .ge 17, 3) := by decide +kernel
theorem dX7_draw_135 : decode cX7_draw 135 = .ok (.aload_n 0, 1) := by decide +kernel
theorem dX7_draw_136 : decode cX7_draw 136 = .ok (.getfield 26, 3) := by decide +kernel
theorem dX7_draw_139 : decode cX7_draw 139 = .ok (.iload 6, 2) := by decide +kernel
theorem dX7_draw_141 : decode cX7_draw 141 = .ok (.iconst 0, 1) := by decide +kernel
theorem dX7_draw_142 : decode cX7_draw 142 = .ok (.iastore, 1) := by decide +kernel
theorem dX7_draw_143 : decode cX7_draw 143 = .ok (.iinc 6 1, 3) := by decide +kernel
theorem dX7_draw_146 : decode cX7_draw 146 = .ok (.goto (-19), 3) := by decide +kernel
theorem dX7_draw_149 : decode cX7_draw 149 = .ok (.iconst 0, 1) := by decide +kernel
theorem dX7_draw_150 : decode cX7_draw 150 = .ok (.istore 6, 2) := by decide +kernel
theorem dX7_draw_152 : decode cX7_draw 152 = .ok (.iload 6, 2) := by decide +kernel
theorem dX7_draw_154 : decode cX7_draw 154 = .ok (.bipush 16, 2) := by decide +kernel
theorem dX7_draw_156 : decode cX7_draw 156 = .ok (.if_icmp .ge 17, 3) := by decide +kernel
theorem dX7_draw_159 : decode cX7_draw 159 = .ok (.aload_n 0, 1) := by decide +kernel
theorem dX7_draw_160 : decode cX7_draw 160 = .ok (.getfield 23, 3) := by decide +kernel
theorem dX7_draw_163 : decode cX7_draw 163 = .ok (.iload 6, 2) := by decide +kernel
theorem dX7_draw_165 : decode cX7_draw 165 = .ok (.iconst 0, 1) := by decide +kernel
theorem dX7_draw_166 : decode cX7_draw 166 = .ok (.iastore, 1) := by decide +kernel
theorem dX7_draw_167 : decode cX7_draw 167 = .ok (.iinc 6 1, 3) := by decide +kernel
theorem dX7_draw_170 : decode cX7_draw 170 = .ok (.goto (-18), 3) := by decide +kernel
theorem dX7_draw_173 : decode cX7_draw 173 = .ok (.aload_n 0, 1) := by decide +kernel
theorem dX7_draw_174 : decode cX7_draw 174 = .ok (.getfield 26, 3) := by decide +kernel
theorem dX7_draw_177 : decode cX7_draw 177 = .ok (.iload_n 1, 1) := by decide +kernel
theorem dX7_draw_178 : decode cX7_draw 178 = .ok (.lload 4, 2) := by decide +kernel
theorem dX7_draw_180 : decode cX7_draw 180 = .ok (.l2i, 1) := by decide +kernel
theorem dX7_draw_181 : decode cX7_draw 181 = .ok (.iastore, 1) := by decide +kernel
theorem dX7_draw_182 : decode cX7_draw 182 = .ok (.iconst 0, 1) := by decide +kernel
theorem dX7_draw_183 : decode cX7_draw 183 = .ok (.istore 6, 2) := by decide +kernel
