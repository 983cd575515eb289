theorem dX4_mostTimes_0 : decode cX4_mostTimes 0 = .ok (.iload_n 2, 1) := by decide +kernel
theorem dX4_mostTimes_1 : decode cX4_mostTimes 1 = .ok (.istore_n 3, 1) := by decide +kernel
theorem dX4_mostTimes_2 : decode cX4_mostTimes 2 = .ok (.iconst 0, 1) := by decide +kernel
theorem dX4_mostTimes_3 : decode cX4_mostTimes 3 = .ok (.istore 4, 2) := by decide +kernel
theorem dX4_mostTimes_5 : decode cX4_mostTimes 5 = .ok (.iload 4, 2) := by decide +kernel
theorem dX4_mostTimes_7 : decode cX4_mostTimes 7 = .ok (.aload_n 0, 1) := by decide +kernel
theorem dX4_mostTimes_8 : decode cX4_mostTimes 8 = .ok (.getfield 38, 3) := by decide +kernel
theorem dX4_mostTimes_11 : decode cX4_mostTimes 11 = .ok (.if_icmp .ge 30, 3) := by decide +kernel
theorem dX4_mostTimes_14 : decode cX4_mostTimes 14 = .ok (.iload_n 1, 1) := by decide +kernel
theorem dX4_mostTimes_15 : decode cX4_mostTimes 15 = .ok (.iload 4, 2) := by decide +kernel
theorem dX4_mostTimes_17 : decode cX4_mostTimes 17 = .ok (.invokestatic 51, 3) := by decide +kernel
theorem dX4_mostTimes_20 : decode cX4_mostTimes 20 = .ok (.ifCond .eq 15, 3) := by decide +kernel
theorem dX4_mostTimes_23 : decode cX4_mostTimes 23 = .ok (.iload_n 3, 1) := by decide +kernel
theorem dX4_mostTimes_24 : decode cX4_mostTimes 24 = .ok (.aload_n 0, 1) := by decide +kernel
theorem dX4_mostTimes_25 : decode cX4_mostTimes 25 = .ok (.getfield 15, 3) := by decide +kernel
theorem dX4_mostTimes_28 : decode cX4_mostTimes 28 = .ok (.iload 4, 2) := by decide +kernel
theorem dX4_mostTimes_30 : decode cX4_mostTimes 30 = .ok (.iaload, 1) := by decide +kernel
theorem dX4_mostTimes_31 : decode cX4_mostTimes 31 = .ok (.invokestatic 85, 3) := by decide +kernel
theorem dX4_mostTimes_34 : decode cX4_mostTimes 34 = .ok (.istore_n 3, 1) := by decide +kernel
theorem dX4_mostTimes_35 : decode cX4_mostTimes 35 = .ok (.iinc 4 1, 3) := by decide +kernel
theorem dX4_mostTimes_38 : decode cX4_mostTimes 38 = .ok (.goto (-33), 3) := by decide +kernel
theorem dX4_mostTimes_41 : decode cX4_mostTimes 41 = .ok (.iconst 0, 1) := by decide +kernel
theorem dX4_mostTimes_42 : decode cX4_mostTimes 42 = .ok (.istore 4, 2) := by decide +kernel
theorem dX4_mostTimes_44 : decode cX4_mostTimes 44 = .ok (.iload 4, 2) := by decide +kernel
theorem dX4_mostTimes_46 : decode cX4_mostTimes 46 = .ok (.sipush 1000, 3) := by decide +kernel
theorem dX4_mostTimes_49 : decode cX4_mostTimes 49 = .ok (.if_icmp .ge 59, 3) := by decide +kernel
theorem dX4_mostTimes_52 : decode cX4_mostTimes 52 = .ok (.iload_n 3, 1) := by decide +kernel
theorem dX4_mostTimes_53 : decode cX4_mostTimes 53 = .ok (.ifCond .le 55, 3) := by decide +kernel
theorem dX4_mostTimes_56 : decode cX4_mostTimes 56 = .ok (.aload_n 0, 1) := by decide +kernel
theorem dX4_mostTimes_57 : decode cX4_mostTimes 57 = .ok (.iload_n 1, 1) := by decide +kernel
theorem dX4_mostTimes_58 : decode cX4_mostTimes 58 = .ok (.iload_n 3, 1) := by decide +kernel
theorem dX4_mostTimes_59 : decode cX4_mostTimes 59 = .ok (.invokevirtual 90, 3) := by decide +kernel
theorem dX4_mostTimes_62 : decode cX4_mostTimes 62 = .ok (.aload_n 0, 1) := by decide +kernel
theorem dX4_mostTimes_63 : decode cX4_mostTimes 63 = .ok (.iload_n 2, 1) := by decide +kernel
theorem dX4_mostTimes_64 : decode cX4_mostTimes 64 = .ok (.iload_n 3, 1) := by decide +kernel
theorem dX4_mostTimes_65 : decode cX4_mostTimes 65 = .ok (.isub, 1) := by decide +kernel
theorem dX4_mostTimes_66 : decode cX4_mostTimes 66 = .ok (.invokevirtual 94, 3) := by decide +kernel
theorem dX4_mostTimes_69 : decode cX4_mostTimes 69 = .ok (.istore 5, 2) := by decide +kernel
theorem dX4_mostTimes_71 : decode cX4_mostTimes 71 = .ok (.aload_n 0, 1) := by decide +kernel
theorem dX4_mostTimes_72 : decode cX4_mostTimes 72 = .ok (.iload_n 1, 1) := by decide +kernel
theorem dX4_mostTimes_73 : decode cX4_mostTimes 73 = .ok (.iload_n 3, 1) := by decide +kernel
theorem dX4_mostTimes_74 : decode cX4_mostTimes 74 = .ok (.ineg, 1) := by decide +kernel
theorem dX4_mostTimes_75 : decode cX4_mostTimes 75 = .ok (.invokevirtual 90, 3) := by decide +kernel
theorem dX4_mostTimes_78 : decode cX4_mostTimes 78 = .ok (.iload 5, 2) := by decide +kernel
theorem dX4_mostTimes_80 : decode cX4_mostTimes 80 = .ok (.ifCond .ne 5, 3) := by decide +kernel
theorem dX4_mostTimes_83 : decode cX4_mostTimes 83 = .ok (.iload_n 3, 1) := by decide +kernel
theorem dX4_mostTimes_84 : decode cX4_mostTimes 84 = .ok (.ireturn, 1) := by decide +kernel
theorem dX4_mostTimes_85 : decode cX4_mostTimes 85 = .ok (.iload_n 3, 1) := by decide +kernel
theorem dX4_mostTimes_86 : decode cX4_mostTimes 86 = .ok (.iconst 1, 1) := by decide +kernel
theorem dX4_mostTimes_87 : decode cX4_mostTimes 87 = .ok (.isub, 1) := by decide +kernel
theorem dX4_mostTimes_88 : decode cX4_mostTimes 88 = .ok (.aload_n 0, 1) := by decide +kernel
theorem dX4_mostTimes_89 : decode cX4_mostTimes 89 = .ok (.aload_n 0, 1) := by decide +kernel
theorem dX4_mostTimes_90 : decode cX4_mostTimes 90 = .ok (.getfield 58, 3) := by decide +kernel
theorem dX4_mostTimes_93 : decode cX4_mostTimes 93 = .ok (.iload_n 1, 1) := by decide +kernel
theorem dX4_mostTimes_94 : decode cX4_mostTimes 94 = .ok (.iload_n 2, 1) := by decide +kernel
theorem dX4_mostTimes_95 : decode cX4_mostTimes 95 = .ok (.invokevirtual 98, 3) := by decide +kernel
theorem dX4_mostTimes_98 : decode cX4_mostTimes 98 = .ok (.invokestatic 85, 3) := by decide +kernel
theorem dX4_mostTimes_101 : decode cX4_mostTimes 101 = .ok (.istore_n 3, 1) := by decide +kernel
theorem dX4_mostTimes_102 : decode cX4_mostTimes 102 = .ok (.iinc 4 1, 3) := by decide +kernel
theorem dX4_mostTimes_105 : decode cX4_mostTimes 105 = .ok (.goto (-61), 3) := by decide +kernel
theorem dX4_mostTimes_108 : decode cX4_mostTimes 108 = .ok (.iload_n 3, 1) := by decide +kernel
theorem dX4_mostTimes_109 : decode cX4_mostTimes 109 = .ok (.ireturn, 1) := by decide +kernel
set_option maxRecDepth 20000 in
theorem ggX4_timesBy_J6_bitCount_0f7a4 : GoodIn wsX4_timesBy wsJ6_bitCount_0f7a4 := goodIn_r _ [5, 6, 7, 8] (by decide +kernel) (by decide +kernel)
set_option maxRecDepth 20000 in
theorem gX4_timesBy_J6_bitCount_0f7a4 : GoodIn wsX4_timesBy (va_wsS RX4 79 yJ6_bitCount_0f7a4 wsJ6_bitCount_0f7a4) := goodIn_app (goodIn_of _ (by decide +kernel)) ggX4_timesBy_J6_bitCount_0f7a4
set_option maxRecDepth 20000 in
theorem ggX4_timesBy_X6_sumOver : GoodIn wsX4_timesBy wsX6_sumOver := goodIn_r _ [11, 12, 13, 10, 14] (by decide +kernel) (by decide +kernel)
set_option maxRecDepth 20000 in
theorem gX4_timesBy_X6_sumOver_n102 : GoodIn wsX4_timesBy (wsX6_sumOver) := ggX4_timesBy_X6_sumOver
theorem dX4_timesBy_0 : decode cX4_timesBy 0 = .ok (.iload_n 1, 1) := by decide +kernel
theorem dX4_timesBy_1 : decode cX4_timesBy 1 = .ok (.iload_n 2, 1) := by decide +kernel
theorem dX4_timesBy_2 : decode cX4_timesBy 2 = .ok (.iand, 1) := by decide +kernel
theorem dX4_timesBy_3 : decode cX4_timesBy 3 = .ok (.invokestatic 79, 3) := by decide +kernel
theorem dX4_timesBy_6 : decode cX4_timesBy 6 = .ok (.istore 4, 2) := by decide +kernel
theorem dX4_timesBy_8 : decode cX4_timesBy 8 = .ok (.iload 4, 2) := by decide +kernel
theorem dX4_timesBy_10 : decode cX4_timesBy 10 = .ok (.iconst 2, 1) := by decide +kernel
theorem dX4_timesBy_11 : decode cX4_timesBy 11 = .ok (.if_icmp .ge 7, 3) := by decide +kernel
theorem dX4_timesBy_14 : decode cX4_timesBy 14 = .ok (.iconst 0, 1) := by decide +kernel
theorem dX4_timesBy_15 : decode cX4_timesBy 15 = .ok (.goto 18, 3) := by decide +kernel
theorem dX4_timesBy_18 : decode cX4_timesBy 18 = .ok (.aload_n 0, 1) := by decide +kernel
theorem dX4_timesBy_19 : decode cX4_timesBy 19 = .ok (.getfield 15, 3) := by decide +kernel
theorem dX4_timesBy_22 : decode cX4_timesBy 22 = .ok (.iload_n 1, 1) := by decide +kernel
theorem dX4_timesBy_23 : decode cX4_timesBy 23 = .ok (.invokestatic 102, 3) := by decide +kernel
theorem dX4_timesBy_26 : decode cX4_timesBy 26 = .ok (.iload_n 3, 1) := by decide +kernel
theorem dX4_timesBy_27 : decode cX4_timesBy 27 = .ok (.isub, 1) := by decide +kernel
theorem dX4_timesBy_28 : decode cX4_timesBy 28 = .ok (.iload 4, 2) := by decide +kernel
theorem dX4_timesBy_30 : decode cX4_timesBy 30 = .ok (.iconst 1, 1) := by decide +kernel
theorem dX4_timesBy_31 : decode cX4_timesBy 31 = .ok (.isub, 1) := by decide +kernel
theorem dX4_timesBy_32 : decode cX4_timesBy 32 = .ok (.idiv, 1) := by decide +kernel
theorem dX4_timesBy_33 : decode cX4_timesBy 33 = .ok (.ireturn, 1) := by decide +kernel
theorem dX5_init_0 : decode cX5_init 0 = .ok (.aload_n 0, 1) := by decide +kernel
theorem dX5_init_1 : decode cX5_init 1 = .ok (.invokespecial 3, 3) := by decide +kernel
theorem dX5_init_4 : decode cX5_init 4 = .ok (.aload_n 0, 1) := by decide +kernel
theorem dX5_init_5 : decode cX5_init 5 = .ok (.sipush 256, 3) := by decide +kernel
theorem dX5_init_8 : decode cX5_init 8 = .ok (.newarray .int, 2) := by decide +kernel
theorem dX5_init_10 : decode cX5_init 10 = .ok (.putfield 9, 3) := by decide +kernel
theorem dX5_init_13 : decode cX5_init 13 = .ok (.aload_n 0, 1) := by decide +kernel
theorem dX5_init_14 : decode cX5_init 14 = .ok (.sipush 256, 3) := by decide +kernel
theorem dX5_init_17 : decode cX5_init 17 = .ok (.newarray .int, 2) := by decide +kernel
theorem dX5_init_19 : decode cX5_init 19 = .ok (.putfield 15, 3) := by decide +kernel
theorem dX5_init_22 : decode cX5_init 22 = .ok (.aload_n 0, 1) := by decide +kernel
theorem dX5_init_23 : decode cX5_init 23 = .ok (.sipush 256, 3) := by decide +kernel
theorem dX5_init_26 : decode cX5_init 26 = .ok (.newarray .int, 2) := by decide +kernel
theorem dX5_init_28 : decode cX5_init 28 = .ok (.putfield 18, 3) := by decide +kernel
theorem dX5_init_31 : decode cX5_init 31 = .ok (.aload_n 0, 1) := by decide +kernel
theorem dX5_init_32 : decode cX5_init 32 = .ok (.sipush 256, 3) := by decide +kernel
theorem dX5_init_35 : decode cX5_init 35 = .ok (.newarray .int, 2) := by decide +kernel
theorem dX5_init_37 : decode cX5_init 37 = .ok (.putfield 21, 3) := by decide +kernel
theorem dX5_init_40 : decode cX5_init 40 = .ok (.return_, 1) := by decide +kernel
set_option maxRecDepth 20000 in
theorem ggX5_find_X5_gatherArcs : GoodIn wsX5_find wsX5_gatherArcs := goodIn_r _ [10, 11, 2, 3, 12, 13, 14, 15, 16, 17, 18, 19, 20, 21, 22, 23, 24, 25, 26, 27, 38, 39, 40, 41, 42, 33, 34, 35, 36, 37] (by decide +kernel) (by decide +kernel)
set_option maxRecDepth 20000 in
theorem gX5_find_X5_gatherArcs : GoodIn wsX5_find (wsV RX5 24 RX5 yX5_gatherArcs wsX5_gatherArcs) := goodIn_app (goodIn_of _ (by decide +kernel)) ggX5_find_X5_gatherArcs
set_option maxRecDepth 20000 in
theorem ggX5_find_X2_allNodes : GoodIn wsX5_find wsX2_allNodes := goodIn_r _ [31, 32, 38, 39, 40, 41, 42] (by decide +kernel) (by decide +kernel)
set_option maxRecDepth 20000 in
theorem gX5_find_X2_allNodes : GoodIn wsX5_find (wsV RX5 32 RX2 yX2_allNodes wsX2_allNodes) := goodIn_app (goodIn_of _ (by decide +kernel)) ggX5_find_X2_allNodes
theorem dX5_find_0 : decode cX5_find 0 = .ok (.aload_n 0, 1) := by decide +kernel
theorem dX5_find_1 : decode cX5_find 1 = .ok (.aload_n 1, 1) := by decide +kernel
theorem dX5_find_2 : decode cX5_find 2 = .ok (.invokevirtual 24, 3) := by decide +kernel
theorem dX5_find_5 : decode cX5_find 5 = .ok (.aload_n 0, 1) := by decide +kernel
theorem dX5_find_6 : decode cX5_find 6 = .ok (.iconst 0, 1) := by decide +kernel
theorem dX5_find_7 : decode cX5_find 7 = .ok (.putfield 28, 3) := by decide +kernel
theorem dX5_find_10 : decode cX5_find 10 = .ok (.aload_n 1, 1) := by decide +kernel
theorem dX5_find_11 : decode cX5_find 11 = .ok (.invokevirtual 32, 3) := by decide +kernel
theorem dX5_find_14 : decode cX5_find 14 = .ok (.istore_n 2, 1) := by decide +kernel
theorem dX5_find_15 : decode cX5_find 15 = .ok (.iconst 1, 1) := by decide +kernel
theorem dX5_find_16 : decode cX5_find 16 = .ok (.istore_n 3, 1) := by decide +kernel
theorem dX5_find_17 : decode cX5_find 17 = .ok (.iload_n 3, 1) := by decide +kernel
theorem dX5_find_18 : decode cX5_find 18 = .ok (.iload_n 2, 1) := by decide +kernel
theorem dX5_find_19 : decode cX5_find 19 = .ok (.if_icmp .ge 71, 3) := by decide +kernel
theorem dX5_find_22 : decode cX5_find 22 = .ok (.aload_n 0, 1) := by decide +kernel
theorem dX5_find_23 : decode cX5_find 23 = .ok (.getfield 18, 3) := by decide +kernel
theorem dX5_find_26 : decode cX5_find 26 = .ok (.iload_n 3, 1) := by decide +kernel
theorem dX5_find_27 : decode cX5_find 27 = .ok (.iaload, 1) := by decide +kernel
theorem dX5_find_28 : decode cX5_find 28 = .ok (.aload_n 0, 1) := by decide +kernel
theorem dX5_find_29 : decode cX5_find 29 = .ok (.getfield 21, 3) := by decide +kernel
theorem dX5_find_32 : decode cX5_find 32 = .ok (.iload_n 3, 1) := by decide +kernel
theorem dX5_find_33 : decode cX5_find 33 = .ok (.iaload, 1) := by decide +kernel
theorem dX5_find_34 : decode cX5_find 34 = .ok (.iconst (-1), 1) := by decide +kernel
theorem dX5_find_35 : decode cX5_find 35 = .ok (.ixor, 1) := by decide +kernel
theorem dX5_find_36 : decode cX5_find 36 = .ok (.iand, 1) := by decide +kernel
theorem dX5_find_37 : decode cX5_find 37 = .ok (.ifCond .ne 47, 3) := by decide +kernel
theorem dX5_find_40 : decode cX5_find 40 = .ok (.aload_n 0, 1) := by decide +kernel
theorem dX5_find_41 : decode cX5_find 41 = .ok (.getfield 9, 3) := by decide +kernel
theorem dX5_find_44 : decode cX5_find 44 = .ok (.aload_n 0, 1) := by decide +kernel
theorem dX5_find_45 : decode cX5_find 45 = .ok (.getfield 28, 3) := by decide +kernel
theorem dX5_find_48 : decode cX5_find 48 = .ok (.iload_n 3, 1) := by decide +kernel
theorem dX5_find_49 : decode cX5_find 49 = .ok (.iastore, 1) := by decide +kernel
theorem dX5_find_50 : decode cX5_find 50 = .ok (.aload_n 0, 1) := by decide +kernel
theorem dX5_find_51 : decode cX5_find 51 = .ok (.getfield 15, 3) := by decide +kernel
theorem dX5_find_54 : decode cX5_find 54 = .ok (.aload_n 0, 1) := by decide +kernel
theorem dX5_find_55 : decode cX5_find 55 = .ok (.getfield 28, 3) := by decide +kernel
theorem dX5_find_58 : decode cX5_find 58 = .ok (.aload_n 0, 1) := by decide +kernel
theorem dX5_find_59 : decode cX5_find 59 = .ok (.getfield 21, 3) := by decide +kernel
theorem dX5_find_62 : decode cX5_find 62 = .ok (.iload_n 3, 1) := by decide +kernel
theorem dX5_find_63 : decode cX5_find 63 = .ok (.iaload, 1) := by decide +kernel
theorem dX5_find_64 : decode cX5_find 64 = .ok (.aload_n 0, 1) := by decide +kernel
theorem dX5_find_65 : decode cX5_find 65 = .ok (.getfield 18, 3) := by decide +kernel
theorem dX5_find_68 : decode cX5_find 68 = .ok (.iload_n 3, 1) := by decide +kernel
theorem dX5_find_69 : decode cX5_find 69 = .ok (.iaload, 1) := by decide +kernel
theorem dX5_find_70 : decode cX5_find 70 = .ok (.iconst (-1), 1) := by decide +kernel
theorem dX5_find_71 : decode cX5_find 71 = .ok (.ixor, 1) := by decide +kernel
theorem dX5_find_72 : decode cX5_find 72 = .ok (.iand, 1) := by decide +kernel
theorem dX5_find_73 : decode cX5_find 73 = .ok (.iastore, 1) := by decide +kernel
theorem dX5_find_74 : decode cX5_find 74 = .ok (.aload_n 0, 1) := by decide +kernel
theorem dX5_find_75 : decode cX5_find 75 = .ok (.dup, 1) := by decide +kernel
theorem dX5_find_76 : decode cX5_find 76 = .ok (.getfield 28, 3) := by decide +kernel
theorem dX5_find_79 : decode cX5_find 79 = .ok (.iconst 1, 1) := by decide +kernel
theorem dX5_find_80 : decode cX5_find 80 = .ok (.iadd, 1) := by decide +kernel
theorem dX5_find_81 : decode cX5_find 81 = .ok (.putfield 28, 3) := by decide +kernel
theorem dX5_find_84 : decode cX5_find 84 = .ok (.iinc 3 1, 3) := by decide +kernel
theorem dX5_find_87 : decode cX5_find 87 = .ok (.goto (-70), 3) := by decide +kernel
theorem dX5_find_90 : decode cX5_find 90 = .ok (.return_, 1) := by decide +kernel
set_option maxRecDepth 20000 in
theorem ggX5_gatherArcs_X2_arcsFrom : GoodIn wsX5_gatherArcs wsX2_arcsFrom := goodIn_r _ [8, 9, 10, 11, 12, 7, 13, 14, 20, 21, 22, 23, 24] (by decide +kernel) (by decide +kernel)
set_option maxRecDepth 20000 in
theorem gX5_gatherArcs_X2_arcsFrom : GoodIn wsX5_gatherArcs (wsV RX5 41 RX2 yX2_arcsFrom wsX2_arcsFrom) := goodIn_app (goodIn_of _ (by decide +kernel)) ggX5_gatherArcs_X2_arcsFrom
set_option maxRecDepth 20000 in
theorem ggX5_gatherArcs_X2_arcsTo : GoodIn wsX5_gatherArcs wsX2_arcsTo := goodIn_r _ [18, 19, 10, 11, 12, 7, 13, 14, 20, 21, 22, 23, 24] (by decide +kernel) (by decide +kernel)
set_option maxRecDepth 20000 in
theorem gX5_gatherArcs_X2_arcsTo : GoodIn wsX5_gatherArcs (wsV RX5 45 RX2 yX2_arcsTo wsX2_arcsTo) := goodIn_app (goodIn_of _ (by decide +kernel)) ggX5_gatherArcs_X2_arcsTo
theorem dX5_gatherArcs_0 : decode cX5_gatherArcs 0 = .ok (.iconst 0, 1) := by decide +kernel
theorem dX5_gatherArcs_1 : decode cX5_gatherArcs 1 = .ok (.istore_n 2, 1) := by decide +kernel
theorem dX5_gatherArcs_2 : decode cX5_gatherArcs 2 = .ok (.iload_n 2, 1) := by decide +kernel
theorem dX5_gatherArcs_3 : decode cX5_gatherArcs 3 = .ok (.aload_n 1, 1) := by decide +kernel
theorem dX5_gatherArcs_4 : decode cX5_gatherArcs 4 = .ok (.getfield 38, 3) := by decide +kernel
theorem dX5_gatherArcs_7 : decode cX5_gatherArcs 7 = .ok (.if_icmp .ge 82, 3) := by decide +kernel
theorem dX5_gatherArcs_10 : decode cX5_gatherArcs 10 = .ok (.aload_n 1, 1) := by decide +kernel
theorem dX5_gatherArcs_11 : decode cX5_gatherArcs 11 = .ok (.iload_n 2, 1) := by decide +kernel
theorem dX5_gatherArcs_12 : decode cX5_gatherArcs 12 = .ok (.invokevirtual 41, 3) := by decide +kernel
theorem dX5_gatherArcs_15 : decode cX5_gatherArcs 15 = .ok (.istore_n 3, 1) := by decide +kernel
theorem dX5_gatherArcs_16 : decode cX5_gatherArcs 16 = .ok (.aload_n 1, 1) := by decide +kernel
theorem dX5_gatherArcs_17 : decode cX5_gatherArcs 17 = .ok (.iload_n 2, 1) := by decide +kernel
theorem dX5_gatherArcs_18 : decode cX5_gatherArcs 18 = .ok (.invokevirtual 45, 3) := by decide +kernel
theorem dX5_gatherArcs_21 : decode cX5_gatherArcs 21 = .ok (.istore 4, 2) := by decide +kernel
theorem dX5_gatherArcs_23 : decode cX5_gatherArcs 23 = .ok (.iconst 1, 1) := by decide +kernel
theorem dX5_gatherArcs_24 : decode cX5_gatherArcs 24 = .ok (.iload_n 2, 1) := by decide +kernel
theorem dX5_gatherArcs_25 : decode cX5_gatherArcs 25 = .ok (.ishl, 1) := by decide +kernel
theorem dX5_gatherArcs_26 : decode cX5_gatherArcs 26 = .ok (.istore 5, 2) := by decide +kernel
theorem dX5_gatherArcs_28 : decode cX5_gatherArcs 28 = .ok (.iconst 0, 1) := by decide +kernel
theorem dX5_gatherArcs_29 : decode cX5_gatherArcs 29 = .ok (.istore 6, 2) := by decide +kernel
theorem dX5_gatherArcs_31 : decode cX5_gatherArcs 31 = .ok (.iload 6, 2) := by decide +kernel
theorem dX5_gatherArcs_33 : decode cX5_gatherArcs 33 = .ok (.iload 5, 2) := by decide +kernel
theorem dX5_gatherArcs_35 : decode cX5_gatherArcs 35 = .ok (.if_icmp .ge 48, 3) := by decide +kernel
theorem dX5_gatherArcs_38 : decode cX5_gatherArcs 38 = .ok (.aload_n 0, 1) := by decide +kernel
theorem dX5_gatherArcs_39 : decode cX5_gatherArcs 39 = .ok (.getfield 18, 3) := by decide +kernel
theorem dX5_gatherArcs_42 : decode cX5_gatherArcs 42 = .ok (.iload 5, 2) := by decide +kernel
theorem dX5_gatherArcs_44 : decode cX5_gatherArcs 44 = .ok (.iload 6, 2) := by decide +kernel
theorem dX5_gatherArcs_46 : decode cX5_gatherArcs 46 = .ok (.iadd, 1) := by decide +kernel
theorem dX5_gatherArcs_47 : decode cX5_gatherArcs 47 = .ok (.aload_n 0, 1) := by decide +kernel
theorem dX5_gatherArcs_48 : decode cX5_gatherArcs 48 = .ok (.getfield 18, 3) := by decide +kernel
theorem dX5_gatherArcs_51 : decode cX5_gatherArcs 51 = .ok (.iload 6, 2) := by decide +kernel
theorem dX5_gatherArcs_53 : decode cX5_gatherArcs 53 = .ok (.iaload, 1) := by decide +kernel
theorem dX5_gatherArcs_54 : decode cX5_gatherArcs 54 = .ok (.iload_n 3, 1) := by decide +kernel
theorem dX5_gatherArcs_55 : decode cX5_gatherArcs 55 = .ok (.ior, 1) := by decide +kernel
theorem dX5_gatherArcs_56 : decode cX5_gatherArcs 56 = .ok (.iastore, 1) := by decide +kernel
theorem dX5_gatherArcs_57 : decode cX5_gatherArcs 57 = .ok (.aload_n 0, 1) := by decide +kernel
theorem dX5_gatherArcs_58 : decode cX5_gatherArcs 58 = .ok (.getfield 21, 3) := by decide +kernel
theorem dX5_gatherArcs_61 : decode cX5_gatherArcs 61 = .ok (.iload 5, 2) := by decide +kernel
theorem dX5_gatherArcs_63 : decode cX5_gatherArcs 63 = .ok (.iload 6, 2) := by decide +kernel
theorem dX5_gatherArcs_65 : decode cX5_gatherArcs 65 = .ok (.iadd, 1) := by decide +kernel
theorem dX5_gatherArcs_66 : decode cX5_gatherArcs 66 = .ok (.aload_n 0, 1) := by decide +kernel
theorem dX5_gatherArcs_67 : decode cX5_gatherArcs 67 = .ok (.getfield 21, 3) := by decide +kernel
theorem dX5_gatherArcs_70 : decode cX5_gatherArcs 70 = .ok (.iload 6, 2) := by decide +kernel
theorem dX5_gatherArcs_72 : decode cX5_gatherArcs 72 = .ok (.iaload, 1) := by decide +kernel
theorem dX5_gatherArcs_73 : decode cX5_gatherArcs 73 = .ok (.iload 4, 2) := by decide +kernel
theorem dX5_gatherArcs_75 : decode cX5_gatherArcs 75 = .ok (.ior, 1) := by decide +kernel
theorem dX5_gatherArcs_76 : decode cX5_gatherArcs 76 = .ok (.iastore, 1) := by decide +kernel
theorem dX5_gatherArcs_77 : decode cX5_gatherArcs 77 = .ok (.iinc 6 1, 3) := by decide +kernel
theorem dX5_gatherArcs_80 : decode cX5_gatherArcs 80 = .ok (.goto (-49), 3) := by decide +kernel
theorem dX5_gatherArcs_83 : decode cX5_gatherArcs 83 = .ok (.iinc 2 1, 3) := by decide +kernel
theorem dX5_gatherArcs_86 : decode cX5_gatherArcs 86 = .ok (.goto (-84), 3) := by decide +kernel
theorem dX5_gatherArcs_89 : decode cX5_gatherArcs 89 = .ok (.return_, 1) := by decide +kernel
set_option maxRecDepth 20000 in
theorem ggX6_init_X0_init : GoodIn wsX6_init wsX0_init := goodIn_r _ [23, 24, 2, 3, 25, 26, 27, 28, 29, 30, 31, 32, 33, 34, 35, 36, 37, 38, 39, 40, 41, 42, 43, 44, 95, 96, 97, 98, 99, 69, 70, 71, 100, 101, 102, 103] (by decide +kernel) (by decide +kernel)
set_option maxRecDepth 20000 in
theorem gX6_init_X0_init_n9 : GoodIn wsX6_init (wsX0_init) := ggX6_init_X0_init
set_option maxRecDepth 20000 in
theorem ggX6_init_X3_init : GoodIn wsX6_init wsX3_init := goodIn_r _ [46, 47, 2, 3, 36, 48, 49, 77, 78, 79] (by decide +kernel) (by decide +kernel)
set_option maxRecDepth 20000 in
theorem gX6_init_X3_init_n22 : GoodIn wsX6_init (wsX3_init) := ggX6_init_X3_init
set_option maxRecDepth 20000 in
theorem ggX6_init_X5_init : GoodIn wsX6_init wsX5_init := goodIn_r _ [51, 52, 2, 3, 36, 53, 54, 55, 56, 80, 81, 82, 83, 84] (by decide +kernel) (by decide +kernel)
set_option maxRecDepth 20000 in
theorem gX6_init_X5_init_n29 : GoodIn wsX6_init (wsX5_init) := ggX6_init_X5_init
set_option maxRecDepth 20000 in
theorem ggX6_init_X4_init : GoodIn wsX6_init wsX4_init := goodIn_r _ [58, 59, 2, 3, 36, 60, 61, 62, 85, 86, 87, 88, 89, 90, 91, 92, 93, 94] (by decide +kernel) (by decide +kernel)
set_option maxRecDepth 20000 in
theorem gX6_init_X4_init_n36 : GoodIn wsX6_init (wsX4_init) := ggX6_init_X4_init
set_option maxRecDepth 20000 in
theorem ggX6_init_X2_clear : GoodIn wsX6_init wsX2_clear := goodIn_r _ [66, 67, 68, 95, 96, 97, 98, 99] (by decide +kernel) (by decide +kernel)
set_option maxRecDepth 20000 in
theorem gX6_init_X2_clear : GoodIn wsX6_init (wsV RX6 45 RX2 yX2_clear wsX2_clear) := goodIn_app (goodIn_of _ (by decide +kernel)) ggX6_init_X2_clear
theorem dX6_init_0 : decode cX6_init 0 = .ok (.aload_n 0, 1) := by decide +kernel
theorem dX6_init_1 : decode cX6_init 1 = .ok (.invokespecial 1, 3) := by decide +kernel
theorem dX6_init_4 : decode cX6_init 4 = .ok (.aload_n 0, 1) := by decide +kernel
theorem dX6_init_5 : decode cX6_init 5 = .ok (.new 7, 3) := by decide +kernel
theorem dX6_init_8 : decode cX6_init 8 = .ok (.dup, 1) := by decide +kernel
theorem dX6_init_9 : decode cX6_init 9 = .ok (.invokespecial 9, 3) := by decide +kernel
theorem dX6_init_12 : decode cX6_init 12 = .ok (.putfield 10, 3) := by decide +kernel
theorem dX6_init_15 : decode cX6_init 15 = .ok (.aload_n 0, 1) := by decide +kernel
theorem dX6_init_16 : decode cX6_init 16 = .ok (.iconst 4, 1) := by decide +kernel
theorem dX6_init_17 : decode cX6_init 17 = .ok (.anewarray 7, 3) := by decide +kernel
theorem dX6_init_20 : decode cX6_init 20 = .ok (.putfield 16, 3) := by decide +kernel
theorem dX6_init_23 : decode cX6_init 23 = .ok (.aload_n 0, 1) := by decide +kernel
theorem dX6_init_24 : decode cX6_init 24 = .ok (.new 20, 3) := by decide +kernel
theorem dX6_init_27 : decode cX6_init 27 = .ok (.dup, 1) := by decide +kernel
theorem dX6_init_28 : decode cX6_init 28 = .ok (.invokespecial 22, 3) := by decide +kernel
theorem dX6_init_31 : decode cX6_init 31 = .ok (.putfield 23, 3) := by decide +kernel
theorem dX6_init_34 : decode cX6_init 34 = .ok (.aload_n 0, 1) := by decide +kernel
theorem dX6_init_35 : decode cX6_init 35 = .ok (.new 27, 3) := by decide +kernel
theorem dX6_init_38 : decode cX6_init 38 = .ok (.dup, 1) := by decide +kernel
theorem dX6_init_39 : decode cX6_init 39 = .ok (.invokespecial 29, 3) := by decide +kernel
theorem dX6_init_42 : decode cX6_init 42 = .ok (.putfield 30, 3) := by decide +kernel
theorem dX6_init_45 : decode cX6_init 45 = .ok (.aload_n 0, 1) := by decide +kernel
theorem dX6_init_46 : decode cX6_init 46 = .ok (.new 34, 3) := by decide +kernel
theorem dX6_init_49 : decode cX6_init 49 = .ok (.dup, 1) := by decide +kernel
theorem dX6_init_50 : decode cX6_init 50 = .ok (.invokespecial 36, 3) := by decide +kernel
theorem dX6_init_53 : decode cX6_init 53 = .ok (.putfield 37, 3) := by decide +kernel
theorem dX6_init_56 : decode cX6_init 56 = .ok (.aload_n 0, 1) := by decide +kernel
theorem dX6_init_57 : decode cX6_init 57 = .ok (.getfield 10, 3) := by decide +kernel
theorem dX6_init_60 : decode cX6_init 60 = .ok (.getfield 41, 3) := by decide +kernel
theorem dX6_init_63 : decode cX6_init 63 = .ok (.iconst 1, 1) := by decide +kernel
theorem dX6_init_64 : decode cX6_init 64 = .ok (.invokevirtual 45, 3) := by decide +kernel
theorem dX6_init_67 : decode cX6_init 67 = .ok (.return_, 1) := by decide +kernel
set_option maxRecDepth 20000 in
theorem ggX6_begin_X2_clear : GoodIn wsX6_begin wsX2_clear := goodIn_r _ [9, 10, 11, 37, 38, 39, 40, 41] (by decide +kernel) (by decide +kernel)
set_option maxRecDepth 20000 in
theorem gX6_begin_X2_clear : GoodIn wsX6_begin (wsV RX6 45 RX2 yX2_clear wsX2_clear) := goodIn_app (goodIn_of _ (by decide +kernel)) ggX6_begin_X2_clear
set_option maxRecDepth 20000 in
theorem ggX6_begin_X1_putAway : GoodIn wsX6_begin wsX1_putAway := goodIn_r _ [16, 17, 18, 19, 20, 15, 21, 22, 23, 24, 25, 26, 27, 28, 42, 43, 44, 45] (by decide +kernel) (by decide +kernel)
set_option maxRecDepth 20000 in
theorem gX6_begin_X1_putAway : GoodIn wsX6_begin (wsV RX6 59 RX1 yX1_putAway wsX1_putAway) := goodIn_app (goodIn_of _ (by decide +kernel)) ggX6_begin_X1_putAway
theorem dX6_begin_0 : decode cX6_begin 0 = .ok (.iload_n 1, 1) := by decide +kernel
theorem dX6_begin_1 : decode cX6_begin 1 = .ok (.iconst 1, 1) := by decide +kernel
theorem dX6_begin_2 : decode cX6_begin 2 = .ok (.if_icmp .lt 9, 3) := by decide +kernel
theorem dX6_begin_5 : decode cX6_begin 5 = .ok (.iload_n 1, 1) := by decide +kernel
theorem dX6_begin_6 : decode cX6_begin 6 = .ok (.bipush 8, 2) := by decide +kernel
theorem dX6_begin_8 : decode cX6_begin 8 = .ok (.if_icmp .le 5, 3) := by decide +kernel
theorem dX6_begin_11 : decode cX6_begin 11 = .ok (.iconst 0, 1) := by decide +kernel
theorem dX6_begin_12 : decode cX6_begin 12 = .ok (.ireturn, 1) := by decide +kernel
theorem dX6_begin_13 : decode cX6_begin 13 = .ok (.aload_n 0, 1) := by decide +kernel
theorem dX6_begin_14 : decode cX6_begin 14 = .ok (.getfield 10, 3) := by decide +kernel
theorem dX6_begin_17 : decode cX6_begin 17 = .ok (.getfield 41, 3) := by decide +kernel
theorem dX6_begin_20 : decode cX6_begin 20 = .ok (.iload_n 1, 1) := by decide +kernel
theorem dX6_begin_21 : decode cX6_begin 21 = .ok (.invokevirtual 45, 3) := by decide +kernel
theorem dX6_begin_24 : decode cX6_begin 24 = .ok (.aload_n 0, 1) := by decide +kernel
theorem dX6_begin_25 : decode cX6_begin 25 = .ok (.getfield 10, 3) := by decide +kernel
theorem dX6_begin_28 : decode cX6_begin 28 = .ok (.iconst 0, 1) := by decide +kernel
theorem dX6_begin_29 : decode cX6_begin 29 = .ok (.putfield 51, 3) := by decide +kernel
theorem dX6_begin_32 : decode cX6_begin 32 = .ok (.aload_n 0, 1) := by decide +kernel
theorem dX6_begin_33 : decode cX6_begin 33 = .ok (.getfield 10, 3) := by decide +kernel
theorem dX6_begin_36 : decode cX6_begin 36 = .ok (.getfield 55, 3) := by decide +kernel
theorem dX6_begin_39 : decode cX6_begin 39 = .ok (.invokevirtual 59, 3) := by decide +kernel
theorem dX6_begin_42 : decode cX6_begin 42 = .ok (.iconst 1, 1) := by decide +kernel
theorem dX6_begin_43 : decode cX6_begin 43 = .ok (.ireturn, 1) := by decide +kernel
set_option maxRecDepth 20000 in
theorem ggX6_arc_X2_hasNode : GoodIn wsX6_arc wsX2_hasNode := goodIn_r _ [8, 9, 30, 31, 32, 33, 34] (by decide +kernel) (by decide +kernel)
set_option maxRecDepth 20000 in
theorem gX6_arc_X2_hasNode : GoodIn wsX6_arc (wsV RX6 67 RX2 yX2_hasNode wsX2_hasNode) := goodIn_app (goodIn_of _ (by decide +kernel)) ggX6_arc_X2_hasNode
set_option maxRecDepth 20000 in
theorem ggX6_arc_X6_isWeight : GoodIn wsX6_arc wsX6_isWeight := goodIn_r _ [13] (by decide +kernel) (by decide +kernel)
set_option maxRecDepth 20000 in
theorem gX6_arc_X6_isWeight : GoodIn wsX6_arc (va_wsS RX6 71 yX6_isWeight wsX6_isWeight) := goodIn_app (goodIn_of _ (by decide +kernel)) ggX6_arc_X6_isWeight
set_option maxRecDepth 20000 in
theorem ggX6_arc_X2_append : GoodIn wsX6_arc wsX2_append := goodIn_r _ [17, 18, 19, 20, 21, 30, 31, 32, 33, 34] (by decide +kernel) (by decide +kernel)
set_option maxRecDepth 20000 in
theorem gX6_arc_X2_append : GoodIn wsX6_arc (wsV RX6 74 RX2 yX2_append wsX2_append) := goodIn_app (goodIn_of _ (by decide +kernel)) ggX6_arc_X2_append
theorem dX6_arc_0 : decode cX6_arc 0 = .ok (.aload_n 0, 1) := by decide +kernel
theorem dX6_arc_1 : decode cX6_arc 1 = .ok (.getfield 10, 3) := by decide +kernel
theorem dX6_arc_4 : decode cX6_arc 4 = .ok (.getfield 41, 3) := by decide +kernel
theorem dX6_arc_7 : decode cX6_arc 7 = .ok (.astore 4, 2) := by decide +kernel
theorem dX6_arc_9 : decode cX6_arc 9 = .ok (.aload 4, 2) := by decide +kernel
theorem dX6_arc_11 : decode cX6_arc 11 = .ok (.getfield 64, 3) := by decide +kernel
theorem dX6_arc_14 : decode cX6_arc 14 = .ok (.bipush 16, 2) := by decide +kernel
theorem dX6_arc_16 : decode cX6_arc 16 = .ok (.if_icmp .ge 28, 3) := by decide +kernel
theorem dX6_arc_19 : decode cX6_arc 19 = .ok (.aload 4, 2) := by decide +kernel
theorem dX6_arc_21 : decode cX6_arc 21 = .ok (.iload_n 1, 1) := by decide +kernel
theorem dX6_arc_22 : decode cX6_arc 22 = .ok (.invokevirtual 67, 3) := by decide +kernel
theorem dX6_arc_25 : decode cX6_arc 25 = .ok (.ifCond .eq 19, 3) := by decide +kernel
theorem dX6_arc_28 : decode cX6_arc 28 = .ok (.aload 4, 2) := by decide +kernel
theorem dX6_arc_30 : decode cX6_arc 30 = .ok (.iload_n 2, 1) := by decide +kernel
theorem dX6_arc_31 : decode cX6_arc 31 = .ok (.invokevirtual 67, 3) := by decide +kernel
theorem dX6_arc_34 : decode cX6_arc 34 = .ok (.ifCond .eq 10, 3) := by decide +kernel
theorem dX6_arc_37 : decode cX6_arc 37 = .ok (.iload_n 3, 1) := by decide +kernel
theorem dX6_arc_38 : decode cX6_arc 38 = .ok (.invokestatic 71, 3) := by decide +kernel
theorem dX6_arc_41 : decode cX6_arc 41 = .ok (.ifCond .ne 5, 3) := by decide +kernel
theorem dX6_arc_44 : decode cX6_arc 44 = .ok (.iconst (-1), 1) := by decide +kernel
theorem dX6_arc_45 : decode cX6_arc 45 = .ok (.ireturn, 1) := by decide +kernel
theorem dX6_arc_46 : decode cX6_arc 46 = .ok (.aload 4, 2) := by decide +kernel
theorem dX6_arc_48 : decode cX6_arc 48 = .ok (.iload_n 1, 1) := by decide +kernel
theorem dX6_arc_49 : decode cX6_arc 49 = .ok (.iload_n 2, 1) := by decide +kernel
theorem dX6_arc_50 : decode cX6_arc 50 = .ok (.iload_n 3, 1) := by decide +kernel
theorem dX6_arc_51 : decode cX6_arc 51 = .ok (.invokevirtual 74, 3) := by decide +kernel
theorem dX6_arc_54 : decode cX6_arc 54 = .ok (.ireturn, 1) := by decide +kernel
set_option maxRecDepth 20000 in
theorem ggX6_drop_X2_hasArc : GoodIn wsX6_drop wsX2_hasArc := goodIn_r _ [8, 9, 25, 26, 27, 28, 29] (by decide +kernel) (by decide +kernel)
set_option maxRecDepth 20000 in
theorem gX6_drop_X2_hasArc : GoodIn wsX6_drop (wsV RX6 78 RX2 yX2_hasArc wsX2_hasArc) := goodIn_app (goodIn_of _ (by decide +kernel)) ggX6_drop_X2_hasArc
set_option maxRecDepth 20000 in
theorem ggX6_drop_X2_remove : GoodIn wsX6_drop wsX2_remove := goodIn_r _ [13, 9, 14, 15, 16, 25, 26, 27, 28, 29] (by decide +kernel) (by decide +kernel)
set_option maxRecDepth 20000 in
theorem gX6_drop_X2_remove : GoodIn wsX6_drop (wsV RX6 81 RX2 yX2_remove wsX2_remove) := goodIn_app (goodIn_of _ (by decide +kernel)) ggX6_drop_X2_remove
theorem dX6_drop_0 : decode cX6_drop 0 = .ok (.aload_n 0, 1) := by decide +kernel
theorem dX6_drop_1 : decode cX6_drop 1 = .ok (.getfield 10, 3) := by decide +kernel
theorem dX6_drop_4 : decode cX6_drop 4 = .ok (.getfield 41, 3) := by decide +kernel
theorem dX6_drop_7 : decode cX6_drop 7 = .ok (.iload_n 1, 1) := by decide +kernel
theorem dX6_drop_8 : decode cX6_drop 8 = .ok (.invokevirtual 78, 3) := by decide +kernel
theorem dX6_drop_11 : decode cX6_drop 11 = .ok (.ifCond .ne 5, 3) := by decide +kernel
theorem dX6_drop_14 : decode cX6_drop 14 = .ok (.iconst (-1), 1) := by decide +kernel
theorem dX6_drop_15 : decode cX6_drop 15 = .ok (.ireturn, 1) := by decide +kernel
theorem dX6_drop_16 : decode cX6_drop 16 = .ok (.aload_n 0, 1) := by decide +kernel
theorem dX6_drop_17 : decode cX6_drop 17 = .ok (.getfield 10, 3) := by decide +kernel
theorem dX6_drop_20 : decode cX6_drop 20 = .ok (.getfield 41, 3) := by decide +kernel
theorem dX6_drop_23 : decode cX6_drop 23 = .ok (.iload_n 1, 1) := by decide +kernel
theorem dX6_drop_24 : decode cX6_drop 24 = .ok (.invokevirtual 81, 3) := by decide +kernel
theorem dX6_drop_27 : decode cX6_drop 27 = .ok (.aload_n 0, 1) := by decide +kernel
theorem dX6_drop_28 : decode cX6_drop 28 = .ok (.getfield 10, 3) := by decide +kernel
theorem dX6_drop_31 : decode cX6_drop 31 = .ok (.getfield 41, 3) := by decide +kernel
theorem dX6_drop_34 : decode cX6_drop 34 = .ok (.getfield 64, 3) := by decide +kernel
theorem dX6_drop_37 : decode cX6_drop 37 = .ok (.ireturn, 1) := by decide +kernel
set_option maxRecDepth 20000 in
theorem ggX6_weigh_X2_hasArc : GoodIn wsX6_weigh wsX2_hasArc := goodIn_r _ [8, 9, 22, 23, 24, 25, 26] (by decide +kernel) (by decide +kernel)
set_option maxRecDepth 20000 in
theorem gX6_weigh_X2_hasArc : GoodIn wsX6_weigh (wsV RX6 78 RX2 yX2_hasArc wsX2_hasArc) := goodIn_app (goodIn_of _ (by decide +kernel)) ggX6_weigh_X2_hasArc
set_option maxRecDepth 20000 in
theorem ggX6_weigh_X6_isWeight : GoodIn wsX6_weigh wsX6_isWeight := goodIn_r _ [13] (by decide +kernel) (by decide +kernel)
set_option maxRecDepth 20000 in
theorem gX6_weigh_X6_isWeight : GoodIn wsX6_weigh (va_wsS RX6 71 yX6_isWeight wsX6_isWeight) := goodIn_app (goodIn_of _ (by decide +kernel)) ggX6_weigh_X6_isWeight
theorem dX6_weigh_0 : decode cX6_weigh 0 = .ok (.aload_n 0, 1) := by decide +kernel
theorem dX6_weigh_1 : decode cX6_weigh 1 = .ok (.getfield 10, 3) := by decide +kernel
theorem dX6_weigh_4 : decode cX6_weigh 4 = .ok (.getfield 41, 3) := by decide +kernel
theorem dX6_weigh_7 : decode cX6_weigh 7 = .ok (.iload_n 1, 1) := by decide +kernel
theorem dX6_weigh_8 : decode cX6_weigh 8 = .ok (.invokevirtual 78, 3) := by decide +kernel
theorem dX6_weigh_11 : decode cX6_weigh 11 = .ok (.ifCond .eq 10, 3) := by decide +kernel
theorem dX6_weigh_14 : decode cX6_weigh 14 = .ok (.iload_n 2, 1) := by decide +kernel
theorem dX6_weigh_15 : decode cX6_weigh 15 = .ok (.invokestatic 71, 3) := by decide +kernel
theorem dX6_weigh_18 : decode cX6_weigh 18 = .ok (.ifCond .ne 5, 3) := by decide +kernel
theorem dX6_weigh_21 : decode cX6_weigh 21 = .ok (.iconst (-1), 1) := by decide +kernel
theorem dX6_weigh_22 : decode cX6_weigh 22 = .ok (.ireturn, 1) := by decide +kernel
theorem dX6_weigh_23 : decode cX6_weigh 23 = .ok (.aload_n 0, 1) := by decide +kernel
theorem dX6_weigh_24 : decode cX6_weigh 24 = .ok (.getfield 10, 3) := by decide +kernel
theorem dX6_weigh_27 : decode cX6_weigh 27 = .ok (.getfield 41, 3) := by decide +kernel
theorem dX6_weigh_30 : decode cX6_weigh 30 = .ok (.getfield 84, 3) := by decide +kernel
theorem dX6_weigh_33 : decode cX6_weigh 33 = .ok (.iload_n 1, 1) := by decide +kernel
theorem dX6_weigh_34 : decode cX6_weigh 34 = .ok (.iaload, 1) := by decide +kernel
theorem dX6_weigh_35 : decode cX6_weigh 35 = .ok (.istore_n 3, 1) := by decide +kernel
theorem dX6_weigh_36 : decode cX6_weigh 36 = .ok (.aload_n 0, 1) := by decide +kernel
theorem dX6_weigh_37 : decode cX6_weigh 37 = .ok (.getfield 10, 3) := by decide +kernel
theorem dX6_weigh_40 : decode cX6_weigh 40 = .ok (.getfield 41, 3) := by decide +kernel
theorem dX6_weigh_43 : decode cX6_weigh 43 = .ok (.getfield 84, 3) := by decide +kernel
theorem dX6_weigh_46 : decode cX6_weigh 46 = .ok (.iload_n 1, 1) := by decide +kernel
theorem dX6_weigh_47 : decode cX6_weigh 47 = .ok (.iload_n 2, 1) := by decide +kernel
theorem dX6_weigh_48 : decode cX6_weigh 48 = .ok (.iastore, 1) := by decide +kernel
theorem dX6_weigh_49 : decode cX6_weigh 49 = .ok (.iload_n 3, 1) := by decide +kernel
theorem dX6_weigh_50 : decode cX6_weigh 50 = .ok (.ireturn, 1) := by decide +kernel
set_option maxRecDepth 20000 in
theorem ggX6_turn_X2_hasArc : GoodIn wsX6_turn wsX2_hasArc := goodIn_r _ [9, 10, 19, 20, 21, 22, 23] (by decide +kernel) (by decide +kernel)
set_option maxRecDepth 20000 in
theorem gX6_turn_X2_hasArc : GoodIn wsX6_turn (wsV RX6 78 RX2 yX2_hasArc wsX2_hasArc) := goodIn_app (goodIn_of _ (by decide +kernel)) ggX6_turn_X2_hasArc
theorem dX6_turn_0 : decode cX6_turn 0 = .ok (.aload_n 0, 1) := by decide +kernel
theorem dX6_turn_1 : decode cX6_turn 1 = .ok (.getfield 10, 3) := by decide +kernel
theorem dX6_turn_4 : decode cX6_turn 4 = .ok (.getfield 41, 3) := by decide +kernel
theorem dX6_turn_7 : decode cX6_turn 7 = .ok (.iload_n 1, 1) := by decide +kernel
theorem dX6_turn_8 : decode cX6_turn 8 = .ok (.invokevirtual 78, 3) := by decide +kernel
theorem dX6_turn_11 : decode cX6_turn 11 = .ok (.ifCond .ne 5, 3) := by decide +kernel
theorem dX6_turn_14 : decode cX6_turn 14 = .ok (.iconst 0, 1) := by decide +kernel
theorem dX6_turn_15 : decode cX6_turn 15 = .ok (.ireturn, 1) := by decide +kernel
theorem dX6_turn_16 : decode cX6_turn 16 = .ok (.aload_n 0, 1) := by decide +kernel
theorem dX6_turn_17 : decode cX6_turn 17 = .ok (.getfield 10, 3) := by decide +kernel
theorem dX6_turn_20 : decode cX6_turn 20 = .ok (.getfield 41, 3) := by decide +kernel
theorem dX6_turn_23 : decode cX6_turn 23 = .ok (.getfield 88, 3) := by decide +kernel
theorem dX6_turn_26 : decode cX6_turn 26 = .ok (.iload_n 1, 1) := by decide +kernel
theorem dX6_turn_27 : decode cX6_turn 27 = .ok (.iaload, 1) := by decide +kernel
theorem dX6_turn_28 : decode cX6_turn 28 = .ok (.istore_n 2, 1) := by decide +kernel
theorem dX6_turn_29 : decode cX6_turn 29 = .ok (.aload_n 0, 1) := by decide +kernel
theorem dX6_turn_30 : decode cX6_turn 30 = .ok (.getfield 10, 3) := by decide +kernel
theorem dX6_turn_33 : decode cX6_turn 33 = .ok (.getfield 41, 3) := by decide +kernel
theorem dX6_turn_36 : decode cX6_turn 36 = .ok (.getfield 88, 3) := by decide +kernel
theorem dX6_turn_39 : decode cX6_turn 39 = .ok (.iload_n 1, 1) := by decide +kernel
theorem dX6_turn_40 : decode cX6_turn 40 = .ok (.aload_n 0, 1) := by decide +kernel
theorem dX6_turn_41 : decode cX6_turn 41 = .ok (.getfield 10, 3) := by decide +kernel
theorem dX6_turn_44 : decode cX6_turn 44 = .ok (.getfield 41, 3) := by decide +kernel
theorem dX6_turn_47 : decode cX6_turn 47 = .ok (.getfield 91, 3) := by decide +kernel
theorem dX6_turn_50 : decode cX6_turn 50 = .ok (.iload_n 1, 1) := by decide +kernel
theorem dX6_turn_51 : decode cX6_turn 51 = .ok (.iaload, 1) := by decide +kernel
theorem dX6_turn_52 : decode cX6_turn 52 = .ok (.iastore, 1) := by decide +kernel
theorem dX6_turn_53 : decode cX6_turn 53 = .ok (.aload_n 0, 1) := by decide +kernel
theorem dX6_turn_54 : decode cX6_turn 54 = .ok (.getfield 10, 3) := by decide +kernel
theorem dX6_turn_57 : decode cX6_turn 57 = .ok (.getfield 41, 3) := by decide +kernel
theorem dX6_turn_60 : decode cX6_turn 60 = .ok (.getfield 91, 3) := by decide +kernel
theorem dX6_turn_63 : decode cX6_turn 63 = .ok (.iload_n 1, 1) := by decide +kernel
theorem dX6_turn_64 : decode cX6_turn 64 = .ok (.iload_n 2, 1) := by decide +kernel
theorem dX6_turn_65 : decode cX6_turn 65 = .ok (.iastore, 1) := by decide +kernel
theorem dX6_turn_66 : decode cX6_turn 66 = .ok (.iconst 1, 1) := by decide +kernel
theorem dX6_turn_67 : decode cX6_turn 67 = .ok (.ireturn, 1) := by decide +kernel
set_option maxRecDepth 20000 in
theorem ggX6_join_X2_hasNode : GoodIn wsX6_join wsX2_hasNode := goodIn_r _ [8, 9, 28, 29, 30, 31, 32] (by decide +kernel) (by decide +kernel)
set_option maxRecDepth 20000 in
theorem gX6_join_X2_hasNode : GoodIn wsX6_join (wsV RX6 67 RX2 yX2_hasNode wsX2_hasNode) := goodIn_app (goodIn_of _ (by decide +kernel)) ggX6_join_X2_hasNode
set_option maxRecDepth 20000 in
theorem ggX6_join_X2_merge : GoodIn wsX6_join wsX2_merge := goodIn_r _ [13, 14, 15, 16, 9, 17, 18, 7, 19, 28, 29, 30, 31, 32] (by decide +kernel) (by decide +kernel)
set_option maxRecDepth 20000 in
theorem gX6_join_X2_merge : GoodIn wsX6_join (wsV RX6 94 RX2 yX2_merge wsX2_merge) := goodIn_app (goodIn_of _ (by decide +kernel)) ggX6_join_X2_merge
theorem dX6_join_0 : decode cX6_join 0 = .ok (.aload_n 0, 1) := by decide +kernel
theorem dX6_join_1 : decode cX6_join 1 = .ok (.getfield 10, 3) := by decide +kernel
theorem dX6_join_4 : decode cX6_join 4 = .ok (.getfield 41, 3) := by decide +kernel
theorem dX6_join_7 : decode cX6_join 7 = .ok (.iload_n 1, 1) := by decide +kernel
theorem dX6_join_8 : decode cX6_join 8 = .ok (.invokevirtual 67, 3) := by decide +kernel
theorem dX6_join_11 : decode cX6_join 11 = .ok (.ifCond .eq 22, 3) := by decide +kernel
theorem dX6_join_14 : decode cX6_join 14 = .ok (.aload_n 0, 1) := by decide +kernel
theorem dX6_join_15 : decode cX6_join 15 = .ok (.getfield 10, 3) := by decide +kernel
theorem dX6_join_18 : decode cX6_join 18 = .ok (.getfield 41, 3) := by decide +kernel
theorem dX6_join_21 : decode cX6_join 21 = .ok (.iload_n 2, 1) := by decide +kernel
theorem dX6_join_22 : decode cX6_join 22 = .ok (.invokevirtual 67, 3) := by decide +kernel
theorem dX6_join_25 : decode cX6_join 25 = .ok (.ifCond .eq 8, 3) := by decide +kernel
theorem dX6_join_28 : decode cX6_join 28 = .ok (.iload_n 1, 1) := by decide +kernel
theorem dX6_join_29 : decode cX6_join 29 = .ok (.iload_n 2, 1) := by decide +kernel
theorem dX6_join_30 : decode cX6_join 30 = .ok (.if_icmp .ne 5, 3) := by decide +kernel
theorem dX6_join_33 : decode cX6_join 33 = .ok (.iconst (-1), 1) := by decide +kernel
theorem dX6_join_34 : decode cX6_join 34 = .ok (.ireturn, 1) := by decide +kernel
theorem dX6_join_35 : decode cX6_join 35 = .ok (.aload_n 0, 1) := by decide +kernel
theorem dX6_join_36 : decode cX6_join 36 = .ok (.getfield 10, 3) := by decide +kernel
theorem dX6_join_39 : decode cX6_join 39 = .ok (.getfield 41, 3) := by decide +kernel
theorem dX6_join_42 : decode cX6_join 42 = .ok (.iload_n 1, 1) := by decide +kernel
theorem dX6_join_43 : decode cX6_join 43 = .ok (.iload_n 2, 1) := by decide +kernel
theorem dX6_join_44 : decode cX6_join 44 = .ok (.invokevirtual 94, 3) := by decide +kernel
theorem dX6_join_47 : decode cX6_join 47 = .ok (.aload_n 0, 1) := by decide +kernel
theorem dX6_join_48 : decode cX6_join 48 = .ok (.getfield 10, 3) := by decide +kernel
theorem dX6_join_51 : decode cX6_join 51 = .ok (.getfield 41, 3) := by decide +kernel
theorem dX6_join_54 : decode cX6_join 54 = .ok (.getfield 98, 3) := by decide +kernel
theorem dX6_join_57 : decode cX6_join 57 = .ok (.ireturn, 1) := by decide +kernel
set_option maxRecDepth 20000 in
theorem ggX6_tell_X2_hasArc : GoodIn wsX6_tell wsX2_hasArc := goodIn_r _ [13, 14, 23, 24, 25, 26, 27] (by decide +kernel) (by decide +kernel)
set_option maxRecDepth 20000 in
theorem gX6_tell_X2_hasArc : GoodIn wsX6_tell (wsV RX6 78 RX2 yX2_hasArc wsX2_hasArc) := goodIn_app (goodIn_of _ (by decide +kernel)) ggX6_tell_X2_hasArc
theorem dX6_tell_0 : decode cX6_tell 0 = .ok (.aload_n 0, 1) := by decide +kernel
theorem dX6_tell_1 : decode cX6_tell 1 = .ok (.getfield 10, 3) := by decide +kernel
theorem dX6_tell_4 : decode cX6_tell 4 = .ok (.getfield 41, 3) := by decide +kernel
theorem dX6_tell_7 : decode cX6_tell 7 = .ok (.iload_n 1, 1) := by decide +kernel
theorem dX6_tell_8 : decode cX6_tell 8 = .ok (.invokevirtual 78, 3) := by decide +kernel
theorem dX6_tell_11 : decode cX6_tell 11 = .ok (.ifCond .ne 5, 3) := by decide +kernel
theorem dX6_tell_14 : decode cX6_tell 14 = .ok (.iconst (-1), 1) := by decide +kernel
theorem dX6_tell_15 : decode cX6_tell 15 = .ok (.ireturn, 1) := by decide +kernel
theorem dX6_tell_16 : decode cX6_tell 16 = .ok (.iload_n 2, 1) := by decide +kernel
theorem dX6_tell_17 : decode cX6_tell 17 = .ok (.tableswitch 99 0 4 #[35, 48, 61, 74, 87], 35) := by decide +kernel
theorem dX6_tell_52 : decode cX6_tell 52 = .ok (.aload_n 0, 1) := by decide +kernel
theorem dX6_tell_53 : decode cX6_tell 53 = .ok (.getfield 10, 3) := by decide +kernel
theorem dX6_tell_56 : decode cX6_tell 56 = .ok (.getfield 41, 3) := by decide +kernel
theorem dX6_tell_59 : decode cX6_tell 59 = .ok (.getfield 88, 3) := by decide +kernel
theorem dX6_tell_62 : decode cX6_tell 62 = .ok (.iload_n 1, 1) := by decide +kernel
theorem dX6_tell_63 : decode cX6_tell 63 = .ok (.iaload, 1) := by decide +kernel
theorem dX6_tell_64 : decode cX6_tell 64 = .ok (.ireturn, 1) := by decide +kernel
theorem dX6_tell_65 : decode cX6_tell 65 = .ok (.aload_n 0, 1) := by decide +kernel
theorem dX6_tell_66 : decode cX6_tell 66 = .ok (.getfield 10, 3) := by decide +kernel
theorem dX6_tell_69 : decode cX6_tell 69 = .ok (.getfield 41, 3) := by decide +kernel
theorem dX6_tell_72 : decode cX6_tell 72 = .ok (.getfield 91, 3) := by decide +kernel
theorem dX6_tell_75 : decode cX6_tell 75 = .ok (.iload_n 1, 1) := by decide +kernel
theorem dX6_tell_76 : decode cX6_tell 76 = .ok (.iaload, 1) := by decide +kernel
theorem dX6_tell_77 : decode cX6_tell 77 = .ok (.ireturn, 1) := by decide +kernel
theorem dX6_tell_78 : decode cX6_tell 78 = .ok (.aload_n 0, 1) := by decide +kernel
theorem dX6_tell_79 : decode cX6_tell 79 = .ok (.getfield 10, 3) := by decide +kernel
theorem dX6_tell_82 : decode cX6_tell 82 = .ok (.getfield 41, 3) := by decide +kernel
theorem dX6_tell_85 : decode cX6_tell 85 = .ok (.getfield 84, 3) := by decide +kernel
theorem dX6_tell_88 : decode cX6_tell 88 = .ok (.iload_n 1, 1) := by decide +kernel
theorem dX6_tell_89 : decode cX6_tell 89 = .ok (.iaload, 1) := by decide +kernel
theorem dX6_tell_90 : decode cX6_tell 90 = .ok (.ireturn, 1) := by decide +kernel
theorem dX6_tell_91 : decode cX6_tell 91 = .ok (.aload_n 0, 1) := by decide +kernel
theorem dX6_tell_92 : decode cX6_tell 92 = .ok (.getfield 10, 3) := by decide +kernel
theorem dX6_tell_95 : decode cX6_tell 95 = .ok (.getfield 55, 3) := by decide +kernel
theorem dX6_tell_98 : decode cX6_tell 98 = .ok (.getfield 101, 3) := by decide +kernel
theorem dX6_tell_101 : decode cX6_tell 101 = .ok (.iload_n 1, 1) := by decide +kernel
theorem dX6_tell_102 : decode cX6_tell 102 = .ok (.iaload, 1) := by decide +kernel
theorem dX6_tell_103 : decode cX6_tell 103 = .ok (.ireturn, 1) := by decide +kernel
theorem dX6_tell_104 : decode cX6_tell 104 = .ok (.aload_n 0, 1) := by decide +kernel
theorem dX6_tell_105 : decode cX6_tell 105 = .ok (.getfield 10, 3) := by decide +kernel
theorem dX6_tell_108 : decode cX6_tell 108 = .ok (.getfield 51, 3) := by decide +kernel
theorem dX6_tell_111 : decode cX6_tell 111 = .ok (.iload_n 1, 1) := by decide +kernel
theorem dX6_tell_112 : decode cX6_tell 112 = .ok (.ishr, 1) := by decide +kernel
theorem dX6_tell_113 : decode cX6_tell 113 = .ok (.iconst 1, 1) := by decide +kernel
theorem dX6_tell_114 : decode cX6_tell 114 = .ok (.iand, 1) := by decide +kernel
theorem dX6_tell_115 : decode cX6_tell 115 = .ok (.ireturn, 1) := by decide +kernel
theorem dX6_tell_116 : decode cX6_tell 116 = .ok (.iconst (-1), 1) := by decide +kernel
theorem dX6_tell_117 : decode cX6_tell 117 = .ok (.ireturn, 1) := by decide +kernel
set_option maxRecDepth 20000 in
theorem ggX6_node_X2_hasNode : GoodIn wsX6_node wsX2_hasNode := goodIn_r _ [11, 12, 51, 52, 53, 54, 55] (by decide +kernel) (by decide +kernel)
set_option maxRecDepth 20000 in
theorem gX6_node_X2_hasNode : GoodIn wsX6_node (wsV RX6 67 RX2 yX2_hasNode wsX2_hasNode) := goodIn_app (goodIn_of _ (by decide +kernel)) ggX6_node_X2_hasNode
set_option maxRecDepth 20000 in
theorem ggX6_node_X3_follow : GoodIn wsX6_node wsX3_follow := goodIn_r _ [17, 18, 19, 20, 21, 22, 23, 24, 25, 26, 27, 28, 29, 16, 30, 31, 32, 33, 34, 35, 51, 52, 53, 54, 55, 48, 49, 50] (by decide +kernel) (by decide +kernel)
set_option maxRecDepth 20000 in
theorem gX6_node_X3_follow : GoodIn wsX6_node (wsV RX6 104 RX3 yX3_follow wsX3_follow) := goodIn_app (goodIn_of _ (by decide +kernel)) ggX6_node_X3_follow
set_option maxRecDepth 20000 in
theorem ggX6_node_X3_part : GoodIn wsX6_node wsX3_part := goodIn_r _ [39, 20, 35, 24, 25, 26, 48, 49, 50] (by decide +kernel) (by decide +kernel)
set_option maxRecDepth 20000 in
theorem gX6_node_X3_part : GoodIn wsX6_node (wsV RX6 108 RX3 yX3_part wsX3_part) := goodIn_app (goodIn_of _ (by decide +kernel)) ggX6_node_X3_part
theorem dX6_node_0 : decode cX6_node 0 = .ok (.aload_n 0, 1) := by decide +kernel
theorem dX6_node_1 : decode cX6_node 1 = .ok (.getfield 10, 3) := by decide +kernel
theorem dX6_node_4 : decode cX6_node 4 = .ok (.getfield 41, 3) := by decide +kernel
theorem dX6_node_7 : decode cX6_node 7 = .ok (.iload_n 1, 1) := by decide +kernel
theorem dX6_node_8 : decode cX6_node 8 = .ok (.invokevirtual 67, 3) := by decide +kernel
theorem dX6_node_11 : decode cX6_node 11 = .ok (.ifCond .ne 5, 3) := by decide +kernel
theorem dX6_node_14 : decode cX6_node 14 = .ok (.iconst (-1), 1) := by decide +kernel
theorem dX6_node_15 : decode cX6_node 15 = .ok (.ireturn, 1) := by decide +kernel
theorem dX6_node_16 : decode cX6_node 16 = .ok (.iload_n 2, 1) := by decide +kernel
theorem dX6_node_17 : decode cX6_node 17 = .ok (.tableswitch 130 0 3 #[31, 55, 80, 105], 31) := by decide +kernel
theorem dX6_node_48 : decode cX6_node 48 = .ok (.aload_n 0, 1) := by decide +kernel
theorem dX6_node_49 : decode cX6_node 49 = .ok (.getfield 23, 3) := by decide +kernel
theorem dX6_node_52 : decode cX6_node 52 = .ok (.aload_n 0, 1) := by decide +kernel
theorem dX6_node_53 : decode cX6_node 53 = .ok (.getfield 10, 3) := by decide +kernel
theorem dX6_node_56 : decode cX6_node 56 = .ok (.getfield 41, 3) := by decide +kernel
theorem dX6_node_59 : decode cX6_node 59 = .ok (.iconst 0, 1) := by decide +kernel
theorem dX6_node_60 : decode cX6_node 60 = .ok (.invokevirtual 104, 3) := by decide +kernel
theorem dX6_node_63 : decode cX6_node 63 = .ok (.aload_n 0, 1) := by decide +kernel
theorem dX6_node_64 : decode cX6_node 64 = .ok (.getfield 23, 3) := by decide +kernel
theorem dX6_node_67 : decode cX6_node 67 = .ok (.iload_n 1, 1) := by decide +kernel
theorem dX6_node_68 : decode cX6_node 68 = .ok (.invokevirtual 108, 3) := by decide +kernel
theorem dX6_node_71 : decode cX6_node 71 = .ok (.ireturn, 1) := by decide +kernel
theorem dX6_node_72 : decode cX6_node 72 = .ok (.aload_n 0, 1) := by decide +kernel
theorem dX6_node_73 : decode cX6_node 73 = .ok (.getfield 23, 3) := by decide +kernel
theorem dX6_node_76 : decode cX6_node 76 = .ok (.aload_n 0, 1) := by decide +kernel
theorem dX6_node_77 : decode cX6_node 77 = .ok (.getfield 10, 3) := by decide +kernel
theorem dX6_node_80 : decode cX6_node 80 = .ok (.getfield 41, 3) := by decide +kernel
theorem dX6_node_83 : decode cX6_node 83 = .ok (.ldc 112, 2) := by decide +kernel
theorem dX6_node_85 : decode cX6_node 85 = .ok (.invokevirtual 104, 3) := by decide +kernel
theorem dX6_node_88 : decode cX6_node 88 = .ok (.aload_n 0, 1) := by decide +kernel
theorem dX6_node_89 : decode cX6_node 89 = .ok (.getfield 23, 3) := by decide +kernel
theorem dX6_node_92 : decode cX6_node 92 = .ok (.iload_n 1, 1) := by decide +kernel
theorem dX6_node_93 : decode cX6_node 93 = .ok (.invokevirtual 108, 3) := by decide +kernel
theorem dX6_node_96 : decode cX6_node 96 = .ok (.ireturn, 1) := by decide +kernel
theorem dX6_node_97 : decode cX6_node 97 = .ok (.aload_n 0, 1) := by decide +kernel
theorem dX6_node_98 : decode cX6_node 98 = .ok (.getfield 23, 3) := by decide +kernel
theorem dX6_node_101 : decode cX6_node 101 = .ok (.aload_n 0, 1) := by decide +kernel
theorem dX6_node_102 : decode cX6_node 102 = .ok (.getfield 10, 3) := by decide +kernel
theorem dX6_node_105 : decode cX6_node 105 = .ok (.getfield 41, 3) := by decide +kernel
theorem dX6_node_108 : decode cX6_node 108 = .ok (.iconst 0, 1) := by decide +kernel
theorem dX6_node_109 : decode cX6_node 109 = .ok (.invokevirtual 104, 3) := by decide +kernel
theorem dX6_node_112 : decode cX6_node 112 = .ok (.aload_n 0, 1) := by decide +kernel
theorem dX6_node_113 : decode cX6_node 113 = .ok (.getfield 23, 3) := by decide +kernel
theorem dX6_node_116 : decode cX6_node 116 = .ok (.getfield 113, 3) := by decide +kernel
theorem dX6_node_119 : decode cX6_node 119 = .ok (.iload_n 1, 1) := by decide +kernel
theorem dX6_node_120 : decode cX6_node 120 = .ok (.iaload, 1) := by decide +kernel
theorem dX6_node_121 : decode cX6_node 121 = .ok (.ireturn, 1) := by decide +kernel
theorem dX6_node_122 : decode cX6_node 122 = .ok (.aload_n 0, 1) := by decide +kernel
theorem dX6_node_123 : decode cX6_node 123 = .ok (.getfield 23, 3) := by decide +kernel
theorem dX6_node_126 : decode cX6_node 126 = .ok (.aload_n 0, 1) := by decide +kernel
theorem dX6_node_127 : decode cX6_node 127 = .ok (.getfield 10, 3) := by decide +kernel
theorem dX6_node_130 : decode cX6_node 130 = .ok (.getfield 41, 3) := by decide +kernel
theorem dX6_node_133 : decode cX6_node 133 = .ok (.iconst 0, 1) := by decide +kernel
theorem dX6_node_134 : decode cX6_node 134 = .ok (.invokevirtual 104, 3) := by decide +kernel
theorem dX6_node_137 : decode cX6_node 137 = .ok (.aload_n 0, 1) := by decide +kernel
theorem dX6_node_138 : decode cX6_node 138 = .ok (.getfield 23, 3) := by decide +kernel
theorem dX6_node_141 : decode cX6_node 141 = .ok (.getfield 116, 3) := by decide +kernel
theorem dX6_node_144 : decode cX6_node 144 = .ok (.iload_n 1, 1) := by decide +kernel
theorem dX6_node_145 : decode cX6_node 145 = .ok (.iaload, 1) := by decide +kernel
theorem dX6_node_146 : decode cX6_node 146 = .ok (.ireturn, 1) := by decide +kernel
theorem dX6_node_147 : decode cX6_node 147 = .ok (.iconst (-1), 1) := by decide +kernel
theorem dX6_node_148 : decode cX6_node 148 = .ok (.ireturn, 1) := by decide +kernel
set_option maxRecDepth 20000 in
theorem ggX6_count_X3_follow : GoodIn wsX6_count wsX3_follow := goodIn_r _ [13, 14, 15, 16, 17, 18, 19, 20, 21, 22, 23, 24, 25, 12, 26, 27, 28, 29, 30, 31, 108, 109, 110, 111, 112, 118, 119, 120] (by decide +kernel) (by decide +kernel)
set_option maxRecDepth 20000 in
theorem gX6_count_X3_follow : GoodIn wsX6_count (wsV RX6 104 RX3 yX3_follow wsX3_follow) := goodIn_app (goodIn_of _ (by decide +kernel)) ggX6_count_X3_follow
set_option maxRecDepth 20000 in
theorem ggX6_count_X3_parts : GoodIn wsX6_count wsX3_parts := goodIn_r _ [35, 15, 36, 37, 38, 12, 39, 16, 31, 20, 21, 22, 118, 119, 120] (by decide +kernel) (by decide +kernel)
set_option maxRecDepth 20000 in
theorem gX6_count_X3_parts : GoodIn wsX6_count (wsV RX6 119 RX3 yX3_parts wsX3_parts) := goodIn_app (goodIn_of _ (by decide +kernel)) ggX6_count_X3_parts
set_option maxRecDepth 20000 in
theorem ggX6_count_X6_isWhole : GoodIn wsX6_count wsX6_isWhole := goodIn_r _ [43, 44, 45, 46, 47, 21, 48, 5, 1, 2, 9, 10, 11, 12, 13, 14, 15, 16, 17, 18, 19, 20, 22, 23, 24, 25, 26, 27, 28, 29, 30, 31, 49, 50, 51, 52, 100, 101, 102, 103, 104, 105, 106, 107, 108, 109, 110, 111, 112, 118, 119, 120] (by decide +kernel) (by decide +kernel)
set_option maxRecDepth 20000 in
theorem gX6_count_X6_isWhole : GoodIn wsX6_count (wsV RX6 123 RX6 yX6_isWhole wsX6_isWhole) := goodIn_app (goodIn_of _ (by decide +kernel)) ggX6_count_X6_isWhole
set_option maxRecDepth 20000 in
theorem ggX6_count_X6_isStrong : GoodIn wsX6_count wsX6_isStrong := goodIn_r _ [48, 5, 1, 2, 9, 10, 11, 12, 13, 14, 15, 16, 17, 18, 19, 20, 21, 22, 23, 24, 25, 26, 27, 28, 29, 30, 31, 49, 50, 51, 52, 100, 101, 102, 103, 104, 105, 106, 107, 108, 109, 110, 111, 112, 118, 119, 120] (by decide +kernel) (by decide +kernel)
set_option maxRecDepth 20000 in
theorem gX6_count_X6_isStrong : GoodIn wsX6_count (wsV RX6 127 RX6 yX6_isStrong wsX6_isStrong) := goodIn_app (goodIn_of _ (by decide +kernel)) ggX6_count_X6_isStrong
set_option maxRecDepth 20000 in
theorem ggX6_count_X5_find : GoodIn wsX6_count wsX5_find := goodIn_r _ [57, 58, 59, 60, 61, 62, 63, 64, 65, 56, 66, 67, 68, 69, 70, 71, 72, 73, 74, 75, 76, 77, 78, 79, 80, 81, 82, 83, 84, 85, 86, 87, 88, 113, 114, 115, 116, 117, 108, 109, 110, 111, 112] (by decide +kernel) (by decide +kernel)
set_option maxRecDepth 20000 in
theorem gX6_count_X5_find : GoodIn wsX6_count (wsV RX6 130 RX5 yX5_find wsX5_find) := goodIn_app (goodIn_of _ (by decide +kernel)) ggX6_count_X5_find
set_option maxRecDepth 20000 in
theorem ggX6_count_X1_size : GoodIn wsX6_count wsX1_size := goodIn_r _ [93, 94, 121, 122, 123, 124] (by decide +kernel) (by decide +kernel)
set_option maxRecDepth 20000 in
theorem gX6_count_X1_size : GoodIn wsX6_count (wsV RX6 137 RX1 yX1_size wsX1_size) := goodIn_app (goodIn_of _ (by decide +kernel)) ggX6_count_X1_size
set_option maxRecDepth 20000 in
theorem ggX6_count_X6_imagesMade : GoodIn wsX6_count wsX6_imagesMade := goodIn_r _ [98, 99, 100, 101, 102, 103, 104] (by decide +kernel) (by decide +kernel)
set_option maxRecDepth 20000 in
theorem gX6_count_X6_imagesMade : GoodIn wsX6_count (wsV RX6 139 RX6 yX6_imagesMade wsX6_imagesMade) := goodIn_app (goodIn_of _ (by decide +kernel)) ggX6_count_X6_imagesMade
theorem dX6_count_0 : decode cX6_count 0 = .ok (.iload_n 1, 1) := by decide +kernel
theorem dX6_count_1 : decode cX6_count 1 = .ok (.tableswitch 157 0 7 #[47, 58, 69, 92, 105, 119, 141, 152], 47) := by decide +kernel
