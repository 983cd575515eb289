theorem dX1_change_0 : decode cX1_change 0 = .ok (.aload_n 0, 1) := by decide +kernel
theorem dX1_change_1 : decode cX1_change 1 = .ok (.getfield 9, 3) := by decide +kernel
theorem dX1_change_4 : decode cX1_change 4 = .ok (.iload_n 1, 1) := by decide +kernel
theorem dX1_change_5 : decode cX1_change 5 = .ok (.dup2, 1) := by decide +kernel
theorem dX1_change_6 : decode cX1_change 6 = .ok (.iaload, 1) := by decide +kernel
theorem dX1_change_7 : decode cX1_change 7 = .ok (.iload_n 3, 1) := by decide +kernel
theorem dX1_change_8 : decode cX1_change 8 = .ok (.iadd, 1) := by decide +kernel
theorem dX1_change_9 : decode cX1_change 9 = .ok (.iastore, 1) := by decide +kernel
theorem dX1_change_10 : decode cX1_change 10 = .ok (.iconst 0, 1) := by decide +kernel
theorem dX1_change_11 : decode cX1_change 11 = .ok (.istore 4, 2) := by decide +kernel
theorem dX1_change_13 : decode cX1_change 13 = .ok (.iload 4, 2) := by decide +kernel
theorem dX1_change_15 : decode cX1_change 15 = .ok (.bipush 16, 2) := by decide +kernel
theorem dX1_change_17 : decode cX1_change 17 = .ok (.if_icmp .ge 29, 3) := by decide +kernel
theorem dX1_change_20 : decode cX1_change 20 = .ok (.iload_n 2, 1) := by decide +kernel
theorem dX1_change_21 : decode cX1_change 21 = .ok (.iload 4, 2) := by decide +kernel
theorem dX1_change_23 : decode cX1_change 23 = .ok (.invokestatic 36, 3) := by decide +kernel
theorem dX1_change_26 : decode cX1_change 26 = .ok (.ifCond .eq 14, 3) := by decide +kernel
theorem dX1_change_29 : decode cX1_change 29 = .ok (.aload_n 0, 1) := by decide +kernel
theorem dX1_change_30 : decode cX1_change 30 = .ok (.getfield 15, 3) := by decide +kernel
theorem dX1_change_33 : decode cX1_change 33 = .ok (.iload 4, 2) := by decide +kernel
theorem dX1_change_35 : decode cX1_change 35 = .ok (.dup2, 1) := by decide +kernel
theorem dX1_change_36 : decode cX1_change 36 = .ok (.iaload, 1) := by decide +kernel
theorem dX1_change_37 : decode cX1_change 37 = .ok (.iload_n 3, 1) := by decide +kernel
theorem dX1_change_38 : decode cX1_change 38 = .ok (.iadd, 1) := by decide +kernel
theorem dX1_change_39 : decode cX1_change 39 = .ok (.iastore, 1) := by decide +kernel
theorem dX1_change_40 : decode cX1_change 40 = .ok (.iinc 4 1, 3) := by decide +kernel
theorem dX1_change_43 : decode cX1_change 43 = .ok (.goto (-30), 3) := by decide +kernel
theorem dX1_change_46 : decode cX1_change 46 = .ok (.return_, 1) := by decide +kernel
theorem dX1_size_0 : decode cX1_size 0 = .ok (.iconst 0, 1) := by decide +kernel
theorem dX1_size_1 : decode cX1_size 1 = .ok (.istore_n 1, 1) := by decide +kernel
theorem dX1_size_2 : decode cX1_size 2 = .ok (.iconst 1, 1) := by decide +kernel
theorem dX1_size_3 : decode cX1_size 3 = .ok (.istore_n 2, 1) := by decide +kernel
theorem dX1_size_4 : decode cX1_size 4 = .ok (.iload_n 2, 1) := by decide +kernel
theorem dX1_size_5 : decode cX1_size 5 = .ok (.sipush 256, 3) := by decide +kernel
theorem dX1_size_8 : decode cX1_size 8 = .ok (.if_icmp .ge 21, 3) := by decide +kernel
theorem dX1_size_11 : decode cX1_size 11 = .ok (.aload_n 0, 1) := by decide +kernel
theorem dX1_size_12 : decode cX1_size 12 = .ok (.getfield 9, 3) := by decide +kernel
theorem dX1_size_15 : decode cX1_size 15 = .ok (.iload_n 2, 1) := by decide +kernel
theorem dX1_size_16 : decode cX1_size 16 = .ok (.iaload, 1) := by decide +kernel
theorem dX1_size_17 : decode cX1_size 17 = .ok (.ifCond .le 6, 3) := by decide +kernel
theorem dX1_size_20 : decode cX1_size 20 = .ok (.iinc 1 1, 3) := by decide +kernel
theorem dX1_size_23 : decode cX1_size 23 = .ok (.iinc 2 1, 3) := by decide +kernel
theorem dX1_size_26 : decode cX1_size 26 = .ok (.goto (-22), 3) := by decide +kernel
theorem dX1_size_29 : decode cX1_size 29 = .ok (.iload_n 1, 1) := by decide +kernel
theorem dX1_size_30 : decode cX1_size 30 = .ok (.ireturn, 1) := by decide +kernel
theorem dX1_memberAt_0 : decode cX1_memberAt 0 = .ok (.iconst 0, 1) := by decide +kernel
theorem dX1_memberAt_1 : decode cX1_memberAt 1 = .ok (.istore_n 2, 1) := by decide +kernel
theorem dX1_memberAt_2 : decode cX1_memberAt 2 = .ok (.iconst 1, 1) := by decide +kernel
theorem dX1_memberAt_3 : decode cX1_memberAt 3 = .ok (.istore_n 3, 1) := by decide +kernel
theorem dX1_memberAt_4 : decode cX1_memberAt 4 = .ok (.iload_n 3, 1) := by decide +kernel
theorem dX1_memberAt_5 : decode cX1_memberAt 5 = .ok (.sipush 256, 3) := by decide +kernel
theorem dX1_memberAt_8 : decode cX1_memberAt 8 = .ok (.if_icmp .ge 33, 3) := by decide +kernel
theorem dX1_memberAt_11 : decode cX1_memberAt 11 = .ok (.iload_n 2, 1) := by decide +kernel
theorem dX1_memberAt_12 : decode cX1_memberAt 12 = .ok (.iload_n 1, 1) := by decide +kernel
theorem dX1_memberAt_13 : decode cX1_memberAt 13 = .ok (.if_icmp .gt 28, 3) := by decide +kernel
theorem dX1_memberAt_16 : decode cX1_memberAt 16 = .ok (.aload_n 0, 1) := by decide +kernel
theorem dX1_memberAt_17 : decode cX1_memberAt 17 = .ok (.getfield 9, 3) := by decide +kernel
theorem dX1_memberAt_20 : decode cX1_memberAt 20 = .ok (.iload_n 3, 1) := by decide +kernel
theorem dX1_memberAt_21 : decode cX1_memberAt 21 = .ok (.iaload, 1) := by decide +kernel
theorem dX1_memberAt_22 : decode cX1_memberAt 22 = .ok (.ifCond .le 13, 3) := by decide +kernel
theorem dX1_memberAt_25 : decode cX1_memberAt 25 = .ok (.iload_n 2, 1) := by decide +kernel
theorem dX1_memberAt_26 : decode cX1_memberAt 26 = .ok (.iload_n 1, 1) := by decide +kernel
theorem dX1_memberAt_27 : decode cX1_memberAt 27 = .ok (.if_icmp .ne 5, 3) := by decide +kernel
theorem dX1_memberAt_30 : decode cX1_memberAt 30 = .ok (.iload_n 3, 1) := by decide +kernel
theorem dX1_memberAt_31 : decode cX1_memberAt 31 = .ok (.ireturn, 1) := by decide +kernel
theorem dX1_memberAt_32 : decode cX1_memberAt 32 = .ok (.iinc 2 1, 3) := by decide +kernel
theorem dX1_memberAt_35 : decode cX1_memberAt 35 = .ok (.iinc 3 1, 3) := by decide +kernel
theorem dX1_memberAt_38 : decode cX1_memberAt 38 = .ok (.goto (-34), 3) := by decide +kernel
theorem dX1_memberAt_41 : decode cX1_memberAt 41 = .ok (.iconst 0, 1) := by decide +kernel
theorem dX1_memberAt_42 : decode cX1_memberAt 42 = .ok (.ireturn, 1) := by decide +kernel
set_option maxRecDepth 20000 in
theorem ggX1_uncrossAll_X1_firstCrossing : GoodIn wsX1_uncrossAll wsX1_firstCrossing := goodIn_r _ [6, 7, 8, 9, 5, 10, 11, 12, 13, 14, 15, 16, 25, 26, 27, 28] (by decide +kernel) (by decide +kernel)
set_option maxRecDepth 20000 in
theorem gX1_uncrossAll_X1_firstCrossing : GoodIn wsX1_uncrossAll (wsV RX1 41 RX1 yX1_firstCrossing wsX1_firstCrossing) := goodIn_app (goodIn_of _ (by decide +kernel)) ggX1_uncrossAll_X1_firstCrossing
set_option maxRecDepth 20000 in
theorem ggX1_uncrossAll_X1_crossedBy : GoodIn wsX1_uncrossAll wsX1_crossedBy := goodIn_r _ [10, 11, 12, 13, 14, 5, 15, 16, 25, 26, 27, 28] (by decide +kernel) (by decide +kernel)
set_option maxRecDepth 20000 in
theorem gX1_uncrossAll_X1_crossedBy : GoodIn wsX1_uncrossAll (wsV RX1 45 RX1 yX1_crossedBy wsX1_crossedBy) := goodIn_app (goodIn_of _ (by decide +kernel)) ggX1_uncrossAll_X1_crossedBy
set_option maxRecDepth 20000 in
theorem ggX1_uncrossAll_X1_uncrossPair : GoodIn wsX1_uncrossAll wsX1_uncrossPair := goodIn_r _ [20, 11, 21, 22, 23, 24, 25, 26, 27, 28] (by decide +kernel) (by decide +kernel)
set_option maxRecDepth 20000 in
theorem gX1_uncrossAll_X1_uncrossPair : GoodIn wsX1_uncrossAll (wsV RX1 48 RX1 yX1_uncrossPair wsX1_uncrossPair) := goodIn_app (goodIn_of _ (by decide +kernel)) ggX1_uncrossAll_X1_uncrossPair
theorem dX1_uncrossAll_0 : decode cX1_uncrossAll 0 = .ok (.iconst 1, 1) := by decide +kernel
theorem dX1_uncrossAll_1 : decode cX1_uncrossAll 1 = .ok (.istore_n 1, 1) := by decide +kernel
theorem dX1_uncrossAll_2 : decode cX1_uncrossAll 2 = .ok (.iconst 0, 1) := by decide +kernel
theorem dX1_uncrossAll_3 : decode cX1_uncrossAll 3 = .ok (.istore_n 2, 1) := by decide +kernel
theorem dX1_uncrossAll_4 : decode cX1_uncrossAll 4 = .ok (.iload_n 2, 1) := by decide +kernel
theorem dX1_uncrossAll_5 : decode cX1_uncrossAll 5 = .ok (.ldc 40, 2) := by decide +kernel
theorem dX1_uncrossAll_7 : decode cX1_uncrossAll 7 = .ok (.if_icmp .ge 40, 3) := by decide +kernel
theorem dX1_uncrossAll_10 : decode cX1_uncrossAll 10 = .ok (.aload_n 0, 1) := by decide +kernel
theorem dX1_uncrossAll_11 : decode cX1_uncrossAll 11 = .ok (.iload_n 1, 1) := by decide +kernel
theorem dX1_uncrossAll_12 : decode cX1_uncrossAll 12 = .ok (.invokevirtual 41, 3) := by decide +kernel
theorem dX1_uncrossAll_15 : decode cX1_uncrossAll 15 = .ok (.istore_n 3, 1) := by decide +kernel
theorem dX1_uncrossAll_16 : decode cX1_uncrossAll 16 = .ok (.iload_n 3, 1) := by decide +kernel
theorem dX1_uncrossAll_17 : decode cX1_uncrossAll 17 = .ok (.ifCond .ne 5, 3) := by decide +kernel
theorem dX1_uncrossAll_20 : decode cX1_uncrossAll 20 = .ok (.iload_n 2, 1) := by decide +kernel
theorem dX1_uncrossAll_21 : decode cX1_uncrossAll 21 = .ok (.ireturn, 1) := by decide +kernel
theorem dX1_uncrossAll_22 : decode cX1_uncrossAll 22 = .ok (.aload_n 0, 1) := by decide +kernel
theorem dX1_uncrossAll_23 : decode cX1_uncrossAll 23 = .ok (.iload_n 3, 1) := by decide +kernel
theorem dX1_uncrossAll_24 : decode cX1_uncrossAll 24 = .ok (.invokevirtual 45, 3) := by decide +kernel
theorem dX1_uncrossAll_27 : decode cX1_uncrossAll 27 = .ok (.istore 4, 2) := by decide +kernel
theorem dX1_uncrossAll_29 : decode cX1_uncrossAll 29 = .ok (.aload_n 0, 1) := by decide +kernel
theorem dX1_uncrossAll_30 : decode cX1_uncrossAll 30 = .ok (.iload_n 3, 1) := by decide +kernel
theorem dX1_uncrossAll_31 : decode cX1_uncrossAll 31 = .ok (.iload 4, 2) := by decide +kernel
theorem dX1_uncrossAll_33 : decode cX1_uncrossAll 33 = .ok (.invokevirtual 48, 3) := by decide +kernel
theorem dX1_uncrossAll_36 : decode cX1_uncrossAll 36 = .ok (.iload_n 3, 1) := by decide +kernel
theorem dX1_uncrossAll_37 : decode cX1_uncrossAll 37 = .ok (.iload 4, 2) := by decide +kernel
theorem dX1_uncrossAll_39 : decode cX1_uncrossAll 39 = .ok (.iand, 1) := by decide +kernel
theorem dX1_uncrossAll_40 : decode cX1_uncrossAll 40 = .ok (.istore_n 1, 1) := by decide +kernel
theorem dX1_uncrossAll_41 : decode cX1_uncrossAll 41 = .ok (.iinc 2 1, 3) := by decide +kernel
theorem dX1_uncrossAll_44 : decode cX1_uncrossAll 44 = .ok (.goto (-40), 3) := by decide +kernel
theorem dX1_uncrossAll_47 : decode cX1_uncrossAll 47 = .ok (.ldc 40, 2) := by decide +kernel
theorem dX1_uncrossAll_49 : decode cX1_uncrossAll 49 = .ok (.ireturn, 1) := by decide +kernel
set_option maxRecDepth 20000 in
theorem ggX1_firstCrossing_X1_crossedBy : GoodIn wsX1_firstCrossing wsX1_crossedBy := goodIn_r _ [5, 6, 7, 8, 9, 4, 10, 11, 12, 13, 14, 15] (by decide +kernel) (by decide +kernel)
set_option maxRecDepth 20000 in
theorem gX1_firstCrossing_X1_crossedBy : GoodIn wsX1_firstCrossing (wsV RX1 45 RX1 yX1_crossedBy wsX1_crossedBy) := goodIn_app (goodIn_of _ (by decide +kernel)) ggX1_firstCrossing_X1_crossedBy
theorem dX1_firstCrossing_0 : decode cX1_firstCrossing 0 = .ok (.iload_n 1, 1) := by decide +kernel
theorem dX1_firstCrossing_1 : decode cX1_firstCrossing 1 = .ok (.istore_n 2, 1) := by decide +kernel
theorem dX1_firstCrossing_2 : decode cX1_firstCrossing 2 = .ok (.iload_n 2, 1) := by decide +kernel
theorem dX1_firstCrossing_3 : decode cX1_firstCrossing 3 = .ok (.sipush 256, 3) := by decide +kernel
theorem dX1_firstCrossing_6 : decode cX1_firstCrossing 6 = .ok (.if_icmp .ge 19, 3) := by decide +kernel
theorem dX1_firstCrossing_9 : decode cX1_firstCrossing 9 = .ok (.aload_n 0, 1) := by decide +kernel
theorem dX1_firstCrossing_10 : decode cX1_firstCrossing 10 = .ok (.iload_n 2, 1) := by decide +kernel
theorem dX1_firstCrossing_11 : decode cX1_firstCrossing 11 = .ok (.invokevirtual 45, 3) := by decide +kernel
theorem dX1_firstCrossing_14 : decode cX1_firstCrossing 14 = .ok (.ifCond .eq 5, 3) := by decide +kernel
theorem dX1_firstCrossing_17 : decode cX1_firstCrossing 17 = .ok (.iload_n 2, 1) := by decide +kernel
theorem dX1_firstCrossing_18 : decode cX1_firstCrossing 18 = .ok (.ireturn, 1) := by decide +kernel
theorem dX1_firstCrossing_19 : decode cX1_firstCrossing 19 = .ok (.iinc 2 1, 3) := by decide +kernel
theorem dX1_firstCrossing_22 : decode cX1_firstCrossing 22 = .ok (.goto (-20), 3) := by decide +kernel
theorem dX1_firstCrossing_25 : decode cX1_firstCrossing 25 = .ok (.iconst 0, 1) := by decide +kernel
theorem dX1_firstCrossing_26 : decode cX1_firstCrossing 26 = .ok (.ireturn, 1) := by decide +kernel
set_option maxRecDepth 20000 in
theorem ggX1_crossedBy_X1_areCrossing : GoodIn wsX1_crossedBy wsX1_areCrossing := goodIn_r _ [6, 7, 8, 9, 10, 11] (by decide +kernel) (by decide +kernel)
set_option maxRecDepth 20000 in
theorem gX1_crossedBy_X1_areCrossing : GoodIn wsX1_crossedBy (wsV RX1 52 RX1 yX1_areCrossing wsX1_areCrossing) := goodIn_app (goodIn_of _ (by decide +kernel)) ggX1_crossedBy_X1_areCrossing
theorem dX1_crossedBy_0 : decode cX1_crossedBy 0 = .ok (.aload_n 0, 1) := by decide +kernel
theorem dX1_crossedBy_1 : decode cX1_crossedBy 1 = .ok (.getfield 9, 3) := by decide +kernel
theorem dX1_crossedBy_4 : decode cX1_crossedBy 4 = .ok (.iload_n 1, 1) := by decide +kernel
theorem dX1_crossedBy_5 : decode cX1_crossedBy 5 = .ok (.iaload, 1) := by decide +kernel
theorem dX1_crossedBy_6 : decode cX1_crossedBy 6 = .ok (.ifCond .ne 5, 3) := by decide +kernel
theorem dX1_crossedBy_9 : decode cX1_crossedBy 9 = .ok (.iconst 0, 1) := by decide +kernel
theorem dX1_crossedBy_10 : decode cX1_crossedBy 10 = .ok (.ireturn, 1) := by decide +kernel
theorem dX1_crossedBy_11 : decode cX1_crossedBy 11 = .ok (.iload_n 1, 1) := by decide +kernel
theorem dX1_crossedBy_12 : decode cX1_crossedBy 12 = .ok (.iconst 1, 1) := by decide +kernel
theorem dX1_crossedBy_13 : decode cX1_crossedBy 13 = .ok (.iadd, 1) := by decide +kernel
theorem dX1_crossedBy_14 : decode cX1_crossedBy 14 = .ok (.istore_n 2, 1) := by decide +kernel
theorem dX1_crossedBy_15 : decode cX1_crossedBy 15 = .ok (.iload_n 2, 1) := by decide +kernel
theorem dX1_crossedBy_16 : decode cX1_crossedBy 16 = .ok (.sipush 256, 3) := by decide +kernel
theorem dX1_crossedBy_19 : decode cX1_crossedBy 19 = .ok (.if_icmp .ge 29, 3) := by decide +kernel
theorem dX1_crossedBy_22 : decode cX1_crossedBy 22 = .ok (.aload_n 0, 1) := by decide +kernel
theorem dX1_crossedBy_23 : decode cX1_crossedBy 23 = .ok (.getfield 9, 3) := by decide +kernel
theorem dX1_crossedBy_26 : decode cX1_crossedBy 26 = .ok (.iload_n 2, 1) := by decide +kernel
theorem dX1_crossedBy_27 : decode cX1_crossedBy 27 = .ok (.iaload, 1) := by decide +kernel
theorem dX1_crossedBy_28 : decode cX1_crossedBy 28 = .ok (.ifCond .le 14, 3) := by decide +kernel
theorem dX1_crossedBy_31 : decode cX1_crossedBy 31 = .ok (.aload_n 0, 1) := by decide +kernel
theorem dX1_crossedBy_32 : decode cX1_crossedBy 32 = .ok (.iload_n 1, 1) := by decide +kernel
theorem dX1_crossedBy_33 : decode cX1_crossedBy 33 = .ok (.iload_n 2, 1) := by decide +kernel
theorem dX1_crossedBy_34 : decode cX1_crossedBy 34 = .ok (.invokevirtual 52, 3) := by decide +kernel
theorem dX1_crossedBy_37 : decode cX1_crossedBy 37 = .ok (.ifCond .eq 5, 3) := by decide +kernel
theorem dX1_crossedBy_40 : decode cX1_crossedBy 40 = .ok (.iload_n 2, 1) := by decide +kernel
theorem dX1_crossedBy_41 : decode cX1_crossedBy 41 = .ok (.ireturn, 1) := by decide +kernel
theorem dX1_crossedBy_42 : decode cX1_crossedBy 42 = .ok (.iinc 2 1, 3) := by decide +kernel
theorem dX1_crossedBy_45 : decode cX1_crossedBy 45 = .ok (.goto (-30), 3) := by decide +kernel
theorem dX1_crossedBy_48 : decode cX1_crossedBy 48 = .ok (.iconst 0, 1) := by decide +kernel
theorem dX1_crossedBy_49 : decode cX1_crossedBy 49 = .ok (.ireturn, 1) := by decide +kernel
theorem dX1_areCrossing_0 : decode cX1_areCrossing 0 = .ok (.iload_n 1, 1) := by decide +kernel
theorem dX1_areCrossing_1 : decode cX1_areCrossing 1 = .ok (.iload_n 2, 1) := by decide +kernel
theorem dX1_areCrossing_2 : decode cX1_areCrossing 2 = .ok (.iand, 1) := by decide +kernel
theorem dX1_areCrossing_3 : decode cX1_areCrossing 3 = .ok (.istore_n 3, 1) := by decide +kernel
theorem dX1_areCrossing_4 : decode cX1_areCrossing 4 = .ok (.iload_n 1, 1) := by decide +kernel
theorem dX1_areCrossing_5 : decode cX1_areCrossing 5 = .ok (.iload_n 2, 1) := by decide +kernel
theorem dX1_areCrossing_6 : decode cX1_areCrossing 6 = .ok (.ior, 1) := by decide +kernel
theorem dX1_areCrossing_7 : decode cX1_areCrossing 7 = .ok (.istore 4, 2) := by decide +kernel
theorem dX1_areCrossing_9 : decode cX1_areCrossing 9 = .ok (.iload_n 3, 1) := by decide +kernel
theorem dX1_areCrossing_10 : decode cX1_areCrossing 10 = .ok (.ifCond .eq 30, 3) := by decide +kernel
theorem dX1_areCrossing_13 : decode cX1_areCrossing 13 = .ok (.iload_n 3, 1) := by decide +kernel
theorem dX1_areCrossing_14 : decode cX1_areCrossing 14 = .ok (.iload_n 1, 1) := by decide +kernel
theorem dX1_areCrossing_15 : decode cX1_areCrossing 15 = .ok (.if_icmp .eq 25, 3) := by decide +kernel
theorem dX1_areCrossing_18 : decode cX1_areCrossing 18 = .ok (.iload_n 3, 1) := by decide +kernel
theorem dX1_areCrossing_19 : decode cX1_areCrossing 19 = .ok (.iload_n 2, 1) := by decide +kernel
theorem dX1_areCrossing_20 : decode cX1_areCrossing 20 = .ok (.if_icmp .eq 20, 3) := by decide +kernel
theorem dX1_areCrossing_23 : decode cX1_areCrossing 23 = .ok (.iload 4, 2) := by decide +kernel
theorem dX1_areCrossing_25 : decode cX1_areCrossing 25 = .ok (.iconst 1, 1) := by decide +kernel
theorem dX1_areCrossing_26 : decode cX1_areCrossing 26 = .ok (.aload_n 0, 1) := by decide +kernel
theorem dX1_areCrossing_27 : decode cX1_areCrossing 27 = .ok (.getfield 26, 3) := by decide +kernel
theorem dX1_areCrossing_30 : decode cX1_areCrossing 30 = .ok (.ishl, 1) := by decide +kernel
theorem dX1_areCrossing_31 : decode cX1_areCrossing 31 = .ok (.iconst 1, 1) := by decide +kernel
theorem dX1_areCrossing_32 : decode cX1_areCrossing 32 = .ok (.isub, 1) := by decide +kernel
theorem dX1_areCrossing_33 : decode cX1_areCrossing 33 = .ok (.if_icmp .eq 7, 3) := by decide +kernel
theorem dX1_areCrossing_36 : decode cX1_areCrossing 36 = .ok (.iconst 1, 1) := by decide +kernel
theorem dX1_areCrossing_37 : decode cX1_areCrossing 37 = .ok (.goto 4, 3) := by decide +kernel
theorem dX1_areCrossing_40 : decode cX1_areCrossing 40 = .ok (.iconst 0, 1) := by decide +kernel
theorem dX1_areCrossing_41 : decode cX1_areCrossing 41 = .ok (.ireturn, 1) := by decide +kernel
theorem dX1_uncrossPair_0 : decode cX1_uncrossPair 0 = .ok (.aload_n 0, 1) := by decide +kernel
theorem dX1_uncrossPair_1 : decode cX1_uncrossPair 1 = .ok (.getfield 9, 3) := by decide +kernel
theorem dX1_uncrossPair_4 : decode cX1_uncrossPair 4 = .ok (.iload_n 1, 1) := by decide +kernel
theorem dX1_uncrossPair_5 : decode cX1_uncrossPair 5 = .ok (.iaload, 1) := by decide +kernel
theorem dX1_uncrossPair_6 : decode cX1_uncrossPair 6 = .ok (.aload_n 0, 1) := by decide +kernel
theorem dX1_uncrossPair_7 : decode cX1_uncrossPair 7 = .ok (.getfield 9, 3) := by decide +kernel
theorem dX1_uncrossPair_10 : decode cX1_uncrossPair 10 = .ok (.iload_n 2, 1) := by decide +kernel
theorem dX1_uncrossPair_11 : decode cX1_uncrossPair 11 = .ok (.iaload, 1) := by decide +kernel
theorem dX1_uncrossPair_12 : decode cX1_uncrossPair 12 = .ok (.invokestatic 55, 3) := by decide +kernel
theorem dX1_uncrossPair_15 : decode cX1_uncrossPair 15 = .ok (.istore_n 3, 1) := by decide +kernel
theorem dX1_uncrossPair_16 : decode cX1_uncrossPair 16 = .ok (.aload_n 0, 1) := by decide +kernel
theorem dX1_uncrossPair_17 : decode cX1_uncrossPair 17 = .ok (.getfield 9, 3) := by decide +kernel
theorem dX1_uncrossPair_20 : decode cX1_uncrossPair 20 = .ok (.iload_n 1, 1) := by decide +kernel
theorem dX1_uncrossPair_21 : decode cX1_uncrossPair 21 = .ok (.dup2, 1) := by decide +kernel
theorem dX1_uncrossPair_22 : decode cX1_uncrossPair 22 = .ok (.iaload, 1) := by decide +kernel
theorem dX1_uncrossPair_23 : decode cX1_uncrossPair 23 = .ok (.iload_n 3, 1) := by decide +kernel
theorem dX1_uncrossPair_24 : decode cX1_uncrossPair 24 = .ok (.isub, 1) := by decide +kernel
theorem dX1_uncrossPair_25 : decode cX1_uncrossPair 25 = .ok (.iastore, 1) := by decide +kernel
theorem dX1_uncrossPair_26 : decode cX1_uncrossPair 26 = .ok (.aload_n 0, 1) := by decide +kernel
theorem dX1_uncrossPair_27 : decode cX1_uncrossPair 27 = .ok (.getfield 9, 3) := by decide +kernel
theorem dX1_uncrossPair_30 : decode cX1_uncrossPair 30 = .ok (.iload_n 2, 1) := by decide +kernel
theorem dX1_uncrossPair_31 : decode cX1_uncrossPair 31 = .ok (.dup2, 1) := by decide +kernel
theorem dX1_uncrossPair_32 : decode cX1_uncrossPair 32 = .ok (.iaload, 1) := by decide +kernel
theorem dX1_uncrossPair_33 : decode cX1_uncrossPair 33 = .ok (.iload_n 3, 1) := by decide +kernel
theorem dX1_uncrossPair_34 : decode cX1_uncrossPair 34 = .ok (.isub, 1) := by decide +kernel
theorem dX1_uncrossPair_35 : decode cX1_uncrossPair 35 = .ok (.iastore, 1) := by decide +kernel
theorem dX1_uncrossPair_36 : decode cX1_uncrossPair 36 = .ok (.aload_n 0, 1) := by decide +kernel
theorem dX1_uncrossPair_37 : decode cX1_uncrossPair 37 = .ok (.getfield 9, 3) := by decide +kernel
theorem dX1_uncrossPair_40 : decode cX1_uncrossPair 40 = .ok (.iload_n 1, 1) := by decide +kernel
theorem dX1_uncrossPair_41 : decode cX1_uncrossPair 41 = .ok (.iload_n 2, 1) := by decide +kernel
theorem dX1_uncrossPair_42 : decode cX1_uncrossPair 42 = .ok (.iand, 1) := by decide +kernel
theorem dX1_uncrossPair_43 : decode cX1_uncrossPair 43 = .ok (.dup2, 1) := by decide +kernel
theorem dX1_uncrossPair_44 : decode cX1_uncrossPair 44 = .ok (.iaload, 1) := by decide +kernel
theorem dX1_uncrossPair_45 : decode cX1_uncrossPair 45 = .ok (.iload_n 3, 1) := by decide +kernel
theorem dX1_uncrossPair_46 : decode cX1_uncrossPair 46 = .ok (.iadd, 1) := by decide +kernel
theorem dX1_uncrossPair_47 : decode cX1_uncrossPair 47 = .ok (.iastore, 1) := by decide +kernel
theorem dX1_uncrossPair_48 : decode cX1_uncrossPair 48 = .ok (.aload_n 0, 1) := by decide +kernel
theorem dX1_uncrossPair_49 : decode cX1_uncrossPair 49 = .ok (.getfield 9, 3) := by decide +kernel
theorem dX1_uncrossPair_52 : decode cX1_uncrossPair 52 = .ok (.iload_n 1, 1) := by decide +kernel
theorem dX1_uncrossPair_53 : decode cX1_uncrossPair 53 = .ok (.iload_n 2, 1) := by decide +kernel
theorem dX1_uncrossPair_54 : decode cX1_uncrossPair 54 = .ok (.ior, 1) := by decide +kernel
theorem dX1_uncrossPair_55 : decode cX1_uncrossPair 55 = .ok (.dup2, 1) := by decide +kernel
theorem dX1_uncrossPair_56 : decode cX1_uncrossPair 56 = .ok (.iaload, 1) := by decide +kernel
theorem dX1_uncrossPair_57 : decode cX1_uncrossPair 57 = .ok (.iload_n 3, 1) := by decide +kernel
theorem dX1_uncrossPair_58 : decode cX1_uncrossPair 58 = .ok (.iadd, 1) := by decide +kernel
theorem dX1_uncrossPair_59 : decode cX1_uncrossPair 59 = .ok (.iastore, 1) := by decide +kernel
theorem dX1_uncrossPair_60 : decode cX1_uncrossPair 60 = .ok (.return_, 1) := by decide +kernel
theorem dX1_copyFrom_0 : decode cX1_copyFrom 0 = .ok (.aload_n 0, 1) := by decide +kernel
theorem dX1_copyFrom_1 : decode cX1_copyFrom 1 = .ok (.aload_n 1, 1) := by decide +kernel
theorem dX1_copyFrom_2 : decode cX1_copyFrom 2 = .ok (.getfield 22, 3) := by decide +kernel
theorem dX1_copyFrom_5 : decode cX1_copyFrom 5 = .ok (.putfield 22, 3) := by decide +kernel
theorem dX1_copyFrom_8 : decode cX1_copyFrom 8 = .ok (.aload_n 0, 1) := by decide +kernel
theorem dX1_copyFrom_9 : decode cX1_copyFrom 9 = .ok (.aload_n 1, 1) := by decide +kernel
theorem dX1_copyFrom_10 : decode cX1_copyFrom 10 = .ok (.getfield 26, 3) := by decide +kernel
theorem dX1_copyFrom_13 : decode cX1_copyFrom 13 = .ok (.putfield 26, 3) := by decide +kernel
theorem dX1_copyFrom_16 : decode cX1_copyFrom 16 = .ok (.aload_n 1, 1) := by decide +kernel
theorem dX1_copyFrom_17 : decode cX1_copyFrom 17 = .ok (.getfield 9, 3) := by decide +kernel
theorem dX1_copyFrom_20 : decode cX1_copyFrom 20 = .ok (.iconst 0, 1) := by decide +kernel
theorem dX1_copyFrom_21 : decode cX1_copyFrom 21 = .ok (.aload_n 0, 1) := by decide +kernel
theorem dX1_copyFrom_22 : decode cX1_copyFrom 22 = .ok (.getfield 9, 3) := by decide +kernel
theorem dX1_copyFrom_25 : decode cX1_copyFrom 25 = .ok (.iconst 0, 1) := by decide +kernel
theorem dX1_copyFrom_26 : decode cX1_copyFrom 26 = .ok (.sipush 256, 3) := by decide +kernel
theorem dX1_copyFrom_29 : decode cX1_copyFrom 29 = .ok (.invokestatic 61, 3) := by decide +kernel
theorem dX1_copyFrom_32 : decode cX1_copyFrom 32 = .ok (.aload_n 1, 1) := by decide +kernel
theorem dX1_copyFrom_33 : decode cX1_copyFrom 33 = .ok (.getfield 15, 3) := by decide +kernel
theorem dX1_copyFrom_36 : decode cX1_copyFrom 36 = .ok (.iconst 0, 1) := by decide +kernel
theorem dX1_copyFrom_37 : decode cX1_copyFrom 37 = .ok (.aload_n 0, 1) := by decide +kernel
theorem dX1_copyFrom_38 : decode cX1_copyFrom 38 = .ok (.getfield 15, 3) := by decide +kernel
theorem dX1_copyFrom_41 : decode cX1_copyFrom 41 = .ok (.iconst 0, 1) := by decide +kernel
theorem dX1_copyFrom_42 : decode cX1_copyFrom 42 = .ok (.bipush 16, 2) := by decide +kernel
theorem dX1_copyFrom_44 : decode cX1_copyFrom 44 = .ok (.invokestatic 61, 3) := by decide +kernel
theorem dX1_copyFrom_47 : decode cX1_copyFrom 47 = .ok (.return_, 1) := by decide +kernel
theorem dX2_init_0 : decode cX2_init 0 = .ok (.aload_n 0, 1) := by decide +kernel
theorem dX2_init_1 : decode cX2_init 1 = .ok (.invokespecial 3, 3) := by decide +kernel
theorem dX2_init_4 : decode cX2_init 4 = .ok (.aload_n 0, 1) := by decide +kernel
theorem dX2_init_5 : decode cX2_init 5 = .ok (.bipush 16, 2) := by decide +kernel
theorem dX2_init_7 : decode cX2_init 7 = .ok (.newarray .int, 2) := by decide +kernel
theorem dX2_init_9 : decode cX2_init 9 = .ok (.putfield 9, 3) := by decide +kernel
theorem dX2_init_12 : decode cX2_init 12 = .ok (.aload_n 0, 1) := by decide +kernel
theorem dX2_init_13 : decode cX2_init 13 = .ok (.bipush 16, 2) := by decide +kernel
theorem dX2_init_15 : decode cX2_init 15 = .ok (.newarray .int, 2) := by decide +kernel
theorem dX2_init_17 : decode cX2_init 17 = .ok (.putfield 15, 3) := by decide +kernel
theorem dX2_init_20 : decode cX2_init 20 = .ok (.aload_n 0, 1) := by decide +kernel
theorem dX2_init_21 : decode cX2_init 21 = .ok (.bipush 16, 2) := by decide +kernel
theorem dX2_init_23 : decode cX2_init 23 = .ok (.newarray .int, 2) := by decide +kernel
theorem dX2_init_25 : decode cX2_init 25 = .ok (.putfield 18, 3) := by decide +kernel
theorem dX2_init_28 : decode cX2_init 28 = .ok (.return_, 1) := by decide +kernel
theorem dX2_clear_0 : decode cX2_clear 0 = .ok (.aload_n 0, 1) := by decide +kernel
theorem dX2_clear_1 : decode cX2_clear 1 = .ok (.iload_n 1, 1) := by decide +kernel
theorem dX2_clear_2 : decode cX2_clear 2 = .ok (.putfield 21, 3) := by decide +kernel
theorem dX2_clear_5 : decode cX2_clear 5 = .ok (.aload_n 0, 1) := by decide +kernel
theorem dX2_clear_6 : decode cX2_clear 6 = .ok (.iconst 0, 1) := by decide +kernel
theorem dX2_clear_7 : decode cX2_clear 7 = .ok (.putfield 25, 3) := by decide +kernel
theorem dX2_clear_10 : decode cX2_clear 10 = .ok (.return_, 1) := by decide +kernel
theorem dX2_hasNode_0 : decode cX2_hasNode 0 = .ok (.iload_n 1, 1) := by decide +kernel
theorem dX2_hasNode_1 : decode cX2_hasNode 1 = .ok (.ifCond .lt 15, 3) := by decide +kernel
theorem dX2_hasNode_4 : decode cX2_hasNode 4 = .ok (.iload_n 1, 1) := by decide +kernel
theorem dX2_hasNode_5 : decode cX2_hasNode 5 = .ok (.aload_n 0, 1) := by decide +kernel
theorem dX2_hasNode_6 : decode cX2_hasNode 6 = .ok (.getfield 21, 3) := by decide +kernel
theorem dX2_hasNode_9 : decode cX2_hasNode 9 = .ok (.if_icmp .ge 7, 3) := by decide +kernel
theorem dX2_hasNode_12 : decode cX2_hasNode 12 = .ok (.iconst 1, 1) := by decide +kernel
theorem dX2_hasNode_13 : decode cX2_hasNode 13 = .ok (.goto 4, 3) := by decide +kernel
theorem dX2_hasNode_16 : decode cX2_hasNode 16 = .ok (.iconst 0, 1) := by decide +kernel
theorem dX2_hasNode_17 : decode cX2_hasNode 17 = .ok (.ireturn, 1) := by decide +kernel
theorem dX2_hasArc_0 : decode cX2_hasArc 0 = .ok (.iload_n 1, 1) := by decide +kernel
theorem dX2_hasArc_1 : decode cX2_hasArc 1 = .ok (.ifCond .lt 15, 3) := by decide +kernel
theorem dX2_hasArc_4 : decode cX2_hasArc 4 = .ok (.iload_n 1, 1) := by decide +kernel
theorem dX2_hasArc_5 : decode cX2_hasArc 5 = .ok (.aload_n 0, 1) := by decide +kernel
theorem dX2_hasArc_6 : decode cX2_hasArc 6 = .ok (.getfield 25, 3) := by decide +kernel
theorem dX2_hasArc_9 : decode cX2_hasArc 9 = .ok (.if_icmp .ge 7, 3) := by decide +kernel
theorem dX2_hasArc_12 : decode cX2_hasArc 12 = .ok (.iconst 1, 1) := by decide +kernel
theorem dX2_hasArc_13 : decode cX2_hasArc 13 = .ok (.goto 4, 3) := by decide +kernel
theorem dX2_hasArc_16 : decode cX2_hasArc 16 = .ok (.iconst 0, 1) := by decide +kernel
theorem dX2_hasArc_17 : decode cX2_hasArc 17 = .ok (.ireturn, 1) := by decide +kernel
theorem dX2_allNodes_0 : decode cX2_allNodes 0 = .ok (.iconst 1, 1) := by decide +kernel
theorem dX2_allNodes_1 : decode cX2_allNodes 1 = .ok (.aload_n 0, 1) := by decide +kernel
theorem dX2_allNodes_2 : decode cX2_allNodes 2 = .ok (.getfield 21, 3) := by decide +kernel
theorem dX2_allNodes_5 : decode cX2_allNodes 5 = .ok (.ishl, 1) := by decide +kernel
theorem dX2_allNodes_6 : decode cX2_allNodes 6 = .ok (.iconst 1, 1) := by decide +kernel
theorem dX2_allNodes_7 : decode cX2_allNodes 7 = .ok (.isub, 1) := by decide +kernel
theorem dX2_allNodes_8 : decode cX2_allNodes 8 = .ok (.ireturn, 1) := by decide +kernel
theorem dX2_append_0 : decode cX2_append 0 = .ok (.aload_n 0, 1) := by decide +kernel
theorem dX2_append_1 : decode cX2_append 1 = .ok (.getfield 9, 3) := by decide +kernel
theorem dX2_append_4 : decode cX2_append 4 = .ok (.aload_n 0, 1) := by decide +kernel
theorem dX2_append_5 : decode cX2_append 5 = .ok (.getfield 25, 3) := by decide +kernel
theorem dX2_append_8 : decode cX2_append 8 = .ok (.iload_n 1, 1) := by decide +kernel
theorem dX2_append_9 : decode cX2_append 9 = .ok (.iastore, 1) := by decide +kernel
theorem dX2_append_10 : decode cX2_append 10 = .ok (.aload_n 0, 1) := by decide +kernel
theorem dX2_append_11 : decode cX2_append 11 = .ok (.getfield 15, 3) := by decide +kernel
theorem dX2_append_14 : decode cX2_append 14 = .ok (.aload_n 0, 1) := by decide +kernel
theorem dX2_append_15 : decode cX2_append 15 = .ok (.getfield 25, 3) := by decide +kernel
theorem dX2_append_18 : decode cX2_append 18 = .ok (.iload_n 2, 1) := by decide +kernel
theorem dX2_append_19 : decode cX2_append 19 = .ok (.iastore, 1) := by decide +kernel
theorem dX2_append_20 : decode cX2_append 20 = .ok (.aload_n 0, 1) := by decide +kernel
theorem dX2_append_21 : decode cX2_append 21 = .ok (.getfield 18, 3) := by decide +kernel
theorem dX2_append_24 : decode cX2_append 24 = .ok (.aload_n 0, 1) := by decide +kernel
theorem dX2_append_25 : decode cX2_append 25 = .ok (.getfield 25, 3) := by decide +kernel
theorem dX2_append_28 : decode cX2_append 28 = .ok (.iload_n 3, 1) := by decide +kernel
theorem dX2_append_29 : decode cX2_append 29 = .ok (.iastore, 1) := by decide +kernel
theorem dX2_append_30 : decode cX2_append 30 = .ok (.aload_n 0, 1) := by decide +kernel
theorem dX2_append_31 : decode cX2_append 31 = .ok (.dup, 1) := by decide +kernel
theorem dX2_append_32 : decode cX2_append 32 = .ok (.getfield 25, 3) := by decide +kernel
theorem dX2_append_35 : decode cX2_append 35 = .ok (.iconst 1, 1) := by decide +kernel
theorem dX2_append_36 : decode cX2_append 36 = .ok (.iadd, 1) := by decide +kernel
theorem dX2_append_37 : decode cX2_append 37 = .ok (.putfield 25, 3) := by decide +kernel
theorem dX2_append_40 : decode cX2_append 40 = .ok (.aload_n 0, 1) := by decide +kernel
theorem dX2_append_41 : decode cX2_append 41 = .ok (.getfield 25, 3) := by decide +kernel
theorem dX2_append_44 : decode cX2_append 44 = .ok (.iconst 1, 1) := by decide +kernel
theorem dX2_append_45 : decode cX2_append 45 = .ok (.isub, 1) := by decide +kernel
theorem dX2_append_46 : decode cX2_append 46 = .ok (.ireturn, 1) := by decide +kernel
theorem dX2_remove_0 : decode cX2_remove 0 = .ok (.aload_n 0, 1) := by decide +kernel
theorem dX2_remove_1 : decode cX2_remove 1 = .ok (.dup, 1) := by decide +kernel
theorem dX2_remove_2 : decode cX2_remove 2 = .ok (.getfield 25, 3) := by decide +kernel
theorem dX2_remove_5 : decode cX2_remove 5 = .ok (.iconst 1, 1) := by decide +kernel
theorem dX2_remove_6 : decode cX2_remove 6 = .ok (.isub, 1) := by decide +kernel
theorem dX2_remove_7 : decode cX2_remove 7 = .ok (.putfield 25, 3) := by decide +kernel
theorem dX2_remove_10 : decode cX2_remove 10 = .ok (.iload_n 1, 1) := by decide +kernel
theorem dX2_remove_11 : decode cX2_remove 11 = .ok (.istore_n 2, 1) := by decide +kernel
theorem dX2_remove_12 : decode cX2_remove 12 = .ok (.iload_n 2, 1) := by decide +kernel
theorem dX2_remove_13 : decode cX2_remove 13 = .ok (.aload_n 0, 1) := by decide +kernel
theorem dX2_remove_14 : decode cX2_remove 14 = .ok (.getfield 25, 3) := by decide +kernel
theorem dX2_remove_17 : decode cX2_remove 17 = .ok (.if_icmp .ge 51, 3) := by decide +kernel
theorem dX2_remove_20 : decode cX2_remove 20 = .ok (.aload_n 0, 1) := by decide +kernel
theorem dX2_remove_21 : decode cX2_remove 21 = .ok (.getfield 9, 3) := by decide +kernel
theorem dX2_remove_24 : decode cX2_remove 24 = .ok (.iload_n 2, 1) := by decide +kernel
theorem dX2_remove_25 : decode cX2_remove 25 = .ok (.aload_n 0, 1) := by decide +kernel
theorem dX2_remove_26 : decode cX2_remove 26 = .ok (.getfield 9, 3) := by decide +kernel
theorem dX2_remove_29 : decode cX2_remove 29 = .ok (.iload_n 2, 1) := by decide +kernel
theorem dX2_remove_30 : decode cX2_remove 30 = .ok (.iconst 1, 1) := by decide +kernel
theorem dX2_remove_31 : decode cX2_remove 31 = .ok (.iadd, 1) := by decide +kernel
theorem dX2_remove_32 : decode cX2_remove 32 = .ok (.iaload, 1) := by decide +kernel
theorem dX2_remove_33 : decode cX2_remove 33 = .ok (.iastore, 1) := by decide +kernel
theorem dX2_remove_34 : decode cX2_remove 34 = .ok (.aload_n 0, 1) := by decide +kernel
theorem dX2_remove_35 : decode cX2_remove 35 = .ok (.getfield 15, 3) := by decide +kernel
theorem dX2_remove_38 : decode cX2_remove 38 = .ok (.iload_n 2, 1) := by decide +kernel
theorem dX2_remove_39 : decode cX2_remove 39 = .ok (.aload_n 0, 1) := by decide +kernel
theorem dX2_remove_40 : decode cX2_remove 40 = .ok (.getfield 15, 3) := by decide +kernel
theorem dX2_remove_43 : decode cX2_remove 43 = .ok (.iload_n 2, 1) := by decide +kernel
theorem dX2_remove_44 : decode cX2_remove 44 = .ok (.iconst 1, 1) := by decide +kernel
theorem dX2_remove_45 : decode cX2_remove 45 = .ok (.iadd, 1) := by decide +kernel
theorem dX2_remove_46 : decode cX2_remove 46 = .ok (.iaload, 1) := by decide +kernel
theorem dX2_remove_47 : decode cX2_remove 47 = .ok (.iastore, 1) := by decide +kernel
theorem dX2_remove_48 : decode cX2_remove 48 = .ok (.aload_n 0, 1) := by decide +kernel
theorem dX2_remove_49 : decode cX2_remove 49 = .ok (.getfield 18, 3) := by decide +kernel
theorem dX2_remove_52 : decode cX2_remove 52 = .ok (.iload_n 2, 1) := by decide +kernel
theorem dX2_remove_53 : decode cX2_remove 53 = .ok (.aload_n 0, 1) := by decide +kernel
theorem dX2_remove_54 : decode cX2_remove 54 = .ok (.getfield 18, 3) := by decide +kernel
theorem dX2_remove_57 : decode cX2_remove 57 = .ok (.iload_n 2, 1) := by decide +kernel
theorem dX2_remove_58 : decode cX2_remove 58 = .ok (.iconst 1, 1) := by decide +kernel
theorem dX2_remove_59 : decode cX2_remove 59 = .ok (.iadd, 1) := by decide +kernel
theorem dX2_remove_60 : decode cX2_remove 60 = .ok (.iaload, 1) := by decide +kernel
theorem dX2_remove_61 : decode cX2_remove 61 = .ok (.iastore, 1) := by decide +kernel
theorem dX2_remove_62 : decode cX2_remove 62 = .ok (.iinc 2 1, 3) := by decide +kernel
theorem dX2_remove_65 : decode cX2_remove 65 = .ok (.goto (-53), 3) := by decide +kernel
theorem dX2_remove_68 : decode cX2_remove 68 = .ok (.return_, 1) := by decide +kernel
set_option maxRecDepth 20000 in
theorem ggX2_merge_X2_renumbered : GoodIn wsX2_merge wsX2_renumbered := goodIn_r _ [8] (by decide +kernel) (by decide +kernel)
set_option maxRecDepth 20000 in
theorem gX2_merge_X2_renumbered : GoodIn wsX2_merge (va_wsS RX2 28 yX2_renumbered wsX2_renumbered) := goodIn_app (goodIn_of _ (by decide +kernel)) ggX2_merge_X2_renumbered
theorem dX2_merge_0 : decode cX2_merge 0 = .ok (.iconst 0, 1) := by decide +kernel
theorem dX2_merge_1 : decode cX2_merge 1 = .ok (.istore_n 3, 1) := by decide +kernel
theorem dX2_merge_2 : decode cX2_merge 2 = .ok (.iload_n 3, 1) := by decide +kernel
theorem dX2_merge_3 : decode cX2_merge 3 = .ok (.aload_n 0, 1) := by decide +kernel
theorem dX2_merge_4 : decode cX2_merge 4 = .ok (.getfield 25, 3) := by decide +kernel
theorem dX2_merge_7 : decode cX2_merge 7 = .ok (.if_icmp .ge 43, 3) := by decide +kernel
theorem dX2_merge_10 : decode cX2_merge 10 = .ok (.aload_n 0, 1) := by decide +kernel
theorem dX2_merge_11 : decode cX2_merge 11 = .ok (.getfield 9, 3) := by decide +kernel
theorem dX2_merge_14 : decode cX2_merge 14 = .ok (.iload_n 3, 1) := by decide +kernel
theorem dX2_merge_15 : decode cX2_merge 15 = .ok (.aload_n 0, 1) := by decide +kernel
theorem dX2_merge_16 : decode cX2_merge 16 = .ok (.getfield 9, 3) := by decide +kernel
theorem dX2_merge_19 : decode cX2_merge 19 = .ok (.iload_n 3, 1) := by decide +kernel
theorem dX2_merge_20 : decode cX2_merge 20 = .ok (.iaload, 1) := by decide +kernel
theorem dX2_merge_21 : decode cX2_merge 21 = .ok (.iload_n 1, 1) := by decide +kernel
theorem dX2_merge_22 : decode cX2_merge 22 = .ok (.iload_n 2, 1) := by decide +kernel
theorem dX2_merge_23 : decode cX2_merge 23 = .ok (.invokestatic 28, 3) := by decide +kernel
theorem dX2_merge_26 : decode cX2_merge 26 = .ok (.iastore, 1) := by decide +kernel
theorem dX2_merge_27 : decode cX2_merge 27 = .ok (.aload_n 0, 1) := by decide +kernel
theorem dX2_merge_28 : decode cX2_merge 28 = .ok (.getfield 15, 3) := by decide +kernel
theorem dX2_merge_31 : decode cX2_merge 31 = .ok (.iload_n 3, 1) := by decide +kernel
theorem dX2_merge_32 : decode cX2_merge 32 = .ok (.aload_n 0, 1) := by decide +kernel
theorem dX2_merge_33 : decode cX2_merge 33 = .ok (.getfield 15, 3) := by decide +kernel
theorem dX2_merge_36 : decode cX2_merge 36 = .ok (.iload_n 3, 1) := by decide +kernel
theorem dX2_merge_37 : decode cX2_merge 37 = .ok (.iaload, 1) := by decide +kernel
theorem dX2_merge_38 : decode cX2_merge 38 = .ok (.iload_n 1, 1) := by decide +kernel
theorem dX2_merge_39 : decode cX2_merge 39 = .ok (.iload_n 2, 1) := by decide +kernel
theorem dX2_merge_40 : decode cX2_merge 40 = .ok (.invokestatic 28, 3) := by decide +kernel
theorem dX2_merge_43 : decode cX2_merge 43 = .ok (.iastore, 1) := by decide +kernel
theorem dX2_merge_44 : decode cX2_merge 44 = .ok (.iinc 3 1, 3) := by decide +kernel
theorem dX2_merge_47 : decode cX2_merge 47 = .ok (.goto (-45), 3) := by decide +kernel
theorem dX2_merge_50 : decode cX2_merge 50 = .ok (.aload_n 0, 1) := by decide +kernel
theorem dX2_merge_51 : decode cX2_merge 51 = .ok (.dup, 1) := by decide +kernel
theorem dX2_merge_52 : decode cX2_merge 52 = .ok (.getfield 21, 3) := by decide +kernel
theorem dX2_merge_55 : decode cX2_merge 55 = .ok (.iconst 1, 1) := by decide +kernel
theorem dX2_merge_56 : decode cX2_merge 56 = .ok (.isub, 1) := by decide +kernel
theorem dX2_merge_57 : decode cX2_merge 57 = .ok (.putfield 21, 3) := by decide +kernel
theorem dX2_merge_60 : decode cX2_merge 60 = .ok (.return_, 1) := by decide +kernel
theorem dX2_renumbered_0 : decode cX2_renumbered 0 = .ok (.iload_n 0, 1) := by decide +kernel
theorem dX2_renumbered_1 : decode cX2_renumbered 1 = .ok (.iload_n 2, 1) := by decide +kernel
theorem dX2_renumbered_2 : decode cX2_renumbered 2 = .ok (.if_icmp .ne 7, 3) := by decide +kernel
theorem dX2_renumbered_5 : decode cX2_renumbered 5 = .ok (.iload_n 1, 1) := by decide +kernel
theorem dX2_renumbered_6 : decode cX2_renumbered 6 = .ok (.goto 4, 3) := by decide +kernel
theorem dX2_renumbered_9 : decode cX2_renumbered 9 = .ok (.iload_n 0, 1) := by decide +kernel
theorem dX2_renumbered_10 : decode cX2_renumbered 10 = .ok (.istore_n 3, 1) := by decide +kernel
theorem dX2_renumbered_11 : decode cX2_renumbered 11 = .ok (.iload_n 3, 1) := by decide +kernel
theorem dX2_renumbered_12 : decode cX2_renumbered 12 = .ok (.iload_n 2, 1) := by decide +kernel
theorem dX2_renumbered_13 : decode cX2_renumbered 13 = .ok (.if_icmp .le 9, 3) := by decide +kernel
theorem dX2_renumbered_16 : decode cX2_renumbered 16 = .ok (.iload_n 3, 1) := by decide +kernel
theorem dX2_renumbered_17 : decode cX2_renumbered 17 = .ok (.iconst 1, 1) := by decide +kernel
theorem dX2_renumbered_18 : decode cX2_renumbered 18 = .ok (.isub, 1) := by decide +kernel
theorem dX2_renumbered_19 : decode cX2_renumbered 19 = .ok (.goto 4, 3) := by decide +kernel
theorem dX2_renumbered_22 : decode cX2_renumbered 22 = .ok (.iload_n 3, 1) := by decide +kernel
theorem dX2_renumbered_23 : decode cX2_renumbered 23 = .ok (.ireturn, 1) := by decide +kernel
set_option maxRecDepth 20000 in
theorem ggX2_isSide_X2_allNodes : GoodIn wsX2_isSide wsX2_allNodes := goodIn_r _ [5, 6, 21, 22, 23, 24, 25] (by decide +kernel) (by decide +kernel)
set_option maxRecDepth 20000 in
theorem gX2_isSide_X2_allNodes : GoodIn wsX2_isSide (wsV RX2 32 RX2 yX2_allNodes wsX2_allNodes) := goodIn_app (goodIn_of _ (by decide +kernel)) ggX2_isSide_X2_allNodes
set_option maxRecDepth 20000 in
theorem ggX2_isSide_X2_leaving : GoodIn wsX2_isSide wsX2_leaving := goodIn_r _ [10, 1, 2, 3, 4, 5, 6, 11, 12, 13, 14, 15, 16, 17, 18, 19, 20, 21, 22, 23, 24, 25] (by decide +kernel) (by decide +kernel)
set_option maxRecDepth 20000 in
theorem gX2_isSide_X2_leaving : GoodIn wsX2_isSide (wsV RX2 36 RX2 yX2_leaving wsX2_leaving) := goodIn_app (goodIn_of _ (by decide +kernel)) ggX2_isSide_X2_leaving
theorem dX2_isSide_0 : decode cX2_isSide 0 = .ok (.iload_n 1, 1) := by decide +kernel
theorem dX2_isSide_1 : decode cX2_isSide 1 = .ok (.ifCond .le 23, 3) := by decide +kernel
theorem dX2_isSide_4 : decode cX2_isSide 4 = .ok (.iload_n 1, 1) := by decide +kernel
theorem dX2_isSide_5 : decode cX2_isSide 5 = .ok (.aload_n 0, 1) := by decide +kernel
theorem dX2_isSide_6 : decode cX2_isSide 6 = .ok (.invokevirtual 32, 3) := by decide +kernel
theorem dX2_isSide_9 : decode cX2_isSide 9 = .ok (.if_icmp .ge 15, 3) := by decide +kernel
theorem dX2_isSide_12 : decode cX2_isSide 12 = .ok (.aload_n 0, 1) := by decide +kernel
theorem dX2_isSide_13 : decode cX2_isSide 13 = .ok (.iload_n 1, 1) := by decide +kernel
theorem dX2_isSide_14 : decode cX2_isSide 14 = .ok (.invokevirtual 36, 3) := by decide +kernel
theorem dX2_isSide_17 : decode cX2_isSide 17 = .ok (.ifCond .ne 7, 3) := by decide +kernel
theorem dX2_isSide_20 : decode cX2_isSide 20 = .ok (.iconst 1, 1) := by decide +kernel
theorem dX2_isSide_21 : decode cX2_isSide 21 = .ok (.goto 4, 3) := by decide +kernel
theorem dX2_isSide_24 : decode cX2_isSide 24 = .ok (.iconst 0, 1) := by decide +kernel
theorem dX2_isSide_25 : decode cX2_isSide 25 = .ok (.ireturn, 1) := by decide +kernel
set_option maxRecDepth 20000 in
theorem ggX2_entering_X6_contains : GoodIn wsX2_entering wsX6_contains := goodIn_r _ [6] (by decide +kernel) (by decide +kernel)
set_option maxRecDepth 20000 in
theorem gX2_entering_X6_contains_n40 : GoodIn wsX2_entering (wsX6_contains) := ggX2_entering_X6_contains
theorem dX2_entering_0 : decode cX2_entering 0 = .ok (.iconst 0, 1) := by decide +kernel
theorem dX2_entering_1 : decode cX2_entering 1 = .ok (.istore_n 2, 1) := by decide +kernel
theorem dX2_entering_2 : decode cX2_entering 2 = .ok (.iconst 0, 1) := by decide +kernel
theorem dX2_entering_3 : decode cX2_entering 3 = .ok (.istore_n 3, 1) := by decide +kernel
theorem dX2_entering_4 : decode cX2_entering 4 = .ok (.iload_n 3, 1) := by decide +kernel
theorem dX2_entering_5 : decode cX2_entering 5 = .ok (.aload_n 0, 1) := by decide +kernel
theorem dX2_entering_6 : decode cX2_entering 6 = .ok (.getfield 25, 3) := by decide +kernel
theorem dX2_entering_9 : decode cX2_entering 9 = .ok (.if_icmp .ge 41, 3) := by decide +kernel
theorem dX2_entering_12 : decode cX2_entering 12 = .ok (.iload_n 1, 1) := by decide +kernel
theorem dX2_entering_13 : decode cX2_entering 13 = .ok (.aload_n 0, 1) := by decide +kernel
theorem dX2_entering_14 : decode cX2_entering 14 = .ok (.getfield 15, 3) := by decide +kernel
theorem dX2_entering_17 : decode cX2_entering 17 = .ok (.iload_n 3, 1) := by decide +kernel
theorem dX2_entering_18 : decode cX2_entering 18 = .ok (.iaload, 1) := by decide +kernel
theorem dX2_entering_19 : decode cX2_entering 19 = .ok (.invokestatic 40, 3) := by decide +kernel
theorem dX2_entering_22 : decode cX2_entering 22 = .ok (.ifCond .eq 22, 3) := by decide +kernel
theorem dX2_entering_25 : decode cX2_entering 25 = .ok (.iload_n 1, 1) := by decide +kernel
theorem dX2_entering_26 : decode cX2_entering 26 = .ok (.aload_n 0, 1) := by decide +kernel
theorem dX2_entering_27 : decode cX2_entering 27 = .ok (.getfield 9, 3) := by decide +kernel
theorem dX2_entering_30 : decode cX2_entering 30 = .ok (.iload_n 3, 1) := by decide +kernel
theorem dX2_entering_31 : decode cX2_entering 31 = .ok (.iaload, 1) := by decide +kernel
theorem dX2_entering_32 : decode cX2_entering 32 = .ok (.invokestatic 40, 3) := by decide +kernel
theorem dX2_entering_35 : decode cX2_entering 35 = .ok (.ifCond .ne 9, 3) := by decide +kernel
theorem dX2_entering_38 : decode cX2_entering 38 = .ok (.iload_n 2, 1) := by decide +kernel
theorem dX2_entering_39 : decode cX2_entering 39 = .ok (.iconst 1, 1) := by decide +kernel
theorem dX2_entering_40 : decode cX2_entering 40 = .ok (.iload_n 3, 1) := by decide +kernel
theorem dX2_entering_41 : decode cX2_entering 41 = .ok (.ishl, 1) := by decide +kernel
theorem dX2_entering_42 : decode cX2_entering 42 = .ok (.ior, 1) := by decide +kernel
theorem dX2_entering_43 : decode cX2_entering 43 = .ok (.istore_n 2, 1) := by decide +kernel
theorem dX2_entering_44 : decode cX2_entering 44 = .ok (.iinc 3 1, 3) := by decide +kernel
theorem dX2_entering_47 : decode cX2_entering 47 = .ok (.goto (-43), 3) := by decide +kernel
theorem dX2_entering_50 : decode cX2_entering 50 = .ok (.iload_n 2, 1) := by decide +kernel
theorem dX2_entering_51 : decode cX2_entering 51 = .ok (.ireturn, 1) := by decide +kernel
set_option maxRecDepth 20000 in
theorem ggX2_leaving_X2_allNodes : GoodIn wsX2_leaving wsX2_allNodes := goodIn_r _ [5, 6, 17, 18, 19, 20, 21] (by decide +kernel) (by decide +kernel)
set_option maxRecDepth 20000 in
theorem gX2_leaving_X2_allNodes : GoodIn wsX2_leaving (wsV RX2 32 RX2 yX2_allNodes wsX2_allNodes) := goodIn_app (goodIn_of _ (by decide +kernel)) ggX2_leaving_X2_allNodes
set_option maxRecDepth 20000 in
theorem ggX2_leaving_X2_entering : GoodIn wsX2_leaving wsX2_entering := goodIn_r _ [10, 11, 12, 13, 14, 15, 16, 17, 18, 19, 20, 21] (by decide +kernel) (by decide +kernel)
set_option maxRecDepth 20000 in
theorem gX2_leaving_X2_entering : GoodIn wsX2_leaving (wsV RX2 44 RX2 yX2_entering wsX2_entering) := goodIn_app (goodIn_of _ (by decide +kernel)) ggX2_leaving_X2_entering
theorem dX2_leaving_0 : decode cX2_leaving 0 = .ok (.aload_n 0, 1) := by decide +kernel
theorem dX2_leaving_1 : decode cX2_leaving 1 = .ok (.aload_n 0, 1) := by decide +kernel
theorem dX2_leaving_2 : decode cX2_leaving 2 = .ok (.invokevirtual 32, 3) := by decide +kernel
theorem dX2_leaving_5 : decode cX2_leaving 5 = .ok (.iload_n 1, 1) := by decide +kernel
theorem dX2_leaving_6 : decode cX2_leaving 6 = .ok (.iconst (-1), 1) := by decide +kernel
theorem dX2_leaving_7 : decode cX2_leaving 7 = .ok (.ixor, 1) := by decide +kernel
theorem dX2_leaving_8 : decode cX2_leaving 8 = .ok (.iand, 1) := by decide +kernel
theorem dX2_leaving_9 : decode cX2_leaving 9 = .ok (.invokevirtual 44, 3) := by decide +kernel
theorem dX2_leaving_12 : decode cX2_leaving 12 = .ok (.ireturn, 1) := by decide +kernel
set_option maxRecDepth 20000 in
theorem ggX2_arcsFrom_X2_arcsAt : GoodIn wsX2_arcsFrom wsX2_arcsAt := goodIn_r _ [6, 7, 8, 9, 10, 11, 12] (by decide +kernel) (by decide +kernel)
set_option maxRecDepth 20000 in
theorem gX2_arcsFrom_X2_arcsAt : GoodIn wsX2_arcsFrom (wsV RX2 47 RX2 yX2_arcsAt wsX2_arcsAt) := goodIn_app (goodIn_of _ (by decide +kernel)) ggX2_arcsFrom_X2_arcsAt
theorem dX2_arcsFrom_0 : decode cX2_arcsFrom 0 = .ok (.aload_n 0, 1) := by decide +kernel
theorem dX2_arcsFrom_1 : decode cX2_arcsFrom 1 = .ok (.aload_n 0, 1) := by decide +kernel
theorem dX2_arcsFrom_2 : decode cX2_arcsFrom 2 = .ok (.getfield 9, 3) := by decide +kernel
theorem dX2_arcsFrom_5 : decode cX2_arcsFrom 5 = .ok (.iload_n 1, 1) := by decide +kernel
theorem dX2_arcsFrom_6 : decode cX2_arcsFrom 6 = .ok (.invokevirtual 47, 3) := by decide +kernel
theorem dX2_arcsFrom_9 : decode cX2_arcsFrom 9 = .ok (.ireturn, 1) := by decide +kernel
set_option maxRecDepth 20000 in
theorem ggX2_arcsTo_X2_arcsAt : GoodIn wsX2_arcsTo wsX2_arcsAt := goodIn_r _ [6, 7, 8, 9, 10, 11, 12] (by decide +kernel) (by decide +kernel)
set_option maxRecDepth 20000 in
theorem gX2_arcsTo_X2_arcsAt : GoodIn wsX2_arcsTo (wsV RX2 47 RX2 yX2_arcsAt wsX2_arcsAt) := goodIn_app (goodIn_of _ (by decide +kernel)) ggX2_arcsTo_X2_arcsAt
theorem dX2_arcsTo_0 : decode cX2_arcsTo 0 = .ok (.aload_n 0, 1) := by decide +kernel
theorem dX2_arcsTo_1 : decode cX2_arcsTo 1 = .ok (.aload_n 0, 1) := by decide +kernel
theorem dX2_arcsTo_2 : decode cX2_arcsTo 2 = .ok (.getfield 15, 3) := by decide +kernel
theorem dX2_arcsTo_5 : decode cX2_arcsTo 5 = .ok (.iload_n 1, 1) := by decide +kernel
theorem dX2_arcsTo_6 : decode cX2_arcsTo 6 = .ok (.invokevirtual 47, 3) := by decide +kernel
theorem dX2_arcsTo_9 : decode cX2_arcsTo 9 = .ok (.ireturn, 1) := by decide +kernel
theorem dX2_arcsAt_0 : decode cX2_arcsAt 0 = .ok (.iconst 0, 1) := by decide +kernel
theorem dX2_arcsAt_1 : decode cX2_arcsAt 1 = .ok (.istore_n 3, 1) := by decide +kernel
theorem dX2_arcsAt_2 : decode cX2_arcsAt 2 = .ok (.iconst 0, 1) := by decide +kernel
theorem dX2_arcsAt_3 : decode cX2_arcsAt 3 = .ok (.istore 4, 2) := by decide +kernel
theorem dX2_arcsAt_5 : decode cX2_arcsAt 5 = .ok (.iload 4, 2) := by decide +kernel
theorem dX2_arcsAt_7 : decode cX2_arcsAt 7 = .ok (.aload_n 0, 1) := by decide +kernel
theorem dX2_arcsAt_8 : decode cX2_arcsAt 8 = .ok (.getfield 25, 3) := by decide +kernel
theorem dX2_arcsAt_11 : decode cX2_arcsAt 11 = .ok (.if_icmp .ge 24, 3) := by decide +kernel
theorem dX2_arcsAt_14 : decode cX2_arcsAt 14 = .ok (.aload_n 1, 1) := by decide +kernel
theorem dX2_arcsAt_15 : decode cX2_arcsAt 15 = .ok (.iload 4, 2) := by decide +kernel
theorem dX2_arcsAt_17 : decode cX2_arcsAt 17 = .ok (.iaload, 1) := by decide +kernel
theorem dX2_arcsAt_18 : decode cX2_arcsAt 18 = .ok (.iload_n 2, 1) := by decide +kernel
theorem dX2_arcsAt_19 : decode cX2_arcsAt 19 = .ok (.if_icmp .ne 10, 3) := by decide +kernel
theorem dX2_arcsAt_22 : decode cX2_arcsAt 22 = .ok (.iload_n 3, 1) := by decide +kernel
theorem dX2_arcsAt_23 : decode cX2_arcsAt 23 = .ok (.iconst 1, 1) := by decide +kernel
theorem dX2_arcsAt_24 : decode cX2_arcsAt 24 = .ok (.iload 4, 2) := by decide +kernel
theorem dX2_arcsAt_26 : decode cX2_arcsAt 26 = .ok (.ishl, 1) := by decide +kernel
theorem dX2_arcsAt_27 : decode cX2_arcsAt 27 = .ok (.ior, 1) := by decide +kernel
theorem dX2_arcsAt_28 : decode cX2_arcsAt 28 = .ok (.istore_n 3, 1) := by decide +kernel
theorem dX2_arcsAt_29 : decode cX2_arcsAt 29 = .ok (.iinc 4 1, 3) := by decide +kernel
theorem dX2_arcsAt_32 : decode cX2_arcsAt 32 = .ok (.goto (-27), 3) := by decide +kernel
theorem dX2_arcsAt_35 : decode cX2_arcsAt 35 = .ok (.iload_n 3, 1) := by decide +kernel
theorem dX2_arcsAt_36 : decode cX2_arcsAt 36 = .ok (.ireturn, 1) := by decide +kernel
theorem dX2_copyFrom_0 : decode cX2_copyFrom 0 = .ok (.aload_n 0, 1) := by decide +kernel
theorem dX2_copyFrom_1 : decode cX2_copyFrom 1 = .ok (.aload_n 1, 1) := by decide +kernel
theorem dX2_copyFrom_2 : decode cX2_copyFrom 2 = .ok (.getfield 21, 3) := by decide +kernel
theorem dX2_copyFrom_5 : decode cX2_copyFrom 5 = .ok (.putfield 21, 3) := by decide +kernel
theorem dX2_copyFrom_8 : decode cX2_copyFrom 8 = .ok (.aload_n 0, 1) := by decide +kernel
theorem dX2_copyFrom_9 : decode cX2_copyFrom 9 = .ok (.aload_n 1, 1) := by decide +kernel
theorem dX2_copyFrom_10 : decode cX2_copyFrom 10 = .ok (.getfield 25, 3) := by decide +kernel
theorem dX2_copyFrom_13 : decode cX2_copyFrom 13 = .ok (.putfield 25, 3) := by decide +kernel
theorem dX2_copyFrom_16 : decode cX2_copyFrom 16 = .ok (.aload_n 1, 1) := by decide +kernel
theorem dX2_copyFrom_17 : decode cX2_copyFrom 17 = .ok (.getfield 9, 3) := by decide +kernel
theorem dX2_copyFrom_20 : decode cX2_copyFrom 20 = .ok (.iconst 0, 1) := by decide +kernel
theorem dX2_copyFrom_21 : decode cX2_copyFrom 21 = .ok (.aload_n 0, 1) := by decide +kernel
theorem dX2_copyFrom_22 : decode cX2_copyFrom 22 = .ok (.getfield 9, 3) := by decide +kernel
theorem dX2_copyFrom_25 : decode cX2_copyFrom 25 = .ok (.iconst 0, 1) := by decide +kernel
theorem dX2_copyFrom_26 : decode cX2_copyFrom 26 = .ok (.bipush 16, 2) := by decide +kernel
theorem dX2_copyFrom_28 : decode cX2_copyFrom 28 = .ok (.invokestatic 51, 3) := by decide +kernel
theorem dX2_copyFrom_31 : decode cX2_copyFrom 31 = .ok (.aload_n 1, 1) := by decide +kernel
theorem dX2_copyFrom_32 : decode cX2_copyFrom 32 = .ok (.getfield 15, 3) := by decide +kernel
theorem dX2_copyFrom_35 : decode cX2_copyFrom 35 = .ok (.iconst 0, 1) := by decide +kernel
theorem dX2_copyFrom_36 : decode cX2_copyFrom 36 = .ok (.aload_n 0, 1) := by decide +kernel
theorem dX2_copyFrom_37 : decode cX2_copyFrom 37 = .ok (.getfield 15, 3) := by decide +kernel
theorem dX2_copyFrom_40 : decode cX2_copyFrom 40 = .ok (.iconst 0, 1) := by decide +kernel
theorem dX2_copyFrom_41 : decode cX2_copyFrom 41 = .ok (.bipush 16, 2) := by decide +kernel
theorem dX2_copyFrom_43 : decode cX2_copyFrom 43 = .ok (.invokestatic 51, 3) := by decide +kernel
theorem dX2_copyFrom_46 : decode cX2_copyFrom 46 = .ok (.aload_n 1, 1) := by decide +kernel
theorem dX2_copyFrom_47 : decode cX2_copyFrom 47 = .ok (.getfield 18, 3) := by decide +kernel
theorem dX2_copyFrom_50 : decode cX2_copyFrom 50 = .ok (.iconst 0, 1) := by decide +kernel
theorem dX2_copyFrom_51 : decode cX2_copyFrom 51 = .ok (.aload_n 0, 1) := by decide +kernel
theorem dX2_copyFrom_52 : decode cX2_copyFrom 52 = .ok (.getfield 18, 3) := by decide +kernel
theorem dX2_copyFrom_55 : decode cX2_copyFrom 55 = .ok (.iconst 0, 1) := by decide +kernel
theorem dX2_copyFrom_56 : decode cX2_copyFrom 56 = .ok (.bipush 16, 2) := by decide +kernel
theorem dX2_copyFrom_58 : decode cX2_copyFrom 58 = .ok (.invokestatic 51, 3) := by decide +kernel
theorem dX2_copyFrom_61 : decode cX2_copyFrom 61 = .ok (.return_, 1) := by decide +kernel
theorem dX3_init_0 : decode cX3_init 0 = .ok (.aload_n 0, 1) := by decide +kernel
theorem dX3_init_1 : decode cX3_init 1 = .ok (.invokespecial 3, 3) := by decide +kernel
theorem dX3_init_4 : decode cX3_init 4 = .ok (.aload_n 0, 1) := by decide +kernel
theorem dX3_init_5 : decode cX3_init 5 = .ok (.bipush 8, 2) := by decide +kernel
theorem dX3_init_7 : decode cX3_init 7 = .ok (.newarray .int, 2) := by decide +kernel
theorem dX3_init_9 : decode cX3_init 9 = .ok (.putfield 9, 3) := by decide +kernel
theorem dX3_init_12 : decode cX3_init 12 = .ok (.aload_n 0, 1) := by decide +kernel
theorem dX3_init_13 : decode cX3_init 13 = .ok (.bipush 8, 2) := by decide +kernel
theorem dX3_init_15 : decode cX3_init 15 = .ok (.newarray .int, 2) := by decide +kernel
theorem dX3_init_17 : decode cX3_init 17 = .ok (.putfield 15, 3) := by decide +kernel
theorem dX3_init_20 : decode cX3_init 20 = .ok (.return_, 1) := by decide +kernel
set_option maxRecDepth 20000 in
theorem ggX3_follow_X6_contains : GoodIn wsX3_follow wsX6_contains := goodIn_r _ [9] (by decide +kernel) (by decide +kernel)
set_option maxRecDepth 20000 in
theorem gX3_follow_X6_contains_n34 : GoodIn wsX3_follow (wsX6_contains) := ggX3_follow_X6_contains
set_option maxRecDepth 20000 in
theorem ggX3_follow_X3_closeOnward : GoodIn wsX3_follow wsX3_closeOnward := goodIn_r _ [14, 2, 3, 7, 8, 9, 25, 26, 27] (by decide +kernel) (by decide +kernel)
set_option maxRecDepth 20000 in
theorem gX3_follow_X3_closeOnward : GoodIn wsX3_follow (wsV RX3 38 RX3 yX3_closeOnward wsX3_closeOnward) := goodIn_app (goodIn_of _ (by decide +kernel)) ggX3_follow_X3_closeOnward
set_option maxRecDepth 20000 in
theorem ggX3_follow_X3_turnToBack : GoodIn wsX3_follow wsX3_turnToBack := goodIn_r _ [18, 2, 19, 3, 25, 26, 27] (by decide +kernel) (by decide +kernel)
set_option maxRecDepth 20000 in
theorem gX3_follow_X3_turnToBack : GoodIn wsX3_follow (wsV RX3 41 RX3 yX3_turnToBack wsX3_turnToBack) := goodIn_app (goodIn_of _ (by decide +kernel)) ggX3_follow_X3_turnToBack
theorem dX3_follow_0 : decode cX3_follow 0 = .ok (.aload_n 0, 1) := by decide +kernel
theorem dX3_follow_1 : decode cX3_follow 1 = .ok (.aload_n 1, 1) := by decide +kernel
theorem dX3_follow_2 : decode cX3_follow 2 = .ok (.getfield 18, 3) := by decide +kernel
theorem dX3_follow_5 : decode cX3_follow 5 = .ok (.putfield 24, 3) := by decide +kernel
theorem dX3_follow_8 : decode cX3_follow 8 = .ok (.iconst 0, 1) := by decide +kernel
theorem dX3_follow_9 : decode cX3_follow 9 = .ok (.istore_n 3, 1) := by decide +kernel
theorem dX3_follow_10 : decode cX3_follow 10 = .ok (.iload_n 3, 1) := by decide +kernel
theorem dX3_follow_11 : decode cX3_follow 11 = .ok (.aload_n 0, 1) := by decide +kernel
theorem dX3_follow_12 : decode cX3_follow 12 = .ok (.getfield 24, 3) := by decide +kernel
theorem dX3_follow_15 : decode cX3_follow 15 = .ok (.if_icmp .ge 18, 3) := by decide +kernel
theorem dX3_follow_18 : decode cX3_follow 18 = .ok (.aload_n 0, 1) := by decide +kernel
theorem dX3_follow_19 : decode cX3_follow 19 = .ok (.getfield 9, 3) := by decide +kernel
theorem dX3_follow_22 : decode cX3_follow 22 = .ok (.iload_n 3, 1) := by decide +kernel
theorem dX3_follow_23 : decode cX3_follow 23 = .ok (.iconst 1, 1) := by decide +kernel
theorem dX3_follow_24 : decode cX3_follow 24 = .ok (.iload_n 3, 1) := by decide +kernel
theorem dX3_follow_25 : decode cX3_follow 25 = .ok (.ishl, 1) := by decide +kernel
theorem dX3_follow_26 : decode cX3_follow 26 = .ok (.iastore, 1) := by decide +kernel
theorem dX3_follow_27 : decode cX3_follow 27 = .ok (.iinc 3 1, 3) := by decide +kernel
theorem dX3_follow_30 : decode cX3_follow 30 = .ok (.goto (-20), 3) := by decide +kernel
theorem dX3_follow_33 : decode cX3_follow 33 = .ok (.iconst 0, 1) := by decide +kernel
theorem dX3_follow_34 : decode cX3_follow 34 = .ok (.istore_n 3, 1) := by decide +kernel
theorem dX3_follow_35 : decode cX3_follow 35 = .ok (.iload_n 3, 1) := by decide +kernel
theorem dX3_follow_36 : decode cX3_follow 36 = .ok (.aload_n 1, 1) := by decide +kernel
theorem dX3_follow_37 : decode cX3_follow 37 = .ok (.getfield 25, 3) := by decide +kernel
theorem dX3_follow_40 : decode cX3_follow 40 = .ok (.if_icmp .ge 61, 3) := by decide +kernel
theorem dX3_follow_43 : decode cX3_follow 43 = .ok (.aload_n 0, 1) := by decide +kernel
theorem dX3_follow_44 : decode cX3_follow 44 = .ok (.getfield 9, 3) := by decide +kernel
theorem dX3_follow_47 : decode cX3_follow 47 = .ok (.aload_n 1, 1) := by decide +kernel
theorem dX3_follow_48 : decode cX3_follow 48 = .ok (.getfield 28, 3) := by decide +kernel
theorem dX3_follow_51 : decode cX3_follow 51 = .ok (.iload_n 3, 1) := by decide +kernel
