theorem dX7_partOf_11 : decode cX7_partOf 11 = .ok (.iload_n 1, 1) := by decide +kernel
theorem dX7_partOf_12 : decode cX7_partOf 12 = .ok (.ishl, 1) := by decide +kernel
theorem dX7_partOf_13 : decode cX7_partOf 13 = .ok (.iconst 0, 1) := by decide +kernel
theorem dX7_partOf_14 : decode cX7_partOf 14 = .ok (.iconst 0, 1) := by decide +kernel
theorem dX7_partOf_15 : decode cX7_partOf 15 = .ok (.invokevirtual 123, 3) := by decide +kernel
theorem dX7_partOf_18 : decode cX7_partOf 18 = .ok (.iand, 1) := by decide +kernel
theorem dX7_partOf_19 : decode cX7_partOf 19 = .ok (.invokestatic 127, 3) := by decide +kernel
theorem dX7_partOf_22 : decode cX7_partOf 22 = .ok (.ireturn, 1) := by decide +kernel
set_option maxRecDepth 20000 in
theorem ggX7_begin_X7_in : GoodIn wsX7_begin wsX7_in := goodIn_r _ [9] (by decide +kernel) (by decide +kernel)
set_option maxRecDepth 20000 in
theorem gX7_begin_X7_in : GoodIn wsX7_begin (va_wsS RX7 130 yX7_in wsX7_in) := goodIn_app (goodIn_of _ (by decide +kernel)) ggX7_begin_X7_in
set_option maxRecDepth 20000 in
theorem ggX7_begin_X7_changed : GoodIn wsX7_begin wsX7_changed := goodIn_r _ [13, 14, 15, 16, 17, 18, 19, 20, 21, 22, 23, 24, 25, 26, 27, 28, 29, 30, 31, 32, 33, 34, 35, 36, 37, 38, 39, 40, 41, 42, 43, 44, 45, 46, 47, 48, 49] (by decide +kernel) (by decide +kernel)
set_option maxRecDepth 20000 in
theorem gX7_begin_X7_changed : GoodIn wsX7_begin (wsV RX7 140 RX7 yX7_changed wsX7_changed) := goodIn_app (goodIn_of _ (by decide +kernel)) ggX7_begin_X7_changed
theorem dX7_begin_0 : decode cX7_begin 0 = .ok (.aload_n 0, 1) := by decide +kernel
theorem dX7_begin_1 : decode cX7_begin 1 = .ok (.iconst 0, 1) := by decide +kernel
theorem dX7_begin_2 : decode cX7_begin 2 = .ok (.putfield 85, 3) := by decide +kernel
theorem dX7_begin_5 : decode cX7_begin 5 = .ok (.iload_n 1, 1) := by decide +kernel
theorem dX7_begin_6 : decode cX7_begin 6 = .ok (.iconst 1, 1) := by decide +kernel
theorem dX7_begin_7 : decode cX7_begin 7 = .ok (.bipush 8, 2) := by decide +kernel
theorem dX7_begin_9 : decode cX7_begin 9 = .ok (.invokestatic 130, 3) := by decide +kernel
theorem dX7_begin_12 : decode cX7_begin 12 = .ok (.ifCond .ne 5, 3) := by decide +kernel
theorem dX7_begin_15 : decode cX7_begin 15 = .ok (.iconst 0, 1) := by decide +kernel
theorem dX7_begin_16 : decode cX7_begin 16 = .ok (.ireturn, 1) := by decide +kernel
theorem dX7_begin_17 : decode cX7_begin 17 = .ok (.aload_n 0, 1) := by decide +kernel
theorem dX7_begin_18 : decode cX7_begin 18 = .ok (.iload_n 1, 1) := by decide +kernel
theorem dX7_begin_19 : decode cX7_begin 19 = .ok (.putfield 7, 3) := by decide +kernel
theorem dX7_begin_22 : decode cX7_begin 22 = .ok (.aload_n 0, 1) := by decide +kernel
theorem dX7_begin_23 : decode cX7_begin 23 = .ok (.iconst 0, 1) := by decide +kernel
theorem dX7_begin_24 : decode cX7_begin 24 = .ok (.putfield 95, 3) := by decide +kernel
theorem dX7_begin_27 : decode cX7_begin 27 = .ok (.aload_n 0, 1) := by decide +kernel
theorem dX7_begin_28 : decode cX7_begin 28 = .ok (.iconst 0, 1) := by decide +kernel
theorem dX7_begin_29 : decode cX7_begin 29 = .ok (.putfield 134, 3) := by decide +kernel
theorem dX7_begin_32 : decode cX7_begin 32 = .ok (.aload_n 0, 1) := by decide +kernel
theorem dX7_begin_33 : decode cX7_begin 33 = .ok (.iconst 0, 1) := by decide +kernel
theorem dX7_begin_34 : decode cX7_begin 34 = .ok (.putfield 137, 3) := by decide +kernel
theorem dX7_begin_37 : decode cX7_begin 37 = .ok (.aload_n 0, 1) := by decide +kernel
theorem dX7_begin_38 : decode cX7_begin 38 = .ok (.invokevirtual 140, 3) := by decide +kernel
theorem dX7_begin_41 : decode cX7_begin 41 = .ok (.iconst 1, 1) := by decide +kernel
theorem dX7_begin_42 : decode cX7_begin 42 = .ok (.ireturn, 1) := by decide +kernel
set_option maxRecDepth 20000 in
theorem ggX7_arc_X7_in : GoodIn wsX7_arc wsX7_in := goodIn_r _ [10] (by decide +kernel) (by decide +kernel)
set_option maxRecDepth 20000 in
theorem gX7_arc_X7_in : GoodIn wsX7_arc (va_wsS RX7 130 yX7_in wsX7_in) := goodIn_app (goodIn_of _ (by decide +kernel)) ggX7_arc_X7_in
set_option maxRecDepth 20000 in
theorem ggX7_arc_X7_changed : GoodIn wsX7_arc wsX7_changed := goodIn_r _ [14, 15, 16, 17, 18, 19, 20, 21, 22, 23, 24, 25, 26, 27, 28, 29, 30, 31, 32, 33, 34, 35, 36, 37, 38, 39, 40, 41, 42, 43, 44, 45, 46, 47, 48, 49, 50] (by decide +kernel) (by decide +kernel)
set_option maxRecDepth 20000 in
theorem gX7_arc_X7_changed : GoodIn wsX7_arc (wsV RX7 140 RX7 yX7_changed wsX7_changed) := goodIn_app (goodIn_of _ (by decide +kernel)) ggX7_arc_X7_changed
theorem dX7_arc_0 : decode cX7_arc 0 = .ok (.aload_n 0, 1) := by decide +kernel
theorem dX7_arc_1 : decode cX7_arc 1 = .ok (.iconst 0, 1) := by decide +kernel
theorem dX7_arc_2 : decode cX7_arc 2 = .ok (.putfield 85, 3) := by decide +kernel
theorem dX7_arc_5 : decode cX7_arc 5 = .ok (.aload_n 0, 1) := by decide +kernel
theorem dX7_arc_6 : decode cX7_arc 6 = .ok (.getfield 95, 3) := by decide +kernel
theorem dX7_arc_9 : decode cX7_arc 9 = .ok (.bipush 16, 2) := by decide +kernel
theorem dX7_arc_11 : decode cX7_arc 11 = .ok (.if_icmp .eq 42, 3) := by decide +kernel
theorem dX7_arc_14 : decode cX7_arc 14 = .ok (.iload_n 1, 1) := by decide +kernel
theorem dX7_arc_15 : decode cX7_arc 15 = .ok (.iconst 0, 1) := by decide +kernel
theorem dX7_arc_16 : decode cX7_arc 16 = .ok (.aload_n 0, 1) := by decide +kernel
theorem dX7_arc_17 : decode cX7_arc 17 = .ok (.getfield 7, 3) := by decide +kernel
theorem dX7_arc_20 : decode cX7_arc 20 = .ok (.iconst 1, 1) := by decide +kernel
theorem dX7_arc_21 : decode cX7_arc 21 = .ok (.isub, 1) := by decide +kernel
theorem dX7_arc_22 : decode cX7_arc 22 = .ok (.invokestatic 130, 3) := by decide +kernel
theorem dX7_arc_25 : decode cX7_arc 25 = .ok (.ifCond .eq 28, 3) := by decide +kernel
theorem dX7_arc_28 : decode cX7_arc 28 = .ok (.iload_n 2, 1) := by decide +kernel
theorem dX7_arc_29 : decode cX7_arc 29 = .ok (.iconst 0, 1) := by decide +kernel
theorem dX7_arc_30 : decode cX7_arc 30 = .ok (.aload_n 0, 1) := by decide +kernel
theorem dX7_arc_31 : decode cX7_arc 31 = .ok (.getfield 7, 3) := by decide +kernel
theorem dX7_arc_34 : decode cX7_arc 34 = .ok (.iconst 1, 1) := by decide +kernel
theorem dX7_arc_35 : decode cX7_arc 35 = .ok (.isub, 1) := by decide +kernel
theorem dX7_arc_36 : decode cX7_arc 36 = .ok (.invokestatic 130, 3) := by decide +kernel
theorem dX7_arc_39 : decode cX7_arc 39 = .ok (.ifCond .eq 14, 3) := by decide +kernel
theorem dX7_arc_42 : decode cX7_arc 42 = .ok (.iload_n 3, 1) := by decide +kernel
theorem dX7_arc_43 : decode cX7_arc 43 = .ok (.iconst 0, 1) := by decide +kernel
theorem dX7_arc_44 : decode cX7_arc 44 = .ok (.sipush 1000, 3) := by decide +kernel
theorem dX7_arc_47 : decode cX7_arc 47 = .ok (.invokestatic 130, 3) := by decide +kernel
theorem dX7_arc_50 : decode cX7_arc 50 = .ok (.ifCond .ne 5, 3) := by decide +kernel
theorem dX7_arc_53 : decode cX7_arc 53 = .ok (.iconst (-1), 1) := by decide +kernel
theorem dX7_arc_54 : decode cX7_arc 54 = .ok (.ireturn, 1) := by decide +kernel
theorem dX7_arc_55 : decode cX7_arc 55 = .ok (.aload_n 0, 1) := by decide +kernel
theorem dX7_arc_56 : decode cX7_arc 56 = .ok (.getfield 13, 3) := by decide +kernel
theorem dX7_arc_59 : decode cX7_arc 59 = .ok (.aload_n 0, 1) := by decide +kernel
theorem dX7_arc_60 : decode cX7_arc 60 = .ok (.getfield 95, 3) := by decide +kernel
theorem dX7_arc_63 : decode cX7_arc 63 = .ok (.iload_n 1, 1) := by decide +kernel
theorem dX7_arc_64 : decode cX7_arc 64 = .ok (.iastore, 1) := by decide +kernel
theorem dX7_arc_65 : decode cX7_arc 65 = .ok (.aload_n 0, 1) := by decide +kernel
theorem dX7_arc_66 : decode cX7_arc 66 = .ok (.getfield 17, 3) := by decide +kernel
theorem dX7_arc_69 : decode cX7_arc 69 = .ok (.aload_n 0, 1) := by decide +kernel
theorem dX7_arc_70 : decode cX7_arc 70 = .ok (.getfield 95, 3) := by decide +kernel
theorem dX7_arc_73 : decode cX7_arc 73 = .ok (.iload_n 2, 1) := by decide +kernel
theorem dX7_arc_74 : decode cX7_arc 74 = .ok (.iastore, 1) := by decide +kernel
theorem dX7_arc_75 : decode cX7_arc 75 = .ok (.aload_n 0, 1) := by decide +kernel
theorem dX7_arc_76 : decode cX7_arc 76 = .ok (.getfield 20, 3) := by decide +kernel
theorem dX7_arc_79 : decode cX7_arc 79 = .ok (.aload_n 0, 1) := by decide +kernel
theorem dX7_arc_80 : decode cX7_arc 80 = .ok (.getfield 95, 3) := by decide +kernel
theorem dX7_arc_83 : decode cX7_arc 83 = .ok (.iload_n 3, 1) := by decide +kernel
theorem dX7_arc_84 : decode cX7_arc 84 = .ok (.iastore, 1) := by decide +kernel
theorem dX7_arc_85 : decode cX7_arc 85 = .ok (.aload_n 0, 1) := by decide +kernel
theorem dX7_arc_86 : decode cX7_arc 86 = .ok (.dup, 1) := by decide +kernel
theorem dX7_arc_87 : decode cX7_arc 87 = .ok (.getfield 95, 3) := by decide +kernel
theorem dX7_arc_90 : decode cX7_arc 90 = .ok (.iconst 1, 1) := by decide +kernel
theorem dX7_arc_91 : decode cX7_arc 91 = .ok (.iadd, 1) := by decide +kernel
theorem dX7_arc_92 : decode cX7_arc 92 = .ok (.putfield 95, 3) := by decide +kernel
theorem dX7_arc_95 : decode cX7_arc 95 = .ok (.aload_n 0, 1) := by decide +kernel
theorem dX7_arc_96 : decode cX7_arc 96 = .ok (.invokevirtual 140, 3) := by decide +kernel
theorem dX7_arc_99 : decode cX7_arc 99 = .ok (.aload_n 0, 1) := by decide +kernel
theorem dX7_arc_100 : decode cX7_arc 100 = .ok (.getfield 95, 3) := by decide +kernel
theorem dX7_arc_103 : decode cX7_arc 103 = .ok (.iconst 1, 1) := by decide +kernel
theorem dX7_arc_104 : decode cX7_arc 104 = .ok (.isub, 1) := by decide +kernel
theorem dX7_arc_105 : decode cX7_arc 105 = .ok (.ireturn, 1) := by decide +kernel
set_option maxRecDepth 20000 in
theorem ggX7_isArc_X7_in : GoodIn wsX7_isArc wsX7_in := goodIn_r _ [5] (by decide +kernel) (by decide +kernel)
set_option maxRecDepth 20000 in
theorem gX7_isArc_X7_in : GoodIn wsX7_isArc (va_wsS RX7 130 yX7_in wsX7_in) := goodIn_app (goodIn_of _ (by decide +kernel)) ggX7_isArc_X7_in
theorem dX7_isArc_0 : decode cX7_isArc 0 = .ok (.iload_n 1, 1) := by decide +kernel
theorem dX7_isArc_1 : decode cX7_isArc 1 = .ok (.iconst 0, 1) := by decide +kernel
theorem dX7_isArc_2 : decode cX7_isArc 2 = .ok (.aload_n 0, 1) := by decide +kernel
theorem dX7_isArc_3 : decode cX7_isArc 3 = .ok (.getfield 95, 3) := by decide +kernel
theorem dX7_isArc_6 : decode cX7_isArc 6 = .ok (.iconst 1, 1) := by decide +kernel
theorem dX7_isArc_7 : decode cX7_isArc 7 = .ok (.isub, 1) := by decide +kernel
theorem dX7_isArc_8 : decode cX7_isArc 8 = .ok (.invokestatic 130, 3) := by decide +kernel
theorem dX7_isArc_11 : decode cX7_isArc 11 = .ok (.ireturn, 1) := by decide +kernel
set_option maxRecDepth 20000 in
theorem ggX7_isNode_X7_in : GoodIn wsX7_isNode wsX7_in := goodIn_r _ [5] (by decide +kernel) (by decide +kernel)
set_option maxRecDepth 20000 in
theorem gX7_isNode_X7_in : GoodIn wsX7_isNode (va_wsS RX7 130 yX7_in wsX7_in) := goodIn_app (goodIn_of _ (by decide +kernel)) ggX7_isNode_X7_in
theorem dX7_isNode_0 : decode cX7_isNode 0 = .ok (.iload_n 1, 1) := by decide +kernel
theorem dX7_isNode_1 : decode cX7_isNode 1 = .ok (.iconst 0, 1) := by decide +kernel
theorem dX7_isNode_2 : decode cX7_isNode 2 = .ok (.aload_n 0, 1) := by decide +kernel
theorem dX7_isNode_3 : decode cX7_isNode 3 = .ok (.getfield 7, 3) := by decide +kernel
theorem dX7_isNode_6 : decode cX7_isNode 6 = .ok (.iconst 1, 1) := by decide +kernel
theorem dX7_isNode_7 : decode cX7_isNode 7 = .ok (.isub, 1) := by decide +kernel
theorem dX7_isNode_8 : decode cX7_isNode 8 = .ok (.invokestatic 130, 3) := by decide +kernel
theorem dX7_isNode_11 : decode cX7_isNode 11 = .ok (.ireturn, 1) := by decide +kernel
set_option maxRecDepth 20000 in
theorem ggX7_drop_X7_isArc : GoodIn wsX7_drop wsX7_isArc := goodIn_r _ [10, 2, 11, 12, 9, 13, 20, 21, 22, 23, 24, 25, 26, 27, 28, 29, 30, 31, 32, 33, 34, 35, 36, 37, 38, 39, 40, 41, 42, 43, 44, 45, 46, 47, 48, 49, 50, 51, 52, 53] (by decide +kernel) (by decide +kernel)
set_option maxRecDepth 20000 in
theorem gX7_drop_X7_isArc : GoodIn wsX7_drop (wsV RX7 143 RX7 yX7_isArc wsX7_isArc) := goodIn_app (goodIn_of _ (by decide +kernel)) ggX7_drop_X7_isArc
set_option maxRecDepth 20000 in
theorem ggX7_drop_X7_changed : GoodIn wsX7_drop wsX7_changed := goodIn_r _ [17, 18, 19, 20, 21, 22, 23, 24, 25, 26, 27, 28, 29, 30, 31, 32, 33, 34, 35, 36, 37, 38, 39, 40, 41, 42, 43, 44, 45, 46, 47, 48, 49, 50, 51, 52, 53] (by decide +kernel) (by decide +kernel)
set_option maxRecDepth 20000 in
theorem gX7_drop_X7_changed : GoodIn wsX7_drop (wsV RX7 140 RX7 yX7_changed wsX7_changed) := goodIn_app (goodIn_of _ (by decide +kernel)) ggX7_drop_X7_changed
theorem dX7_drop_0 : decode cX7_drop 0 = .ok (.aload_n 0, 1) := by decide +kernel
theorem dX7_drop_1 : decode cX7_drop 1 = .ok (.iconst 0, 1) := by decide +kernel
theorem dX7_drop_2 : decode cX7_drop 2 = .ok (.putfield 85, 3) := by decide +kernel
theorem dX7_drop_5 : decode cX7_drop 5 = .ok (.aload_n 0, 1) := by decide +kernel
theorem dX7_drop_6 : decode cX7_drop 6 = .ok (.iload_n 1, 1) := by decide +kernel
theorem dX7_drop_7 : decode cX7_drop 7 = .ok (.invokevirtual 143, 3) := by decide +kernel
theorem dX7_drop_10 : decode cX7_drop 10 = .ok (.ifCond .ne 5, 3) := by decide +kernel
theorem dX7_drop_13 : decode cX7_drop 13 = .ok (.iconst (-1), 1) := by decide +kernel
theorem dX7_drop_14 : decode cX7_drop 14 = .ok (.ireturn, 1) := by decide +kernel
theorem dX7_drop_15 : decode cX7_drop 15 = .ok (.aload_n 0, 1) := by decide +kernel
theorem dX7_drop_16 : decode cX7_drop 16 = .ok (.dup, 1) := by decide +kernel
theorem dX7_drop_17 : decode cX7_drop 17 = .ok (.getfield 95, 3) := by decide +kernel
theorem dX7_drop_20 : decode cX7_drop 20 = .ok (.iconst 1, 1) := by decide +kernel
theorem dX7_drop_21 : decode cX7_drop 21 = .ok (.isub, 1) := by decide +kernel
theorem dX7_drop_22 : decode cX7_drop 22 = .ok (.putfield 95, 3) := by decide +kernel
theorem dX7_drop_25 : decode cX7_drop 25 = .ok (.iload_n 1, 1) := by decide +kernel
theorem dX7_drop_26 : decode cX7_drop 26 = .ok (.istore_n 2, 1) := by decide +kernel
theorem dX7_drop_27 : decode cX7_drop 27 = .ok (.iload_n 2, 1) := by decide +kernel
theorem dX7_drop_28 : decode cX7_drop 28 = .ok (.aload_n 0, 1) := by decide +kernel
theorem dX7_drop_29 : decode cX7_drop 29 = .ok (.getfield 95, 3) := by decide +kernel
theorem dX7_drop_32 : decode cX7_drop 32 = .ok (.if_icmp .ge 51, 3) := by decide +kernel
theorem dX7_drop_35 : decode cX7_drop 35 = .ok (.aload_n 0, 1) := by decide +kernel
theorem dX7_drop_36 : decode cX7_drop 36 = .ok (.getfield 13, 3) := by decide +kernel
theorem dX7_drop_39 : decode cX7_drop 39 = .ok (.iload_n 2, 1) := by decide +kernel
theorem dX7_drop_40 : decode cX7_drop 40 = .ok (.aload_n 0, 1) := by decide +kernel
theorem dX7_drop_41 : decode cX7_drop 41 = .ok (.getfield 13, 3) := by decide +kernel
theorem dX7_drop_44 : decode cX7_drop 44 = .ok (.iload_n 2, 1) := by decide +kernel
theorem dX7_drop_45 : decode cX7_drop 45 = .ok (.iconst 1, 1) := by decide +kernel
theorem dX7_drop_46 : decode cX7_drop 46 = .ok (.iadd, 1) := by decide +kernel
theorem dX7_drop_47 : decode cX7_drop 47 = .ok (.iaload, 1) := by decide +kernel
theorem dX7_drop_48 : decode cX7_drop 48 = .ok (.iastore, 1) := by decide +kernel
theorem dX7_drop_49 : decode cX7_drop 49 = .ok (.aload_n 0, 1) := by decide +kernel
theorem dX7_drop_50 : decode cX7_drop 50 = .ok (.getfield 17, 3) := by decide +kernel
theorem dX7_drop_53 : decode cX7_drop 53 = .ok (.iload_n 2, 1) := by decide +kernel
theorem dX7_drop_54 : decode cX7_drop 54 = .ok (.aload_n 0, 1) := by decide +kernel
theorem dX7_drop_55 : decode cX7_drop 55 = .ok (.getfield 17, 3) := by decide +kernel
theorem dX7_drop_58 : decode cX7_drop 58 = .ok (.iload_n 2, 1) := by decide +kernel
theorem dX7_drop_59 : decode cX7_drop 59 = .ok (.iconst 1, 1) := by decide +kernel
theorem dX7_drop_60 : decode cX7_drop 60 = .ok (.iadd, 1) := by decide +kernel
theorem dX7_drop_61 : decode cX7_drop 61 = .ok (.iaload, 1) := by decide +kernel
theorem dX7_drop_62 : decode cX7_drop 62 = .ok (.iastore, 1) := by decide +kernel
theorem dX7_drop_63 : decode cX7_drop 63 = .ok (.aload_n 0, 1) := by decide +kernel
theorem dX7_drop_64 : decode cX7_drop 64 = .ok (.getfield 20, 3) := by decide +kernel
theorem dX7_drop_67 : decode cX7_drop 67 = .ok (.iload_n 2, 1) := by decide +kernel
theorem dX7_drop_68 : decode cX7_drop 68 = .ok (.aload_n 0, 1) := by decide +kernel
theorem dX7_drop_69 : decode cX7_drop 69 = .ok (.getfield 20, 3) := by decide +kernel
theorem dX7_drop_72 : decode cX7_drop 72 = .ok (.iload_n 2, 1) := by decide +kernel
theorem dX7_drop_73 : decode cX7_drop 73 = .ok (.iconst 1, 1) := by decide +kernel
theorem dX7_drop_74 : decode cX7_drop 74 = .ok (.iadd, 1) := by decide +kernel
theorem dX7_drop_75 : decode cX7_drop 75 = .ok (.iaload, 1) := by decide +kernel
theorem dX7_drop_76 : decode cX7_drop 76 = .ok (.iastore, 1) := by decide +kernel
theorem dX7_drop_77 : decode cX7_drop 77 = .ok (.iinc 2 1, 3) := by decide +kernel
theorem dX7_drop_80 : decode cX7_drop 80 = .ok (.goto (-53), 3) := by decide +kernel
theorem dX7_drop_83 : decode cX7_drop 83 = .ok (.aload_n 0, 1) := by decide +kernel
theorem dX7_drop_84 : decode cX7_drop 84 = .ok (.invokevirtual 140, 3) := by decide +kernel
theorem dX7_drop_87 : decode cX7_drop 87 = .ok (.aload_n 0, 1) := by decide +kernel
theorem dX7_drop_88 : decode cX7_drop 88 = .ok (.getfield 95, 3) := by decide +kernel
theorem dX7_drop_91 : decode cX7_drop 91 = .ok (.ireturn, 1) := by decide +kernel
set_option maxRecDepth 20000 in
theorem ggX7_weigh_X7_isArc : GoodIn wsX7_weigh wsX7_isArc := goodIn_r _ [7, 8, 9, 10, 6, 11, 12, 13, 14, 15, 16, 17, 18, 19, 20, 21, 22, 23, 24, 25, 26, 27, 28, 29, 30, 31, 32, 33, 34, 35, 36, 37, 38, 39, 40, 41, 42, 43, 44, 45] (by decide +kernel) (by decide +kernel)
set_option maxRecDepth 20000 in
theorem gX7_weigh_X7_isArc : GoodIn wsX7_weigh (wsV RX7 143 RX7 yX7_isArc wsX7_isArc) := goodIn_app (goodIn_of _ (by decide +kernel)) ggX7_weigh_X7_isArc
set_option maxRecDepth 20000 in
theorem ggX7_weigh_X7_in : GoodIn wsX7_weigh wsX7_in := goodIn_r _ [11] (by decide +kernel) (by decide +kernel)
set_option maxRecDepth 20000 in
theorem gX7_weigh_X7_in : GoodIn wsX7_weigh (va_wsS RX7 130 yX7_in wsX7_in) := goodIn_app (goodIn_of _ (by decide +kernel)) ggX7_weigh_X7_in
theorem dX7_weigh_0 : decode cX7_weigh 0 = .ok (.aload_n 0, 1) := by decide +kernel
theorem dX7_weigh_1 : decode cX7_weigh 1 = .ok (.iconst 0, 1) := by decide +kernel
theorem dX7_weigh_2 : decode cX7_weigh 2 = .ok (.putfield 85, 3) := by decide +kernel
theorem dX7_weigh_5 : decode cX7_weigh 5 = .ok (.aload_n 0, 1) := by decide +kernel
theorem dX7_weigh_6 : decode cX7_weigh 6 = .ok (.iload_n 1, 1) := by decide +kernel
theorem dX7_weigh_7 : decode cX7_weigh 7 = .ok (.invokevirtual 143, 3) := by decide +kernel
theorem dX7_weigh_10 : decode cX7_weigh 10 = .ok (.ifCond .eq 14, 3) := by decide +kernel
theorem dX7_weigh_13 : decode cX7_weigh 13 = .ok (.iload_n 2, 1) := by decide +kernel
theorem dX7_weigh_14 : decode cX7_weigh 14 = .ok (.iconst 0, 1) := by decide +kernel
theorem dX7_weigh_15 : decode cX7_weigh 15 = .ok (.sipush 1000, 3) := by decide +kernel
theorem dX7_weigh_18 : decode cX7_weigh 18 = .ok (.invokestatic 130, 3) := by decide +kernel
theorem dX7_weigh_21 : decode cX7_weigh 21 = .ok (.ifCond .ne 5, 3) := by decide +kernel
theorem dX7_weigh_24 : decode cX7_weigh 24 = .ok (.iconst (-1), 1) := by decide +kernel
theorem dX7_weigh_25 : decode cX7_weigh 25 = .ok (.ireturn, 1) := by decide +kernel
theorem dX7_weigh_26 : decode cX7_weigh 26 = .ok (.aload_n 0, 1) := by decide +kernel
theorem dX7_weigh_27 : decode cX7_weigh 27 = .ok (.getfield 20, 3) := by decide +kernel
theorem dX7_weigh_30 : decode cX7_weigh 30 = .ok (.iload_n 1, 1) := by decide +kernel
theorem dX7_weigh_31 : decode cX7_weigh 31 = .ok (.iaload, 1) := by decide +kernel
theorem dX7_weigh_32 : decode cX7_weigh 32 = .ok (.istore_n 3, 1) := by decide +kernel
theorem dX7_weigh_33 : decode cX7_weigh 33 = .ok (.aload_n 0, 1) := by decide +kernel
theorem dX7_weigh_34 : decode cX7_weigh 34 = .ok (.getfield 20, 3) := by decide +kernel
theorem dX7_weigh_37 : decode cX7_weigh 37 = .ok (.iload_n 1, 1) := by decide +kernel
theorem dX7_weigh_38 : decode cX7_weigh 38 = .ok (.iload_n 2, 1) := by decide +kernel
theorem dX7_weigh_39 : decode cX7_weigh 39 = .ok (.iastore, 1) := by decide +kernel
theorem dX7_weigh_40 : decode cX7_weigh 40 = .ok (.iload_n 3, 1) := by decide +kernel
theorem dX7_weigh_41 : decode cX7_weigh 41 = .ok (.ireturn, 1) := by decide +kernel
set_option maxRecDepth 20000 in
theorem ggX7_turn_X7_isArc : GoodIn wsX7_turn wsX7_isArc := goodIn_r _ [8, 9, 10, 11, 7, 12, 19, 20, 21, 22, 23, 24, 25, 26, 27, 28, 29, 30, 31, 32, 33, 34, 35, 36, 37, 38, 39, 40, 41, 42, 43, 44, 45, 46, 47, 48, 49, 50, 51, 52] (by decide +kernel) (by decide +kernel)
set_option maxRecDepth 20000 in
theorem gX7_turn_X7_isArc : GoodIn wsX7_turn (wsV RX7 143 RX7 yX7_isArc wsX7_isArc) := goodIn_app (goodIn_of _ (by decide +kernel)) ggX7_turn_X7_isArc
set_option maxRecDepth 20000 in
theorem ggX7_turn_X7_changed : GoodIn wsX7_turn wsX7_changed := goodIn_r _ [16, 17, 18, 19, 20, 21, 22, 23, 24, 25, 26, 27, 28, 29, 30, 31, 32, 33, 34, 35, 36, 37, 38, 39, 40, 41, 42, 43, 44, 45, 46, 47, 48, 49, 50, 51, 52] (by decide +kernel) (by decide +kernel)
set_option maxRecDepth 20000 in
theorem gX7_turn_X7_changed : GoodIn wsX7_turn (wsV RX7 140 RX7 yX7_changed wsX7_changed) := goodIn_app (goodIn_of _ (by decide +kernel)) ggX7_turn_X7_changed
theorem dX7_turn_0 : decode cX7_turn 0 = .ok (.aload_n 0, 1) := by decide +kernel
theorem dX7_turn_1 : decode cX7_turn 1 = .ok (.iconst 0, 1) := by decide +kernel
theorem dX7_turn_2 : decode cX7_turn 2 = .ok (.putfield 85, 3) := by decide +kernel
theorem dX7_turn_5 : decode cX7_turn 5 = .ok (.aload_n 0, 1) := by decide +kernel
theorem dX7_turn_6 : decode cX7_turn 6 = .ok (.iload_n 1, 1) := by decide +kernel
theorem dX7_turn_7 : decode cX7_turn 7 = .ok (.invokevirtual 143, 3) := by decide +kernel
theorem dX7_turn_10 : decode cX7_turn 10 = .ok (.ifCond .ne 5, 3) := by decide +kernel
theorem dX7_turn_13 : decode cX7_turn 13 = .ok (.iconst 0, 1) := by decide +kernel
theorem dX7_turn_14 : decode cX7_turn 14 = .ok (.ireturn, 1) := by decide +kernel
theorem dX7_turn_15 : decode cX7_turn 15 = .ok (.aload_n 0, 1) := by decide +kernel
theorem dX7_turn_16 : decode cX7_turn 16 = .ok (.getfield 13, 3) := by decide +kernel
theorem dX7_turn_19 : decode cX7_turn 19 = .ok (.iload_n 1, 1) := by decide +kernel
theorem dX7_turn_20 : decode cX7_turn 20 = .ok (.iaload, 1) := by decide +kernel
theorem dX7_turn_21 : decode cX7_turn 21 = .ok (.istore_n 2, 1) := by decide +kernel
theorem dX7_turn_22 : decode cX7_turn 22 = .ok (.aload_n 0, 1) := by decide +kernel
theorem dX7_turn_23 : decode cX7_turn 23 = .ok (.getfield 13, 3) := by decide +kernel
theorem dX7_turn_26 : decode cX7_turn 26 = .ok (.iload_n 1, 1) := by decide +kernel
theorem dX7_turn_27 : decode cX7_turn 27 = .ok (.aload_n 0, 1) := by decide +kernel
theorem dX7_turn_28 : decode cX7_turn 28 = .ok (.getfield 17, 3) := by decide +kernel
theorem dX7_turn_31 : decode cX7_turn 31 = .ok (.iload_n 1, 1) := by decide +kernel
theorem dX7_turn_32 : decode cX7_turn 32 = .ok (.iaload, 1) := by decide +kernel
theorem dX7_turn_33 : decode cX7_turn 33 = .ok (.iastore, 1) := by decide +kernel
theorem dX7_turn_34 : decode cX7_turn 34 = .ok (.aload_n 0, 1) := by decide +kernel
theorem dX7_turn_35 : decode cX7_turn 35 = .ok (.getfield 17, 3) := by decide +kernel
theorem dX7_turn_38 : decode cX7_turn 38 = .ok (.iload_n 1, 1) := by decide +kernel
theorem dX7_turn_39 : decode cX7_turn 39 = .ok (.iload_n 2, 1) := by decide +kernel
theorem dX7_turn_40 : decode cX7_turn 40 = .ok (.iastore, 1) := by decide +kernel
theorem dX7_turn_41 : decode cX7_turn 41 = .ok (.aload_n 0, 1) := by decide +kernel
theorem dX7_turn_42 : decode cX7_turn 42 = .ok (.invokevirtual 140, 3) := by decide +kernel
theorem dX7_turn_45 : decode cX7_turn 45 = .ok (.iconst 1, 1) := by decide +kernel
theorem dX7_turn_46 : decode cX7_turn 46 = .ok (.ireturn, 1) := by decide +kernel
set_option maxRecDepth 20000 in
theorem ggX7_join_X7_isNode : GoodIn wsX7_join wsX7_isNode := goodIn_r _ [10, 5, 11, 12, 9, 13, 23, 24, 25, 26, 27, 28, 29, 30, 31, 32, 33, 34, 35, 36, 37, 38, 39, 40, 41, 42, 43, 44, 45, 46, 47, 48, 49, 50, 51, 52, 53, 54, 55, 56] (by decide +kernel) (by decide +kernel)
set_option maxRecDepth 20000 in
theorem gX7_join_X7_isNode : GoodIn wsX7_join (wsV RX7 146 RX7 yX7_isNode wsX7_isNode) := goodIn_app (goodIn_of _ (by decide +kernel)) ggX7_join_X7_isNode
set_option maxRecDepth 20000 in
theorem ggX7_join_X7_joined : GoodIn wsX7_join wsX7_joined := goodIn_r _ [16] (by decide +kernel) (by decide +kernel)
set_option maxRecDepth 20000 in
theorem gX7_join_X7_joined : GoodIn wsX7_join (va_wsS RX7 149 yX7_joined wsX7_joined) := goodIn_app (goodIn_of _ (by decide +kernel)) ggX7_join_X7_joined
set_option maxRecDepth 20000 in
theorem ggX7_join_X7_changed : GoodIn wsX7_join wsX7_changed := goodIn_r _ [20, 21, 22, 23, 24, 25, 26, 27, 28, 29, 30, 31, 32, 33, 34, 35, 36, 37, 38, 39, 40, 41, 42, 43, 44, 45, 46, 47, 48, 49, 50, 51, 52, 53, 54, 55, 56] (by decide +kernel) (by decide +kernel)
set_option maxRecDepth 20000 in
theorem gX7_join_X7_changed : GoodIn wsX7_join (wsV RX7 140 RX7 yX7_changed wsX7_changed) := goodIn_app (goodIn_of _ (by decide +kernel)) ggX7_join_X7_changed
theorem dX7_join_0 : decode cX7_join 0 = .ok (.aload_n 0, 1) := by decide +kernel
theorem dX7_join_1 : decode cX7_join 1 = .ok (.iconst 0, 1) := by decide +kernel
theorem dX7_join_2 : decode cX7_join 2 = .ok (.putfield 85, 3) := by decide +kernel
theorem dX7_join_5 : decode cX7_join 5 = .ok (.aload_n 0, 1) := by decide +kernel
theorem dX7_join_6 : decode cX7_join 6 = .ok (.iload_n 1, 1) := by decide +kernel
theorem dX7_join_7 : decode cX7_join 7 = .ok (.invokevirtual 146, 3) := by decide +kernel
theorem dX7_join_10 : decode cX7_join 10 = .ok (.ifCond .eq 16, 3) := by decide +kernel
theorem dX7_join_13 : decode cX7_join 13 = .ok (.aload_n 0, 1) := by decide +kernel
theorem dX7_join_14 : decode cX7_join 14 = .ok (.iload_n 2, 1) := by decide +kernel
theorem dX7_join_15 : decode cX7_join 15 = .ok (.invokevirtual 146, 3) := by decide +kernel
theorem dX7_join_18 : decode cX7_join 18 = .ok (.ifCond .eq 8, 3) := by decide +kernel
theorem dX7_join_21 : decode cX7_join 21 = .ok (.iload_n 1, 1) := by decide +kernel
theorem dX7_join_22 : decode cX7_join 22 = .ok (.iload_n 2, 1) := by decide +kernel
theorem dX7_join_23 : decode cX7_join 23 = .ok (.if_icmp .ne 5, 3) := by decide +kernel
theorem dX7_join_26 : decode cX7_join 26 = .ok (.iconst (-1), 1) := by decide +kernel
theorem dX7_join_27 : decode cX7_join 27 = .ok (.ireturn, 1) := by decide +kernel
theorem dX7_join_28 : decode cX7_join 28 = .ok (.iconst 0, 1) := by decide +kernel
theorem dX7_join_29 : decode cX7_join 29 = .ok (.istore_n 3, 1) := by decide +kernel
theorem dX7_join_30 : decode cX7_join 30 = .ok (.iload_n 3, 1) := by decide +kernel
theorem dX7_join_31 : decode cX7_join 31 = .ok (.aload_n 0, 1) := by decide +kernel
theorem dX7_join_32 : decode cX7_join 32 = .ok (.getfield 95, 3) := by decide +kernel
theorem dX7_join_35 : decode cX7_join 35 = .ok (.if_icmp .ge 43, 3) := by decide +kernel
theorem dX7_join_38 : decode cX7_join 38 = .ok (.aload_n 0, 1) := by decide +kernel
theorem dX7_join_39 : decode cX7_join 39 = .ok (.getfield 13, 3) := by decide +kernel
theorem dX7_join_42 : decode cX7_join 42 = .ok (.iload_n 3, 1) := by decide +kernel
theorem dX7_join_43 : decode cX7_join 43 = .ok (.aload_n 0, 1) := by decide +kernel
theorem dX7_join_44 : decode cX7_join 44 = .ok (.getfield 13, 3) := by decide +kernel
theorem dX7_join_47 : decode cX7_join 47 = .ok (.iload_n 3, 1) := by decide +kernel
theorem dX7_join_48 : decode cX7_join 48 = .ok (.iaload, 1) := by decide +kernel
theorem dX7_join_49 : decode cX7_join 49 = .ok (.iload_n 1, 1) := by decide +kernel
theorem dX7_join_50 : decode cX7_join 50 = .ok (.iload_n 2, 1) := by decide +kernel
theorem dX7_join_51 : decode cX7_join 51 = .ok (.invokestatic 149, 3) := by decide +kernel
theorem dX7_join_54 : decode cX7_join 54 = .ok (.iastore, 1) := by decide +kernel
theorem dX7_join_55 : decode cX7_join 55 = .ok (.aload_n 0, 1) := by decide +kernel
theorem dX7_join_56 : decode cX7_join 56 = .ok (.getfield 17, 3) := by decide +kernel
theorem dX7_join_59 : decode cX7_join 59 = .ok (.iload_n 3, 1) := by decide +kernel
theorem dX7_join_60 : decode cX7_join 60 = .ok (.aload_n 0, 1) := by decide +kernel
theorem dX7_join_61 : decode cX7_join 61 = .ok (.getfield 17, 3) := by decide +kernel
theorem dX7_join_64 : decode cX7_join 64 = .ok (.iload_n 3, 1) := by decide +kernel
theorem dX7_join_65 : decode cX7_join 65 = .ok (.iaload, 1) := by decide +kernel
theorem dX7_join_66 : decode cX7_join 66 = .ok (.iload_n 1, 1) := by decide +kernel
theorem dX7_join_67 : decode cX7_join 67 = .ok (.iload_n 2, 1) := by decide +kernel
theorem dX7_join_68 : decode cX7_join 68 = .ok (.invokestatic 149, 3) := by decide +kernel
theorem dX7_join_71 : decode cX7_join 71 = .ok (.iastore, 1) := by decide +kernel
theorem dX7_join_72 : decode cX7_join 72 = .ok (.iinc 3 1, 3) := by decide +kernel
theorem dX7_join_75 : decode cX7_join 75 = .ok (.goto (-45), 3) := by decide +kernel
theorem dX7_join_78 : decode cX7_join 78 = .ok (.aload_n 0, 1) := by decide +kernel
theorem dX7_join_79 : decode cX7_join 79 = .ok (.dup, 1) := by decide +kernel
theorem dX7_join_80 : decode cX7_join 80 = .ok (.getfield 7, 3) := by decide +kernel
theorem dX7_join_83 : decode cX7_join 83 = .ok (.iconst 1, 1) := by decide +kernel
theorem dX7_join_84 : decode cX7_join 84 = .ok (.isub, 1) := by decide +kernel
theorem dX7_join_85 : decode cX7_join 85 = .ok (.putfield 7, 3) := by decide +kernel
theorem dX7_join_88 : decode cX7_join 88 = .ok (.aload_n 0, 1) := by decide +kernel
theorem dX7_join_89 : decode cX7_join 89 = .ok (.invokevirtual 140, 3) := by decide +kernel
theorem dX7_join_92 : decode cX7_join 92 = .ok (.aload_n 0, 1) := by decide +kernel
theorem dX7_join_93 : decode cX7_join 93 = .ok (.getfield 7, 3) := by decide +kernel
theorem dX7_join_96 : decode cX7_join 96 = .ok (.ireturn, 1) := by decide +kernel
theorem dX7_joined_0 : decode cX7_joined 0 = .ok (.iload_n 0, 1) := by decide +kernel
theorem dX7_joined_1 : decode cX7_joined 1 = .ok (.iload_n 2, 1) := by decide +kernel
theorem dX7_joined_2 : decode cX7_joined 2 = .ok (.if_icmp .ne 7, 3) := by decide +kernel
theorem dX7_joined_5 : decode cX7_joined 5 = .ok (.iload_n 1, 1) := by decide +kernel
theorem dX7_joined_6 : decode cX7_joined 6 = .ok (.goto 4, 3) := by decide +kernel
theorem dX7_joined_9 : decode cX7_joined 9 = .ok (.iload_n 0, 1) := by decide +kernel
theorem dX7_joined_10 : decode cX7_joined 10 = .ok (.istore_n 3, 1) := by decide +kernel
theorem dX7_joined_11 : decode cX7_joined 11 = .ok (.iload_n 3, 1) := by decide +kernel
theorem dX7_joined_12 : decode cX7_joined 12 = .ok (.iload_n 2, 1) := by decide +kernel
theorem dX7_joined_13 : decode cX7_joined 13 = .ok (.if_icmp .le 9, 3) := by decide +kernel
theorem dX7_joined_16 : decode cX7_joined 16 = .ok (.iload_n 3, 1) := by decide +kernel
theorem dX7_joined_17 : decode cX7_joined 17 = .ok (.iconst 1, 1) := by decide +kernel
theorem dX7_joined_18 : decode cX7_joined 18 = .ok (.isub, 1) := by decide +kernel
theorem dX7_joined_19 : decode cX7_joined 19 = .ok (.goto 4, 3) := by decide +kernel
theorem dX7_joined_22 : decode cX7_joined 22 = .ok (.iload_n 3, 1) := by decide +kernel
theorem dX7_joined_23 : decode cX7_joined 23 = .ok (.ireturn, 1) := by decide +kernel
set_option maxRecDepth 20000 in
theorem ggX7_tell_X7_isArc : GoodIn wsX7_tell wsX7_isArc := goodIn_r _ [13, 14, 15, 16, 12, 17, 18, 19, 20, 21, 22, 23, 24, 25, 26, 27, 28, 29, 30, 31, 32, 33, 34, 35, 36, 37, 38, 39, 40, 41, 42, 43, 44, 45, 46, 47, 48, 49, 50, 51] (by decide +kernel) (by decide +kernel)
set_option maxRecDepth 20000 in
theorem gX7_tell_X7_isArc : GoodIn wsX7_tell (wsV RX7 143 RX7 yX7_isArc wsX7_isArc) := goodIn_app (goodIn_of _ (by decide +kernel)) ggX7_tell_X7_isArc
theorem dX7_tell_0 : decode cX7_tell 0 = .ok (.aload_n 0, 1) := by decide +kernel
theorem dX7_tell_1 : decode cX7_tell 1 = .ok (.iconst 0, 1) := by decide +kernel
theorem dX7_tell_2 : decode cX7_tell 2 = .ok (.putfield 85, 3) := by decide +kernel
theorem dX7_tell_5 : decode cX7_tell 5 = .ok (.aload_n 0, 1) := by decide +kernel
theorem dX7_tell_6 : decode cX7_tell 6 = .ok (.iload_n 1, 1) := by decide +kernel
theorem dX7_tell_7 : decode cX7_tell 7 = .ok (.invokevirtual 143, 3) := by decide +kernel
theorem dX7_tell_10 : decode cX7_tell 10 = .ok (.ifCond .ne 5, 3) := by decide +kernel
theorem dX7_tell_13 : decode cX7_tell 13 = .ok (.iconst (-1), 1) := by decide +kernel
theorem dX7_tell_14 : decode cX7_tell 14 = .ok (.ireturn, 1) := by decide +kernel
theorem dX7_tell_15 : decode cX7_tell 15 = .ok (.iload_n 2, 1) := by decide +kernel
theorem dX7_tell_16 : decode cX7_tell 16 = .ok (.tableswitch 95 0 4 #[36, 43, 50, 57, 75], 36) := by decide +kernel
theorem dX7_tell_52 : decode cX7_tell 52 = .ok (.aload_n 0, 1) := by decide +kernel
theorem dX7_tell_53 : decode cX7_tell 53 = .ok (.getfield 13, 3) := by decide +kernel
theorem dX7_tell_56 : decode cX7_tell 56 = .ok (.iload_n 1, 1) := by decide +kernel
theorem dX7_tell_57 : decode cX7_tell 57 = .ok (.iaload, 1) := by decide +kernel
theorem dX7_tell_58 : decode cX7_tell 58 = .ok (.ireturn, 1) := by decide +kernel
theorem dX7_tell_59 : decode cX7_tell 59 = .ok (.aload_n 0, 1) := by decide +kernel
theorem dX7_tell_60 : decode cX7_tell 60 = .ok (.getfield 17, 3) := by decide +kernel
theorem dX7_tell_63 : decode cX7_tell 63 = .ok (.iload_n 1, 1) := by decide +kernel
theorem dX7_tell_64 : decode cX7_tell 64 = .ok (.iaload, 1) := by decide +kernel
theorem dX7_tell_65 : decode cX7_tell 65 = .ok (.ireturn, 1) := by decide +kernel
theorem dX7_tell_66 : decode cX7_tell 66 = .ok (.aload_n 0, 1) := by decide +kernel
theorem dX7_tell_67 : decode cX7_tell 67 = .ok (.getfield 20, 3) := by decide +kernel
theorem dX7_tell_70 : decode cX7_tell 70 = .ok (.iload_n 1, 1) := by decide +kernel
theorem dX7_tell_71 : decode cX7_tell 71 = .ok (.iaload, 1) := by decide +kernel
theorem dX7_tell_72 : decode cX7_tell 72 = .ok (.ireturn, 1) := by decide +kernel
theorem dX7_tell_73 : decode cX7_tell 73 = .ok (.aload_n 0, 1) := by decide +kernel
theorem dX7_tell_74 : decode cX7_tell 74 = .ok (.getfield 137, 3) := by decide +kernel
theorem dX7_tell_77 : decode cX7_tell 77 = .ok (.ifCond .eq 12, 3) := by decide +kernel
theorem dX7_tell_80 : decode cX7_tell 80 = .ok (.aload_n 0, 1) := by decide +kernel
theorem dX7_tell_81 : decode cX7_tell 81 = .ok (.getfield 23, 3) := by decide +kernel
theorem dX7_tell_84 : decode cX7_tell 84 = .ok (.iload_n 1, 1) := by decide +kernel
theorem dX7_tell_85 : decode cX7_tell 85 = .ok (.iaload, 1) := by decide +kernel
theorem dX7_tell_86 : decode cX7_tell 86 = .ok (.goto 4, 3) := by decide +kernel
theorem dX7_tell_89 : decode cX7_tell 89 = .ok (.iconst 0, 1) := by decide +kernel
theorem dX7_tell_90 : decode cX7_tell 90 = .ok (.ireturn, 1) := by decide +kernel
theorem dX7_tell_91 : decode cX7_tell 91 = .ok (.aload_n 0, 1) := by decide +kernel
theorem dX7_tell_92 : decode cX7_tell 92 = .ok (.getfield 134, 3) := by decide +kernel
theorem dX7_tell_95 : decode cX7_tell 95 = .ok (.ifCond .eq 14, 3) := by decide +kernel
theorem dX7_tell_98 : decode cX7_tell 98 = .ok (.aload_n 0, 1) := by decide +kernel
theorem dX7_tell_99 : decode cX7_tell 99 = .ok (.getfield 153, 3) := by decide +kernel
theorem dX7_tell_102 : decode cX7_tell 102 = .ok (.iload_n 1, 1) := by decide +kernel
theorem dX7_tell_103 : decode cX7_tell 103 = .ok (.ishr, 1) := by decide +kernel
theorem dX7_tell_104 : decode cX7_tell 104 = .ok (.iconst 1, 1) := by decide +kernel
theorem dX7_tell_105 : decode cX7_tell 105 = .ok (.iand, 1) := by decide +kernel
theorem dX7_tell_106 : decode cX7_tell 106 = .ok (.goto 4, 3) := by decide +kernel
theorem dX7_tell_109 : decode cX7_tell 109 = .ok (.iconst 0, 1) := by decide +kernel
theorem dX7_tell_110 : decode cX7_tell 110 = .ok (.ireturn, 1) := by decide +kernel
theorem dX7_tell_111 : decode cX7_tell 111 = .ok (.iconst (-1), 1) := by decide +kernel
theorem dX7_tell_112 : decode cX7_tell 112 = .ok (.ireturn, 1) := by decide +kernel
set_option maxRecDepth 20000 in
theorem ggX7_node_X7_isNode : GoodIn wsX7_node wsX7_isNode := goodIn_r _ [7, 8, 9, 10, 6, 11, 26, 27, 28, 29, 30, 31, 32, 33, 34, 35, 36, 37, 38, 39, 40, 41, 42, 43, 44, 45, 46, 47, 48, 49, 50, 51, 52, 53, 54, 55, 56, 57, 58, 59] (by decide +kernel) (by decide +kernel)
set_option maxRecDepth 20000 in
theorem gX7_node_X7_isNode : GoodIn wsX7_node (wsV RX7 146 RX7 yX7_isNode wsX7_isNode) := goodIn_app (goodIn_of _ (by decide +kernel)) ggX7_node_X7_isNode
set_option maxRecDepth 20000 in
theorem ggX7_node_X7_partOf : GoodIn wsX7_node wsX7_partOf := goodIn_r _ [15, 16, 17, 18, 6, 19, 20, 21, 22, 23, 24, 25, 26, 27, 28, 29, 30, 31, 32, 33, 34, 35, 36, 37, 38, 39, 40, 41, 42, 43, 44, 45, 46, 47, 48, 49, 50, 51, 52, 53, 54, 55, 56, 57, 58, 59] (by decide +kernel) (by decide +kernel)
set_option maxRecDepth 20000 in
theorem gX7_node_X7_partOf : GoodIn wsX7_node (wsV RX7 156 RX7 yX7_partOf wsX7_partOf) := goodIn_app (goodIn_of _ (by decide +kernel)) ggX7_node_X7_partOf
set_option maxRecDepth 20000 in
theorem ggX7_node_X7_reach : GoodIn wsX7_node wsX7_reach := goodIn_r _ [19, 20, 21, 22, 26, 27, 28, 29, 30, 31, 32, 33, 34, 35, 36, 37, 38, 39, 40, 41, 42, 43, 44, 45, 46, 47, 48, 49, 50, 51, 52, 53, 54, 55, 56, 57, 58, 59] (by decide +kernel) (by decide +kernel)
set_option maxRecDepth 20000 in
theorem gX7_node_X7_reach : GoodIn wsX7_node (wsV RX7 123 RX7 yX7_reach wsX7_reach) := goodIn_app (goodIn_of _ (by decide +kernel)) ggX7_node_X7_reach
set_option maxRecDepth 20000 in
theorem ggX7_node_X7_lowest : GoodIn wsX7_node wsX7_lowest := goodIn_r _ [25] (by decide +kernel) (by decide +kernel)
set_option maxRecDepth 20000 in
theorem gX7_node_X7_lowest : GoodIn wsX7_node (va_wsS RX7 127 yX7_lowest wsX7_lowest) := goodIn_app (goodIn_of _ (by decide +kernel)) ggX7_node_X7_lowest
theorem dX7_node_0 : decode cX7_node 0 = .ok (.aload_n 0, 1) := by decide +kernel
theorem dX7_node_1 : decode cX7_node 1 = .ok (.iconst 0, 1) := by decide +kernel
theorem dX7_node_2 : decode cX7_node 2 = .ok (.putfield 85, 3) := by decide +kernel
theorem dX7_node_5 : decode cX7_node 5 = .ok (.aload_n 0, 1) := by decide +kernel
theorem dX7_node_6 : decode cX7_node 6 = .ok (.iload_n 1, 1) := by decide +kernel
theorem dX7_node_7 : decode cX7_node 7 = .ok (.invokevirtual 146, 3) := by decide +kernel
theorem dX7_node_10 : decode cX7_node 10 = .ok (.ifCond .ne 5, 3) := by decide +kernel
theorem dX7_node_13 : decode cX7_node 13 = .ok (.iconst (-1), 1) := by decide +kernel
theorem dX7_node_14 : decode cX7_node 14 = .ok (.ireturn, 1) := by decide +kernel
theorem dX7_node_15 : decode cX7_node 15 = .ok (.iload_n 2, 1) := by decide +kernel
theorem dX7_node_16 : decode cX7_node 16 = .ok (.tableswitch 72 0 3 #[32, 38, 52, 62], 32) := by decide +kernel
theorem dX7_node_48 : decode cX7_node 48 = .ok (.aload_n 0, 1) := by decide +kernel
theorem dX7_node_49 : decode cX7_node 49 = .ok (.iload_n 1, 1) := by decide +kernel
theorem dX7_node_50 : decode cX7_node 50 = .ok (.invokevirtual 156, 3) := by decide +kernel
theorem dX7_node_53 : decode cX7_node 53 = .ok (.ireturn, 1) := by decide +kernel
theorem dX7_node_54 : decode cX7_node 54 = .ok (.aload_n 0, 1) := by decide +kernel
theorem dX7_node_55 : decode cX7_node 55 = .ok (.iconst 1, 1) := by decide +kernel
theorem dX7_node_56 : decode cX7_node 56 = .ok (.iload_n 1, 1) := by decide +kernel
theorem dX7_node_57 : decode cX7_node 57 = .ok (.ishl, 1) := by decide +kernel
theorem dX7_node_58 : decode cX7_node 58 = .ok (.ldc 122, 2) := by decide +kernel
theorem dX7_node_60 : decode cX7_node 60 = .ok (.iconst 1, 1) := by decide +kernel
theorem dX7_node_61 : decode cX7_node 61 = .ok (.invokevirtual 123, 3) := by decide +kernel
theorem dX7_node_64 : decode cX7_node 64 = .ok (.invokestatic 127, 3) := by decide +kernel
theorem dX7_node_67 : decode cX7_node 67 = .ok (.ireturn, 1) := by decide +kernel
theorem dX7_node_68 : decode cX7_node 68 = .ok (.aload_n 0, 1) := by decide +kernel
theorem dX7_node_69 : decode cX7_node 69 = .ok (.iconst 1, 1) := by decide +kernel
theorem dX7_node_70 : decode cX7_node 70 = .ok (.iload_n 1, 1) := by decide +kernel
theorem dX7_node_71 : decode cX7_node 71 = .ok (.ishl, 1) := by decide +kernel
theorem dX7_node_72 : decode cX7_node 72 = .ok (.iconst 0, 1) := by decide +kernel
theorem dX7_node_73 : decode cX7_node 73 = .ok (.iconst 1, 1) := by decide +kernel
theorem dX7_node_74 : decode cX7_node 74 = .ok (.invokevirtual 123, 3) := by decide +kernel
theorem dX7_node_77 : decode cX7_node 77 = .ok (.ireturn, 1) := by decide +kernel
theorem dX7_node_78 : decode cX7_node 78 = .ok (.aload_n 0, 1) := by decide +kernel
theorem dX7_node_79 : decode cX7_node 79 = .ok (.iconst 1, 1) := by decide +kernel
theorem dX7_node_80 : decode cX7_node 80 = .ok (.iload_n 1, 1) := by decide +kernel
theorem dX7_node_81 : decode cX7_node 81 = .ok (.ishl, 1) := by decide +kernel
theorem dX7_node_82 : decode cX7_node 82 = .ok (.iconst 0, 1) := by decide +kernel
theorem dX7_node_83 : decode cX7_node 83 = .ok (.iconst 0, 1) := by decide +kernel
theorem dX7_node_84 : decode cX7_node 84 = .ok (.invokevirtual 123, 3) := by decide +kernel
theorem dX7_node_87 : decode cX7_node 87 = .ok (.ireturn, 1) := by decide +kernel
theorem dX7_node_88 : decode cX7_node 88 = .ok (.iconst (-1), 1) := by decide +kernel
theorem dX7_node_89 : decode cX7_node 89 = .ok (.ireturn, 1) := by decide +kernel
set_option maxRecDepth 20000 in
theorem ggX7_count_X7_partOf : GoodIn wsX7_count wsX7_partOf := goodIn_r _ [10, 11, 12, 13, 9, 14, 3, 15, 16, 17, 18, 19, 54, 55, 56, 57, 58, 59, 60, 61, 62, 63, 64, 65, 66, 67, 68, 69, 70, 71, 72, 73, 74, 75, 76, 77, 78, 79, 80, 81, 82, 83, 84, 85, 86, 87] (by decide +kernel) (by decide +kernel)
set_option maxRecDepth 20000 in
theorem gX7_count_X7_partOf : GoodIn wsX7_count (wsV RX7 156 RX7 yX7_partOf wsX7_partOf) := goodIn_app (goodIn_of _ (by decide +kernel)) ggX7_count_X7_partOf
set_option maxRecDepth 20000 in
theorem ggX7_count_X7_isWhole : GoodIn wsX7_count wsX7_isWhole := goodIn_r _ [23, 24, 11, 12, 13, 9, 14, 3, 15, 16, 25, 26, 27, 28, 2, 54, 55, 56, 57, 58, 59, 60, 61, 62, 63, 64, 65, 66, 67, 68, 69, 70, 71, 72, 73, 74, 75, 76, 77, 78, 79, 80, 81, 82, 83, 84, 85, 86, 87] (by decide +kernel) (by decide +kernel)
set_option maxRecDepth 20000 in
theorem gX7_count_X7_isWhole : GoodIn wsX7_count (wsV RX7 159 RX7 yX7_isWhole wsX7_isWhole) := goodIn_app (goodIn_of _ (by decide +kernel)) ggX7_count_X7_isWhole
set_option maxRecDepth 20000 in
theorem ggX7_count_X7_isStrongWith : GoodIn wsX7_count wsX7_isStrongWith := goodIn_r _ [32, 11, 12, 13, 9, 14, 3, 15, 16, 25, 26, 27, 28, 2, 54, 55, 56, 57, 58, 59, 60, 61, 62, 63, 64, 65, 66, 67, 68, 69, 70, 71, 72, 73, 74, 75, 76, 77, 78, 79, 80, 81, 82, 83, 84, 85, 86, 87] (by decide +kernel) (by decide +kernel)
set_option maxRecDepth 20000 in
theorem gX7_count_X7_isStrongWith : GoodIn wsX7_count (wsV RX7 163 RX7 yX7_isStrongWith wsX7_isStrongWith) := goodIn_app (goodIn_of _ (by decide +kernel)) ggX7_count_X7_isStrongWith
set_option maxRecDepth 20000 in
theorem ggX7_count_X7_makeSides : GoodIn wsX7_count wsX7_makeSides := goodIn_r _ [36, 37, 4, 38, 39, 25, 26, 27, 9, 28, 2, 40, 41, 42, 43, 3, 15, 16, 44, 45, 46, 47, 54, 55, 56, 57, 58, 59, 60, 61, 62, 63, 64, 65, 66, 67, 68, 69, 70, 71, 72, 73, 74, 75, 76, 77, 78, 79, 80, 81, 82, 83, 84, 85, 86, 87] (by decide +kernel) (by decide +kernel)
set_option maxRecDepth 20000 in
theorem gX7_count_X7_makeSides : GoodIn wsX7_count (wsV RX7 113 RX7 yX7_makeSides wsX7_makeSides) := goodIn_app (goodIn_of _ (by decide +kernel)) ggX7_count_X7_makeSides
set_option maxRecDepth 20000 in
theorem ggX7_count_X7_members : GoodIn wsX7_count wsX7_members := goodIn_r _ [51, 52, 53, 54, 55, 56, 57, 58, 59, 60, 61, 62, 63, 64, 65, 66, 67, 68, 69, 70, 71, 72, 73, 74, 75, 76, 77, 78, 79, 80, 81, 82, 83, 84, 85, 86, 87] (by decide +kernel) (by decide +kernel)
set_option maxRecDepth 20000 in
theorem gX7_count_X7_members : GoodIn wsX7_count (wsV RX7 166 RX7 yX7_members wsX7_members) := goodIn_app (goodIn_of _ (by decide +kernel)) ggX7_count_X7_members
theorem dX7_count_0 : decode cX7_count 0 = .ok (.aload_n 0, 1) := by decide +kernel
theorem dX7_count_1 : decode cX7_count 1 = .ok (.iconst 0, 1) := by decide +kernel
theorem dX7_count_2 : decode cX7_count 2 = .ok (.putfield 85, 3) := by decide +kernel
theorem dX7_count_5 : decode cX7_count 5 = .ok (.iload_n 1, 1) := by decide +kernel
theorem dX7_count_6 : decode cX7_count 6 = .ok (.tableswitch 168 0 7 #[46, 51, 56, 93, 106, 120, 129, 134], 46) := by decide +kernel
theorem dX7_count_52 : decode cX7_count 52 = .ok (.aload_n 0, 1) := by decide +kernel
theorem dX7_count_53 : decode cX7_count 53 = .ok (.getfield 7, 3) := by decide +kernel
theorem dX7_count_56 : decode cX7_count 56 = .ok (.ireturn, 1) := by decide +kernel
theorem dX7_count_57 : decode cX7_count 57 = .ok (.aload_n 0, 1) := by decide +kernel
theorem dX7_count_58 : decode cX7_count 58 = .ok (.getfield 95, 3) := by decide +kernel
theorem dX7_count_61 : decode cX7_count 61 = .ok (.ireturn, 1) := by decide +kernel
theorem dX7_count_62 : decode cX7_count 62 = .ok (.iconst 0, 1) := by decide +kernel
theorem dX7_count_63 : decode cX7_count 63 = .ok (.istore_n 2, 1) := by decide +kernel
theorem dX7_count_64 : decode cX7_count 64 = .ok (.iconst 0, 1) := by decide +kernel
theorem dX7_count_65 : decode cX7_count 65 = .ok (.istore_n 3, 1) := by decide +kernel
theorem dX7_count_66 : decode cX7_count 66 = .ok (.iload_n 3, 1) := by decide +kernel
theorem dX7_count_67 : decode cX7_count 67 = .ok (.aload_n 0, 1) := by decide +kernel
theorem dX7_count_68 : decode cX7_count 68 = .ok (.getfield 7, 3) := by decide +kernel
theorem dX7_count_71 : decode cX7_count 71 = .ok (.if_icmp .ge 26, 3) := by decide +kernel
theorem dX7_count_74 : decode cX7_count 74 = .ok (.iload_n 2, 1) := by decide +kernel
theorem dX7_count_75 : decode cX7_count 75 = .ok (.aload_n 0, 1) := by decide +kernel
theorem dX7_count_76 : decode cX7_count 76 = .ok (.iload_n 3, 1) := by decide +kernel
theorem dX7_count_77 : decode cX7_count 77 = .ok (.invokevirtual 156, 3) := by decide +kernel
theorem dX7_count_80 : decode cX7_count 80 = .ok (.iload_n 3, 1) := by decide +kernel
theorem dX7_count_81 : decode cX7_count 81 = .ok (.if_icmp .ne 7, 3) := by decide +kernel
theorem dX7_count_84 : decode cX7_count 84 = .ok (.iconst 1, 1) := by decide +kernel
theorem dX7_count_85 : decode cX7_count 85 = .ok (.goto 4, 3) := by decide +kernel
theorem dX7_count_88 : decode cX7_count 88 = .ok (.iconst 0, 1) := by decide +kernel
theorem dX7_count_89 : decode cX7_count 89 = .ok (.iadd, 1) := by decide +kernel
theorem dX7_count_90 : decode cX7_count 90 = .ok (.istore_n 2, 1) := by decide +kernel
theorem dX7_count_91 : decode cX7_count 91 = .ok (.iinc 3 1, 3) := by decide +kernel
theorem dX7_count_94 : decode cX7_count 94 = .ok (.goto (-28), 3) := by decide +kernel
theorem dX7_count_97 : decode cX7_count 97 = .ok (.iload_n 2, 1) := by decide +kernel
theorem dX7_count_98 : decode cX7_count 98 = .ok (.ireturn, 1) := by decide +kernel
theorem dX7_count_99 : decode cX7_count 99 = .ok (.aload_n 0, 1) := by decide +kernel
theorem dX7_count_100 : decode cX7_count 100 = .ok (.invokevirtual 159, 3) := by decide +kernel
theorem dX7_count_103 : decode cX7_count 103 = .ok (.ifCond .eq 7, 3) := by decide +kernel
theorem dX7_count_106 : decode cX7_count 106 = .ok (.iconst 1, 1) := by decide +kernel
theorem dX7_count_107 : decode cX7_count 107 = .ok (.goto 4, 3) := by decide +kernel
theorem dX7_count_110 : decode cX7_count 110 = .ok (.iconst 0, 1) := by decide +kernel
theorem dX7_count_111 : decode cX7_count 111 = .ok (.ireturn, 1) := by decide +kernel
theorem dX7_count_112 : decode cX7_count 112 = .ok (.aload_n 0, 1) := by decide +kernel
theorem dX7_count_113 : decode cX7_count 113 = .ok (.iconst 0, 1) := by decide +kernel
theorem dX7_count_114 : decode cX7_count 114 = .ok (.invokevirtual 163, 3) := by decide +kernel
theorem dX7_count_117 : decode cX7_count 117 = .ok (.ifCond .eq 7, 3) := by decide +kernel
theorem dX7_count_120 : decode cX7_count 120 = .ok (.iconst 1, 1) := by decide +kernel
theorem dX7_count_121 : decode cX7_count 121 = .ok (.goto 4, 3) := by decide +kernel
theorem dX7_count_124 : decode cX7_count 124 = .ok (.iconst 0, 1) := by decide +kernel
theorem dX7_count_125 : decode cX7_count 125 = .ok (.ireturn, 1) := by decide +kernel
theorem dX7_count_126 : decode cX7_count 126 = .ok (.aload_n 0, 1) := by decide +kernel
theorem dX7_count_127 : decode cX7_count 127 = .ok (.invokevirtual 113, 3) := by decide +kernel
theorem dX7_count_130 : decode cX7_count 130 = .ok (.aload_n 0, 1) := by decide +kernel
theorem dX7_count_131 : decode cX7_count 131 = .ok (.getfield 98, 3) := by decide +kernel
theorem dX7_count_134 : decode cX7_count 134 = .ok (.ireturn, 1) := by decide +kernel
theorem dX7_count_135 : decode cX7_count 135 = .ok (.aload_n 0, 1) := by decide +kernel
theorem dX7_count_136 : decode cX7_count 136 = .ok (.invokevirtual 166, 3) := by decide +kernel
theorem dX7_count_139 : decode cX7_count 139 = .ok (.ireturn, 1) := by decide +kernel
theorem dX7_count_140 : decode cX7_count 140 = .ok (.iconst 0, 1) := by decide +kernel
theorem dX7_count_141 : decode cX7_count 141 = .ok (.istore_n 2, 1) := by decide +kernel
theorem dX7_count_142 : decode cX7_count 142 = .ok (.iconst 0, 1) := by decide +kernel
theorem dX7_count_143 : decode cX7_count 143 = .ok (.istore_n 3, 1) := by decide +kernel
theorem dX7_count_144 : decode cX7_count 144 = .ok (.iload_n 3, 1) := by decide +kernel
theorem dX7_count_145 : decode cX7_count 145 = .ok (.iconst 4, 1) := by decide +kernel
theorem dX7_count_146 : decode cX7_count 146 = .ok (.if_icmp .ge 26, 3) := by decide +kernel
theorem dX7_count_149 : decode cX7_count 149 = .ok (.iload_n 2, 1) := by decide +kernel
theorem dX7_count_150 : decode cX7_count 150 = .ok (.aload_n 0, 1) := by decide +kernel
theorem dX7_count_151 : decode cX7_count 151 = .ok (.getfield 29, 3) := by decide +kernel
theorem dX7_count_154 : decode cX7_count 154 = .ok (.iload_n 3, 1) := by decide +kernel
theorem dX7_count_155 : decode cX7_count 155 = .ok (.baload, 1) := by decide +kernel
theorem dX7_count_156 : decode cX7_count 156 = .ok (.ifCond .eq 7, 3) := by decide +kernel
theorem dX7_count_159 : decode cX7_count 159 = .ok (.iconst 1, 1) := by decide +kernel
theorem dX7_count_160 : decode cX7_count 160 = .ok (.goto 4, 3) := by decide +kernel
theorem dX7_count_163 : decode cX7_count 163 = .ok (.iconst 0, 1) := by decide +kernel
theorem dX7_count_164 : decode cX7_count 164 = .ok (.iadd, 1) := by decide +kernel
theorem dX7_count_165 : decode cX7_count 165 = .ok (.istore_n 2, 1) := by decide +kernel
theorem dX7_count_166 : decode cX7_count 166 = .ok (.iinc 3 1, 3) := by decide +kernel
theorem dX7_count_169 : decode cX7_count 169 = .ok (.goto (-25), 3) := by decide +kernel
theorem dX7_count_172 : decode cX7_count 172 = .ok (.iload_n 2, 1) := by decide +kernel
theorem dX7_count_173 : decode cX7_count 173 = .ok (.ireturn, 1) := by decide +kernel
theorem dX7_count_174 : decode cX7_count 174 = .ok (.iconst (-1), 1) := by decide +kernel
theorem dX7_count_175 : decode cX7_count 175 = .ok (.ireturn, 1) := by decide +kernel
set_option maxRecDepth 20000 in
theorem ggX7_side_X7_makeSides : GoodIn wsX7_side wsX7_makeSides := goodIn_r _ [9, 10, 2, 3, 4, 11, 12, 13, 8, 14, 15, 16, 17, 18, 19, 20, 21, 22, 23, 24, 25, 26, 30, 31, 32, 33, 34, 35, 36, 37, 38, 39, 40, 41, 42, 43, 44, 45, 46, 47, 48, 49, 50, 51, 52, 53, 54, 55, 56, 57, 58, 59, 60, 61, 62, 63] (by decide +kernel) (by decide +kernel)
set_option maxRecDepth 20000 in
theorem gX7_side_X7_makeSides : GoodIn wsX7_side (wsV RX7 113 RX7 yX7_makeSides wsX7_makeSides) := goodIn_app (goodIn_of _ (by decide +kernel)) ggX7_side_X7_makeSides
set_option maxRecDepth 20000 in
theorem ggX7_side_X7_in : GoodIn wsX7_side wsX7_in := goodIn_r _ [29] (by decide +kernel) (by decide +kernel)
set_option maxRecDepth 20000 in
theorem gX7_side_X7_in : GoodIn wsX7_side (va_wsS RX7 130 yX7_in wsX7_in) := goodIn_app (goodIn_of _ (by decide +kernel)) ggX7_side_X7_in
theorem dX7_side_0 : decode cX7_side 0 = .ok (.aload_n 0, 1) := by decide +kernel
theorem dX7_side_1 : decode cX7_side 1 = .ok (.iconst 0, 1) := by decide +kernel
theorem dX7_side_2 : decode cX7_side 2 = .ok (.putfield 85, 3) := by decide +kernel
theorem dX7_side_5 : decode cX7_side 5 = .ok (.aload_n 0, 1) := by decide +kernel
theorem dX7_side_6 : decode cX7_side 6 = .ok (.invokevirtual 113, 3) := by decide +kernel
theorem dX7_side_9 : decode cX7_side 9 = .ok (.iload_n 1, 1) := by decide +kernel
theorem dX7_side_10 : decode cX7_side 10 = .ok (.iconst 0, 1) := by decide +kernel
theorem dX7_side_11 : decode cX7_side 11 = .ok (.aload_n 0, 1) := by decide +kernel
theorem dX7_side_12 : decode cX7_side 12 = .ok (.getfield 98, 3) := by decide +kernel
theorem dX7_side_15 : decode cX7_side 15 = .ok (.iconst 1, 1) := by decide +kernel
theorem dX7_side_16 : decode cX7_side 16 = .ok (.isub, 1) := by decide +kernel
theorem dX7_side_17 : decode cX7_side 17 = .ok (.invokestatic 130, 3) := by decide +kernel
theorem dX7_side_20 : decode cX7_side 20 = .ok (.ifCond .ne 7, 3) := by decide +kernel
theorem dX7_side_23 : decode cX7_side 23 = .ok (.iconst (-1), 1) := by decide +kernel
theorem dX7_side_24 : decode cX7_side 24 = .ok (.goto 31, 3) := by decide +kernel
theorem dX7_side_27 : decode cX7_side 27 = .ok (.iload_n 2, 1) := by decide +kernel
theorem dX7_side_28 : decode cX7_side 28 = .ok (.ifCond .ne 12, 3) := by decide +kernel
theorem dX7_side_31 : decode cX7_side 31 = .ok (.aload_n 0, 1) := by decide +kernel
theorem dX7_side_32 : decode cX7_side 32 = .ok (.getfield 66, 3) := by decide +kernel
theorem dX7_side_35 : decode cX7_side 35 = .ok (.iload_n 1, 1) := by decide +kernel
theorem dX7_side_36 : decode cX7_side 36 = .ok (.iaload, 1) := by decide +kernel
theorem dX7_side_37 : decode cX7_side 37 = .ok (.goto 18, 3) := by decide +kernel
theorem dX7_side_40 : decode cX7_side 40 = .ok (.iload_n 2, 1) := by decide +kernel
theorem dX7_side_41 : decode cX7_side 41 = .ok (.iconst 1, 1) := by decide +kernel
theorem dX7_side_42 : decode cX7_side 42 = .ok (.if_icmp .ne 12, 3) := by decide +kernel
theorem dX7_side_45 : decode cX7_side 45 = .ok (.aload_n 0, 1) := by decide +kernel
theorem dX7_side_46 : decode cX7_side 46 = .ok (.getfield 69, 3) := by decide +kernel
theorem dX7_side_49 : decode cX7_side 49 = .ok (.iload_n 1, 1) := by decide +kernel
theorem dX7_side_50 : decode cX7_side 50 = .ok (.iaload, 1) := by decide +kernel
theorem dX7_side_51 : decode cX7_side 51 = .ok (.goto 4, 3) := by decide +kernel
theorem dX7_side_54 : decode cX7_side 54 = .ok (.iconst (-1), 1) := by decide +kernel
theorem dX7_side_55 : decode cX7_side 55 = .ok (.ireturn, 1) := by decide +kernel
set_option maxRecDepth 20000 in
theorem ggX7_bounds_X7_makeSides : GoodIn wsX7_bounds wsX7_makeSides := goodIn_r _ [9, 10, 2, 4, 3, 11, 12, 13, 8, 14, 15, 16, 17, 18, 19, 20, 21, 22, 23, 24, 25, 26, 34, 35, 36, 37, 38, 39, 40, 41, 42, 43, 44, 45, 46, 47, 48, 49, 50, 51, 52, 53, 54, 55, 56, 57, 58, 59, 60, 61, 62, 63, 64, 65, 66, 67] (by decide +kernel) (by decide +kernel)
set_option maxRecDepth 20000 in
theorem gX7_bounds_X7_makeSides : GoodIn wsX7_bounds (wsV RX7 113 RX7 yX7_makeSides wsX7_makeSides) := goodIn_app (goodIn_of _ (by decide +kernel)) ggX7_bounds_X7_makeSides
set_option maxRecDepth 20000 in
theorem ggX7_bounds_X7_all : GoodIn wsX7_bounds wsX7_all := goodIn_r _ [14, 15, 34, 35, 36, 37, 38, 39, 40, 41, 42, 43, 44, 45, 46, 47, 48, 49, 50, 51, 52, 53, 54, 55, 56, 57, 58, 59, 60, 61, 62, 63, 64, 65, 66, 67] (by decide +kernel) (by decide +kernel)
set_option maxRecDepth 20000 in
theorem gX7_bounds_X7_all : GoodIn wsX7_bounds (wsV RX7 101 RX7 yX7_all wsX7_all) := goodIn_app (goodIn_of _ (by decide +kernel)) ggX7_bounds_X7_all
set_option maxRecDepth 20000 in
theorem ggX7_bounds_X7_isArc : GoodIn wsX7_bounds wsX7_isArc := goodIn_r _ [30, 20, 31, 32, 8, 33, 34, 35, 36, 37, 38, 39, 40, 41, 42, 43, 44, 45, 46, 47, 48, 49, 50, 51, 52, 53, 54, 55, 56, 57, 58, 59, 60, 61, 62, 63, 64, 65, 66, 67] (by decide +kernel) (by decide +kernel)
set_option maxRecDepth 20000 in
theorem gX7_bounds_X7_isArc : GoodIn wsX7_bounds (wsV RX7 143 RX7 yX7_isArc wsX7_isArc) := goodIn_app (goodIn_of _ (by decide +kernel)) ggX7_bounds_X7_isArc
theorem dX7_bounds_0 : decode cX7_bounds 0 = .ok (.aload_n 0, 1) := by decide +kernel
theorem dX7_bounds_1 : decode cX7_bounds 1 = .ok (.iconst 0, 1) := by decide +kernel
theorem dX7_bounds_2 : decode cX7_bounds 2 = .ok (.putfield 85, 3) := by decide +kernel
theorem dX7_bounds_5 : decode cX7_bounds 5 = .ok (.aload_n 0, 1) := by decide +kernel
theorem dX7_bounds_6 : decode cX7_bounds 6 = .ok (.invokevirtual 113, 3) := by decide +kernel
theorem dX7_bounds_9 : decode cX7_bounds 9 = .ok (.iload_n 2, 1) := by decide +kernel
theorem dX7_bounds_10 : decode cX7_bounds 10 = .ok (.ifCond .eq 7, 3) := by decide +kernel
theorem dX7_bounds_13 : decode cX7_bounds 13 = .ok (.iconst 0, 1) := by decide +kernel
theorem dX7_bounds_14 : decode cX7_bounds 14 = .ok (.goto 7, 3) := by decide +kernel
theorem dX7_bounds_17 : decode cX7_bounds 17 = .ok (.aload_n 0, 1) := by decide +kernel
theorem dX7_bounds_18 : decode cX7_bounds 18 = .ok (.invokevirtual 101, 3) := by decide +kernel
theorem dX7_bounds_21 : decode cX7_bounds 21 = .ok (.istore_n 3, 1) := by decide +kernel
theorem dX7_bounds_22 : decode cX7_bounds 22 = .ok (.iconst 0, 1) := by decide +kernel
theorem dX7_bounds_23 : decode cX7_bounds 23 = .ok (.istore 4, 2) := by decide +kernel
theorem dX7_bounds_25 : decode cX7_bounds 25 = .ok (.iconst 0, 1) := by decide +kernel
theorem dX7_bounds_26 : decode cX7_bounds 26 = .ok (.istore 5, 2) := by decide +kernel
theorem dX7_bounds_28 : decode cX7_bounds 28 = .ok (.iload 5, 2) := by decide +kernel
theorem dX7_bounds_30 : decode cX7_bounds 30 = .ok (.aload_n 0, 1) := by decide +kernel
theorem dX7_bounds_31 : decode cX7_bounds 31 = .ok (.getfield 98, 3) := by decide +kernel
theorem dX7_bounds_34 : decode cX7_bounds 34 = .ok (.if_icmp .ge 60, 3) := by decide +kernel
theorem dX7_bounds_37 : decode cX7_bounds 37 = .ok (.aload_n 0, 1) := by decide +kernel
theorem dX7_bounds_38 : decode cX7_bounds 38 = .ok (.iload_n 1, 1) := by decide +kernel
theorem dX7_bounds_39 : decode cX7_bounds 39 = .ok (.invokevirtual 143, 3) := by decide +kernel
theorem dX7_bounds_42 : decode cX7_bounds 42 = .ok (.ifCond .eq 52, 3) := by decide +kernel
theorem dX7_bounds_45 : decode cX7_bounds 45 = .ok (.aload_n 0, 1) := by decide +kernel
theorem dX7_bounds_46 : decode cX7_bounds 46 = .ok (.getfield 69, 3) := by decide +kernel
