theorem dX3_follow_52 : decode cX3_follow 52 = .ok (.iaload, 1) := by decide +kernel
theorem dX3_follow_53 : decode cX3_follow 53 = .ok (.dup2, 1) := by decide +kernel
theorem dX3_follow_54 : decode cX3_follow 54 = .ok (.iaload, 1) := by decide +kernel
theorem dX3_follow_55 : decode cX3_follow 55 = .ok (.iconst 1, 1) := by decide +kernel
theorem dX3_follow_56 : decode cX3_follow 56 = .ok (.aload_n 1, 1) := by decide +kernel
theorem dX3_follow_57 : decode cX3_follow 57 = .ok (.getfield 31, 3) := by decide +kernel
theorem dX3_follow_60 : decode cX3_follow 60 = .ok (.iload_n 3, 1) := by decide +kernel
theorem dX3_follow_61 : decode cX3_follow 61 = .ok (.iaload, 1) := by decide +kernel
theorem dX3_follow_62 : decode cX3_follow 62 = .ok (.ishl, 1) := by decide +kernel
theorem dX3_follow_63 : decode cX3_follow 63 = .ok (.ior, 1) := by decide +kernel
theorem dX3_follow_64 : decode cX3_follow 64 = .ok (.iastore, 1) := by decide +kernel
theorem dX3_follow_65 : decode cX3_follow 65 = .ok (.iload_n 2, 1) := by decide +kernel
theorem dX3_follow_66 : decode cX3_follow 66 = .ok (.iload_n 3, 1) := by decide +kernel
theorem dX3_follow_67 : decode cX3_follow 67 = .ok (.invokestatic 34, 3) := by decide +kernel
theorem dX3_follow_70 : decode cX3_follow 70 = .ok (.ifCond .eq 25, 3) := by decide +kernel
theorem dX3_follow_73 : decode cX3_follow 73 = .ok (.aload_n 0, 1) := by decide +kernel
theorem dX3_follow_74 : decode cX3_follow 74 = .ok (.getfield 9, 3) := by decide +kernel
theorem dX3_follow_77 : decode cX3_follow 77 = .ok (.aload_n 1, 1) := by decide +kernel
theorem dX3_follow_78 : decode cX3_follow 78 = .ok (.getfield 31, 3) := by decide +kernel
theorem dX3_follow_81 : decode cX3_follow 81 = .ok (.iload_n 3, 1) := by decide +kernel
theorem dX3_follow_82 : decode cX3_follow 82 = .ok (.iaload, 1) := by decide +kernel
theorem dX3_follow_83 : decode cX3_follow 83 = .ok (.dup2, 1) := by decide +kernel
theorem dX3_follow_84 : decode cX3_follow 84 = .ok (.iaload, 1) := by decide +kernel
theorem dX3_follow_85 : decode cX3_follow 85 = .ok (.iconst 1, 1) := by decide +kernel
theorem dX3_follow_86 : decode cX3_follow 86 = .ok (.aload_n 1, 1) := by decide +kernel
theorem dX3_follow_87 : decode cX3_follow 87 = .ok (.getfield 28, 3) := by decide +kernel
theorem dX3_follow_90 : decode cX3_follow 90 = .ok (.iload_n 3, 1) := by decide +kernel
theorem dX3_follow_91 : decode cX3_follow 91 = .ok (.iaload, 1) := by decide +kernel
theorem dX3_follow_92 : decode cX3_follow 92 = .ok (.ishl, 1) := by decide +kernel
theorem dX3_follow_93 : decode cX3_follow 93 = .ok (.ior, 1) := by decide +kernel
theorem dX3_follow_94 : decode cX3_follow 94 = .ok (.iastore, 1) := by decide +kernel
theorem dX3_follow_95 : decode cX3_follow 95 = .ok (.iinc 3 1, 3) := by decide +kernel
theorem dX3_follow_98 : decode cX3_follow 98 = .ok (.goto (-63), 3) := by decide +kernel
theorem dX3_follow_101 : decode cX3_follow 101 = .ok (.aload_n 0, 1) := by decide +kernel
theorem dX3_follow_102 : decode cX3_follow 102 = .ok (.invokevirtual 38, 3) := by decide +kernel
theorem dX3_follow_105 : decode cX3_follow 105 = .ok (.aload_n 0, 1) := by decide +kernel
theorem dX3_follow_106 : decode cX3_follow 106 = .ok (.invokevirtual 41, 3) := by decide +kernel
theorem dX3_follow_109 : decode cX3_follow 109 = .ok (.return_, 1) := by decide +kernel
set_option maxRecDepth 20000 in
theorem ggX3_closeOnward_X6_contains : GoodIn wsX3_closeOnward wsX6_contains := goodIn_r _ [5] (by decide +kernel) (by decide +kernel)
set_option maxRecDepth 20000 in
theorem gX3_closeOnward_X6_contains_n34 : GoodIn wsX3_closeOnward (wsX6_contains) := ggX3_closeOnward_X6_contains
theorem dX3_closeOnward_0 : decode cX3_closeOnward 0 = .ok (.iconst 0, 1) := by decide +kernel
theorem dX3_closeOnward_1 : decode cX3_closeOnward 1 = .ok (.istore_n 1, 1) := by decide +kernel
theorem dX3_closeOnward_2 : decode cX3_closeOnward 2 = .ok (.iload_n 1, 1) := by decide +kernel
theorem dX3_closeOnward_3 : decode cX3_closeOnward 3 = .ok (.aload_n 0, 1) := by decide +kernel
theorem dX3_closeOnward_4 : decode cX3_closeOnward 4 = .ok (.getfield 24, 3) := by decide +kernel
theorem dX3_closeOnward_7 : decode cX3_closeOnward 7 = .ok (.if_icmp .ge 53, 3) := by decide +kernel
theorem dX3_closeOnward_10 : decode cX3_closeOnward 10 = .ok (.iconst 0, 1) := by decide +kernel
theorem dX3_closeOnward_11 : decode cX3_closeOnward 11 = .ok (.istore_n 2, 1) := by decide +kernel
theorem dX3_closeOnward_12 : decode cX3_closeOnward 12 = .ok (.iload_n 2, 1) := by decide +kernel
theorem dX3_closeOnward_13 : decode cX3_closeOnward 13 = .ok (.aload_n 0, 1) := by decide +kernel
theorem dX3_closeOnward_14 : decode cX3_closeOnward 14 = .ok (.getfield 24, 3) := by decide +kernel
theorem dX3_closeOnward_17 : decode cX3_closeOnward 17 = .ok (.if_icmp .ge 37, 3) := by decide +kernel
theorem dX3_closeOnward_20 : decode cX3_closeOnward 20 = .ok (.aload_n 0, 1) := by decide +kernel
theorem dX3_closeOnward_21 : decode cX3_closeOnward 21 = .ok (.getfield 9, 3) := by decide +kernel
theorem dX3_closeOnward_24 : decode cX3_closeOnward 24 = .ok (.iload_n 2, 1) := by decide +kernel
theorem dX3_closeOnward_25 : decode cX3_closeOnward 25 = .ok (.iaload, 1) := by decide +kernel
theorem dX3_closeOnward_26 : decode cX3_closeOnward 26 = .ok (.iload_n 1, 1) := by decide +kernel
theorem dX3_closeOnward_27 : decode cX3_closeOnward 27 = .ok (.invokestatic 34, 3) := by decide +kernel
theorem dX3_closeOnward_30 : decode cX3_closeOnward 30 = .ok (.ifCond .eq 18, 3) := by decide +kernel
theorem dX3_closeOnward_33 : decode cX3_closeOnward 33 = .ok (.aload_n 0, 1) := by decide +kernel
theorem dX3_closeOnward_34 : decode cX3_closeOnward 34 = .ok (.getfield 9, 3) := by decide +kernel
theorem dX3_closeOnward_37 : decode cX3_closeOnward 37 = .ok (.iload_n 2, 1) := by decide +kernel
theorem dX3_closeOnward_38 : decode cX3_closeOnward 38 = .ok (.dup2, 1) := by decide +kernel
theorem dX3_closeOnward_39 : decode cX3_closeOnward 39 = .ok (.iaload, 1) := by decide +kernel
theorem dX3_closeOnward_40 : decode cX3_closeOnward 40 = .ok (.aload_n 0, 1) := by decide +kernel
theorem dX3_closeOnward_41 : decode cX3_closeOnward 41 = .ok (.getfield 9, 3) := by decide +kernel
theorem dX3_closeOnward_44 : decode cX3_closeOnward 44 = .ok (.iload_n 1, 1) := by decide +kernel
theorem dX3_closeOnward_45 : decode cX3_closeOnward 45 = .ok (.iaload, 1) := by decide +kernel
theorem dX3_closeOnward_46 : decode cX3_closeOnward 46 = .ok (.ior, 1) := by decide +kernel
theorem dX3_closeOnward_47 : decode cX3_closeOnward 47 = .ok (.iastore, 1) := by decide +kernel
theorem dX3_closeOnward_48 : decode cX3_closeOnward 48 = .ok (.iinc 2 1, 3) := by decide +kernel
theorem dX3_closeOnward_51 : decode cX3_closeOnward 51 = .ok (.goto (-39), 3) := by decide +kernel
theorem dX3_closeOnward_54 : decode cX3_closeOnward 54 = .ok (.iinc 1 1, 3) := by decide +kernel
theorem dX3_closeOnward_57 : decode cX3_closeOnward 57 = .ok (.goto (-55), 3) := by decide +kernel
theorem dX3_closeOnward_60 : decode cX3_closeOnward 60 = .ok (.return_, 1) := by decide +kernel
theorem dX3_turnToBack_0 : decode cX3_turnToBack 0 = .ok (.iconst 0, 1) := by decide +kernel
theorem dX3_turnToBack_1 : decode cX3_turnToBack 1 = .ok (.istore_n 1, 1) := by decide +kernel
theorem dX3_turnToBack_2 : decode cX3_turnToBack 2 = .ok (.iload_n 1, 1) := by decide +kernel
theorem dX3_turnToBack_3 : decode cX3_turnToBack 3 = .ok (.aload_n 0, 1) := by decide +kernel
theorem dX3_turnToBack_4 : decode cX3_turnToBack 4 = .ok (.getfield 24, 3) := by decide +kernel
theorem dX3_turnToBack_7 : decode cX3_turnToBack 7 = .ok (.if_icmp .ge 53, 3) := by decide +kernel
theorem dX3_turnToBack_10 : decode cX3_turnToBack 10 = .ok (.aload_n 0, 1) := by decide +kernel
theorem dX3_turnToBack_11 : decode cX3_turnToBack 11 = .ok (.getfield 15, 3) := by decide +kernel
theorem dX3_turnToBack_14 : decode cX3_turnToBack 14 = .ok (.iload_n 1, 1) := by decide +kernel
theorem dX3_turnToBack_15 : decode cX3_turnToBack 15 = .ok (.iconst 0, 1) := by decide +kernel
theorem dX3_turnToBack_16 : decode cX3_turnToBack 16 = .ok (.iastore, 1) := by decide +kernel
theorem dX3_turnToBack_17 : decode cX3_turnToBack 17 = .ok (.iconst 0, 1) := by decide +kernel
theorem dX3_turnToBack_18 : decode cX3_turnToBack 18 = .ok (.istore_n 2, 1) := by decide +kernel
theorem dX3_turnToBack_19 : decode cX3_turnToBack 19 = .ok (.iload_n 2, 1) := by decide +kernel
theorem dX3_turnToBack_20 : decode cX3_turnToBack 20 = .ok (.aload_n 0, 1) := by decide +kernel
theorem dX3_turnToBack_21 : decode cX3_turnToBack 21 = .ok (.getfield 24, 3) := by decide +kernel
theorem dX3_turnToBack_24 : decode cX3_turnToBack 24 = .ok (.if_icmp .ge 30, 3) := by decide +kernel
theorem dX3_turnToBack_27 : decode cX3_turnToBack 27 = .ok (.aload_n 0, 1) := by decide +kernel
theorem dX3_turnToBack_28 : decode cX3_turnToBack 28 = .ok (.getfield 15, 3) := by decide +kernel
theorem dX3_turnToBack_31 : decode cX3_turnToBack 31 = .ok (.iload_n 1, 1) := by decide +kernel
theorem dX3_turnToBack_32 : decode cX3_turnToBack 32 = .ok (.dup2, 1) := by decide +kernel
theorem dX3_turnToBack_33 : decode cX3_turnToBack 33 = .ok (.iaload, 1) := by decide +kernel
theorem dX3_turnToBack_34 : decode cX3_turnToBack 34 = .ok (.aload_n 0, 1) := by decide +kernel
theorem dX3_turnToBack_35 : decode cX3_turnToBack 35 = .ok (.getfield 9, 3) := by decide +kernel
theorem dX3_turnToBack_38 : decode cX3_turnToBack 38 = .ok (.iload_n 2, 1) := by decide +kernel
theorem dX3_turnToBack_39 : decode cX3_turnToBack 39 = .ok (.iaload, 1) := by decide +kernel
theorem dX3_turnToBack_40 : decode cX3_turnToBack 40 = .ok (.iload_n 1, 1) := by decide +kernel
theorem dX3_turnToBack_41 : decode cX3_turnToBack 41 = .ok (.ishr, 1) := by decide +kernel
theorem dX3_turnToBack_42 : decode cX3_turnToBack 42 = .ok (.iconst 1, 1) := by decide +kernel
theorem dX3_turnToBack_43 : decode cX3_turnToBack 43 = .ok (.iand, 1) := by decide +kernel
theorem dX3_turnToBack_44 : decode cX3_turnToBack 44 = .ok (.iload_n 2, 1) := by decide +kernel
theorem dX3_turnToBack_45 : decode cX3_turnToBack 45 = .ok (.ishl, 1) := by decide +kernel
theorem dX3_turnToBack_46 : decode cX3_turnToBack 46 = .ok (.ior, 1) := by decide +kernel
theorem dX3_turnToBack_47 : decode cX3_turnToBack 47 = .ok (.iastore, 1) := by decide +kernel
theorem dX3_turnToBack_48 : decode cX3_turnToBack 48 = .ok (.iinc 2 1, 3) := by decide +kernel
theorem dX3_turnToBack_51 : decode cX3_turnToBack 51 = .ok (.goto (-32), 3) := by decide +kernel
theorem dX3_turnToBack_54 : decode cX3_turnToBack 54 = .ok (.iinc 1 1, 3) := by decide +kernel
theorem dX3_turnToBack_57 : decode cX3_turnToBack 57 = .ok (.goto (-55), 3) := by decide +kernel
theorem dX3_turnToBack_60 : decode cX3_turnToBack 60 = .ok (.return_, 1) := by decide +kernel
theorem dX3_areStrong_0 : decode cX3_areStrong 0 = .ok (.iconst 1, 1) := by decide +kernel
theorem dX3_areStrong_1 : decode cX3_areStrong 1 = .ok (.aload_n 0, 1) := by decide +kernel
theorem dX3_areStrong_2 : decode cX3_areStrong 2 = .ok (.getfield 24, 3) := by decide +kernel
theorem dX3_areStrong_5 : decode cX3_areStrong 5 = .ok (.ishl, 1) := by decide +kernel
theorem dX3_areStrong_6 : decode cX3_areStrong 6 = .ok (.iconst 1, 1) := by decide +kernel
theorem dX3_areStrong_7 : decode cX3_areStrong 7 = .ok (.isub, 1) := by decide +kernel
theorem dX3_areStrong_8 : decode cX3_areStrong 8 = .ok (.istore_n 1, 1) := by decide +kernel
theorem dX3_areStrong_9 : decode cX3_areStrong 9 = .ok (.aload_n 0, 1) := by decide +kernel
theorem dX3_areStrong_10 : decode cX3_areStrong 10 = .ok (.getfield 9, 3) := by decide +kernel
theorem dX3_areStrong_13 : decode cX3_areStrong 13 = .ok (.iconst 0, 1) := by decide +kernel
theorem dX3_areStrong_14 : decode cX3_areStrong 14 = .ok (.iaload, 1) := by decide +kernel
theorem dX3_areStrong_15 : decode cX3_areStrong 15 = .ok (.iload_n 1, 1) := by decide +kernel
theorem dX3_areStrong_16 : decode cX3_areStrong 16 = .ok (.if_icmp .ne 17, 3) := by decide +kernel
theorem dX3_areStrong_19 : decode cX3_areStrong 19 = .ok (.aload_n 0, 1) := by decide +kernel
theorem dX3_areStrong_20 : decode cX3_areStrong 20 = .ok (.getfield 15, 3) := by decide +kernel
theorem dX3_areStrong_23 : decode cX3_areStrong 23 = .ok (.iconst 0, 1) := by decide +kernel
theorem dX3_areStrong_24 : decode cX3_areStrong 24 = .ok (.iaload, 1) := by decide +kernel
theorem dX3_areStrong_25 : decode cX3_areStrong 25 = .ok (.iload_n 1, 1) := by decide +kernel
theorem dX3_areStrong_26 : decode cX3_areStrong 26 = .ok (.if_icmp .ne 7, 3) := by decide +kernel
theorem dX3_areStrong_29 : decode cX3_areStrong 29 = .ok (.iconst 1, 1) := by decide +kernel
theorem dX3_areStrong_30 : decode cX3_areStrong 30 = .ok (.goto 4, 3) := by decide +kernel
theorem dX3_areStrong_33 : decode cX3_areStrong 33 = .ok (.iconst 0, 1) := by decide +kernel
theorem dX3_areStrong_34 : decode cX3_areStrong 34 = .ok (.ireturn, 1) := by decide +kernel
set_option maxRecDepth 20000 in
theorem ggX3_part_X6_contains : GoodIn wsX3_part wsX6_contains := goodIn_r _ [5] (by decide +kernel) (by decide +kernel)
set_option maxRecDepth 20000 in
theorem gX3_part_X6_contains_n34 : GoodIn wsX3_part (wsX6_contains) := ggX3_part_X6_contains
theorem dX3_part_0 : decode cX3_part 0 = .ok (.aload_n 0, 1) := by decide +kernel
theorem dX3_part_1 : decode cX3_part 1 = .ok (.getfield 9, 3) := by decide +kernel
theorem dX3_part_4 : decode cX3_part 4 = .ok (.iload_n 1, 1) := by decide +kernel
theorem dX3_part_5 : decode cX3_part 5 = .ok (.iaload, 1) := by decide +kernel
theorem dX3_part_6 : decode cX3_part 6 = .ok (.aload_n 0, 1) := by decide +kernel
theorem dX3_part_7 : decode cX3_part 7 = .ok (.getfield 15, 3) := by decide +kernel
theorem dX3_part_10 : decode cX3_part 10 = .ok (.iload_n 1, 1) := by decide +kernel
theorem dX3_part_11 : decode cX3_part 11 = .ok (.iaload, 1) := by decide +kernel
theorem dX3_part_12 : decode cX3_part 12 = .ok (.iand, 1) := by decide +kernel
theorem dX3_part_13 : decode cX3_part 13 = .ok (.istore_n 2, 1) := by decide +kernel
theorem dX3_part_14 : decode cX3_part 14 = .ok (.iconst 0, 1) := by decide +kernel
theorem dX3_part_15 : decode cX3_part 15 = .ok (.istore_n 3, 1) := by decide +kernel
theorem dX3_part_16 : decode cX3_part 16 = .ok (.iload_n 3, 1) := by decide +kernel
theorem dX3_part_17 : decode cX3_part 17 = .ok (.iload_n 1, 1) := by decide +kernel
theorem dX3_part_18 : decode cX3_part 18 = .ok (.if_icmp .ge 19, 3) := by decide +kernel
theorem dX3_part_21 : decode cX3_part 21 = .ok (.iload_n 2, 1) := by decide +kernel
theorem dX3_part_22 : decode cX3_part 22 = .ok (.iload_n 3, 1) := by decide +kernel
theorem dX3_part_23 : decode cX3_part 23 = .ok (.invokestatic 34, 3) := by decide +kernel
theorem dX3_part_26 : decode cX3_part 26 = .ok (.ifCond .eq 5, 3) := by decide +kernel
theorem dX3_part_29 : decode cX3_part 29 = .ok (.iload_n 3, 1) := by decide +kernel
theorem dX3_part_30 : decode cX3_part 30 = .ok (.ireturn, 1) := by decide +kernel
theorem dX3_part_31 : decode cX3_part 31 = .ok (.iinc 3 1, 3) := by decide +kernel
theorem dX3_part_34 : decode cX3_part 34 = .ok (.goto (-18), 3) := by decide +kernel
theorem dX3_part_37 : decode cX3_part 37 = .ok (.iload_n 1, 1) := by decide +kernel
theorem dX3_part_38 : decode cX3_part 38 = .ok (.ireturn, 1) := by decide +kernel
set_option maxRecDepth 20000 in
theorem ggX3_parts_X3_part : GoodIn wsX3_parts wsX3_part := goodIn_r _ [6, 7, 8, 9, 10, 11, 12, 13, 14] (by decide +kernel) (by decide +kernel)
set_option maxRecDepth 20000 in
theorem gX3_parts_X3_part : GoodIn wsX3_parts (wsV RX3 44 RX3 yX3_part wsX3_part) := goodIn_app (goodIn_of _ (by decide +kernel)) ggX3_parts_X3_part
theorem dX3_parts_0 : decode cX3_parts 0 = .ok (.iconst 0, 1) := by decide +kernel
theorem dX3_parts_1 : decode cX3_parts 1 = .ok (.istore_n 1, 1) := by decide +kernel
theorem dX3_parts_2 : decode cX3_parts 2 = .ok (.iconst 0, 1) := by decide +kernel
theorem dX3_parts_3 : decode cX3_parts 3 = .ok (.istore_n 2, 1) := by decide +kernel
theorem dX3_parts_4 : decode cX3_parts 4 = .ok (.iload_n 2, 1) := by decide +kernel
theorem dX3_parts_5 : decode cX3_parts 5 = .ok (.aload_n 0, 1) := by decide +kernel
theorem dX3_parts_6 : decode cX3_parts 6 = .ok (.getfield 24, 3) := by decide +kernel
theorem dX3_parts_9 : decode cX3_parts 9 = .ok (.if_icmp .ge 21, 3) := by decide +kernel
theorem dX3_parts_12 : decode cX3_parts 12 = .ok (.aload_n 0, 1) := by decide +kernel
theorem dX3_parts_13 : decode cX3_parts 13 = .ok (.iload_n 2, 1) := by decide +kernel
theorem dX3_parts_14 : decode cX3_parts 14 = .ok (.invokevirtual 44, 3) := by decide +kernel
theorem dX3_parts_17 : decode cX3_parts 17 = .ok (.iload_n 2, 1) := by decide +kernel
theorem dX3_parts_18 : decode cX3_parts 18 = .ok (.if_icmp .ne 6, 3) := by decide +kernel
theorem dX3_parts_21 : decode cX3_parts 21 = .ok (.iinc 1 1, 3) := by decide +kernel
theorem dX3_parts_24 : decode cX3_parts 24 = .ok (.iinc 2 1, 3) := by decide +kernel
theorem dX3_parts_27 : decode cX3_parts 27 = .ok (.goto (-23), 3) := by decide +kernel
theorem dX3_parts_30 : decode cX3_parts 30 = .ok (.iload_n 1, 1) := by decide +kernel
theorem dX3_parts_31 : decode cX3_parts 31 = .ok (.ireturn, 1) := by decide +kernel
theorem dX4_init_0 : decode cX4_init 0 = .ok (.aload_n 0, 1) := by decide +kernel
theorem dX4_init_1 : decode cX4_init 1 = .ok (.invokespecial 3, 3) := by decide +kernel
theorem dX4_init_4 : decode cX4_init 4 = .ok (.aload_n 0, 1) := by decide +kernel
theorem dX4_init_5 : decode cX4_init 5 = .ok (.sipush 256, 3) := by decide +kernel
theorem dX4_init_8 : decode cX4_init 8 = .ok (.newarray .int, 2) := by decide +kernel
theorem dX4_init_10 : decode cX4_init 10 = .ok (.putfield 9, 3) := by decide +kernel
theorem dX4_init_13 : decode cX4_init 13 = .ok (.aload_n 0, 1) := by decide +kernel
theorem dX4_init_14 : decode cX4_init 14 = .ok (.bipush 16, 2) := by decide +kernel
theorem dX4_init_16 : decode cX4_init 16 = .ok (.newarray .int, 2) := by decide +kernel
theorem dX4_init_18 : decode cX4_init 18 = .ok (.putfield 15, 3) := by decide +kernel
theorem dX4_init_21 : decode cX4_init 21 = .ok (.aload_n 0, 1) := by decide +kernel
theorem dX4_init_22 : decode cX4_init 22 = .ok (.bipush 16, 2) := by decide +kernel
theorem dX4_init_24 : decode cX4_init 24 = .ok (.newarray .int, 2) := by decide +kernel
theorem dX4_init_26 : decode cX4_init 26 = .ok (.putfield 18, 3) := by decide +kernel
theorem dX4_init_29 : decode cX4_init 29 = .ok (.return_, 1) := by decide +kernel
set_option maxRecDepth 20000 in
theorem ggX4_takeBorders_X4_takeBorder : GoodIn wsX4_takeBorders wsX4_takeBorder := goodIn_r _ [8, 1, 9, 10, 11, 12, 13, 14, 15, 16, 17, 18, 19] (by decide +kernel) (by decide +kernel)
set_option maxRecDepth 20000 in
theorem gX4_takeBorders_X4_takeBorder : GoodIn wsX4_takeBorders (wsV RX4 29 RX4 yX4_takeBorder wsX4_takeBorder) := goodIn_app (goodIn_of _ (by decide +kernel)) ggX4_takeBorders_X4_takeBorder
theorem dX4_takeBorders_0 : decode cX4_takeBorders 0 = .ok (.aload_n 0, 1) := by decide +kernel
theorem dX4_takeBorders_1 : decode cX4_takeBorders 1 = .ok (.iconst 0, 1) := by decide +kernel
theorem dX4_takeBorders_2 : decode cX4_takeBorders 2 = .ok (.putfield 21, 3) := by decide +kernel
theorem dX4_takeBorders_5 : decode cX4_takeBorders 5 = .ok (.iconst 0, 1) := by decide +kernel
theorem dX4_takeBorders_6 : decode cX4_takeBorders 6 = .ok (.istore_n 2, 1) := by decide +kernel
theorem dX4_takeBorders_7 : decode cX4_takeBorders 7 = .ok (.iload_n 2, 1) := by decide +kernel
theorem dX4_takeBorders_8 : decode cX4_takeBorders 8 = .ok (.aload_n 1, 1) := by decide +kernel
theorem dX4_takeBorders_9 : decode cX4_takeBorders 9 = .ok (.getfield 25, 3) := by decide +kernel
theorem dX4_takeBorders_12 : decode cX4_takeBorders 12 = .ok (.if_icmp .ge 19, 3) := by decide +kernel
theorem dX4_takeBorders_15 : decode cX4_takeBorders 15 = .ok (.aload_n 0, 1) := by decide +kernel
theorem dX4_takeBorders_16 : decode cX4_takeBorders 16 = .ok (.aload_n 1, 1) := by decide +kernel
theorem dX4_takeBorders_17 : decode cX4_takeBorders 17 = .ok (.getfield 28, 3) := by decide +kernel
theorem dX4_takeBorders_20 : decode cX4_takeBorders 20 = .ok (.iload_n 2, 1) := by decide +kernel
theorem dX4_takeBorders_21 : decode cX4_takeBorders 21 = .ok (.iaload, 1) := by decide +kernel
theorem dX4_takeBorders_22 : decode cX4_takeBorders 22 = .ok (.invokevirtual 29, 3) := by decide +kernel
theorem dX4_takeBorders_25 : decode cX4_takeBorders 25 = .ok (.iinc 2 1, 3) := by decide +kernel
theorem dX4_takeBorders_28 : decode cX4_takeBorders 28 = .ok (.goto (-21), 3) := by decide +kernel
theorem dX4_takeBorders_31 : decode cX4_takeBorders 31 = .ok (.return_, 1) := by decide +kernel
theorem dX4_takeBorder_0 : decode cX4_takeBorder 0 = .ok (.iconst 0, 1) := by decide +kernel
theorem dX4_takeBorder_1 : decode cX4_takeBorder 1 = .ok (.istore_n 2, 1) := by decide +kernel
theorem dX4_takeBorder_2 : decode cX4_takeBorder 2 = .ok (.iconst 0, 1) := by decide +kernel
theorem dX4_takeBorder_3 : decode cX4_takeBorder 3 = .ok (.istore_n 3, 1) := by decide +kernel
theorem dX4_takeBorder_4 : decode cX4_takeBorder 4 = .ok (.iload_n 3, 1) := by decide +kernel
theorem dX4_takeBorder_5 : decode cX4_takeBorder 5 = .ok (.aload_n 0, 1) := by decide +kernel
theorem dX4_takeBorder_6 : decode cX4_takeBorder 6 = .ok (.getfield 21, 3) := by decide +kernel
theorem dX4_takeBorder_9 : decode cX4_takeBorder 9 = .ok (.if_icmp .ge 23, 3) := by decide +kernel
theorem dX4_takeBorder_12 : decode cX4_takeBorder 12 = .ok (.aload_n 0, 1) := by decide +kernel
theorem dX4_takeBorder_13 : decode cX4_takeBorder 13 = .ok (.getfield 9, 3) := by decide +kernel
theorem dX4_takeBorder_16 : decode cX4_takeBorder 16 = .ok (.iload_n 3, 1) := by decide +kernel
theorem dX4_takeBorder_17 : decode cX4_takeBorder 17 = .ok (.iaload, 1) := by decide +kernel
theorem dX4_takeBorder_18 : decode cX4_takeBorder 18 = .ok (.iload_n 1, 1) := by decide +kernel
theorem dX4_takeBorder_19 : decode cX4_takeBorder 19 = .ok (.iconst (-1), 1) := by decide +kernel
theorem dX4_takeBorder_20 : decode cX4_takeBorder 20 = .ok (.ixor, 1) := by decide +kernel
theorem dX4_takeBorder_21 : decode cX4_takeBorder 21 = .ok (.iand, 1) := by decide +kernel
theorem dX4_takeBorder_22 : decode cX4_takeBorder 22 = .ok (.ifCond .ne 4, 3) := by decide +kernel
theorem dX4_takeBorder_25 : decode cX4_takeBorder 25 = .ok (.return_, 1) := by decide +kernel
theorem dX4_takeBorder_26 : decode cX4_takeBorder 26 = .ok (.iinc 3 1, 3) := by decide +kernel
theorem dX4_takeBorder_29 : decode cX4_takeBorder 29 = .ok (.goto (-25), 3) := by decide +kernel
theorem dX4_takeBorder_32 : decode cX4_takeBorder 32 = .ok (.iconst 0, 1) := by decide +kernel
theorem dX4_takeBorder_33 : decode cX4_takeBorder 33 = .ok (.istore_n 3, 1) := by decide +kernel
theorem dX4_takeBorder_34 : decode cX4_takeBorder 34 = .ok (.iload_n 3, 1) := by decide +kernel
theorem dX4_takeBorder_35 : decode cX4_takeBorder 35 = .ok (.aload_n 0, 1) := by decide +kernel
theorem dX4_takeBorder_36 : decode cX4_takeBorder 36 = .ok (.getfield 21, 3) := by decide +kernel
theorem dX4_takeBorder_39 : decode cX4_takeBorder 39 = .ok (.if_icmp .ge 37, 3) := by decide +kernel
theorem dX4_takeBorder_42 : decode cX4_takeBorder 42 = .ok (.iload_n 1, 1) := by decide +kernel
theorem dX4_takeBorder_43 : decode cX4_takeBorder 43 = .ok (.aload_n 0, 1) := by decide +kernel
theorem dX4_takeBorder_44 : decode cX4_takeBorder 44 = .ok (.getfield 9, 3) := by decide +kernel
theorem dX4_takeBorder_47 : decode cX4_takeBorder 47 = .ok (.iload_n 3, 1) := by decide +kernel
theorem dX4_takeBorder_48 : decode cX4_takeBorder 48 = .ok (.iaload, 1) := by decide +kernel
theorem dX4_takeBorder_49 : decode cX4_takeBorder 49 = .ok (.iconst (-1), 1) := by decide +kernel
theorem dX4_takeBorder_50 : decode cX4_takeBorder 50 = .ok (.ixor, 1) := by decide +kernel
theorem dX4_takeBorder_51 : decode cX4_takeBorder 51 = .ok (.iand, 1) := by decide +kernel
theorem dX4_takeBorder_52 : decode cX4_takeBorder 52 = .ok (.ifCond .eq 18, 3) := by decide +kernel
theorem dX4_takeBorder_55 : decode cX4_takeBorder 55 = .ok (.aload_n 0, 1) := by decide +kernel
theorem dX4_takeBorder_56 : decode cX4_takeBorder 56 = .ok (.getfield 9, 3) := by decide +kernel
theorem dX4_takeBorder_59 : decode cX4_takeBorder 59 = .ok (.iload_n 2, 1) := by decide +kernel
theorem dX4_takeBorder_60 : decode cX4_takeBorder 60 = .ok (.aload_n 0, 1) := by decide +kernel
theorem dX4_takeBorder_61 : decode cX4_takeBorder 61 = .ok (.getfield 9, 3) := by decide +kernel
theorem dX4_takeBorder_64 : decode cX4_takeBorder 64 = .ok (.iload_n 3, 1) := by decide +kernel
theorem dX4_takeBorder_65 : decode cX4_takeBorder 65 = .ok (.iaload, 1) := by decide +kernel
theorem dX4_takeBorder_66 : decode cX4_takeBorder 66 = .ok (.iastore, 1) := by decide +kernel
theorem dX4_takeBorder_67 : decode cX4_takeBorder 67 = .ok (.iinc 2 1, 3) := by decide +kernel
theorem dX4_takeBorder_70 : decode cX4_takeBorder 70 = .ok (.iinc 3 1, 3) := by decide +kernel
theorem dX4_takeBorder_73 : decode cX4_takeBorder 73 = .ok (.goto (-39), 3) := by decide +kernel
theorem dX4_takeBorder_76 : decode cX4_takeBorder 76 = .ok (.iload_n 2, 1) := by decide +kernel
theorem dX4_takeBorder_77 : decode cX4_takeBorder 77 = .ok (.sipush 256, 3) := by decide +kernel
theorem dX4_takeBorder_80 : decode cX4_takeBorder 80 = .ok (.if_icmp .ge 17, 3) := by decide +kernel
theorem dX4_takeBorder_83 : decode cX4_takeBorder 83 = .ok (.aload_n 0, 1) := by decide +kernel
theorem dX4_takeBorder_84 : decode cX4_takeBorder 84 = .ok (.getfield 9, 3) := by decide +kernel
theorem dX4_takeBorder_87 : decode cX4_takeBorder 87 = .ok (.iload_n 2, 1) := by decide +kernel
theorem dX4_takeBorder_88 : decode cX4_takeBorder 88 = .ok (.iload_n 1, 1) := by decide +kernel
theorem dX4_takeBorder_89 : decode cX4_takeBorder 89 = .ok (.iastore, 1) := by decide +kernel
theorem dX4_takeBorder_90 : decode cX4_takeBorder 90 = .ok (.aload_n 0, 1) := by decide +kernel
theorem dX4_takeBorder_91 : decode cX4_takeBorder 91 = .ok (.iload_n 2, 1) := by decide +kernel
theorem dX4_takeBorder_92 : decode cX4_takeBorder 92 = .ok (.iconst 1, 1) := by decide +kernel
theorem dX4_takeBorder_93 : decode cX4_takeBorder 93 = .ok (.iadd, 1) := by decide +kernel
theorem dX4_takeBorder_94 : decode cX4_takeBorder 94 = .ok (.putfield 21, 3) := by decide +kernel
theorem dX4_takeBorder_97 : decode cX4_takeBorder 97 = .ok (.return_, 1) := by decide +kernel
theorem dX4_priceByWeight_0 : decode cX4_priceByWeight 0 = .ok (.aload_n 0, 1) := by decide +kernel
theorem dX4_priceByWeight_1 : decode cX4_priceByWeight 1 = .ok (.aload_n 1, 1) := by decide +kernel
theorem dX4_priceByWeight_2 : decode cX4_priceByWeight 2 = .ok (.getfield 33, 3) := by decide +kernel
theorem dX4_priceByWeight_5 : decode cX4_priceByWeight 5 = .ok (.putfield 38, 3) := by decide +kernel
theorem dX4_priceByWeight_8 : decode cX4_priceByWeight 8 = .ok (.aload_n 0, 1) := by decide +kernel
theorem dX4_priceByWeight_9 : decode cX4_priceByWeight 9 = .ok (.iconst 0, 1) := by decide +kernel
theorem dX4_priceByWeight_10 : decode cX4_priceByWeight 10 = .ok (.putfield 39, 3) := by decide +kernel
theorem dX4_priceByWeight_13 : decode cX4_priceByWeight 13 = .ok (.aload_n 1, 1) := by decide +kernel
theorem dX4_priceByWeight_14 : decode cX4_priceByWeight 14 = .ok (.getfield 42, 3) := by decide +kernel
theorem dX4_priceByWeight_17 : decode cX4_priceByWeight 17 = .ok (.iconst 0, 1) := by decide +kernel
theorem dX4_priceByWeight_18 : decode cX4_priceByWeight 18 = .ok (.aload_n 0, 1) := by decide +kernel
theorem dX4_priceByWeight_19 : decode cX4_priceByWeight 19 = .ok (.getfield 15, 3) := by decide +kernel
theorem dX4_priceByWeight_22 : decode cX4_priceByWeight 22 = .ok (.iconst 0, 1) := by decide +kernel
theorem dX4_priceByWeight_23 : decode cX4_priceByWeight 23 = .ok (.bipush 16, 2) := by decide +kernel
theorem dX4_priceByWeight_25 : decode cX4_priceByWeight 25 = .ok (.invokestatic 45, 3) := by decide +kernel
theorem dX4_priceByWeight_28 : decode cX4_priceByWeight 28 = .ok (.return_, 1) := by decide +kernel
theorem dX4_priceWithTies_0 : decode cX4_priceWithTies 0 = .ok (.aload_n 0, 1) := by decide +kernel
theorem dX4_priceWithTies_1 : decode cX4_priceWithTies 1 = .ok (.aload_n 1, 1) := by decide +kernel
theorem dX4_priceWithTies_2 : decode cX4_priceWithTies 2 = .ok (.getfield 33, 3) := by decide +kernel
theorem dX4_priceWithTies_5 : decode cX4_priceWithTies 5 = .ok (.putfield 38, 3) := by decide +kernel
theorem dX4_priceWithTies_8 : decode cX4_priceWithTies 8 = .ok (.aload_n 0, 1) := by decide +kernel
theorem dX4_priceWithTies_9 : decode cX4_priceWithTies 9 = .ok (.iconst 0, 1) := by decide +kernel
theorem dX4_priceWithTies_10 : decode cX4_priceWithTies 10 = .ok (.putfield 39, 3) := by decide +kernel
theorem dX4_priceWithTies_13 : decode cX4_priceWithTies 13 = .ok (.iconst 0, 1) := by decide +kernel
theorem dX4_priceWithTies_14 : decode cX4_priceWithTies 14 = .ok (.istore_n 2, 1) := by decide +kernel
theorem dX4_priceWithTies_15 : decode cX4_priceWithTies 15 = .ok (.iload_n 2, 1) := by decide +kernel
theorem dX4_priceWithTies_16 : decode cX4_priceWithTies 16 = .ok (.aload_n 0, 1) := by decide +kernel
theorem dX4_priceWithTies_17 : decode cX4_priceWithTies 17 = .ok (.getfield 38, 3) := by decide +kernel
theorem dX4_priceWithTies_20 : decode cX4_priceWithTies 20 = .ok (.if_icmp .ge 28, 3) := by decide +kernel
theorem dX4_priceWithTies_23 : decode cX4_priceWithTies 23 = .ok (.aload_n 0, 1) := by decide +kernel
theorem dX4_priceWithTies_24 : decode cX4_priceWithTies 24 = .ok (.getfield 15, 3) := by decide +kernel
theorem dX4_priceWithTies_27 : decode cX4_priceWithTies 27 = .ok (.iload_n 2, 1) := by decide +kernel
theorem dX4_priceWithTies_28 : decode cX4_priceWithTies 28 = .ok (.aload_n 1, 1) := by decide +kernel
theorem dX4_priceWithTies_29 : decode cX4_priceWithTies 29 = .ok (.getfield 42, 3) := by decide +kernel
theorem dX4_priceWithTies_32 : decode cX4_priceWithTies 32 = .ok (.iload_n 2, 1) := by decide +kernel
theorem dX4_priceWithTies_33 : decode cX4_priceWithTies 33 = .ok (.iaload, 1) := by decide +kernel
theorem dX4_priceWithTies_34 : decode cX4_priceWithTies 34 = .ok (.bipush 16, 2) := by decide +kernel
theorem dX4_priceWithTies_36 : decode cX4_priceWithTies 36 = .ok (.ishl, 1) := by decide +kernel
theorem dX4_priceWithTies_37 : decode cX4_priceWithTies 37 = .ok (.iconst 1, 1) := by decide +kernel
theorem dX4_priceWithTies_38 : decode cX4_priceWithTies 38 = .ok (.iload_n 2, 1) := by decide +kernel
theorem dX4_priceWithTies_39 : decode cX4_priceWithTies 39 = .ok (.ishl, 1) := by decide +kernel
theorem dX4_priceWithTies_40 : decode cX4_priceWithTies 40 = .ok (.iadd, 1) := by decide +kernel
theorem dX4_priceWithTies_41 : decode cX4_priceWithTies 41 = .ok (.iastore, 1) := by decide +kernel
theorem dX4_priceWithTies_42 : decode cX4_priceWithTies 42 = .ok (.iinc 2 1, 3) := by decide +kernel
theorem dX4_priceWithTies_45 : decode cX4_priceWithTies 45 = .ok (.goto (-30), 3) := by decide +kernel
theorem dX4_priceWithTies_48 : decode cX4_priceWithTies 48 = .ok (.return_, 1) := by decide +kernel
theorem dX4_reprice_0 : decode cX4_reprice 0 = .ok (.iload_n 2, 1) := by decide +kernel
theorem dX4_reprice_1 : decode cX4_reprice 1 = .ok (.iconst (-1), 1) := by decide +kernel
theorem dX4_reprice_2 : decode cX4_reprice 2 = .ok (.if_icmp .ne 13, 3) := by decide +kernel
theorem dX4_reprice_5 : decode cX4_reprice 5 = .ok (.aload_n 0, 1) := by decide +kernel
theorem dX4_reprice_6 : decode cX4_reprice 6 = .ok (.iconst 1, 1) := by decide +kernel
theorem dX4_reprice_7 : decode cX4_reprice 7 = .ok (.iload_n 1, 1) := by decide +kernel
theorem dX4_reprice_8 : decode cX4_reprice 8 = .ok (.ishl, 1) := by decide +kernel
theorem dX4_reprice_9 : decode cX4_reprice 9 = .ok (.putfield 39, 3) := by decide +kernel
theorem dX4_reprice_12 : decode cX4_reprice 12 = .ok (.goto 10, 3) := by decide +kernel
theorem dX4_reprice_15 : decode cX4_reprice 15 = .ok (.aload_n 0, 1) := by decide +kernel
theorem dX4_reprice_16 : decode cX4_reprice 16 = .ok (.getfield 15, 3) := by decide +kernel
theorem dX4_reprice_19 : decode cX4_reprice 19 = .ok (.iload_n 1, 1) := by decide +kernel
theorem dX4_reprice_20 : decode cX4_reprice 20 = .ok (.iload_n 2, 1) := by decide +kernel
theorem dX4_reprice_21 : decode cX4_reprice 21 = .ok (.iastore, 1) := by decide +kernel
theorem dX4_reprice_22 : decode cX4_reprice 22 = .ok (.return_, 1) := by decide +kernel
set_option maxRecDepth 20000 in
theorem ggX4_spend_X6_contains : GoodIn wsX4_spend wsX6_contains := goodIn_r _ [5] (by decide +kernel) (by decide +kernel)
set_option maxRecDepth 20000 in
theorem gX4_spend_X6_contains_n51 : GoodIn wsX4_spend (wsX6_contains) := ggX4_spend_X6_contains
theorem dX4_spend_0 : decode cX4_spend 0 = .ok (.iconst 0, 1) := by decide +kernel
theorem dX4_spend_1 : decode cX4_spend 1 = .ok (.istore_n 3, 1) := by decide +kernel
theorem dX4_spend_2 : decode cX4_spend 2 = .ok (.iload_n 3, 1) := by decide +kernel
theorem dX4_spend_3 : decode cX4_spend 3 = .ok (.aload_n 0, 1) := by decide +kernel
theorem dX4_spend_4 : decode cX4_spend 4 = .ok (.getfield 38, 3) := by decide +kernel
theorem dX4_spend_7 : decode cX4_spend 7 = .ok (.if_icmp .ge 27, 3) := by decide +kernel
theorem dX4_spend_10 : decode cX4_spend 10 = .ok (.iload_n 1, 1) := by decide +kernel
theorem dX4_spend_11 : decode cX4_spend 11 = .ok (.iload_n 3, 1) := by decide +kernel
theorem dX4_spend_12 : decode cX4_spend 12 = .ok (.invokestatic 51, 3) := by decide +kernel
theorem dX4_spend_15 : decode cX4_spend 15 = .ok (.ifCond .eq 13, 3) := by decide +kernel
theorem dX4_spend_18 : decode cX4_spend 18 = .ok (.aload_n 0, 1) := by decide +kernel
theorem dX4_spend_19 : decode cX4_spend 19 = .ok (.getfield 15, 3) := by decide +kernel
theorem dX4_spend_22 : decode cX4_spend 22 = .ok (.iload_n 3, 1) := by decide +kernel
theorem dX4_spend_23 : decode cX4_spend 23 = .ok (.dup2, 1) := by decide +kernel
theorem dX4_spend_24 : decode cX4_spend 24 = .ok (.iaload, 1) := by decide +kernel
theorem dX4_spend_25 : decode cX4_spend 25 = .ok (.iload_n 2, 1) := by decide +kernel
theorem dX4_spend_26 : decode cX4_spend 26 = .ok (.isub, 1) := by decide +kernel
theorem dX4_spend_27 : decode cX4_spend 27 = .ok (.iastore, 1) := by decide +kernel
theorem dX4_spend_28 : decode cX4_spend 28 = .ok (.iinc 3 1, 3) := by decide +kernel
theorem dX4_spend_31 : decode cX4_spend 31 = .ok (.goto (-29), 3) := by decide +kernel
theorem dX4_spend_34 : decode cX4_spend 34 = .ok (.return_, 1) := by decide +kernel
set_option maxRecDepth 20000 in
theorem ggX4_findBelow_X4_descend : GoodIn wsX4_findBelow wsX4_descend := goodIn_r _ [9, 1, 10, 2, 4, 11, 12, 13, 8, 14, 15, 16, 17, 18, 19, 20, 21, 22, 23, 24, 25, 26, 27, 3, 28, 29, 30, 31, 32, 33, 34, 35, 36, 37, 38, 39, 40, 41, 6, 7, 42, 43, 44, 45, 46, 47, 48, 49, 50, 51] (by decide +kernel) (by decide +kernel)
set_option maxRecDepth 20000 in
theorem gX4_findBelow_X4_descend : GoodIn wsX4_findBelow (va_wsS RX4 61 yX4_descend wsX4_descend) := goodIn_app (goodIn_of _ (by decide +kernel)) ggX4_findBelow_X4_descend
theorem dX4_findBelow_0 : decode cX4_findBelow 0 = .ok (.aload_n 0, 1) := by decide +kernel
theorem dX4_findBelow_1 : decode cX4_findBelow 1 = .ok (.iload_n 1, 1) := by decide +kernel
theorem dX4_findBelow_2 : decode cX4_findBelow 2 = .ok (.putfield 55, 3) := by decide +kernel
theorem dX4_findBelow_5 : decode cX4_findBelow 5 = .ok (.aload_n 0, 1) := by decide +kernel
theorem dX4_findBelow_6 : decode cX4_findBelow 6 = .ok (.iconst 0, 1) := by decide +kernel
theorem dX4_findBelow_7 : decode cX4_findBelow 7 = .ok (.putfield 58, 3) := by decide +kernel
theorem dX4_findBelow_10 : decode cX4_findBelow 10 = .ok (.iconst 0, 1) := by decide +kernel
theorem dX4_findBelow_11 : decode cX4_findBelow 11 = .ok (.istore_n 2, 1) := by decide +kernel
theorem dX4_findBelow_12 : decode cX4_findBelow 12 = .ok (.iconst 0, 1) := by decide +kernel
theorem dX4_findBelow_13 : decode cX4_findBelow 13 = .ok (.istore_n 3, 1) := by decide +kernel
theorem dX4_findBelow_14 : decode cX4_findBelow 14 = .ok (.iload_n 3, 1) := by decide +kernel
theorem dX4_findBelow_15 : decode cX4_findBelow 15 = .ok (.aload_n 0, 1) := by decide +kernel
theorem dX4_findBelow_16 : decode cX4_findBelow 16 = .ok (.getfield 38, 3) := by decide +kernel
theorem dX4_findBelow_19 : decode cX4_findBelow 19 = .ok (.if_icmp .ge 24, 3) := by decide +kernel
theorem dX4_findBelow_22 : decode cX4_findBelow 22 = .ok (.aload_n 0, 1) := by decide +kernel
theorem dX4_findBelow_23 : decode cX4_findBelow 23 = .ok (.getfield 15, 3) := by decide +kernel
theorem dX4_findBelow_26 : decode cX4_findBelow 26 = .ok (.iload_n 3, 1) := by decide +kernel
theorem dX4_findBelow_27 : decode cX4_findBelow 27 = .ok (.iaload, 1) := by decide +kernel
theorem dX4_findBelow_28 : decode cX4_findBelow 28 = .ok (.ifCond .ne 9, 3) := by decide +kernel
theorem dX4_findBelow_31 : decode cX4_findBelow 31 = .ok (.iload_n 2, 1) := by decide +kernel
theorem dX4_findBelow_32 : decode cX4_findBelow 32 = .ok (.iconst 1, 1) := by decide +kernel
theorem dX4_findBelow_33 : decode cX4_findBelow 33 = .ok (.iload_n 3, 1) := by decide +kernel
theorem dX4_findBelow_34 : decode cX4_findBelow 34 = .ok (.ishl, 1) := by decide +kernel
theorem dX4_findBelow_35 : decode cX4_findBelow 35 = .ok (.ior, 1) := by decide +kernel
theorem dX4_findBelow_36 : decode cX4_findBelow 36 = .ok (.istore_n 2, 1) := by decide +kernel
theorem dX4_findBelow_37 : decode cX4_findBelow 37 = .ok (.iinc 3 1, 3) := by decide +kernel
theorem dX4_findBelow_40 : decode cX4_findBelow 40 = .ok (.goto (-26), 3) := by decide +kernel
theorem dX4_findBelow_43 : decode cX4_findBelow 43 = .ok (.aload_n 0, 1) := by decide +kernel
theorem dX4_findBelow_44 : decode cX4_findBelow 44 = .ok (.iload_n 2, 1) := by decide +kernel
theorem dX4_findBelow_45 : decode cX4_findBelow 45 = .ok (.aload_n 0, 1) := by decide +kernel
theorem dX4_findBelow_46 : decode cX4_findBelow 46 = .ok (.getfield 39, 3) := by decide +kernel
theorem dX4_findBelow_49 : decode cX4_findBelow 49 = .ok (.iconst (-1), 1) := by decide +kernel
theorem dX4_findBelow_50 : decode cX4_findBelow 50 = .ok (.ixor, 1) := by decide +kernel
theorem dX4_findBelow_51 : decode cX4_findBelow 51 = .ok (.iand, 1) := by decide +kernel
theorem dX4_findBelow_52 : decode cX4_findBelow 52 = .ok (.aload_n 0, 1) := by decide +kernel
theorem dX4_findBelow_53 : decode cX4_findBelow 53 = .ok (.getfield 39, 3) := by decide +kernel
theorem dX4_findBelow_56 : decode cX4_findBelow 56 = .ok (.iconst 0, 1) := by decide +kernel
theorem dX4_findBelow_57 : decode cX4_findBelow 57 = .ok (.iconst 0, 1) := by decide +kernel
theorem dX4_findBelow_58 : decode cX4_findBelow 58 = .ok (.invokestatic 61, 3) := by decide +kernel
theorem dX4_findBelow_61 : decode cX4_findBelow 61 = .ok (.aload_n 0, 1) := by decide +kernel
theorem dX4_findBelow_62 : decode cX4_findBelow 62 = .ok (.getfield 55, 3) := by decide +kernel
theorem dX4_findBelow_65 : decode cX4_findBelow 65 = .ok (.iload_n 1, 1) := by decide +kernel
theorem dX4_findBelow_66 : decode cX4_findBelow 66 = .ok (.if_icmp .ge 7, 3) := by decide +kernel
theorem dX4_findBelow_69 : decode cX4_findBelow 69 = .ok (.iconst 1, 1) := by decide +kernel
theorem dX4_findBelow_70 : decode cX4_findBelow 70 = .ok (.goto 4, 3) := by decide +kernel
theorem dX4_findBelow_73 : decode cX4_findBelow 73 = .ok (.iconst 0, 1) := by decide +kernel
theorem dX4_findBelow_74 : decode cX4_findBelow 74 = .ok (.ireturn, 1) := by decide +kernel
set_option maxRecDepth 20000 in
theorem ggX4_descend_X4_boundOf : GoodIn wsX4_descend wsX4_boundOf := goodIn_r _ [9, 2, 10, 4, 11, 12, 13, 14, 15, 16, 17, 18, 19, 20, 8, 21, 22, 23, 24, 25, 26, 27, 28, 29, 30, 31, 32, 33, 34, 35, 36, 37, 40, 41, 42, 43, 44, 45, 46, 47, 48, 49] (by decide +kernel) (by decide +kernel)
set_option maxRecDepth 20000 in
theorem gX4_descend_X4_boundOf : GoodIn wsX4_descend (wsV RX4 65 RX4 yX4_boundOf wsX4_boundOf) := goodIn_app (goodIn_of _ (by decide +kernel)) ggX4_descend_X4_boundOf
set_option maxRecDepth 20000 in
theorem ggX4_descend_X6_contains : GoodIn wsX4_descend wsX6_contains := goodIn_r _ [30] (by decide +kernel) (by decide +kernel)
set_option maxRecDepth 20000 in
theorem gX4_descend_X6_contains_n51 : GoodIn wsX4_descend (wsX6_contains) := ggX4_descend_X6_contains
set_option maxRecDepth 20000 in
theorem ggX4_descend_X4_descend : GoodIn wsX4_descend wsX4_descend := goodIn_r _ [0, 1, 2, 3, 4, 5, 6, 7, 8, 9, 10, 11, 12, 13, 14, 15, 16, 17, 18, 19, 20, 21, 22, 23, 24, 25, 26, 27, 28, 29, 30, 31, 32, 33, 34, 35, 36, 37, 38, 39, 40, 41, 42, 43, 44, 45, 46, 47, 48, 49] (by decide +kernel) (by decide +kernel)
set_option maxRecDepth 20000 in
theorem gX4_descend_X4_descend : GoodIn wsX4_descend (va_wsS RX4 61 yX4_descend wsX4_descend) := goodIn_app (goodIn_of _ (by decide +kernel)) ggX4_descend_X4_descend
theorem dX4_descend_0 : decode cX4_descend 0 = .ok (.aload_n 0, 1) := by decide +kernel
theorem dX4_descend_1 : decode cX4_descend 1 = .ok (.iload_n 1, 1) := by decide +kernel
theorem dX4_descend_2 : decode cX4_descend 2 = .ok (.iload_n 2, 1) := by decide +kernel
theorem dX4_descend_3 : decode cX4_descend 3 = .ok (.invokevirtual 65, 3) := by decide +kernel
theorem dX4_descend_6 : decode cX4_descend 6 = .ok (.istore 5, 2) := by decide +kernel
theorem dX4_descend_8 : decode cX4_descend 8 = .ok (.iload 5, 2) := by decide +kernel
theorem dX4_descend_10 : decode cX4_descend 10 = .ok (.iconst (-1), 1) := by decide +kernel
theorem dX4_descend_11 : decode cX4_descend 11 = .ok (.if_icmp .eq 21, 3) := by decide +kernel
theorem dX4_descend_14 : decode cX4_descend 14 = .ok (.iload_n 3, 1) := by decide +kernel
theorem dX4_descend_15 : decode cX4_descend 15 = .ok (.iload 5, 2) := by decide +kernel
theorem dX4_descend_17 : decode cX4_descend 17 = .ok (.iadd, 1) := by decide +kernel
theorem dX4_descend_18 : decode cX4_descend 18 = .ok (.aload_n 0, 1) := by decide +kernel
theorem dX4_descend_19 : decode cX4_descend 19 = .ok (.getfield 55, 3) := by decide +kernel
theorem dX4_descend_22 : decode cX4_descend 22 = .ok (.if_icmp .ge 10, 3) := by decide +kernel
theorem dX4_descend_25 : decode cX4_descend 25 = .ok (.iload 4, 2) := by decide +kernel
theorem dX4_descend_27 : decode cX4_descend 27 = .ok (.bipush 16, 2) := by decide +kernel
theorem dX4_descend_29 : decode cX4_descend 29 = .ok (.if_icmp .le 4, 3) := by decide +kernel
theorem dX4_descend_32 : decode cX4_descend 32 = .ok (.return_, 1) := by decide +kernel
theorem dX4_descend_33 : decode cX4_descend 33 = .ok (.aload_n 0, 1) := by decide +kernel
theorem dX4_descend_34 : decode cX4_descend 34 = .ok (.getfield 69, 3) := by decide +kernel
theorem dX4_descend_37 : decode cX4_descend 37 = .ok (.istore 6, 2) := by decide +kernel
theorem dX4_descend_39 : decode cX4_descend 39 = .ok (.iload 6, 2) := by decide +kernel
theorem dX4_descend_41 : decode cX4_descend 41 = .ok (.ifCond .ne 14, 3) := by decide +kernel
theorem dX4_descend_44 : decode cX4_descend 44 = .ok (.aload_n 0, 1) := by decide +kernel
theorem dX4_descend_45 : decode cX4_descend 45 = .ok (.iload_n 3, 1) := by decide +kernel
theorem dX4_descend_46 : decode cX4_descend 46 = .ok (.putfield 55, 3) := by decide +kernel
theorem dX4_descend_49 : decode cX4_descend 49 = .ok (.aload_n 0, 1) := by decide +kernel
theorem dX4_descend_50 : decode cX4_descend 50 = .ok (.iload_n 1, 1) := by decide +kernel
theorem dX4_descend_51 : decode cX4_descend 51 = .ok (.putfield 58, 3) := by decide +kernel
theorem dX4_descend_54 : decode cX4_descend 54 = .ok (.return_, 1) := by decide +kernel
theorem dX4_descend_55 : decode cX4_descend 55 = .ok (.iload_n 2, 1) := by decide +kernel
theorem dX4_descend_56 : decode cX4_descend 56 = .ok (.istore 7, 2) := by decide +kernel
theorem dX4_descend_58 : decode cX4_descend 58 = .ok (.iconst 0, 1) := by decide +kernel
theorem dX4_descend_59 : decode cX4_descend 59 = .ok (.istore 8, 2) := by decide +kernel
theorem dX4_descend_61 : decode cX4_descend 61 = .ok (.iload 8, 2) := by decide +kernel
theorem dX4_descend_63 : decode cX4_descend 63 = .ok (.bipush 16, 2) := by decide +kernel
theorem dX4_descend_65 : decode cX4_descend 65 = .ok (.if_icmp .ge 53, 3) := by decide +kernel
theorem dX4_descend_68 : decode cX4_descend 68 = .ok (.iload 6, 2) := by decide +kernel
theorem dX4_descend_70 : decode cX4_descend 70 = .ok (.iload 8, 2) := by decide +kernel
theorem dX4_descend_72 : decode cX4_descend 72 = .ok (.invokestatic 51, 3) := by decide +kernel
theorem dX4_descend_75 : decode cX4_descend 75 = .ok (.ifCond .eq 37, 3) := by decide +kernel
theorem dX4_descend_78 : decode cX4_descend 78 = .ok (.aload_n 0, 1) := by decide +kernel
theorem dX4_descend_79 : decode cX4_descend 79 = .ok (.iload_n 1, 1) := by decide +kernel
theorem dX4_descend_80 : decode cX4_descend 80 = .ok (.iconst 1, 1) := by decide +kernel
theorem dX4_descend_81 : decode cX4_descend 81 = .ok (.iload 8, 2) := by decide +kernel
theorem dX4_descend_83 : decode cX4_descend 83 = .ok (.ishl, 1) := by decide +kernel
theorem dX4_descend_84 : decode cX4_descend 84 = .ok (.ior, 1) := by decide +kernel
theorem dX4_descend_85 : decode cX4_descend 85 = .ok (.iload 7, 2) := by decide +kernel
theorem dX4_descend_87 : decode cX4_descend 87 = .ok (.iload_n 3, 1) := by decide +kernel
theorem dX4_descend_88 : decode cX4_descend 88 = .ok (.aload_n 0, 1) := by decide +kernel
theorem dX4_descend_89 : decode cX4_descend 89 = .ok (.getfield 15, 3) := by decide +kernel
theorem dX4_descend_92 : decode cX4_descend 92 = .ok (.iload 8, 2) := by decide +kernel
theorem dX4_descend_94 : decode cX4_descend 94 = .ok (.iaload, 1) := by decide +kernel
theorem dX4_descend_95 : decode cX4_descend 95 = .ok (.iadd, 1) := by decide +kernel
theorem dX4_descend_96 : decode cX4_descend 96 = .ok (.iload 4, 2) := by decide +kernel
theorem dX4_descend_98 : decode cX4_descend 98 = .ok (.iconst 1, 1) := by decide +kernel
theorem dX4_descend_99 : decode cX4_descend 99 = .ok (.iadd, 1) := by decide +kernel
theorem dX4_descend_100 : decode cX4_descend 100 = .ok (.invokestatic 61, 3) := by decide +kernel
theorem dX4_descend_103 : decode cX4_descend 103 = .ok (.iload 7, 2) := by decide +kernel
theorem dX4_descend_105 : decode cX4_descend 105 = .ok (.iconst 1, 1) := by decide +kernel
theorem dX4_descend_106 : decode cX4_descend 106 = .ok (.iload 8, 2) := by decide +kernel
theorem dX4_descend_108 : decode cX4_descend 108 = .ok (.ishl, 1) := by decide +kernel
theorem dX4_descend_109 : decode cX4_descend 109 = .ok (.ior, 1) := by decide +kernel
theorem dX4_descend_110 : decode cX4_descend 110 = .ok (.istore 7, 2) := by decide +kernel
theorem dX4_descend_112 : decode cX4_descend 112 = .ok (.iinc 8 1, 3) := by decide +kernel
theorem dX4_descend_115 : decode cX4_descend 115 = .ok (.goto (-54), 3) := by decide +kernel
theorem dX4_descend_118 : decode cX4_descend 118 = .ok (.return_, 1) := by decide +kernel
set_option maxRecDepth 20000 in
theorem ggX4_boundOf_X4_drawFromSlack : GoodIn wsX4_boundOf wsX4_drawFromSlack := goodIn_r _ [15, 2, 16, 17, 4, 18, 19, 20, 21, 22, 23, 24, 32, 33, 34, 35, 36, 37, 38, 39, 40, 41] (by decide +kernel) (by decide +kernel)
set_option maxRecDepth 20000 in
theorem gX4_boundOf_X4_drawFromSlack : GoodIn wsX4_boundOf (wsV RX4 75 RX4 yX4_drawFromSlack wsX4_drawFromSlack) := goodIn_app (goodIn_of _ (by decide +kernel)) ggX4_boundOf_X4_drawFromSlack
set_option maxRecDepth 20000 in
theorem ggX4_boundOf_J6_bitCount_0f7a4 : GoodIn wsX4_boundOf wsJ6_bitCount_0f7a4 := goodIn_r _ [28, 29, 30, 31] (by decide +kernel) (by decide +kernel)
set_option maxRecDepth 20000 in
theorem gX4_boundOf_J6_bitCount_0f7a4 : GoodIn wsX4_boundOf (va_wsS RX4 79 yJ6_bitCount_0f7a4 wsJ6_bitCount_0f7a4) := goodIn_app (goodIn_of _ (by decide +kernel)) ggX4_boundOf_J6_bitCount_0f7a4
theorem dX4_boundOf_0 : decode cX4_boundOf 0 = .ok (.iconst 0, 1) := by decide +kernel
theorem dX4_boundOf_1 : decode cX4_boundOf 1 = .ok (.istore_n 3, 1) := by decide +kernel
theorem dX4_boundOf_2 : decode cX4_boundOf 2 = .ok (.bipush 17, 2) := by decide +kernel
theorem dX4_boundOf_4 : decode cX4_boundOf 4 = .ok (.istore 4, 2) := by decide +kernel
theorem dX4_boundOf_6 : decode cX4_boundOf 6 = .ok (.aload_n 0, 1) := by decide +kernel
theorem dX4_boundOf_7 : decode cX4_boundOf 7 = .ok (.iconst 0, 1) := by decide +kernel
theorem dX4_boundOf_8 : decode cX4_boundOf 8 = .ok (.putfield 69, 3) := by decide +kernel
theorem dX4_boundOf_11 : decode cX4_boundOf 11 = .ok (.aload_n 0, 1) := by decide +kernel
theorem dX4_boundOf_12 : decode cX4_boundOf 12 = .ok (.iconst 0, 1) := by decide +kernel
theorem dX4_boundOf_13 : decode cX4_boundOf 13 = .ok (.putfield 72, 3) := by decide +kernel
theorem dX4_boundOf_16 : decode cX4_boundOf 16 = .ok (.aload_n 0, 1) := by decide +kernel
theorem dX4_boundOf_17 : decode cX4_boundOf 17 = .ok (.getfield 15, 3) := by decide +kernel
theorem dX4_boundOf_20 : decode cX4_boundOf 20 = .ok (.iconst 0, 1) := by decide +kernel
theorem dX4_boundOf_21 : decode cX4_boundOf 21 = .ok (.aload_n 0, 1) := by decide +kernel
theorem dX4_boundOf_22 : decode cX4_boundOf 22 = .ok (.getfield 18, 3) := by decide +kernel
theorem dX4_boundOf_25 : decode cX4_boundOf 25 = .ok (.iconst 0, 1) := by decide +kernel
theorem dX4_boundOf_26 : decode cX4_boundOf 26 = .ok (.bipush 16, 2) := by decide +kernel
theorem dX4_boundOf_28 : decode cX4_boundOf 28 = .ok (.invokestatic 45, 3) := by decide +kernel
theorem dX4_boundOf_31 : decode cX4_boundOf 31 = .ok (.iconst 0, 1) := by decide +kernel
theorem dX4_boundOf_32 : decode cX4_boundOf 32 = .ok (.istore 5, 2) := by decide +kernel
theorem dX4_boundOf_34 : decode cX4_boundOf 34 = .ok (.iload 5, 2) := by decide +kernel
theorem dX4_boundOf_36 : decode cX4_boundOf 36 = .ok (.aload_n 0, 1) := by decide +kernel
theorem dX4_boundOf_37 : decode cX4_boundOf 37 = .ok (.getfield 21, 3) := by decide +kernel
theorem dX4_boundOf_40 : decode cX4_boundOf 40 = .ok (.if_icmp .ge 76, 3) := by decide +kernel
theorem dX4_boundOf_43 : decode cX4_boundOf 43 = .ok (.aload_n 0, 1) := by decide +kernel
theorem dX4_boundOf_44 : decode cX4_boundOf 44 = .ok (.getfield 9, 3) := by decide +kernel
theorem dX4_boundOf_47 : decode cX4_boundOf 47 = .ok (.iload 5, 2) := by decide +kernel
theorem dX4_boundOf_49 : decode cX4_boundOf 49 = .ok (.iaload, 1) := by decide +kernel
theorem dX4_boundOf_50 : decode cX4_boundOf 50 = .ok (.iload_n 1, 1) := by decide +kernel
theorem dX4_boundOf_51 : decode cX4_boundOf 51 = .ok (.iand, 1) := by decide +kernel
theorem dX4_boundOf_52 : decode cX4_boundOf 52 = .ok (.ifCond .eq 6, 3) := by decide +kernel
theorem dX4_boundOf_55 : decode cX4_boundOf 55 = .ok (.goto 55, 3) := by decide +kernel
theorem dX4_boundOf_58 : decode cX4_boundOf 58 = .ok (.aload_n 0, 1) := by decide +kernel
theorem dX4_boundOf_59 : decode cX4_boundOf 59 = .ok (.getfield 9, 3) := by decide +kernel
theorem dX4_boundOf_62 : decode cX4_boundOf 62 = .ok (.iload 5, 2) := by decide +kernel
theorem dX4_boundOf_64 : decode cX4_boundOf 64 = .ok (.iaload, 1) := by decide +kernel
theorem dX4_boundOf_65 : decode cX4_boundOf 65 = .ok (.iload_n 2, 1) := by decide +kernel
theorem dX4_boundOf_66 : decode cX4_boundOf 66 = .ok (.iconst (-1), 1) := by decide +kernel
theorem dX4_boundOf_67 : decode cX4_boundOf 67 = .ok (.ixor, 1) := by decide +kernel
theorem dX4_boundOf_68 : decode cX4_boundOf 68 = .ok (.iand, 1) := by decide +kernel
theorem dX4_boundOf_69 : decode cX4_boundOf 69 = .ok (.istore 6, 2) := by decide +kernel
theorem dX4_boundOf_71 : decode cX4_boundOf 71 = .ok (.iload 6, 2) := by decide +kernel
theorem dX4_boundOf_73 : decode cX4_boundOf 73 = .ok (.ifCond .ne 5, 3) := by decide +kernel
theorem dX4_boundOf_76 : decode cX4_boundOf 76 = .ok (.iconst (-1), 1) := by decide +kernel
theorem dX4_boundOf_77 : decode cX4_boundOf 77 = .ok (.ireturn, 1) := by decide +kernel
theorem dX4_boundOf_78 : decode cX4_boundOf 78 = .ok (.iload_n 3, 1) := by decide +kernel
theorem dX4_boundOf_79 : decode cX4_boundOf 79 = .ok (.aload_n 0, 1) := by decide +kernel
theorem dX4_boundOf_80 : decode cX4_boundOf 80 = .ok (.iload 6, 2) := by decide +kernel
theorem dX4_boundOf_82 : decode cX4_boundOf 82 = .ok (.invokevirtual 75, 3) := by decide +kernel
theorem dX4_boundOf_85 : decode cX4_boundOf 85 = .ok (.iadd, 1) := by decide +kernel
theorem dX4_boundOf_86 : decode cX4_boundOf 86 = .ok (.istore_n 3, 1) := by decide +kernel
theorem dX4_boundOf_87 : decode cX4_boundOf 87 = .ok (.iload 6, 2) := by decide +kernel
theorem dX4_boundOf_89 : decode cX4_boundOf 89 = .ok (.invokestatic 79, 3) := by decide +kernel
theorem dX4_boundOf_92 : decode cX4_boundOf 92 = .ok (.iload 4, 2) := by decide +kernel
theorem dX4_boundOf_94 : decode cX4_boundOf 94 = .ok (.if_icmp .ge 16, 3) := by decide +kernel
theorem dX4_boundOf_97 : decode cX4_boundOf 97 = .ok (.iload 6, 2) := by decide +kernel
theorem dX4_boundOf_99 : decode cX4_boundOf 99 = .ok (.invokestatic 79, 3) := by decide +kernel
theorem dX4_boundOf_102 : decode cX4_boundOf 102 = .ok (.istore 4, 2) := by decide +kernel
theorem dX4_boundOf_104 : decode cX4_boundOf 104 = .ok (.aload_n 0, 1) := by decide +kernel
theorem dX4_boundOf_105 : decode cX4_boundOf 105 = .ok (.iload 6, 2) := by decide +kernel
theorem dX4_boundOf_107 : decode cX4_boundOf 107 = .ok (.putfield 69, 3) := by decide +kernel
theorem dX4_boundOf_110 : decode cX4_boundOf 110 = .ok (.iinc 5 1, 3) := by decide +kernel
theorem dX4_boundOf_113 : decode cX4_boundOf 113 = .ok (.goto (-79), 3) := by decide +kernel
theorem dX4_boundOf_116 : decode cX4_boundOf 116 = .ok (.iload_n 3, 1) := by decide +kernel
theorem dX4_boundOf_117 : decode cX4_boundOf 117 = .ok (.ireturn, 1) := by decide +kernel
set_option maxRecDepth 20000 in
theorem ggX4_drawFromSlack_X6_contains : GoodIn wsX4_drawFromSlack wsX6_contains := goodIn_r _ [11] (by decide +kernel) (by decide +kernel)
set_option maxRecDepth 20000 in
theorem gX4_drawFromSlack_X6_contains_n51 : GoodIn wsX4_drawFromSlack (wsX6_contains) := ggX4_drawFromSlack_X6_contains
theorem dX4_drawFromSlack_0 : decode cX4_drawFromSlack 0 = .ok (.iload_n 1, 1) := by decide +kernel
theorem dX4_drawFromSlack_1 : decode cX4_drawFromSlack 1 = .ok (.aload_n 0, 1) := by decide +kernel
theorem dX4_drawFromSlack_2 : decode cX4_drawFromSlack 2 = .ok (.getfield 72, 3) := by decide +kernel
theorem dX4_drawFromSlack_5 : decode cX4_drawFromSlack 5 = .ok (.iand, 1) := by decide +kernel
theorem dX4_drawFromSlack_6 : decode cX4_drawFromSlack 6 = .ok (.ifCond .eq 5, 3) := by decide +kernel
theorem dX4_drawFromSlack_9 : decode cX4_drawFromSlack 9 = .ok (.iconst 0, 1) := by decide +kernel
theorem dX4_drawFromSlack_10 : decode cX4_drawFromSlack 10 = .ok (.ireturn, 1) := by decide +kernel
theorem dX4_drawFromSlack_11 : decode cX4_drawFromSlack 11 = .ok (.ldc 84, 2) := by decide +kernel
theorem dX4_drawFromSlack_13 : decode cX4_drawFromSlack 13 = .ok (.istore_n 2, 1) := by decide +kernel
theorem dX4_drawFromSlack_14 : decode cX4_drawFromSlack 14 = .ok (.iconst 0, 1) := by decide +kernel
theorem dX4_drawFromSlack_15 : decode cX4_drawFromSlack 15 = .ok (.istore_n 3, 1) := by decide +kernel
theorem dX4_drawFromSlack_16 : decode cX4_drawFromSlack 16 = .ok (.iload_n 3, 1) := by decide +kernel
theorem dX4_drawFromSlack_17 : decode cX4_drawFromSlack 17 = .ok (.aload_n 0, 1) := by decide +kernel
theorem dX4_drawFromSlack_18 : decode cX4_drawFromSlack 18 = .ok (.getfield 38, 3) := by decide +kernel
theorem dX4_drawFromSlack_21 : decode cX4_drawFromSlack 21 = .ok (.if_icmp .ge 28, 3) := by decide +kernel
theorem dX4_drawFromSlack_24 : decode cX4_drawFromSlack 24 = .ok (.iload_n 1, 1) := by decide +kernel
theorem dX4_drawFromSlack_25 : decode cX4_drawFromSlack 25 = .ok (.iload_n 3, 1) := by decide +kernel
theorem dX4_drawFromSlack_26 : decode cX4_drawFromSlack 26 = .ok (.invokestatic 51, 3) := by decide +kernel
theorem dX4_drawFromSlack_29 : decode cX4_drawFromSlack 29 = .ok (.ifCond .eq 14, 3) := by decide +kernel
theorem dX4_drawFromSlack_32 : decode cX4_drawFromSlack 32 = .ok (.iload_n 2, 1) := by decide +kernel
theorem dX4_drawFromSlack_33 : decode cX4_drawFromSlack 33 = .ok (.aload_n 0, 1) := by decide +kernel
theorem dX4_drawFromSlack_34 : decode cX4_drawFromSlack 34 = .ok (.getfield 18, 3) := by decide +kernel
theorem dX4_drawFromSlack_37 : decode cX4_drawFromSlack 37 = .ok (.iload_n 3, 1) := by decide +kernel
theorem dX4_drawFromSlack_38 : decode cX4_drawFromSlack 38 = .ok (.iaload, 1) := by decide +kernel
theorem dX4_drawFromSlack_39 : decode cX4_drawFromSlack 39 = .ok (.invokestatic 85, 3) := by decide +kernel
theorem dX4_drawFromSlack_42 : decode cX4_drawFromSlack 42 = .ok (.istore_n 2, 1) := by decide +kernel
theorem dX4_drawFromSlack_43 : decode cX4_drawFromSlack 43 = .ok (.iinc 3 1, 3) := by decide +kernel
theorem dX4_drawFromSlack_46 : decode cX4_drawFromSlack 46 = .ok (.goto (-30), 3) := by decide +kernel
theorem dX4_drawFromSlack_49 : decode cX4_drawFromSlack 49 = .ok (.iconst 0, 1) := by decide +kernel
theorem dX4_drawFromSlack_50 : decode cX4_drawFromSlack 50 = .ok (.istore_n 3, 1) := by decide +kernel
theorem dX4_drawFromSlack_51 : decode cX4_drawFromSlack 51 = .ok (.iload_n 3, 1) := by decide +kernel
theorem dX4_drawFromSlack_52 : decode cX4_drawFromSlack 52 = .ok (.aload_n 0, 1) := by decide +kernel
theorem dX4_drawFromSlack_53 : decode cX4_drawFromSlack 53 = .ok (.getfield 38, 3) := by decide +kernel
theorem dX4_drawFromSlack_56 : decode cX4_drawFromSlack 56 = .ok (.if_icmp .ge 52, 3) := by decide +kernel
theorem dX4_drawFromSlack_59 : decode cX4_drawFromSlack 59 = .ok (.iload_n 1, 1) := by decide +kernel
theorem dX4_drawFromSlack_60 : decode cX4_drawFromSlack 60 = .ok (.iload_n 3, 1) := by decide +kernel
theorem dX4_drawFromSlack_61 : decode cX4_drawFromSlack 61 = .ok (.invokestatic 51, 3) := by decide +kernel
theorem dX4_drawFromSlack_64 : decode cX4_drawFromSlack 64 = .ok (.ifCond .eq 38, 3) := by decide +kernel
theorem dX4_drawFromSlack_67 : decode cX4_drawFromSlack 67 = .ok (.aload_n 0, 1) := by decide +kernel
theorem dX4_drawFromSlack_68 : decode cX4_drawFromSlack 68 = .ok (.getfield 18, 3) := by decide +kernel
theorem dX4_drawFromSlack_71 : decode cX4_drawFromSlack 71 = .ok (.iload_n 3, 1) := by decide +kernel
theorem dX4_drawFromSlack_72 : decode cX4_drawFromSlack 72 = .ok (.dup2, 1) := by decide +kernel
theorem dX4_drawFromSlack_73 : decode cX4_drawFromSlack 73 = .ok (.iaload, 1) := by decide +kernel
theorem dX4_drawFromSlack_74 : decode cX4_drawFromSlack 74 = .ok (.iload_n 2, 1) := by decide +kernel
theorem dX4_drawFromSlack_75 : decode cX4_drawFromSlack 75 = .ok (.isub, 1) := by decide +kernel
theorem dX4_drawFromSlack_76 : decode cX4_drawFromSlack 76 = .ok (.iastore, 1) := by decide +kernel
theorem dX4_drawFromSlack_77 : decode cX4_drawFromSlack 77 = .ok (.aload_n 0, 1) := by decide +kernel
theorem dX4_drawFromSlack_78 : decode cX4_drawFromSlack 78 = .ok (.dup, 1) := by decide +kernel
theorem dX4_drawFromSlack_79 : decode cX4_drawFromSlack 79 = .ok (.getfield 72, 3) := by decide +kernel
theorem dX4_drawFromSlack_82 : decode cX4_drawFromSlack 82 = .ok (.aload_n 0, 1) := by decide +kernel
theorem dX4_drawFromSlack_83 : decode cX4_drawFromSlack 83 = .ok (.getfield 18, 3) := by decide +kernel
theorem dX4_drawFromSlack_86 : decode cX4_drawFromSlack 86 = .ok (.iload_n 3, 1) := by decide +kernel
theorem dX4_drawFromSlack_87 : decode cX4_drawFromSlack 87 = .ok (.iaload, 1) := by decide +kernel
theorem dX4_drawFromSlack_88 : decode cX4_drawFromSlack 88 = .ok (.ifCond .ne 9, 3) := by decide +kernel
theorem dX4_drawFromSlack_91 : decode cX4_drawFromSlack 91 = .ok (.iconst 1, 1) := by decide +kernel
theorem dX4_drawFromSlack_92 : decode cX4_drawFromSlack 92 = .ok (.iload_n 3, 1) := by decide +kernel
theorem dX4_drawFromSlack_93 : decode cX4_drawFromSlack 93 = .ok (.ishl, 1) := by decide +kernel
theorem dX4_drawFromSlack_94 : decode cX4_drawFromSlack 94 = .ok (.goto 4, 3) := by decide +kernel
theorem dX4_drawFromSlack_97 : decode cX4_drawFromSlack 97 = .ok (.iconst 0, 1) := by decide +kernel
theorem dX4_drawFromSlack_98 : decode cX4_drawFromSlack 98 = .ok (.ior, 1) := by decide +kernel
theorem dX4_drawFromSlack_99 : decode cX4_drawFromSlack 99 = .ok (.putfield 72, 3) := by decide +kernel
theorem dX4_drawFromSlack_102 : decode cX4_drawFromSlack 102 = .ok (.iinc 3 1, 3) := by decide +kernel
theorem dX4_drawFromSlack_105 : decode cX4_drawFromSlack 105 = .ok (.goto (-54), 3) := by decide +kernel
theorem dX4_drawFromSlack_108 : decode cX4_drawFromSlack 108 = .ok (.iload_n 2, 1) := by decide +kernel
theorem dX4_drawFromSlack_109 : decode cX4_drawFromSlack 109 = .ok (.ireturn, 1) := by decide +kernel
set_option maxRecDepth 20000 in
theorem ggX4_mostTimes_X6_contains : GoodIn wsX4_mostTimes wsX6_contains := goodIn_r _ [10] (by decide +kernel) (by decide +kernel)
set_option maxRecDepth 20000 in
theorem gX4_mostTimes_X6_contains_n51 : GoodIn wsX4_mostTimes (wsX6_contains) := ggX4_mostTimes_X6_contains
set_option maxRecDepth 20000 in
theorem ggX4_mostTimes_X4_spend : GoodIn wsX4_mostTimes wsX4_spend := goodIn_r _ [15, 1, 2, 8, 9, 10, 57, 58, 59, 60, 61, 62, 63, 64, 65, 66] (by decide +kernel) (by decide +kernel)
set_option maxRecDepth 20000 in
theorem gX4_mostTimes_X4_spend : GoodIn wsX4_mostTimes (wsV RX4 90 RX4 yX4_spend wsX4_spend) := goodIn_app (goodIn_of _ (by decide +kernel)) ggX4_mostTimes_X4_spend
set_option maxRecDepth 20000 in
theorem ggX4_mostTimes_X4_findBelow : GoodIn wsX4_mostTimes wsX4_findBelow := goodIn_r _ [19, 20, 7, 1, 2, 21, 22, 23, 14, 24, 25, 26, 27, 28, 29, 30, 31, 32, 33, 34, 35, 36, 37, 38, 39, 40, 41, 42, 3, 4, 5, 6, 8, 9, 10, 43, 44, 45, 46, 47, 48, 49, 57, 58, 59, 60, 61, 62, 63, 64, 65, 66] (by decide +kernel) (by decide +kernel)
set_option maxRecDepth 20000 in
theorem gX4_mostTimes_X4_findBelow : GoodIn wsX4_mostTimes (wsV RX4 94 RX4 yX4_findBelow wsX4_findBelow) := goodIn_app (goodIn_of _ (by decide +kernel)) ggX4_mostTimes_X4_findBelow
set_option maxRecDepth 20000 in
theorem ggX4_mostTimes_X4_timesBy : GoodIn wsX4_mostTimes wsX4_timesBy := goodIn_r _ [53, 2, 43, 44, 45, 46, 47, 48, 49, 54, 9, 55, 56, 8, 10, 57, 58, 59, 60, 61, 62, 63, 64, 65, 66] (by decide +kernel) (by decide +kernel)
set_option maxRecDepth 20000 in
theorem gX4_mostTimes_X4_timesBy : GoodIn wsX4_mostTimes (wsV RX4 98 RX4 yX4_timesBy wsX4_timesBy) := goodIn_app (goodIn_of _ (by decide +kernel)) ggX4_mostTimes_X4_timesBy
