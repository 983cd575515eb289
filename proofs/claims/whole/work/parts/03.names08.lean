theorem dX7_draw_185 : decode cX7_draw 185 = .ok (.iload 6, 2) := by decide +kernel
theorem dX7_draw_187 : decode cX7_draw 187 = .ok (.aload_n 0, 1) := by decide +kernel
theorem dX7_draw_188 : decode cX7_draw 188 = .ok (.getfield 95, 3) := by decide +kernel
theorem dX7_draw_191 : decode cX7_draw 191 = .ok (.if_icmp .ge 38, 3) := by decide +kernel
theorem dX7_draw_194 : decode cX7_draw 194 = .ok (.aload_n 0, 1) := by decide +kernel
theorem dX7_draw_195 : decode cX7_draw 195 = .ok (.getfield 23, 3) := by decide +kernel
theorem dX7_draw_198 : decode cX7_draw 198 = .ok (.iload 6, 2) := by decide +kernel
theorem dX7_draw_200 : decode cX7_draw 200 = .ok (.dup2, 1) := by decide +kernel
theorem dX7_draw_201 : decode cX7_draw 201 = .ok (.iaload, 1) := by decide +kernel
theorem dX7_draw_202 : decode cX7_draw 202 = .ok (.aload_n 0, 1) := by decide +kernel
theorem dX7_draw_203 : decode cX7_draw 203 = .ok (.getfield 69, 3) := by decide +kernel
theorem dX7_draw_206 : decode cX7_draw 206 = .ok (.iload_n 3, 1) := by decide +kernel
theorem dX7_draw_207 : decode cX7_draw 207 = .ok (.iaload, 1) := by decide +kernel
theorem dX7_draw_208 : decode cX7_draw 208 = .ok (.iload 6, 2) := by decide +kernel
theorem dX7_draw_210 : decode cX7_draw 210 = .ok (.ishr, 1) := by decide +kernel
theorem dX7_draw_211 : decode cX7_draw 211 = .ok (.iconst 1, 1) := by decide +kernel
theorem dX7_draw_212 : decode cX7_draw 212 = .ok (.iand, 1) := by decide +kernel
theorem dX7_draw_213 : decode cX7_draw 213 = .ok (.ifCond .eq 7, 3) := by decide +kernel
theorem dX7_draw_216 : decode cX7_draw 216 = .ok (.iload_n 2, 1) := by decide +kernel
theorem dX7_draw_217 : decode cX7_draw 217 = .ok (.goto 4, 3) := by decide +kernel
theorem dX7_draw_220 : decode cX7_draw 220 = .ok (.iconst 0, 1) := by decide +kernel
theorem dX7_draw_221 : decode cX7_draw 221 = .ok (.iadd, 1) := by decide +kernel
theorem dX7_draw_222 : decode cX7_draw 222 = .ok (.iastore, 1) := by decide +kernel
theorem dX7_draw_223 : decode cX7_draw 223 = .ok (.iinc 6 1, 3) := by decide +kernel
theorem dX7_draw_226 : decode cX7_draw 226 = .ok (.goto (-41), 3) := by decide +kernel
theorem dX7_draw_229 : decode cX7_draw 229 = .ok (.lload 4, 2) := by decide +kernel
theorem dX7_draw_231 : decode cX7_draw 231 = .ok (.l2i, 1) := by decide +kernel
theorem dX7_draw_232 : decode cX7_draw 232 = .ok (.ireturn, 1) := by decide +kernel
theorem dX7_members_0 : decode cX7_members 0 = .ok (.iconst 0, 1) := by decide +kernel
theorem dX7_members_1 : decode cX7_members 1 = .ok (.istore_n 1, 1) := by decide +kernel
theorem dX7_members_2 : decode cX7_members 2 = .ok (.iconst 0, 1) := by decide +kernel
theorem dX7_members_3 : decode cX7_members 3 = .ok (.istore_n 2, 1) := by decide +kernel
theorem dX7_members_4 : decode cX7_members 4 = .ok (.iload_n 2, 1) := by decide +kernel
theorem dX7_members_5 : decode cX7_members 5 = .ok (.sipush 256, 3) := by decide +kernel
theorem dX7_members_8 : decode cX7_members 8 = .ok (.if_icmp .ge 33, 3) := by decide +kernel
theorem dX7_members_11 : decode cX7_members 11 = .ok (.aload_n 0, 1) := by decide +kernel
theorem dX7_members_12 : decode cX7_members 12 = .ok (.getfield 137, 3) := by decide +kernel
theorem dX7_members_15 : decode cX7_members 15 = .ok (.ifCond .eq 26, 3) := by decide +kernel
theorem dX7_members_18 : decode cX7_members 18 = .ok (.iload_n 1, 1) := by decide +kernel
theorem dX7_members_19 : decode cX7_members 19 = .ok (.aload_n 0, 1) := by decide +kernel
theorem dX7_members_20 : decode cX7_members 20 = .ok (.getfield 26, 3) := by decide +kernel
theorem dX7_members_23 : decode cX7_members 23 = .ok (.iload_n 2, 1) := by decide +kernel
theorem dX7_members_24 : decode cX7_members 24 = .ok (.iaload, 1) := by decide +kernel
theorem dX7_members_25 : decode cX7_members 25 = .ok (.ifCond .le 7, 3) := by decide +kernel
theorem dX7_members_28 : decode cX7_members 28 = .ok (.iconst 1, 1) := by decide +kernel
theorem dX7_members_29 : decode cX7_members 29 = .ok (.goto 4, 3) := by decide +kernel
theorem dX7_members_32 : decode cX7_members 32 = .ok (.iconst 0, 1) := by decide +kernel
theorem dX7_members_33 : decode cX7_members 33 = .ok (.iadd, 1) := by decide +kernel
theorem dX7_members_34 : decode cX7_members 34 = .ok (.istore_n 1, 1) := by decide +kernel
theorem dX7_members_35 : decode cX7_members 35 = .ok (.iinc 2 1, 3) := by decide +kernel
theorem dX7_members_38 : decode cX7_members 38 = .ok (.goto (-34), 3) := by decide +kernel
theorem dX7_members_41 : decode cX7_members 41 = .ok (.iload_n 1, 1) := by decide +kernel
theorem dX7_members_42 : decode cX7_members 42 = .ok (.ireturn, 1) := by decide +kernel
theorem dX7_cross_0 : decode cX7_cross 0 = .ok (.iconst 1, 1) := by decide +kernel
theorem dX7_cross_1 : decode cX7_cross 1 = .ok (.aload_n 0, 1) := by decide +kernel
theorem dX7_cross_2 : decode cX7_cross 2 = .ok (.getfield 175, 3) := by decide +kernel
theorem dX7_cross_5 : decode cX7_cross 5 = .ok (.ishl, 1) := by decide +kernel
theorem dX7_cross_6 : decode cX7_cross 6 = .ok (.iconst 1, 1) := by decide +kernel
theorem dX7_cross_7 : decode cX7_cross 7 = .ok (.isub, 1) := by decide +kernel
theorem dX7_cross_8 : decode cX7_cross 8 = .ok (.istore_n 3, 1) := by decide +kernel
theorem dX7_cross_9 : decode cX7_cross 9 = .ok (.iload_n 1, 1) := by decide +kernel
theorem dX7_cross_10 : decode cX7_cross 10 = .ok (.iload_n 2, 1) := by decide +kernel
theorem dX7_cross_11 : decode cX7_cross 11 = .ok (.iand, 1) := by decide +kernel
theorem dX7_cross_12 : decode cX7_cross 12 = .ok (.ifCond .eq 30, 3) := by decide +kernel
theorem dX7_cross_15 : decode cX7_cross 15 = .ok (.iload_n 1, 1) := by decide +kernel
theorem dX7_cross_16 : decode cX7_cross 16 = .ok (.iload_n 2, 1) := by decide +kernel
theorem dX7_cross_17 : decode cX7_cross 17 = .ok (.iconst (-1), 1) := by decide +kernel
theorem dX7_cross_18 : decode cX7_cross 18 = .ok (.ixor, 1) := by decide +kernel
theorem dX7_cross_19 : decode cX7_cross 19 = .ok (.iand, 1) := by decide +kernel
theorem dX7_cross_20 : decode cX7_cross 20 = .ok (.ifCond .eq 22, 3) := by decide +kernel
theorem dX7_cross_23 : decode cX7_cross 23 = .ok (.iload_n 2, 1) := by decide +kernel
theorem dX7_cross_24 : decode cX7_cross 24 = .ok (.iload_n 1, 1) := by decide +kernel
theorem dX7_cross_25 : decode cX7_cross 25 = .ok (.iconst (-1), 1) := by decide +kernel
theorem dX7_cross_26 : decode cX7_cross 26 = .ok (.ixor, 1) := by decide +kernel
theorem dX7_cross_27 : decode cX7_cross 27 = .ok (.iand, 1) := by decide +kernel
theorem dX7_cross_28 : decode cX7_cross 28 = .ok (.ifCond .eq 14, 3) := by decide +kernel
theorem dX7_cross_31 : decode cX7_cross 31 = .ok (.iload_n 1, 1) := by decide +kernel
theorem dX7_cross_32 : decode cX7_cross 32 = .ok (.iload_n 2, 1) := by decide +kernel
theorem dX7_cross_33 : decode cX7_cross 33 = .ok (.ior, 1) := by decide +kernel
theorem dX7_cross_34 : decode cX7_cross 34 = .ok (.iload_n 3, 1) := by decide +kernel
theorem dX7_cross_35 : decode cX7_cross 35 = .ok (.if_icmp .eq 7, 3) := by decide +kernel
theorem dX7_cross_38 : decode cX7_cross 38 = .ok (.iconst 1, 1) := by decide +kernel
theorem dX7_cross_39 : decode cX7_cross 39 = .ok (.goto 4, 3) := by decide +kernel
theorem dX7_cross_42 : decode cX7_cross 42 = .ok (.iconst 0, 1) := by decide +kernel
theorem dX7_cross_43 : decode cX7_cross 43 = .ok (.ireturn, 1) := by decide +kernel
set_option maxRecDepth 20000 in
theorem ggX7_firstCross_X7_cross : GoodIn wsX7_firstCross wsX7_cross := goodIn_r _ [6, 7, 8, 9, 10, 11, 12, 13, 14, 15, 16, 17, 18, 19, 20, 21, 22, 23, 24, 25, 26, 27, 28, 29, 30, 31, 32, 33, 34, 35, 36, 37, 38, 39, 40, 41] (by decide +kernel) (by decide +kernel)
set_option maxRecDepth 20000 in
theorem gX7_firstCross_X7_cross : GoodIn wsX7_firstCross (wsV RX7 187 RX7 yX7_cross wsX7_cross) := goodIn_app (goodIn_of _ (by decide +kernel)) ggX7_firstCross_X7_cross
theorem dX7_firstCross_0 : decode cX7_firstCross 0 = .ok (.iconst 0, 1) := by decide +kernel
theorem dX7_firstCross_1 : decode cX7_firstCross 1 = .ok (.istore_n 1, 1) := by decide +kernel
theorem dX7_firstCross_2 : decode cX7_firstCross 2 = .ok (.iload_n 1, 1) := by decide +kernel
theorem dX7_firstCross_3 : decode cX7_firstCross 3 = .ok (.sipush 256, 3) := by decide +kernel
theorem dX7_firstCross_6 : decode cX7_firstCross 6 = .ok (.if_icmp .ge 61, 3) := by decide +kernel
theorem dX7_firstCross_9 : decode cX7_firstCross 9 = .ok (.iload_n 1, 1) := by decide +kernel
theorem dX7_firstCross_10 : decode cX7_firstCross 10 = .ok (.iconst 1, 1) := by decide +kernel
theorem dX7_firstCross_11 : decode cX7_firstCross 11 = .ok (.iadd, 1) := by decide +kernel
theorem dX7_firstCross_12 : decode cX7_firstCross 12 = .ok (.istore_n 2, 1) := by decide +kernel
theorem dX7_firstCross_13 : decode cX7_firstCross 13 = .ok (.iload_n 2, 1) := by decide +kernel
theorem dX7_firstCross_14 : decode cX7_firstCross 14 = .ok (.sipush 256, 3) := by decide +kernel
theorem dX7_firstCross_17 : decode cX7_firstCross 17 = .ok (.if_icmp .ge 44, 3) := by decide +kernel
theorem dX7_firstCross_20 : decode cX7_firstCross 20 = .ok (.aload_n 0, 1) := by decide +kernel
theorem dX7_firstCross_21 : decode cX7_firstCross 21 = .ok (.getfield 26, 3) := by decide +kernel
theorem dX7_firstCross_24 : decode cX7_firstCross 24 = .ok (.iload_n 1, 1) := by decide +kernel
theorem dX7_firstCross_25 : decode cX7_firstCross 25 = .ok (.iaload, 1) := by decide +kernel
theorem dX7_firstCross_26 : decode cX7_firstCross 26 = .ok (.ifCond .le 35, 3) := by decide +kernel
theorem dX7_firstCross_29 : decode cX7_firstCross 29 = .ok (.aload_n 0, 1) := by decide +kernel
theorem dX7_firstCross_30 : decode cX7_firstCross 30 = .ok (.getfield 26, 3) := by decide +kernel
theorem dX7_firstCross_33 : decode cX7_firstCross 33 = .ok (.iload_n 2, 1) := by decide +kernel
theorem dX7_firstCross_34 : decode cX7_firstCross 34 = .ok (.iaload, 1) := by decide +kernel
theorem dX7_firstCross_35 : decode cX7_firstCross 35 = .ok (.ifCond .le 20, 3) := by decide +kernel
theorem dX7_firstCross_38 : decode cX7_firstCross 38 = .ok (.aload_n 0, 1) := by decide +kernel
theorem dX7_firstCross_39 : decode cX7_firstCross 39 = .ok (.iload_n 1, 1) := by decide +kernel
theorem dX7_firstCross_40 : decode cX7_firstCross 40 = .ok (.iload_n 2, 1) := by decide +kernel
theorem dX7_firstCross_41 : decode cX7_firstCross 41 = .ok (.invokevirtual 187, 3) := by decide +kernel
theorem dX7_firstCross_44 : decode cX7_firstCross 44 = .ok (.ifCond .eq 11, 3) := by decide +kernel
theorem dX7_firstCross_47 : decode cX7_firstCross 47 = .ok (.sipush 256, 3) := by decide +kernel
theorem dX7_firstCross_50 : decode cX7_firstCross 50 = .ok (.iload_n 1, 1) := by decide +kernel
theorem dX7_firstCross_51 : decode cX7_firstCross 51 = .ok (.imul, 1) := by decide +kernel
theorem dX7_firstCross_52 : decode cX7_firstCross 52 = .ok (.iload_n 2, 1) := by decide +kernel
theorem dX7_firstCross_53 : decode cX7_firstCross 53 = .ok (.iadd, 1) := by decide +kernel
theorem dX7_firstCross_54 : decode cX7_firstCross 54 = .ok (.ireturn, 1) := by decide +kernel
theorem dX7_firstCross_55 : decode cX7_firstCross 55 = .ok (.iinc 2 1, 3) := by decide +kernel
theorem dX7_firstCross_58 : decode cX7_firstCross 58 = .ok (.goto (-45), 3) := by decide +kernel
theorem dX7_firstCross_61 : decode cX7_firstCross 61 = .ok (.iinc 1 1, 3) := by decide +kernel
theorem dX7_firstCross_64 : decode cX7_firstCross 64 = .ok (.goto (-62), 3) := by decide +kernel
theorem dX7_firstCross_67 : decode cX7_firstCross 67 = .ok (.iconst (-1), 1) := by decide +kernel
theorem dX7_firstCross_68 : decode cX7_firstCross 68 = .ok (.ireturn, 1) := by decide +kernel
set_option maxRecDepth 20000 in
theorem ggX7_uncross_X7_firstCross : GoodIn wsX7_uncross wsX7_firstCross := goodIn_r _ [8, 3, 9, 10, 11, 7, 12, 13, 14, 15, 16, 17, 18, 19, 20, 21, 22, 23, 24, 25, 26, 27, 28, 29, 30, 31, 32, 33, 34, 35, 36, 37, 38, 39, 40, 41, 42, 43, 44, 45, 46, 47] (by decide +kernel) (by decide +kernel)
set_option maxRecDepth 20000 in
theorem gX7_uncross_X7_firstCross : GoodIn wsX7_uncross (wsV RX7 191 RX7 yX7_firstCross wsX7_firstCross) := goodIn_app (goodIn_of _ (by decide +kernel)) ggX7_uncross_X7_firstCross
theorem dX7_uncross_0 : decode cX7_uncross 0 = .ok (.aload_n 0, 1) := by decide +kernel
theorem dX7_uncross_1 : decode cX7_uncross 1 = .ok (.iconst 0, 1) := by decide +kernel
theorem dX7_uncross_2 : decode cX7_uncross 2 = .ok (.putfield 85, 3) := by decide +kernel
theorem dX7_uncross_5 : decode cX7_uncross 5 = .ok (.aload_n 0, 1) := by decide +kernel
theorem dX7_uncross_6 : decode cX7_uncross 6 = .ok (.getfield 137, 3) := by decide +kernel
theorem dX7_uncross_9 : decode cX7_uncross 9 = .ok (.ifCond .ne 5, 3) := by decide +kernel
theorem dX7_uncross_12 : decode cX7_uncross 12 = .ok (.iconst (-1), 1) := by decide +kernel
theorem dX7_uncross_13 : decode cX7_uncross 13 = .ok (.ireturn, 1) := by decide +kernel
theorem dX7_uncross_14 : decode cX7_uncross 14 = .ok (.iconst 0, 1) := by decide +kernel
theorem dX7_uncross_15 : decode cX7_uncross 15 = .ok (.istore_n 1, 1) := by decide +kernel
theorem dX7_uncross_16 : decode cX7_uncross 16 = .ok (.aload_n 0, 1) := by decide +kernel
theorem dX7_uncross_17 : decode cX7_uncross 17 = .ok (.invokevirtual 191, 3) := by decide +kernel
theorem dX7_uncross_20 : decode cX7_uncross 20 = .ok (.istore_n 2, 1) := by decide +kernel
theorem dX7_uncross_21 : decode cX7_uncross 21 = .ok (.iload_n 2, 1) := by decide +kernel
theorem dX7_uncross_22 : decode cX7_uncross 22 = .ok (.iconst (-1), 1) := by decide +kernel
theorem dX7_uncross_23 : decode cX7_uncross 23 = .ok (.if_icmp .eq 112, 3) := by decide +kernel
theorem dX7_uncross_26 : decode cX7_uncross 26 = .ok (.iload_n 2, 1) := by decide +kernel
theorem dX7_uncross_27 : decode cX7_uncross 27 = .ok (.sipush 256, 3) := by decide +kernel
theorem dX7_uncross_30 : decode cX7_uncross 30 = .ok (.idiv, 1) := by decide +kernel
theorem dX7_uncross_31 : decode cX7_uncross 31 = .ok (.istore_n 3, 1) := by decide +kernel
theorem dX7_uncross_32 : decode cX7_uncross 32 = .ok (.iload_n 2, 1) := by decide +kernel
theorem dX7_uncross_33 : decode cX7_uncross 33 = .ok (.sipush 256, 3) := by decide +kernel
theorem dX7_uncross_36 : decode cX7_uncross 36 = .ok (.irem, 1) := by decide +kernel
theorem dX7_uncross_37 : decode cX7_uncross 37 = .ok (.istore 4, 2) := by decide +kernel
theorem dX7_uncross_39 : decode cX7_uncross 39 = .ok (.aload_n 0, 1) := by decide +kernel
theorem dX7_uncross_40 : decode cX7_uncross 40 = .ok (.getfield 26, 3) := by decide +kernel
theorem dX7_uncross_43 : decode cX7_uncross 43 = .ok (.iload_n 3, 1) := by decide +kernel
theorem dX7_uncross_44 : decode cX7_uncross 44 = .ok (.iaload, 1) := by decide +kernel
theorem dX7_uncross_45 : decode cX7_uncross 45 = .ok (.aload_n 0, 1) := by decide +kernel
theorem dX7_uncross_46 : decode cX7_uncross 46 = .ok (.getfield 26, 3) := by decide +kernel
theorem dX7_uncross_49 : decode cX7_uncross 49 = .ok (.iload 4, 2) := by decide +kernel
theorem dX7_uncross_51 : decode cX7_uncross 51 = .ok (.iaload, 1) := by decide +kernel
theorem dX7_uncross_52 : decode cX7_uncross 52 = .ok (.if_icmp .ge 12, 3) := by decide +kernel
theorem dX7_uncross_55 : decode cX7_uncross 55 = .ok (.aload_n 0, 1) := by decide +kernel
theorem dX7_uncross_56 : decode cX7_uncross 56 = .ok (.getfield 26, 3) := by decide +kernel
theorem dX7_uncross_59 : decode cX7_uncross 59 = .ok (.iload_n 3, 1) := by decide +kernel
theorem dX7_uncross_60 : decode cX7_uncross 60 = .ok (.iaload, 1) := by decide +kernel
theorem dX7_uncross_61 : decode cX7_uncross 61 = .ok (.goto 10, 3) := by decide +kernel
theorem dX7_uncross_64 : decode cX7_uncross 64 = .ok (.aload_n 0, 1) := by decide +kernel
theorem dX7_uncross_65 : decode cX7_uncross 65 = .ok (.getfield 26, 3) := by decide +kernel
theorem dX7_uncross_68 : decode cX7_uncross 68 = .ok (.iload 4, 2) := by decide +kernel
theorem dX7_uncross_70 : decode cX7_uncross 70 = .ok (.iaload, 1) := by decide +kernel
theorem dX7_uncross_71 : decode cX7_uncross 71 = .ok (.istore 5, 2) := by decide +kernel
theorem dX7_uncross_73 : decode cX7_uncross 73 = .ok (.aload_n 0, 1) := by decide +kernel
theorem dX7_uncross_74 : decode cX7_uncross 74 = .ok (.getfield 26, 3) := by decide +kernel
theorem dX7_uncross_77 : decode cX7_uncross 77 = .ok (.iload_n 3, 1) := by decide +kernel
theorem dX7_uncross_78 : decode cX7_uncross 78 = .ok (.dup2, 1) := by decide +kernel
theorem dX7_uncross_79 : decode cX7_uncross 79 = .ok (.iaload, 1) := by decide +kernel
theorem dX7_uncross_80 : decode cX7_uncross 80 = .ok (.iload 5, 2) := by decide +kernel
theorem dX7_uncross_82 : decode cX7_uncross 82 = .ok (.isub, 1) := by decide +kernel
theorem dX7_uncross_83 : decode cX7_uncross 83 = .ok (.iastore, 1) := by decide +kernel
theorem dX7_uncross_84 : decode cX7_uncross 84 = .ok (.aload_n 0, 1) := by decide +kernel
theorem dX7_uncross_85 : decode cX7_uncross 85 = .ok (.getfield 26, 3) := by decide +kernel
theorem dX7_uncross_88 : decode cX7_uncross 88 = .ok (.iload 4, 2) := by decide +kernel
theorem dX7_uncross_90 : decode cX7_uncross 90 = .ok (.dup2, 1) := by decide +kernel
theorem dX7_uncross_91 : decode cX7_uncross 91 = .ok (.iaload, 1) := by decide +kernel
theorem dX7_uncross_92 : decode cX7_uncross 92 = .ok (.iload 5, 2) := by decide +kernel
theorem dX7_uncross_94 : decode cX7_uncross 94 = .ok (.isub, 1) := by decide +kernel
theorem dX7_uncross_95 : decode cX7_uncross 95 = .ok (.iastore, 1) := by decide +kernel
theorem dX7_uncross_96 : decode cX7_uncross 96 = .ok (.aload_n 0, 1) := by decide +kernel
theorem dX7_uncross_97 : decode cX7_uncross 97 = .ok (.getfield 26, 3) := by decide +kernel
theorem dX7_uncross_100 : decode cX7_uncross 100 = .ok (.iload_n 3, 1) := by decide +kernel
theorem dX7_uncross_101 : decode cX7_uncross 101 = .ok (.iload 4, 2) := by decide +kernel
theorem dX7_uncross_103 : decode cX7_uncross 103 = .ok (.iand, 1) := by decide +kernel
theorem dX7_uncross_104 : decode cX7_uncross 104 = .ok (.dup2, 1) := by decide +kernel
theorem dX7_uncross_105 : decode cX7_uncross 105 = .ok (.iaload, 1) := by decide +kernel
theorem dX7_uncross_106 : decode cX7_uncross 106 = .ok (.iload 5, 2) := by decide +kernel
theorem dX7_uncross_108 : decode cX7_uncross 108 = .ok (.iadd, 1) := by decide +kernel
theorem dX7_uncross_109 : decode cX7_uncross 109 = .ok (.iastore, 1) := by decide +kernel
theorem dX7_uncross_110 : decode cX7_uncross 110 = .ok (.aload_n 0, 1) := by decide +kernel
theorem dX7_uncross_111 : decode cX7_uncross 111 = .ok (.getfield 26, 3) := by decide +kernel
theorem dX7_uncross_114 : decode cX7_uncross 114 = .ok (.iload_n 3, 1) := by decide +kernel
theorem dX7_uncross_115 : decode cX7_uncross 115 = .ok (.iload 4, 2) := by decide +kernel
theorem dX7_uncross_117 : decode cX7_uncross 117 = .ok (.ior, 1) := by decide +kernel
theorem dX7_uncross_118 : decode cX7_uncross 118 = .ok (.dup2, 1) := by decide +kernel
theorem dX7_uncross_119 : decode cX7_uncross 119 = .ok (.iaload, 1) := by decide +kernel
theorem dX7_uncross_120 : decode cX7_uncross 120 = .ok (.iload 5, 2) := by decide +kernel
theorem dX7_uncross_122 : decode cX7_uncross 122 = .ok (.iadd, 1) := by decide +kernel
theorem dX7_uncross_123 : decode cX7_uncross 123 = .ok (.iastore, 1) := by decide +kernel
theorem dX7_uncross_124 : decode cX7_uncross 124 = .ok (.iinc 1 1, 3) := by decide +kernel
theorem dX7_uncross_127 : decode cX7_uncross 127 = .ok (.aload_n 0, 1) := by decide +kernel
theorem dX7_uncross_128 : decode cX7_uncross 128 = .ok (.invokevirtual 191, 3) := by decide +kernel
theorem dX7_uncross_131 : decode cX7_uncross 131 = .ok (.istore_n 2, 1) := by decide +kernel
theorem dX7_uncross_132 : decode cX7_uncross 132 = .ok (.goto (-111), 3) := by decide +kernel
theorem dX7_uncross_135 : decode cX7_uncross 135 = .ok (.iload_n 1, 1) := by decide +kernel
theorem dX7_uncross_136 : decode cX7_uncross 136 = .ok (.ireturn, 1) := by decide +kernel
theorem dX7_member_0 : decode cX7_member 0 = .ok (.aload_n 0, 1) := by decide +kernel
theorem dX7_member_1 : decode cX7_member 1 = .ok (.iconst 0, 1) := by decide +kernel
theorem dX7_member_2 : decode cX7_member 2 = .ok (.putfield 85, 3) := by decide +kernel
theorem dX7_member_5 : decode cX7_member 5 = .ok (.iload_n 1, 1) := by decide +kernel
theorem dX7_member_6 : decode cX7_member 6 = .ok (.istore_n 3, 1) := by decide +kernel
theorem dX7_member_7 : decode cX7_member 7 = .ok (.iconst 0, 1) := by decide +kernel
theorem dX7_member_8 : decode cX7_member 8 = .ok (.istore 4, 2) := by decide +kernel
theorem dX7_member_10 : decode cX7_member 10 = .ok (.iload 4, 2) := by decide +kernel
theorem dX7_member_12 : decode cX7_member 12 = .ok (.sipush 256, 3) := by decide +kernel
theorem dX7_member_15 : decode cX7_member 15 = .ok (.if_icmp .ge 66, 3) := by decide +kernel
theorem dX7_member_18 : decode cX7_member 18 = .ok (.aload_n 0, 1) := by decide +kernel
theorem dX7_member_19 : decode cX7_member 19 = .ok (.getfield 137, 3) := by decide +kernel
theorem dX7_member_22 : decode cX7_member 22 = .ok (.ifCond .eq 59, 3) := by decide +kernel
theorem dX7_member_25 : decode cX7_member 25 = .ok (.iload_n 1, 1) := by decide +kernel
theorem dX7_member_26 : decode cX7_member 26 = .ok (.ifCond .lt 55, 3) := by decide +kernel
theorem dX7_member_29 : decode cX7_member 29 = .ok (.aload_n 0, 1) := by decide +kernel
theorem dX7_member_30 : decode cX7_member 30 = .ok (.getfield 26, 3) := by decide +kernel
theorem dX7_member_33 : decode cX7_member 33 = .ok (.iload 4, 2) := by decide +kernel
theorem dX7_member_35 : decode cX7_member 35 = .ok (.iaload, 1) := by decide +kernel
theorem dX7_member_36 : decode cX7_member 36 = .ok (.ifCond .ne 6, 3) := by decide +kernel
theorem dX7_member_39 : decode cX7_member 39 = .ok (.goto 36, 3) := by decide +kernel
theorem dX7_member_42 : decode cX7_member 42 = .ok (.iload_n 3, 1) := by decide +kernel
theorem dX7_member_43 : decode cX7_member 43 = .ok (.ifCond .ne 29, 3) := by decide +kernel
theorem dX7_member_46 : decode cX7_member 46 = .ok (.iload_n 2, 1) := by decide +kernel
theorem dX7_member_47 : decode cX7_member 47 = .ok (.ifCond .ne 8, 3) := by decide +kernel
theorem dX7_member_50 : decode cX7_member 50 = .ok (.iload 4, 2) := by decide +kernel
theorem dX7_member_52 : decode cX7_member 52 = .ok (.goto 19, 3) := by decide +kernel
theorem dX7_member_55 : decode cX7_member 55 = .ok (.iload_n 2, 1) := by decide +kernel
theorem dX7_member_56 : decode cX7_member 56 = .ok (.iconst 1, 1) := by decide +kernel
theorem dX7_member_57 : decode cX7_member 57 = .ok (.if_icmp .ne 13, 3) := by decide +kernel
theorem dX7_member_60 : decode cX7_member 60 = .ok (.aload_n 0, 1) := by decide +kernel
theorem dX7_member_61 : decode cX7_member 61 = .ok (.getfield 26, 3) := by decide +kernel
theorem dX7_member_64 : decode cX7_member 64 = .ok (.iload 4, 2) := by decide +kernel
theorem dX7_member_66 : decode cX7_member 66 = .ok (.iaload, 1) := by decide +kernel
theorem dX7_member_67 : decode cX7_member 67 = .ok (.goto 4, 3) := by decide +kernel
theorem dX7_member_70 : decode cX7_member 70 = .ok (.iconst (-1), 1) := by decide +kernel
theorem dX7_member_71 : decode cX7_member 71 = .ok (.ireturn, 1) := by decide +kernel
theorem dX7_member_72 : decode cX7_member 72 = .ok (.iinc 3 (-1), 3) := by decide +kernel
theorem dX7_member_75 : decode cX7_member 75 = .ok (.iinc 4 1, 3) := by decide +kernel
theorem dX7_member_78 : decode cX7_member 78 = .ok (.goto (-68), 3) := by decide +kernel
theorem dX7_member_81 : decode cX7_member 81 = .ok (.iconst (-1), 1) := by decide +kernel
theorem dX7_member_82 : decode cX7_member 82 = .ok (.ireturn, 1) := by decide +kernel
set_option maxRecDepth 20000 in
theorem ggX7_image_X7_in : GoodIn wsX7_image wsX7_in := goodIn_r _ [28] (by decide +kernel) (by decide +kernel)
set_option maxRecDepth 20000 in
theorem gX7_image_X7_in : GoodIn wsX7_image (va_wsS RX7 130 yX7_in wsX7_in) := goodIn_app (goodIn_of _ (by decide +kernel)) ggX7_image_X7_in
theorem dX7_image_0 : decode cX7_image 0 = .ok (.aload_n 0, 1) := by decide +kernel
theorem dX7_image_1 : decode cX7_image 1 = .ok (.iconst 0, 1) := by decide +kernel
theorem dX7_image_2 : decode cX7_image 2 = .ok (.putfield 85, 3) := by decide +kernel
theorem dX7_image_5 : decode cX7_image 5 = .ok (.iload_n 1, 1) := by decide +kernel
theorem dX7_image_6 : decode cX7_image 6 = .ok (.iconst 0, 1) := by decide +kernel
theorem dX7_image_7 : decode cX7_image 7 = .ok (.iconst 3, 1) := by decide +kernel
theorem dX7_image_8 : decode cX7_image 8 = .ok (.invokestatic 130, 3) := by decide +kernel
theorem dX7_image_11 : decode cX7_image 11 = .ok (.ifCond .ne 5, 3) := by decide +kernel
theorem dX7_image_14 : decode cX7_image 14 = .ok (.iconst 0, 1) := by decide +kernel
theorem dX7_image_15 : decode cX7_image 15 = .ok (.ireturn, 1) := by decide +kernel
theorem dX7_image_16 : decode cX7_image 16 = .ok (.aload_n 0, 1) := by decide +kernel
theorem dX7_image_17 : decode cX7_image 17 = .ok (.getfield 29, 3) := by decide +kernel
theorem dX7_image_20 : decode cX7_image 20 = .ok (.iload_n 1, 1) := by decide +kernel
theorem dX7_image_21 : decode cX7_image 21 = .ok (.iconst 1, 1) := by decide +kernel
theorem dX7_image_22 : decode cX7_image 22 = .ok (.bastore, 1) := by decide +kernel
theorem dX7_image_23 : decode cX7_image 23 = .ok (.aload_n 0, 1) := by decide +kernel
theorem dX7_image_24 : decode cX7_image 24 = .ok (.getfield 33, 3) := by decide +kernel
theorem dX7_image_27 : decode cX7_image 27 = .ok (.iload_n 1, 1) := by decide +kernel
theorem dX7_image_28 : decode cX7_image 28 = .ok (.aload_n 0, 1) := by decide +kernel
theorem dX7_image_29 : decode cX7_image 29 = .ok (.getfield 7, 3) := by decide +kernel
theorem dX7_image_32 : decode cX7_image 32 = .ok (.iastore, 1) := by decide +kernel
theorem dX7_image_33 : decode cX7_image 33 = .ok (.aload_n 0, 1) := by decide +kernel
theorem dX7_image_34 : decode cX7_image 34 = .ok (.getfield 36, 3) := by decide +kernel
theorem dX7_image_37 : decode cX7_image 37 = .ok (.iload_n 1, 1) := by decide +kernel
theorem dX7_image_38 : decode cX7_image 38 = .ok (.aload_n 0, 1) := by decide +kernel
theorem dX7_image_39 : decode cX7_image 39 = .ok (.getfield 95, 3) := by decide +kernel
theorem dX7_image_42 : decode cX7_image 42 = .ok (.iastore, 1) := by decide +kernel
theorem dX7_image_43 : decode cX7_image 43 = .ok (.aload_n 0, 1) := by decide +kernel
theorem dX7_image_44 : decode cX7_image 44 = .ok (.getfield 48, 3) := by decide +kernel
theorem dX7_image_47 : decode cX7_image 47 = .ok (.iload_n 1, 1) := by decide +kernel
theorem dX7_image_48 : decode cX7_image 48 = .ok (.aload_n 0, 1) := by decide +kernel
theorem dX7_image_49 : decode cX7_image 49 = .ok (.getfield 134, 3) := by decide +kernel
theorem dX7_image_52 : decode cX7_image 52 = .ok (.bastore, 1) := by decide +kernel
theorem dX7_image_53 : decode cX7_image 53 = .ok (.aload_n 0, 1) := by decide +kernel
theorem dX7_image_54 : decode cX7_image 54 = .ok (.getfield 51, 3) := by decide +kernel
theorem dX7_image_57 : decode cX7_image 57 = .ok (.iload_n 1, 1) := by decide +kernel
theorem dX7_image_58 : decode cX7_image 58 = .ok (.aload_n 0, 1) := by decide +kernel
theorem dX7_image_59 : decode cX7_image 59 = .ok (.getfield 153, 3) := by decide +kernel
theorem dX7_image_62 : decode cX7_image 62 = .ok (.iastore, 1) := by decide +kernel
theorem dX7_image_63 : decode cX7_image 63 = .ok (.aload_n 0, 1) := by decide +kernel
theorem dX7_image_64 : decode cX7_image 64 = .ok (.getfield 54, 3) := by decide +kernel
theorem dX7_image_67 : decode cX7_image 67 = .ok (.iload_n 1, 1) := by decide +kernel
theorem dX7_image_68 : decode cX7_image 68 = .ok (.aload_n 0, 1) := by decide +kernel
theorem dX7_image_69 : decode cX7_image 69 = .ok (.getfield 137, 3) := by decide +kernel
theorem dX7_image_72 : decode cX7_image 72 = .ok (.bastore, 1) := by decide +kernel
theorem dX7_image_73 : decode cX7_image 73 = .ok (.aload_n 0, 1) := by decide +kernel
theorem dX7_image_74 : decode cX7_image 74 = .ok (.getfield 57, 3) := by decide +kernel
theorem dX7_image_77 : decode cX7_image 77 = .ok (.iload_n 1, 1) := by decide +kernel
theorem dX7_image_78 : decode cX7_image 78 = .ok (.aload_n 0, 1) := by decide +kernel
theorem dX7_image_79 : decode cX7_image 79 = .ok (.getfield 175, 3) := by decide +kernel
theorem dX7_image_82 : decode cX7_image 82 = .ok (.iastore, 1) := by decide +kernel
theorem dX7_image_83 : decode cX7_image 83 = .ok (.iconst 0, 1) := by decide +kernel
theorem dX7_image_84 : decode cX7_image 84 = .ok (.istore_n 2, 1) := by decide +kernel
theorem dX7_image_85 : decode cX7_image 85 = .ok (.iload_n 2, 1) := by decide +kernel
theorem dX7_image_86 : decode cX7_image 86 = .ok (.bipush 16, 2) := by decide +kernel
theorem dX7_image_88 : decode cX7_image 88 = .ok (.if_icmp .ge 77, 3) := by decide +kernel
theorem dX7_image_91 : decode cX7_image 91 = .ok (.aload_n 0, 1) := by decide +kernel
theorem dX7_image_92 : decode cX7_image 92 = .ok (.getfield 39, 3) := by decide +kernel
theorem dX7_image_95 : decode cX7_image 95 = .ok (.bipush 16, 2) := by decide +kernel
theorem dX7_image_97 : decode cX7_image 97 = .ok (.iload_n 1, 1) := by decide +kernel
theorem dX7_image_98 : decode cX7_image 98 = .ok (.imul, 1) := by decide +kernel
theorem dX7_image_99 : decode cX7_image 99 = .ok (.iload_n 2, 1) := by decide +kernel
theorem dX7_image_100 : decode cX7_image 100 = .ok (.iadd, 1) := by decide +kernel
theorem dX7_image_101 : decode cX7_image 101 = .ok (.aload_n 0, 1) := by decide +kernel
theorem dX7_image_102 : decode cX7_image 102 = .ok (.getfield 13, 3) := by decide +kernel
theorem dX7_image_105 : decode cX7_image 105 = .ok (.iload_n 2, 1) := by decide +kernel
theorem dX7_image_106 : decode cX7_image 106 = .ok (.iaload, 1) := by decide +kernel
theorem dX7_image_107 : decode cX7_image 107 = .ok (.iastore, 1) := by decide +kernel
theorem dX7_image_108 : decode cX7_image 108 = .ok (.aload_n 0, 1) := by decide +kernel
theorem dX7_image_109 : decode cX7_image 109 = .ok (.getfield 42, 3) := by decide +kernel
theorem dX7_image_112 : decode cX7_image 112 = .ok (.bipush 16, 2) := by decide +kernel
theorem dX7_image_114 : decode cX7_image 114 = .ok (.iload_n 1, 1) := by decide +kernel
theorem dX7_image_115 : decode cX7_image 115 = .ok (.imul, 1) := by decide +kernel
theorem dX7_image_116 : decode cX7_image 116 = .ok (.iload_n 2, 1) := by decide +kernel
theorem dX7_image_117 : decode cX7_image 117 = .ok (.iadd, 1) := by decide +kernel
theorem dX7_image_118 : decode cX7_image 118 = .ok (.aload_n 0, 1) := by decide +kernel
theorem dX7_image_119 : decode cX7_image 119 = .ok (.getfield 17, 3) := by decide +kernel
theorem dX7_image_122 : decode cX7_image 122 = .ok (.iload_n 2, 1) := by decide +kernel
theorem dX7_image_123 : decode cX7_image 123 = .ok (.iaload, 1) := by decide +kernel
theorem dX7_image_124 : decode cX7_image 124 = .ok (.iastore, 1) := by decide +kernel
theorem dX7_image_125 : decode cX7_image 125 = .ok (.aload_n 0, 1) := by decide +kernel
theorem dX7_image_126 : decode cX7_image 126 = .ok (.getfield 45, 3) := by decide +kernel
theorem dX7_image_129 : decode cX7_image 129 = .ok (.bipush 16, 2) := by decide +kernel
theorem dX7_image_131 : decode cX7_image 131 = .ok (.iload_n 1, 1) := by decide +kernel
theorem dX7_image_132 : decode cX7_image 132 = .ok (.imul, 1) := by decide +kernel
theorem dX7_image_133 : decode cX7_image 133 = .ok (.iload_n 2, 1) := by decide +kernel
theorem dX7_image_134 : decode cX7_image 134 = .ok (.iadd, 1) := by decide +kernel
theorem dX7_image_135 : decode cX7_image 135 = .ok (.aload_n 0, 1) := by decide +kernel
theorem dX7_image_136 : decode cX7_image 136 = .ok (.getfield 20, 3) := by decide +kernel
theorem dX7_image_139 : decode cX7_image 139 = .ok (.iload_n 2, 1) := by decide +kernel
theorem dX7_image_140 : decode cX7_image 140 = .ok (.iaload, 1) := by decide +kernel
theorem dX7_image_141 : decode cX7_image 141 = .ok (.iastore, 1) := by decide +kernel
theorem dX7_image_142 : decode cX7_image 142 = .ok (.aload_n 0, 1) := by decide +kernel
theorem dX7_image_143 : decode cX7_image 143 = .ok (.getfield 60, 3) := by decide +kernel
theorem dX7_image_146 : decode cX7_image 146 = .ok (.bipush 16, 2) := by decide +kernel
theorem dX7_image_148 : decode cX7_image 148 = .ok (.iload_n 1, 1) := by decide +kernel
theorem dX7_image_149 : decode cX7_image 149 = .ok (.imul, 1) := by decide +kernel
theorem dX7_image_150 : decode cX7_image 150 = .ok (.iload_n 2, 1) := by decide +kernel
theorem dX7_image_151 : decode cX7_image 151 = .ok (.iadd, 1) := by decide +kernel
theorem dX7_image_152 : decode cX7_image 152 = .ok (.aload_n 0, 1) := by decide +kernel
theorem dX7_image_153 : decode cX7_image 153 = .ok (.getfield 23, 3) := by decide +kernel
theorem dX7_image_156 : decode cX7_image 156 = .ok (.iload_n 2, 1) := by decide +kernel
theorem dX7_image_157 : decode cX7_image 157 = .ok (.iaload, 1) := by decide +kernel
theorem dX7_image_158 : decode cX7_image 158 = .ok (.iastore, 1) := by decide +kernel
theorem dX7_image_159 : decode cX7_image 159 = .ok (.iinc 2 1, 3) := by decide +kernel
theorem dX7_image_162 : decode cX7_image 162 = .ok (.goto (-77), 3) := by decide +kernel
theorem dX7_image_165 : decode cX7_image 165 = .ok (.iconst 0, 1) := by decide +kernel
theorem dX7_image_166 : decode cX7_image 166 = .ok (.istore_n 2, 1) := by decide +kernel
theorem dX7_image_167 : decode cX7_image 167 = .ok (.iload_n 2, 1) := by decide +kernel
theorem dX7_image_168 : decode cX7_image 168 = .ok (.sipush 256, 3) := by decide +kernel
theorem dX7_image_171 : decode cX7_image 171 = .ok (.if_icmp .ge 27, 3) := by decide +kernel
theorem dX7_image_174 : decode cX7_image 174 = .ok (.aload_n 0, 1) := by decide +kernel
theorem dX7_image_175 : decode cX7_image 175 = .ok (.getfield 63, 3) := by decide +kernel
theorem dX7_image_178 : decode cX7_image 178 = .ok (.sipush 256, 3) := by decide +kernel
theorem dX7_image_181 : decode cX7_image 181 = .ok (.iload_n 1, 1) := by decide +kernel
theorem dX7_image_182 : decode cX7_image 182 = .ok (.imul, 1) := by decide +kernel
theorem dX7_image_183 : decode cX7_image 183 = .ok (.iload_n 2, 1) := by decide +kernel
theorem dX7_image_184 : decode cX7_image 184 = .ok (.iadd, 1) := by decide +kernel
theorem dX7_image_185 : decode cX7_image 185 = .ok (.aload_n 0, 1) := by decide +kernel
theorem dX7_image_186 : decode cX7_image 186 = .ok (.getfield 26, 3) := by decide +kernel
theorem dX7_image_189 : decode cX7_image 189 = .ok (.iload_n 2, 1) := by decide +kernel
theorem dX7_image_190 : decode cX7_image 190 = .ok (.iaload, 1) := by decide +kernel
theorem dX7_image_191 : decode cX7_image 191 = .ok (.iastore, 1) := by decide +kernel
theorem dX7_image_192 : decode cX7_image 192 = .ok (.iinc 2 1, 3) := by decide +kernel
theorem dX7_image_195 : decode cX7_image 195 = .ok (.goto (-28), 3) := by decide +kernel
theorem dX7_image_198 : decode cX7_image 198 = .ok (.iconst 1, 1) := by decide +kernel
theorem dX7_image_199 : decode cX7_image 199 = .ok (.ireturn, 1) := by decide +kernel
set_option maxRecDepth 20000 in
theorem ggX7_again_X7_in : GoodIn wsX7_again wsX7_in := goodIn_r _ [28] (by decide +kernel) (by decide +kernel)
set_option maxRecDepth 20000 in
theorem gX7_again_X7_in : GoodIn wsX7_again (va_wsS RX7 130 yX7_in wsX7_in) := goodIn_app (goodIn_of _ (by decide +kernel)) ggX7_again_X7_in
set_option maxRecDepth 20000 in
theorem ggX7_again_X7_changed : GoodIn wsX7_again wsX7_changed := goodIn_r _ [32, 33, 34, 35, 36, 37, 38, 39, 40, 41, 42, 43, 44, 45, 46, 47, 48, 49, 50, 51, 52, 53, 54, 55, 56, 57, 58, 59, 60, 61, 62, 63, 64, 65, 66, 67, 68] (by decide +kernel) (by decide +kernel)
set_option maxRecDepth 20000 in
theorem gX7_again_X7_changed : GoodIn wsX7_again (wsV RX7 140 RX7 yX7_changed wsX7_changed) := goodIn_app (goodIn_of _ (by decide +kernel)) ggX7_again_X7_changed
theorem dX7_again_0 : decode cX7_again 0 = .ok (.aload_n 0, 1) := by decide +kernel
theorem dX7_again_1 : decode cX7_again 1 = .ok (.iconst 0, 1) := by decide +kernel
theorem dX7_again_2 : decode cX7_again 2 = .ok (.putfield 85, 3) := by decide +kernel
theorem dX7_again_5 : decode cX7_again 5 = .ok (.iload_n 1, 1) := by decide +kernel
theorem dX7_again_6 : decode cX7_again 6 = .ok (.iconst 0, 1) := by decide +kernel
theorem dX7_again_7 : decode cX7_again 7 = .ok (.iconst 3, 1) := by decide +kernel
theorem dX7_again_8 : decode cX7_again 8 = .ok (.invokestatic 130, 3) := by decide +kernel
theorem dX7_again_11 : decode cX7_again 11 = .ok (.ifCond .eq 12, 3) := by decide +kernel
theorem dX7_again_14 : decode cX7_again 14 = .ok (.aload_n 0, 1) := by decide +kernel
theorem dX7_again_15 : decode cX7_again 15 = .ok (.getfield 29, 3) := by decide +kernel
theorem dX7_again_18 : decode cX7_again 18 = .ok (.iload_n 1, 1) := by decide +kernel
theorem dX7_again_19 : decode cX7_again 19 = .ok (.baload, 1) := by decide +kernel
theorem dX7_again_20 : decode cX7_again 20 = .ok (.ifCond .ne 5, 3) := by decide +kernel
theorem dX7_again_23 : decode cX7_again 23 = .ok (.iconst 0, 1) := by decide +kernel
theorem dX7_again_24 : decode cX7_again 24 = .ok (.ireturn, 1) := by decide +kernel
theorem dX7_again_25 : decode cX7_again 25 = .ok (.aload_n 0, 1) := by decide +kernel
theorem dX7_again_26 : decode cX7_again 26 = .ok (.aload_n 0, 1) := by decide +kernel
theorem dX7_again_27 : decode cX7_again 27 = .ok (.getfield 33, 3) := by decide +kernel
theorem dX7_again_30 : decode cX7_again 30 = .ok (.iload_n 1, 1) := by decide +kernel
theorem dX7_again_31 : decode cX7_again 31 = .ok (.iaload, 1) := by decide +kernel
theorem dX7_again_32 : decode cX7_again 32 = .ok (.putfield 7, 3) := by decide +kernel
theorem dX7_again_35 : decode cX7_again 35 = .ok (.aload_n 0, 1) := by decide +kernel
theorem dX7_again_36 : decode cX7_again 36 = .ok (.aload_n 0, 1) := by decide +kernel
theorem dX7_again_37 : decode cX7_again 37 = .ok (.getfield 36, 3) := by decide +kernel
theorem dX7_again_40 : decode cX7_again 40 = .ok (.iload_n 1, 1) := by decide +kernel
theorem dX7_again_41 : decode cX7_again 41 = .ok (.iaload, 1) := by decide +kernel
theorem dX7_again_42 : decode cX7_again 42 = .ok (.putfield 95, 3) := by decide +kernel
theorem dX7_again_45 : decode cX7_again 45 = .ok (.aload_n 0, 1) := by decide +kernel
theorem dX7_again_46 : decode cX7_again 46 = .ok (.aload_n 0, 1) := by decide +kernel
theorem dX7_again_47 : decode cX7_again 47 = .ok (.getfield 48, 3) := by decide +kernel
theorem dX7_again_50 : decode cX7_again 50 = .ok (.iload_n 1, 1) := by decide +kernel
theorem dX7_again_51 : decode cX7_again 51 = .ok (.baload, 1) := by decide +kernel
theorem dX7_again_52 : decode cX7_again 52 = .ok (.putfield 134, 3) := by decide +kernel
theorem dX7_again_55 : decode cX7_again 55 = .ok (.aload_n 0, 1) := by decide +kernel
theorem dX7_again_56 : decode cX7_again 56 = .ok (.aload_n 0, 1) := by decide +kernel
theorem dX7_again_57 : decode cX7_again 57 = .ok (.getfield 51, 3) := by decide +kernel
theorem dX7_again_60 : decode cX7_again 60 = .ok (.iload_n 1, 1) := by decide +kernel
theorem dX7_again_61 : decode cX7_again 61 = .ok (.iaload, 1) := by decide +kernel
theorem dX7_again_62 : decode cX7_again 62 = .ok (.putfield 153, 3) := by decide +kernel
theorem dX7_again_65 : decode cX7_again 65 = .ok (.aload_n 0, 1) := by decide +kernel
theorem dX7_again_66 : decode cX7_again 66 = .ok (.aload_n 0, 1) := by decide +kernel
theorem dX7_again_67 : decode cX7_again 67 = .ok (.getfield 54, 3) := by decide +kernel
theorem dX7_again_70 : decode cX7_again 70 = .ok (.iload_n 1, 1) := by decide +kernel
theorem dX7_again_71 : decode cX7_again 71 = .ok (.baload, 1) := by decide +kernel
theorem dX7_again_72 : decode cX7_again 72 = .ok (.putfield 137, 3) := by decide +kernel
theorem dX7_again_75 : decode cX7_again 75 = .ok (.aload_n 0, 1) := by decide +kernel
theorem dX7_again_76 : decode cX7_again 76 = .ok (.aload_n 0, 1) := by decide +kernel
theorem dX7_again_77 : decode cX7_again 77 = .ok (.getfield 57, 3) := by decide +kernel
theorem dX7_again_80 : decode cX7_again 80 = .ok (.iload_n 1, 1) := by decide +kernel
theorem dX7_again_81 : decode cX7_again 81 = .ok (.iaload, 1) := by decide +kernel
theorem dX7_again_82 : decode cX7_again 82 = .ok (.putfield 175, 3) := by decide +kernel
theorem dX7_again_85 : decode cX7_again 85 = .ok (.iconst 0, 1) := by decide +kernel
theorem dX7_again_86 : decode cX7_again 86 = .ok (.istore_n 2, 1) := by decide +kernel
theorem dX7_again_87 : decode cX7_again 87 = .ok (.iload_n 2, 1) := by decide +kernel
theorem dX7_again_88 : decode cX7_again 88 = .ok (.bipush 16, 2) := by decide +kernel
theorem dX7_again_90 : decode cX7_again 90 = .ok (.if_icmp .ge 77, 3) := by decide +kernel
theorem dX7_again_93 : decode cX7_again 93 = .ok (.aload_n 0, 1) := by decide +kernel
theorem dX7_again_94 : decode cX7_again 94 = .ok (.getfield 13, 3) := by decide +kernel
theorem dX7_again_97 : decode cX7_again 97 = .ok (.iload_n 2, 1) := by decide +kernel
theorem dX7_again_98 : decode cX7_again 98 = .ok (.aload_n 0, 1) := by decide +kernel
theorem dX7_again_99 : decode cX7_again 99 = .ok (.getfield 39, 3) := by decide +kernel
theorem dX7_again_102 : decode cX7_again 102 = .ok (.bipush 16, 2) := by decide +kernel
theorem dX7_again_104 : decode cX7_again 104 = .ok (.iload_n 1, 1) := by decide +kernel
theorem dX7_again_105 : decode cX7_again 105 = .ok (.imul, 1) := by decide +kernel
theorem dX7_again_106 : decode cX7_again 106 = .ok (.iload_n 2, 1) := by decide +kernel
theorem dX7_again_107 : decode cX7_again 107 = .ok (.iadd, 1) := by decide +kernel
theorem dX7_again_108 : decode cX7_again 108 = .ok (.iaload, 1) := by decide +kernel
theorem dX7_again_109 : decode cX7_again 109 = .ok (.iastore, 1) := by decide +kernel
theorem dX7_again_110 : decode cX7_again 110 = .ok (.aload_n 0, 1) := by decide +kernel
theorem dX7_again_111 : decode cX7_again 111 = .ok (.getfield 17, 3) := by decide +kernel
theorem dX7_again_114 : decode cX7_again 114 = .ok (.iload_n 2, 1) := by decide +kernel
theorem dX7_again_115 : decode cX7_again 115 = .ok (.aload_n 0, 1) := by decide +kernel
theorem dX7_again_116 : decode cX7_again 116 = .ok (.getfield 42, 3) := by decide +kernel
theorem dX7_again_119 : decode cX7_again 119 = .ok (.bipush 16, 2) := by decide +kernel
theorem dX7_again_121 : decode cX7_again 121 = .ok (.iload_n 1, 1) := by decide +kernel
theorem dX7_again_122 : decode cX7_again 122 = .ok (.imul, 1) := by decide +kernel
theorem dX7_again_123 : decode cX7_again 123 = .ok (.iload_n 2, 1) := by decide +kernel
theorem dX7_again_124 : decode cX7_again 124 = .ok (.iadd, 1) := by decide +kernel
theorem dX7_again_125 : decode cX7_again 125 = .ok (.iaload, 1) := by decide +kernel
theorem dX7_again_126 : decode cX7_again 126 = .ok (.iastore, 1) := by decide +kernel
theorem dX7_again_127 : decode cX7_again 127 = .ok (.aload_n 0, 1) := by decide +kernel
theorem dX7_again_128 : decode cX7_again 128 = .ok (.getfield 20, 3) := by decide +kernel
theorem dX7_again_131 : decode cX7_again 131 = .ok (.iload_n 2, 1) := by decide +kernel
theorem dX7_again_132 : decode cX7_again 132 = .ok (.aload_n 0, 1) := by decide +kernel
theorem dX7_again_133 : decode cX7_again 133 = .ok (.getfield 45, 3) := by decide +kernel
theorem dX7_again_136 : decode cX7_again 136 = .ok (.bipush 16, 2) := by decide +kernel
theorem dX7_again_138 : decode cX7_again 138 = .ok (.iload_n 1, 1) := by decide +kernel
theorem dX7_again_139 : decode cX7_again 139 = .ok (.imul, 1) := by decide +kernel
theorem dX7_again_140 : decode cX7_again 140 = .ok (.iload_n 2, 1) := by decide +kernel
theorem dX7_again_141 : decode cX7_again 141 = .ok (.iadd, 1) := by decide +kernel
theorem dX7_again_142 : decode cX7_again 142 = .ok (.iaload, 1) := by decide +kernel
theorem dX7_again_143 : decode cX7_again 143 = .ok (.iastore, 1) := by decide +kernel
theorem dX7_again_144 : decode cX7_again 144 = .ok (.aload_n 0, 1) := by decide +kernel
theorem dX7_again_145 : decode cX7_again 145 = .ok (.getfield 23, 3) := by decide +kernel
theorem dX7_again_148 : decode cX7_again 148 = .ok (.iload_n 2, 1) := by decide +kernel
theorem dX7_again_149 : decode cX7_again 149 = .ok (.aload_n 0, 1) := by decide +kernel
theorem dX7_again_150 : decode cX7_again 150 = .ok (.getfield 60, 3) := by decide +kernel
theorem dX7_again_153 : decode cX7_again 153 = .ok (.bipush 16, 2) := by decide +kernel
theorem dX7_again_155 : decode cX7_again 155 = .ok (.iload_n 1, 1) := by decide +kernel
theorem dX7_again_156 : decode cX7_again 156 = .ok (.imul, 1) := by decide +kernel
theorem dX7_again_157 : decode cX7_again 157 = .ok (.iload_n 2, 1) := by decide +kernel
theorem dX7_again_158 : decode cX7_again 158 = .ok (.iadd, 1) := by decide +kernel
theorem dX7_again_159 : decode cX7_again 159 = .ok (.iaload, 1) := by decide +kernel
theorem dX7_again_160 : decode cX7_again 160 = .ok (.iastore, 1) := by decide +kernel
theorem dX7_again_161 : decode cX7_again 161 = .ok (.iinc 2 1, 3) := by decide +kernel
theorem dX7_again_164 : decode cX7_again 164 = .ok (.goto (-77), 3) := by decide +kernel
theorem dX7_again_167 : decode cX7_again 167 = .ok (.iconst 0, 1) := by decide +kernel
theorem dX7_again_168 : decode cX7_again 168 = .ok (.istore_n 2, 1) := by decide +kernel
theorem dX7_again_169 : decode cX7_again 169 = .ok (.iload_n 2, 1) := by decide +kernel
theorem dX7_again_170 : decode cX7_again 170 = .ok (.sipush 256, 3) := by decide +kernel
theorem dX7_again_173 : decode cX7_again 173 = .ok (.if_icmp .ge 27, 3) := by decide +kernel
theorem dX7_again_176 : decode cX7_again 176 = .ok (.aload_n 0, 1) := by decide +kernel
theorem dX7_again_177 : decode cX7_again 177 = .ok (.getfield 26, 3) := by decide +kernel
theorem dX7_again_180 : decode cX7_again 180 = .ok (.iload_n 2, 1) := by decide +kernel
theorem dX7_again_181 : decode cX7_again 181 = .ok (.aload_n 0, 1) := by decide +kernel
theorem dX7_again_182 : decode cX7_again 182 = .ok (.getfield 63, 3) := by decide +kernel
theorem dX7_again_185 : decode cX7_again 185 = .ok (.sipush 256, 3) := by decide +kernel
theorem dX7_again_188 : decode cX7_again 188 = .ok (.iload_n 1, 1) := by decide +kernel
theorem dX7_again_189 : decode cX7_again 189 = .ok (.imul, 1) := by decide +kernel
theorem dX7_again_190 : decode cX7_again 190 = .ok (.iload_n 2, 1) := by decide +kernel
theorem dX7_again_191 : decode cX7_again 191 = .ok (.iadd, 1) := by decide +kernel
theorem dX7_again_192 : decode cX7_again 192 = .ok (.iaload, 1) := by decide +kernel
theorem dX7_again_193 : decode cX7_again 193 = .ok (.iastore, 1) := by decide +kernel
theorem dX7_again_194 : decode cX7_again 194 = .ok (.iinc 2 1, 3) := by decide +kernel
theorem dX7_again_197 : decode cX7_again 197 = .ok (.goto (-28), 3) := by decide +kernel
theorem dX7_again_200 : decode cX7_again 200 = .ok (.aload_n 0, 1) := by decide +kernel
theorem dX7_again_201 : decode cX7_again 201 = .ok (.invokevirtual 140, 3) := by decide +kernel
theorem dX7_again_204 : decode cX7_again 204 = .ok (.iconst 1, 1) := by decide +kernel
theorem dX7_again_205 : decode cX7_again 205 = .ok (.ireturn, 1) := by decide +kernel
theorem dJ6_bitCount_0f7a4_0 : decode cJ6_bitCount_0f7a4 0 = .ok (.iload_n 0, 1) := by decide +kernel
theorem dJ6_bitCount_0f7a4_1 : decode cJ6_bitCount_0f7a4 1 = .ok (.iload_n 0, 1) := by decide +kernel
theorem dJ6_bitCount_0f7a4_2 : decode cJ6_bitCount_0f7a4 2 = .ok (.iconst 1, 1) := by decide +kernel
theorem dJ6_bitCount_0f7a4_3 : decode cJ6_bitCount_0f7a4 3 = .ok (.iushr, 1) := by decide +kernel
theorem dJ6_bitCount_0f7a4_4 : decode cJ6_bitCount_0f7a4 4 = .ok (.ldc_w 265, 3) := by decide +kernel
theorem dJ6_bitCount_0f7a4_7 : decode cJ6_bitCount_0f7a4 7 = .ok (.iand, 1) := by decide +kernel
theorem dJ6_bitCount_0f7a4_8 : decode cJ6_bitCount_0f7a4 8 = .ok (.isub, 1) := by decide +kernel
theorem dJ6_bitCount_0f7a4_9 : decode cJ6_bitCount_0f7a4 9 = .ok (.istore_n 0, 1) := by decide +kernel
theorem dJ6_bitCount_0f7a4_10 : decode cJ6_bitCount_0f7a4 10 = .ok (.iload_n 0, 1) := by decide +kernel
theorem dJ6_bitCount_0f7a4_11 : decode cJ6_bitCount_0f7a4 11 = .ok (.ldc_w 266, 3) := by decide +kernel
theorem dJ6_bitCount_0f7a4_14 : decode cJ6_bitCount_0f7a4 14 = .ok (.iand, 1) := by decide +kernel
theorem dJ6_bitCount_0f7a4_15 : decode cJ6_bitCount_0f7a4 15 = .ok (.iload_n 0, 1) := by decide +kernel
theorem dJ6_bitCount_0f7a4_16 : decode cJ6_bitCount_0f7a4 16 = .ok (.iconst 2, 1) := by decide +kernel
theorem dJ6_bitCount_0f7a4_17 : decode cJ6_bitCount_0f7a4 17 = .ok (.iushr, 1) := by decide +kernel
theorem dJ6_bitCount_0f7a4_18 : decode cJ6_bitCount_0f7a4 18 = .ok (.ldc_w 266, 3) := by decide +kernel
theorem dJ6_bitCount_0f7a4_21 : decode cJ6_bitCount_0f7a4 21 = .ok (.iand, 1) := by decide +kernel
theorem dJ6_bitCount_0f7a4_22 : decode cJ6_bitCount_0f7a4 22 = .ok (.iadd, 1) := by decide +kernel
theorem dJ6_bitCount_0f7a4_23 : decode cJ6_bitCount_0f7a4 23 = .ok (.istore_n 0, 1) := by decide +kernel
theorem dJ6_bitCount_0f7a4_24 : decode cJ6_bitCount_0f7a4 24 = .ok (.iload_n 0, 1) := by decide +kernel
theorem dJ6_bitCount_0f7a4_25 : decode cJ6_bitCount_0f7a4 25 = .ok (.iload_n 0, 1) := by decide +kernel
theorem dJ6_bitCount_0f7a4_26 : decode cJ6_bitCount_0f7a4 26 = .ok (.iconst 4, 1) := by decide +kernel
theorem dJ6_bitCount_0f7a4_27 : decode cJ6_bitCount_0f7a4 27 = .ok (.iushr, 1) := by decide +kernel
theorem dJ6_bitCount_0f7a4_28 : decode cJ6_bitCount_0f7a4 28 = .ok (.iadd, 1) := by decide +kernel
theorem dJ6_bitCount_0f7a4_29 : decode cJ6_bitCount_0f7a4 29 = .ok (.ldc_w 267, 3) := by decide +kernel
theorem dJ6_bitCount_0f7a4_32 : decode cJ6_bitCount_0f7a4 32 = .ok (.iand, 1) := by decide +kernel
theorem dJ6_bitCount_0f7a4_33 : decode cJ6_bitCount_0f7a4 33 = .ok (.istore_n 0, 1) := by decide +kernel
theorem dJ6_bitCount_0f7a4_34 : decode cJ6_bitCount_0f7a4 34 = .ok (.iload_n 0, 1) := by decide +kernel
theorem dJ6_bitCount_0f7a4_35 : decode cJ6_bitCount_0f7a4 35 = .ok (.iload_n 0, 1) := by decide +kernel
theorem dJ6_bitCount_0f7a4_36 : decode cJ6_bitCount_0f7a4 36 = .ok (.bipush 8, 2) := by decide +kernel
theorem dJ6_bitCount_0f7a4_38 : decode cJ6_bitCount_0f7a4 38 = .ok (.iushr, 1) := by decide +kernel
theorem dJ6_bitCount_0f7a4_39 : decode cJ6_bitCount_0f7a4 39 = .ok (.iadd, 1) := by decide +kernel
theorem dJ6_bitCount_0f7a4_40 : decode cJ6_bitCount_0f7a4 40 = .ok (.istore_n 0, 1) := by decide +kernel
theorem dJ6_bitCount_0f7a4_41 : decode cJ6_bitCount_0f7a4 41 = .ok (.iload_n 0, 1) := by decide +kernel
theorem dJ6_bitCount_0f7a4_42 : decode cJ6_bitCount_0f7a4 42 = .ok (.iload_n 0, 1) := by decide +kernel
theorem dJ6_bitCount_0f7a4_43 : decode cJ6_bitCount_0f7a4 43 = .ok (.bipush 16, 2) := by decide +kernel
theorem dJ6_bitCount_0f7a4_45 : decode cJ6_bitCount_0f7a4 45 = .ok (.iushr, 1) := by decide +kernel
theorem dJ6_bitCount_0f7a4_46 : decode cJ6_bitCount_0f7a4 46 = .ok (.iadd, 1) := by decide +kernel
theorem dJ6_bitCount_0f7a4_47 : decode cJ6_bitCount_0f7a4 47 = .ok (.istore_n 0, 1) := by decide +kernel
theorem dJ6_bitCount_0f7a4_48 : decode cJ6_bitCount_0f7a4 48 = .ok (.iload_n 0, 1) := by decide +kernel
theorem dJ6_bitCount_0f7a4_49 : decode cJ6_bitCount_0f7a4 49 = .ok (.bipush 63, 2) := by decide +kernel
theorem dJ6_bitCount_0f7a4_51 : decode cJ6_bitCount_0f7a4 51 = .ok (.iand, 1) := by decide +kernel
theorem dJ6_bitCount_0f7a4_52 : decode cJ6_bitCount_0f7a4 52 = .ok (.ireturn, 1) := by decide +kernel
theorem dJ9_min_7cf53_0 : decode cJ9_min_7cf53 0 = .ok (.iload_n 0, 1) := by decide +kernel
theorem dJ9_min_7cf53_1 : decode cJ9_min_7cf53 1 = .ok (.iload_n 1, 1) := by decide +kernel
theorem dJ9_min_7cf53_2 : decode cJ9_min_7cf53 2 = .ok (.if_icmp .gt 7, 3) := by decide +kernel
theorem dJ9_min_7cf53_5 : decode cJ9_min_7cf53 5 = .ok (.iload_n 0, 1) := by decide +kernel
theorem dJ9_min_7cf53_6 : decode cJ9_min_7cf53 6 = .ok (.goto 4, 3) := by decide +kernel
theorem dJ9_min_7cf53_9 : decode cJ9_min_7cf53 9 = .ok (.iload_n 1, 1) := by decide +kernel
theorem dJ9_min_7cf53_10 : decode cJ9_min_7cf53 10 = .ok (.ireturn, 1) := by decide +kernel
theorem dJ7_fill_53178_0 : decode cJ7_fill_53178 0 = .ok (.iconst 0, 1) := by decide +kernel
theorem dJ7_fill_53178_1 : decode cJ7_fill_53178 1 = .ok (.istore_n 2, 1) := by decide +kernel
theorem dJ7_fill_53178_2 : decode cJ7_fill_53178 2 = .ok (.aload_n 0, 1) := by decide +kernel
theorem dJ7_fill_53178_3 : decode cJ7_fill_53178 3 = .ok (.arraylength, 1) := by decide +kernel
theorem dJ7_fill_53178_4 : decode cJ7_fill_53178 4 = .ok (.istore_n 3, 1) := by decide +kernel
theorem dJ7_fill_53178_5 : decode cJ7_fill_53178 5 = .ok (.iload_n 2, 1) := by decide +kernel
theorem dJ7_fill_53178_6 : decode cJ7_fill_53178 6 = .ok (.iload_n 3, 1) := by decide +kernel
theorem dJ7_fill_53178_7 : decode cJ7_fill_53178 7 = .ok (.if_icmp .ge 13, 3) := by decide +kernel
theorem dJ7_fill_53178_10 : decode cJ7_fill_53178 10 = .ok (.aload_n 0, 1) := by decide +kernel
theorem dJ7_fill_53178_11 : decode cJ7_fill_53178 11 = .ok (.iload_n 2, 1) := by decide +kernel
theorem dJ7_fill_53178_12 : decode cJ7_fill_53178 12 = .ok (.iload_n 1, 1) := by decide +kernel
theorem dJ7_fill_53178_13 : decode cJ7_fill_53178 13 = .ok (.iastore, 1) := by decide +kernel
theorem dJ7_fill_53178_14 : decode cJ7_fill_53178 14 = .ok (.iinc 2 1, 3) := by decide +kernel
theorem dJ7_fill_53178_17 : decode cJ7_fill_53178 17 = .ok (.goto (-12), 3) := by decide +kernel
theorem dJ7_fill_53178_20 : decode cJ7_fill_53178 20 = .ok (.return_, 1) := by decide +kernel
