theorem dX11_bookWorth_8 : decode cX11_bookWorth 8 = .ok (.getfield 23, 3) := by decide +kernel
theorem dX11_bookWorth_11 : decode cX11_bookWorth 11 = .ok (.getfield 108, 3) := by decide +kernel
theorem dX11_bookWorth_14 : decode cX11_bookWorth 14 = .ok (.if_icmp .ge 45, 3) := by decide +kernel
theorem dX11_bookWorth_17 : decode cX11_bookWorth 17 = .ok (.lload_n 2, 1) := by decide +kernel
theorem dX11_bookWorth_18 : decode cX11_bookWorth 18 = .ok (.aload_n 0, 1) := by decide +kernel
theorem dX11_bookWorth_19 : decode cX11_bookWorth 19 = .ok (.getfield 23, 3) := by decide +kernel
theorem dX11_bookWorth_22 : decode cX11_bookWorth 22 = .ok (.getfield 138, 3) := by decide +kernel
theorem dX11_bookWorth_25 : decode cX11_bookWorth 25 = .ok (.iload 4, 2) := by decide +kernel
theorem dX11_bookWorth_27 : decode cX11_bookWorth 27 = .ok (.aaload, 1) := by decide +kernel
theorem dX11_bookWorth_28 : decode cX11_bookWorth 28 = .ok (.getfield 174, 3) := by decide +kernel
theorem dX11_bookWorth_31 : decode cX11_bookWorth 31 = .ok (.i2l, 1) := by decide +kernel
theorem dX11_bookWorth_32 : decode cX11_bookWorth 32 = .ok (.aload_n 0, 1) := by decide +kernel
theorem dX11_bookWorth_33 : decode cX11_bookWorth 33 = .ok (.getfield 56, 3) := by decide +kernel
theorem dX11_bookWorth_36 : decode cX11_bookWorth 36 = .ok (.getfield 306, 3) := by decide +kernel
theorem dX11_bookWorth_39 : decode cX11_bookWorth 39 = .ok (.iload 4, 2) := by decide +kernel
theorem dX11_bookWorth_41 : decode cX11_bookWorth 41 = .ok (.aaload, 1) := by decide +kernel
theorem dX11_bookWorth_42 : decode cX11_bookWorth 42 = .ok (.getfield 221, 3) := by decide +kernel
theorem dX11_bookWorth_45 : decode cX11_bookWorth 45 = .ok (.getfield 225, 3) := by decide +kernel
theorem dX11_bookWorth_48 : decode cX11_bookWorth 48 = .ok (.iload_n 1, 1) := by decide +kernel
theorem dX11_bookWorth_49 : decode cX11_bookWorth 49 = .ok (.laload, 1) := by decide +kernel
theorem dX11_bookWorth_50 : decode cX11_bookWorth 50 = .ok (.lmul, 1) := by decide +kernel
theorem dX11_bookWorth_51 : decode cX11_bookWorth 51 = .ok (.ladd, 1) := by decide +kernel
theorem dX11_bookWorth_52 : decode cX11_bookWorth 52 = .ok (.lstore_n 2, 1) := by decide +kernel
theorem dX11_bookWorth_53 : decode cX11_bookWorth 53 = .ok (.iinc 4 1, 3) := by decide +kernel
theorem dX11_bookWorth_56 : decode cX11_bookWorth 56 = .ok (.goto (-51), 3) := by decide +kernel
theorem dX11_bookWorth_59 : decode cX11_bookWorth 59 = .ok (.lload_n 2, 1) := by decide +kernel
theorem dX11_bookWorth_60 : decode cX11_bookWorth 60 = .ok (.lreturn, 1) := by decide +kernel
theorem dX11_cover_0 : decode cX11_cover 0 = .ok (.aload_n 0, 1) := by decide +kernel
theorem dX11_cover_1 : decode cX11_cover 1 = .ok (.iload_n 1, 1) := by decide +kernel
theorem dX11_cover_2 : decode cX11_cover 2 = .ok (.iload_n 2, 1) := by decide +kernel
theorem dX11_cover_3 : decode cX11_cover 3 = .ok (.invokevirtual 180, 3) := by decide +kernel
theorem dX11_cover_6 : decode cX11_cover 6 = .ok (.ifCond .eq 22, 3) := by decide +kernel
theorem dX11_cover_9 : decode cX11_cover 9 = .ok (.iload_n 3, 1) := by decide +kernel
theorem dX11_cover_10 : decode cX11_cover 10 = .ok (.invokestatic 196, 3) := by decide +kernel
theorem dX11_cover_13 : decode cX11_cover 13 = .ok (.ifCond .eq 15, 3) := by decide +kernel
theorem dX11_cover_16 : decode cX11_cover 16 = .ok (.iload 4, 2) := by decide +kernel
theorem dX11_cover_18 : decode cX11_cover 18 = .ok (.invokestatic 196, 3) := by decide +kernel
theorem dX11_cover_21 : decode cX11_cover 21 = .ok (.ifCond .eq 7, 3) := by decide +kernel
theorem dX11_cover_24 : decode cX11_cover 24 = .ok (.iconst 1, 1) := by decide +kernel
theorem dX11_cover_25 : decode cX11_cover 25 = .ok (.goto 4, 3) := by decide +kernel
theorem dX11_cover_28 : decode cX11_cover 28 = .ok (.iconst 0, 1) := by decide +kernel
theorem dX11_cover_29 : decode cX11_cover 29 = .ok (.invokestatic 199, 3) := by decide +kernel
theorem dX11_cover_32 : decode cX11_cover 32 = .ok (.aload_n 0, 1) := by decide +kernel
theorem dX11_cover_33 : decode cX11_cover 33 = .ok (.getfield 56, 3) := by decide +kernel
theorem dX11_cover_36 : decode cX11_cover 36 = .ok (.invokevirtual 184, 3) := by decide +kernel
theorem dX11_cover_39 : decode cX11_cover 39 = .ok (.iload_n 1, 1) := by decide +kernel
theorem dX11_cover_40 : decode cX11_cover 40 = .ok (.iload_n 2, 1) := by decide +kernel
theorem dX11_cover_41 : decode cX11_cover 41 = .ok (.invokestatic 187, 3) := by decide +kernel
theorem dX11_cover_44 : decode cX11_cover 44 = .ok (.istore 5, 2) := by decide +kernel
theorem dX11_cover_46 : decode cX11_cover 46 = .ok (.lconst 0, 1) := by decide +kernel
theorem dX11_cover_47 : decode cX11_cover 47 = .ok (.lstore 6, 2) := by decide +kernel
theorem dX11_cover_49 : decode cX11_cover 49 = .ok (.iconst 0, 1) := by decide +kernel
theorem dX11_cover_50 : decode cX11_cover 50 = .ok (.istore 8, 2) := by decide +kernel
theorem dX11_cover_52 : decode cX11_cover 52 = .ok (.iload 8, 2) := by decide +kernel
theorem dX11_cover_54 : decode cX11_cover 54 = .ok (.aload_n 0, 1) := by decide +kernel
theorem dX11_cover_55 : decode cX11_cover 55 = .ok (.getfield 23, 3) := by decide +kernel
theorem dX11_cover_58 : decode cX11_cover 58 = .ok (.getfield 108, 3) := by decide +kernel
theorem dX11_cover_61 : decode cX11_cover 61 = .ok (.if_icmp .ge 49, 3) := by decide +kernel
theorem dX11_cover_64 : decode cX11_cover 64 = .ok (.lload 6, 2) := by decide +kernel
theorem dX11_cover_66 : decode cX11_cover 66 = .ok (.aload_n 0, 1) := by decide +kernel
theorem dX11_cover_67 : decode cX11_cover 67 = .ok (.getfield 23, 3) := by decide +kernel
theorem dX11_cover_70 : decode cX11_cover 70 = .ok (.getfield 138, 3) := by decide +kernel
theorem dX11_cover_73 : decode cX11_cover 73 = .ok (.iload 8, 2) := by decide +kernel
theorem dX11_cover_75 : decode cX11_cover 75 = .ok (.aaload, 1) := by decide +kernel
theorem dX11_cover_76 : decode cX11_cover 76 = .ok (.getfield 174, 3) := by decide +kernel
theorem dX11_cover_79 : decode cX11_cover 79 = .ok (.i2l, 1) := by decide +kernel
theorem dX11_cover_80 : decode cX11_cover 80 = .ok (.aload_n 0, 1) := by decide +kernel
theorem dX11_cover_81 : decode cX11_cover 81 = .ok (.getfield 56, 3) := by decide +kernel
theorem dX11_cover_84 : decode cX11_cover 84 = .ok (.aload_n 0, 1) := by decide +kernel
theorem dX11_cover_85 : decode cX11_cover 85 = .ok (.getfield 56, 3) := by decide +kernel
theorem dX11_cover_88 : decode cX11_cover 88 = .ok (.getfield 306, 3) := by decide +kernel
theorem dX11_cover_91 : decode cX11_cover 91 = .ok (.iload 8, 2) := by decide +kernel
theorem dX11_cover_93 : decode cX11_cover 93 = .ok (.aaload, 1) := by decide +kernel
theorem dX11_cover_94 : decode cX11_cover 94 = .ok (.iload_n 1, 1) := by decide +kernel
theorem dX11_cover_95 : decode cX11_cover 95 = .ok (.iload 5, 2) := by decide +kernel
theorem dX11_cover_97 : decode cX11_cover 97 = .ok (.invokevirtual 240, 3) := by decide +kernel
theorem dX11_cover_100 : decode cX11_cover 100 = .ok (.lmul, 1) := by decide +kernel
theorem dX11_cover_101 : decode cX11_cover 101 = .ok (.ladd, 1) := by decide +kernel
theorem dX11_cover_102 : decode cX11_cover 102 = .ok (.lstore 6, 2) := by decide +kernel
theorem dX11_cover_104 : decode cX11_cover 104 = .ok (.iinc 8 1, 3) := by decide +kernel
theorem dX11_cover_107 : decode cX11_cover 107 = .ok (.goto (-55), 3) := by decide +kernel
theorem dX11_cover_110 : decode cX11_cover 110 = .ok (.iload_n 3, 1) := by decide +kernel
theorem dX11_cover_111 : decode cX11_cover 111 = .ok (.ifCond .ne 8, 3) := by decide +kernel
theorem dX11_cover_114 : decode cX11_cover 114 = .ok (.lload 6, 2) := by decide +kernel
theorem dX11_cover_116 : decode cX11_cover 116 = .ok (.goto 24, 3) := by decide +kernel
theorem dX11_cover_119 : decode cX11_cover 119 = .ok (.aload_n 0, 1) := by decide +kernel
theorem dX11_cover_120 : decode cX11_cover 120 = .ok (.iload 5, 2) := by decide +kernel
theorem dX11_cover_122 : decode cX11_cover 122 = .ok (.invokevirtual 303, 3) := by decide +kernel
theorem dX11_cover_125 : decode cX11_cover 125 = .ok (.lload 6, 2) := by decide +kernel
theorem dX11_cover_127 : decode cX11_cover 127 = .ok (.aload_n 0, 1) := by decide +kernel
theorem dX11_cover_128 : decode cX11_cover 128 = .ok (.getfield 56, 3) := by decide +kernel
theorem dX11_cover_131 : decode cX11_cover 131 = .ok (.getfield 193, 3) := by decide +kernel
theorem dX11_cover_134 : decode cX11_cover 134 = .ok (.iload 5, 2) := by decide +kernel
theorem dX11_cover_136 : decode cX11_cover 136 = .ok (.iaload, 1) := by decide +kernel
theorem dX11_cover_137 : decode cX11_cover 137 = .ok (.i2l, 1) := by decide +kernel
theorem dX11_cover_138 : decode cX11_cover 138 = .ok (.lmul, 1) := by decide +kernel
theorem dX11_cover_139 : decode cX11_cover 139 = .ok (.lsub, 1) := by decide +kernel
theorem dX11_cover_140 : decode cX11_cover 140 = .ok (.lstore 8, 2) := by decide +kernel
theorem dX11_cover_142 : decode cX11_cover 142 = .ok (.lload 8, 2) := by decide +kernel
theorem dX11_cover_144 : decode cX11_cover 144 = .ok (.aload_n 0, 1) := by decide +kernel
theorem dX11_cover_145 : decode cX11_cover 145 = .ok (.getfield 56, 3) := by decide +kernel
theorem dX11_cover_148 : decode cX11_cover 148 = .ok (.iload_n 1, 1) := by decide +kernel
theorem dX11_cover_149 : decode cX11_cover 149 = .ok (.invokevirtual 213, 3) := by decide +kernel
theorem dX11_cover_152 : decode cX11_cover 152 = .ok (.iload 4, 2) := by decide +kernel
theorem dX11_cover_154 : decode cX11_cover 154 = .ok (.invokestatic 217, 3) := by decide +kernel
theorem dX11_cover_157 : decode cX11_cover 157 = .ok (.lreturn, 1) := by decide +kernel
theorem dX11_extreme_0 : decode cX11_extreme 0 = .ok (.iload_n 1, 1) := by decide +kernel
theorem dX11_extreme_1 : decode cX11_extreme 1 = .ok (.invokestatic 196, 3) := by decide +kernel
theorem dX11_extreme_4 : decode cX11_extreme 4 = .ok (.ifCond .ne 5, 3) := by decide +kernel
theorem dX11_extreme_7 : decode cX11_extreme 7 = .ok (.iconst (-1), 1) := by decide +kernel
theorem dX11_extreme_8 : decode cX11_extreme 8 = .ok (.ireturn, 1) := by decide +kernel
theorem dX11_extreme_9 : decode cX11_extreme 9 = .ok (.aload_n 0, 1) := by decide +kernel
theorem dX11_extreme_10 : decode cX11_extreme 10 = .ok (.getfield 56, 3) := by decide +kernel
theorem dX11_extreme_13 : decode cX11_extreme 13 = .ok (.invokevirtual 184, 3) := by decide +kernel
theorem dX11_extreme_16 : decode cX11_extreme 16 = .ok (.aload_n 0, 1) := by decide +kernel
theorem dX11_extreme_17 : decode cX11_extreme 17 = .ok (.getfield 23, 3) := by decide +kernel
theorem dX11_extreme_20 : decode cX11_extreme 20 = .ok (.getfield 111, 3) := by decide +kernel
theorem dX11_extreme_23 : decode cX11_extreme 23 = .ok (.istore_n 2, 1) := by decide +kernel
theorem dX11_extreme_24 : decode cX11_extreme 24 = .ok (.iconst 0, 1) := by decide +kernel
theorem dX11_extreme_25 : decode cX11_extreme 25 = .ok (.istore_n 3, 1) := by decide +kernel
theorem dX11_extreme_26 : decode cX11_extreme 26 = .ok (.aload_n 0, 1) := by decide +kernel
theorem dX11_extreme_27 : decode cX11_extreme 27 = .ok (.iload_n 2, 1) := by decide +kernel
theorem dX11_extreme_28 : decode cX11_extreme 28 = .ok (.iconst 0, 1) := by decide +kernel
theorem dX11_extreme_29 : decode cX11_extreme 29 = .ok (.invokestatic 187, 3) := by decide +kernel
theorem dX11_extreme_32 : decode cX11_extreme 32 = .ok (.invokevirtual 303, 3) := by decide +kernel
theorem dX11_extreme_35 : decode cX11_extreme 35 = .ok (.lstore 4, 2) := by decide +kernel
theorem dX11_extreme_37 : decode cX11_extreme 37 = .ok (.iconst 1, 1) := by decide +kernel
theorem dX11_extreme_38 : decode cX11_extreme 38 = .ok (.istore 6, 2) := by decide +kernel
theorem dX11_extreme_40 : decode cX11_extreme 40 = .ok (.iload 6, 2) := by decide +kernel
theorem dX11_extreme_42 : decode cX11_extreme 42 = .ok (.iload_n 2, 1) := by decide +kernel
theorem dX11_extreme_43 : decode cX11_extreme 43 = .ok (.if_icmp .gt 51, 3) := by decide +kernel
theorem dX11_extreme_46 : decode cX11_extreme 46 = .ok (.aload_n 0, 1) := by decide +kernel
theorem dX11_extreme_47 : decode cX11_extreme 47 = .ok (.iload_n 2, 1) := by decide +kernel
theorem dX11_extreme_48 : decode cX11_extreme 48 = .ok (.iload 6, 2) := by decide +kernel
theorem dX11_extreme_50 : decode cX11_extreme 50 = .ok (.invokestatic 187, 3) := by decide +kernel
theorem dX11_extreme_53 : decode cX11_extreme 53 = .ok (.invokevirtual 303, 3) := by decide +kernel
theorem dX11_extreme_56 : decode cX11_extreme 56 = .ok (.lstore 7, 2) := by decide +kernel
theorem dX11_extreme_58 : decode cX11_extreme 58 = .ok (.iload_n 1, 1) := by decide +kernel
theorem dX11_extreme_59 : decode cX11_extreme 59 = .ok (.ifCond .ne 14, 3) := by decide +kernel
theorem dX11_extreme_62 : decode cX11_extreme 62 = .ok (.lload 7, 2) := by decide +kernel
theorem dX11_extreme_64 : decode cX11_extreme 64 = .ok (.lload 4, 2) := by decide +kernel
theorem dX11_extreme_66 : decode cX11_extreme 66 = .ok (.lcmp, 1) := by decide +kernel
theorem dX11_extreme_67 : decode cX11_extreme 67 = .ok (.ifCond .ge 21, 3) := by decide +kernel
theorem dX11_extreme_70 : decode cX11_extreme 70 = .ok (.goto 11, 3) := by decide +kernel
theorem dX11_extreme_73 : decode cX11_extreme 73 = .ok (.lload 7, 2) := by decide +kernel
theorem dX11_extreme_75 : decode cX11_extreme 75 = .ok (.lload 4, 2) := by decide +kernel
theorem dX11_extreme_77 : decode cX11_extreme 77 = .ok (.lcmp, 1) := by decide +kernel
theorem dX11_extreme_78 : decode cX11_extreme 78 = .ok (.ifCond .le 10, 3) := by decide +kernel
theorem dX11_extreme_81 : decode cX11_extreme 81 = .ok (.lload 7, 2) := by decide +kernel
theorem dX11_extreme_83 : decode cX11_extreme 83 = .ok (.lstore 4, 2) := by decide +kernel
theorem dX11_extreme_85 : decode cX11_extreme 85 = .ok (.iload 6, 2) := by decide +kernel
theorem dX11_extreme_87 : decode cX11_extreme 87 = .ok (.istore_n 3, 1) := by decide +kernel
theorem dX11_extreme_88 : decode cX11_extreme 88 = .ok (.iinc 6 1, 3) := by decide +kernel
theorem dX11_extreme_91 : decode cX11_extreme 91 = .ok (.goto (-51), 3) := by decide +kernel
theorem dX11_extreme_94 : decode cX11_extreme 94 = .ok (.iload_n 3, 1) := by decide +kernel
theorem dX11_extreme_95 : decode cX11_extreme 95 = .ok (.ireturn, 1) := by decide +kernel
theorem dX11_move_0 : decode cX11_move 0 = .ok (.iload_n 1, 1) := by decide +kernel
theorem dX11_move_1 : decode cX11_move 1 = .ok (.ifCond .lt 30, 3) := by decide +kernel
theorem dX11_move_4 : decode cX11_move 4 = .ok (.iload_n 1, 1) := by decide +kernel
theorem dX11_move_5 : decode cX11_move 5 = .ok (.sipush 999, 3) := by decide +kernel
theorem dX11_move_8 : decode cX11_move 8 = .ok (.if_icmp .gt 23, 3) := by decide +kernel
theorem dX11_move_11 : decode cX11_move 11 = .ok (.aload_n 0, 1) := by decide +kernel
theorem dX11_move_12 : decode cX11_move 12 = .ok (.getfield 23, 3) := by decide +kernel
theorem dX11_move_15 : decode cX11_move 15 = .ok (.invokevirtual 310, 3) := by decide +kernel
theorem dX11_move_18 : decode cX11_move 18 = .ok (.aload_n 0, 1) := by decide +kernel
theorem dX11_move_19 : decode cX11_move 19 = .ok (.getfield 23, 3) := by decide +kernel
theorem dX11_move_22 : decode cX11_move 22 = .ok (.getfield 117, 3) := by decide +kernel
theorem dX11_move_25 : decode cX11_move 25 = .ok (.isub, 1) := by decide +kernel
theorem dX11_move_26 : decode cX11_move 26 = .ok (.iload_n 1, 1) := by decide +kernel
theorem dX11_move_27 : decode cX11_move 27 = .ok (.iadd, 1) := by decide +kernel
theorem dX11_move_28 : decode cX11_move 28 = .ok (.ifCond .ge 5, 3) := by decide +kernel
theorem dX11_move_31 : decode cX11_move 31 = .ok (.iconst (-1), 1) := by decide +kernel
theorem dX11_move_32 : decode cX11_move 32 = .ok (.ireturn, 1) := by decide +kernel
theorem dX11_move_33 : decode cX11_move 33 = .ok (.aload_n 0, 1) := by decide +kernel
theorem dX11_move_34 : decode cX11_move 34 = .ok (.iconst 1, 1) := by decide +kernel
theorem dX11_move_35 : decode cX11_move 35 = .ok (.iconst 0, 1) := by decide +kernel
theorem dX11_move_36 : decode cX11_move 36 = .ok (.iload_n 1, 1) := by decide +kernel
theorem dX11_move_37 : decode cX11_move 37 = .ok (.invokevirtual 314, 3) := by decide +kernel
theorem dX11_move_40 : decode cX11_move 40 = .ok (.ireturn, 1) := by decide +kernel
theorem dX11_fall_0 : decode cX11_fall 0 = .ok (.iload_n 1, 1) := by decide +kernel
theorem dX11_fall_1 : decode cX11_fall 1 = .ok (.iconst 1, 1) := by decide +kernel
theorem dX11_fall_2 : decode cX11_fall 2 = .ok (.if_icmp .lt 30, 3) := by decide +kernel
theorem dX11_fall_5 : decode cX11_fall 5 = .ok (.iload_n 1, 1) := by decide +kernel
theorem dX11_fall_6 : decode cX11_fall 6 = .ok (.aload_n 0, 1) := by decide +kernel
theorem dX11_fall_7 : decode cX11_fall 7 = .ok (.getfield 23, 3) := by decide +kernel
theorem dX11_fall_10 : decode cX11_fall 10 = .ok (.getfield 111, 3) := by decide +kernel
theorem dX11_fall_13 : decode cX11_fall 13 = .ok (.if_icmp .gt 19, 3) := by decide +kernel
theorem dX11_fall_16 : decode cX11_fall 16 = .ok (.iload_n 2, 1) := by decide +kernel
theorem dX11_fall_17 : decode cX11_fall 17 = .ok (.iconst 1, 1) := by decide +kernel
theorem dX11_fall_18 : decode cX11_fall 18 = .ok (.if_icmp .lt 14, 3) := by decide +kernel
theorem dX11_fall_21 : decode cX11_fall 21 = .ok (.iload_n 2, 1) := by decide +kernel
theorem dX11_fall_22 : decode cX11_fall 22 = .ok (.aload_n 0, 1) := by decide +kernel
theorem dX11_fall_23 : decode cX11_fall 23 = .ok (.getfield 23, 3) := by decide +kernel
theorem dX11_fall_26 : decode cX11_fall 26 = .ok (.getfield 114, 3) := by decide +kernel
theorem dX11_fall_29 : decode cX11_fall 29 = .ok (.if_icmp .lt 5, 3) := by decide +kernel
theorem dX11_fall_32 : decode cX11_fall 32 = .ok (.iconst (-1), 1) := by decide +kernel
theorem dX11_fall_33 : decode cX11_fall 33 = .ok (.ireturn, 1) := by decide +kernel
theorem dX11_fall_34 : decode cX11_fall 34 = .ok (.aload_n 0, 1) := by decide +kernel
theorem dX11_fall_35 : decode cX11_fall 35 = .ok (.getfield 23, 3) := by decide +kernel
theorem dX11_fall_38 : decode cX11_fall 38 = .ok (.invokevirtual 310, 3) := by decide +kernel
theorem dX11_fall_41 : decode cX11_fall 41 = .ok (.aload_n 0, 1) := by decide +kernel
theorem dX11_fall_42 : decode cX11_fall 42 = .ok (.getfield 23, 3) := by decide +kernel
theorem dX11_fall_45 : decode cX11_fall 45 = .ok (.getfield 124, 3) := by decide +kernel
theorem dX11_fall_48 : decode cX11_fall 48 = .ok (.iload_n 1, 1) := by decide +kernel
theorem dX11_fall_49 : decode cX11_fall 49 = .ok (.iaload, 1) := by decide +kernel
theorem dX11_fall_50 : decode cX11_fall 50 = .ok (.iadd, 1) := by decide +kernel
theorem dX11_fall_51 : decode cX11_fall 51 = .ok (.iload_n 2, 1) := by decide +kernel
theorem dX11_fall_52 : decode cX11_fall 52 = .ok (.isub, 1) := by decide +kernel
theorem dX11_fall_53 : decode cX11_fall 53 = .ok (.ifCond .ge 5, 3) := by decide +kernel
theorem dX11_fall_56 : decode cX11_fall 56 = .ok (.iconst (-1), 1) := by decide +kernel
theorem dX11_fall_57 : decode cX11_fall 57 = .ok (.ireturn, 1) := by decide +kernel
theorem dX11_fall_58 : decode cX11_fall 58 = .ok (.aload_n 0, 1) := by decide +kernel
theorem dX11_fall_59 : decode cX11_fall 59 = .ok (.iconst 2, 1) := by decide +kernel
theorem dX11_fall_60 : decode cX11_fall 60 = .ok (.iload_n 1, 1) := by decide +kernel
theorem dX11_fall_61 : decode cX11_fall 61 = .ok (.iload_n 2, 1) := by decide +kernel
theorem dX11_fall_62 : decode cX11_fall 62 = .ok (.invokevirtual 314, 3) := by decide +kernel
theorem dX11_fall_65 : decode cX11_fall 65 = .ok (.ireturn, 1) := by decide +kernel
theorem dX11_cash_0 : decode cX11_cash 0 = .ok (.aload_n 0, 1) := by decide +kernel
theorem dX11_cash_1 : decode cX11_cash 1 = .ok (.iload_n 1, 1) := by decide +kernel
theorem dX11_cash_2 : decode cX11_cash 2 = .ok (.invokevirtual 128, 3) := by decide +kernel
theorem dX11_cash_5 : decode cX11_cash 5 = .ok (.ifCond .eq 13, 3) := by decide +kernel
theorem dX11_cash_8 : decode cX11_cash 8 = .ok (.iload_n 2, 1) := by decide +kernel
theorem dX11_cash_9 : decode cX11_cash 9 = .ok (.ifCond .lt 9, 3) := by decide +kernel
theorem dX11_cash_12 : decode cX11_cash 12 = .ok (.iload_n 2, 1) := by decide +kernel
theorem dX11_cash_13 : decode cX11_cash 13 = .ok (.bipush 99, 2) := by decide +kernel
theorem dX11_cash_15 : decode cX11_cash 15 = .ok (.if_icmp .le 5, 3) := by decide +kernel
theorem dX11_cash_18 : decode cX11_cash 18 = .ok (.iconst (-1), 1) := by decide +kernel
theorem dX11_cash_19 : decode cX11_cash 19 = .ok (.ireturn, 1) := by decide +kernel
theorem dX11_cash_20 : decode cX11_cash 20 = .ok (.aload_n 0, 1) := by decide +kernel
theorem dX11_cash_21 : decode cX11_cash 21 = .ok (.iconst 3, 1) := by decide +kernel
theorem dX11_cash_22 : decode cX11_cash 22 = .ok (.iload_n 1, 1) := by decide +kernel
theorem dX11_cash_23 : decode cX11_cash 23 = .ok (.iload_n 2, 1) := by decide +kernel
theorem dX11_cash_24 : decode cX11_cash 24 = .ok (.invokevirtual 314, 3) := by decide +kernel
theorem dX11_cash_27 : decode cX11_cash 27 = .ok (.ireturn, 1) := by decide +kernel
theorem dX11_restrike_0 : decode cX11_restrike 0 = .ok (.aload_n 0, 1) := by decide +kernel
theorem dX11_restrike_1 : decode cX11_restrike 1 = .ok (.iload_n 1, 1) := by decide +kernel
theorem dX11_restrike_2 : decode cX11_restrike 2 = .ok (.invokevirtual 134, 3) := by decide +kernel
theorem dX11_restrike_5 : decode cX11_restrike 5 = .ok (.ifCond .eq 14, 3) := by decide +kernel
theorem dX11_restrike_8 : decode cX11_restrike 8 = .ok (.iload_n 2, 1) := by decide +kernel
theorem dX11_restrike_9 : decode cX11_restrike 9 = .ok (.ifCond .lt 10, 3) := by decide +kernel
theorem dX11_restrike_12 : decode cX11_restrike 12 = .ok (.iload_n 2, 1) := by decide +kernel
theorem dX11_restrike_13 : decode cX11_restrike 13 = .ok (.sipush 999, 3) := by decide +kernel
theorem dX11_restrike_16 : decode cX11_restrike 16 = .ok (.if_icmp .le 5, 3) := by decide +kernel
theorem dX11_restrike_19 : decode cX11_restrike 19 = .ok (.iconst (-1), 1) := by decide +kernel
theorem dX11_restrike_20 : decode cX11_restrike 20 = .ok (.ireturn, 1) := by decide +kernel
theorem dX11_restrike_21 : decode cX11_restrike 21 = .ok (.aload_n 0, 1) := by decide +kernel
theorem dX11_restrike_22 : decode cX11_restrike 22 = .ok (.getfield 23, 3) := by decide +kernel
theorem dX11_restrike_25 : decode cX11_restrike 25 = .ok (.getfield 138, 3) := by decide +kernel
theorem dX11_restrike_28 : decode cX11_restrike 28 = .ok (.iload_n 1, 1) := by decide +kernel
theorem dX11_restrike_29 : decode cX11_restrike 29 = .ok (.aaload, 1) := by decide +kernel
theorem dX11_restrike_30 : decode cX11_restrike 30 = .ok (.astore_n 3, 1) := by decide +kernel
theorem dX11_restrike_31 : decode cX11_restrike 31 = .ok (.aload_n 3, 1) := by decide +kernel
theorem dX11_restrike_32 : decode cX11_restrike 32 = .ok (.getfield 142, 3) := by decide +kernel
theorem dX11_restrike_35 : decode cX11_restrike 35 = .ok (.iconst 3, 1) := by decide +kernel
theorem dX11_restrike_36 : decode cX11_restrike 36 = .ok (.if_icmp .ne 13, 3) := by decide +kernel
theorem dX11_restrike_39 : decode cX11_restrike 39 = .ok (.iload_n 2, 1) := by decide +kernel
theorem dX11_restrike_40 : decode cX11_restrike 40 = .ok (.aload_n 3, 1) := by decide +kernel
theorem dX11_restrike_41 : decode cX11_restrike 41 = .ok (.getfield 150, 3) := by decide +kernel
theorem dX11_restrike_44 : decode cX11_restrike 44 = .ok (.if_icmp .lt 5, 3) := by decide +kernel
theorem dX11_restrike_47 : decode cX11_restrike 47 = .ok (.iconst (-1), 1) := by decide +kernel
theorem dX11_restrike_48 : decode cX11_restrike 48 = .ok (.ireturn, 1) := by decide +kernel
theorem dX11_restrike_49 : decode cX11_restrike 49 = .ok (.aload_n 0, 1) := by decide +kernel
theorem dX11_restrike_50 : decode cX11_restrike 50 = .ok (.iconst 4, 1) := by decide +kernel
theorem dX11_restrike_51 : decode cX11_restrike 51 = .ok (.iload_n 1, 1) := by decide +kernel
theorem dX11_restrike_52 : decode cX11_restrike 52 = .ok (.iload_n 2, 1) := by decide +kernel
theorem dX11_restrike_53 : decode cX11_restrike 53 = .ok (.invokevirtual 314, 3) := by decide +kernel
theorem dX11_restrike_56 : decode cX11_restrike 56 = .ok (.ireturn, 1) := by decide +kernel
theorem dX11_changed_0 : decode cX11_changed 0 = .ok (.aload_n 0, 1) := by decide +kernel
theorem dX11_changed_1 : decode cX11_changed 1 = .ok (.getfield 23, 3) := by decide +kernel
theorem dX11_changed_4 : decode cX11_changed 4 = .ok (.iload_n 1, 1) := by decide +kernel
theorem dX11_changed_5 : decode cX11_changed 5 = .ok (.iload_n 2, 1) := by decide +kernel
theorem dX11_changed_6 : decode cX11_changed 6 = .ok (.invokevirtual 318, 3) := by decide +kernel
theorem dX11_changed_9 : decode cX11_changed 9 = .ok (.iload_n 3, 1) := by decide +kernel
theorem dX11_changed_10 : decode cX11_changed 10 = .ok (.if_icmp .ne 5, 3) := by decide +kernel
theorem dX11_changed_13 : decode cX11_changed 13 = .ok (.iconst 1, 1) := by decide +kernel
theorem dX11_changed_14 : decode cX11_changed 14 = .ok (.ireturn, 1) := by decide +kernel
theorem dX11_changed_15 : decode cX11_changed 15 = .ok (.aload_n 0, 1) := by decide +kernel
theorem dX11_changed_16 : decode cX11_changed 16 = .ok (.iload_n 1, 1) := by decide +kernel
theorem dX11_changed_17 : decode cX11_changed 17 = .ok (.iload_n 2, 1) := by decide +kernel
theorem dX11_changed_18 : decode cX11_changed 18 = .ok (.iload_n 3, 1) := by decide +kernel
theorem dX11_changed_19 : decode cX11_changed 19 = .ok (.invokevirtual 299, 3) := by decide +kernel
theorem dX11_changed_22 : decode cX11_changed 22 = .ok (.iconst 0, 1) := by decide +kernel
theorem dX11_changed_23 : decode cX11_changed 23 = .ok (.ireturn, 1) := by decide +kernel
theorem dX11_change_0 : decode cX11_change 0 = .ok (.aload_n 0, 1) := by decide +kernel
theorem dX11_change_1 : decode cX11_change 1 = .ok (.getfield 47, 3) := by decide +kernel
theorem dX11_change_4 : decode cX11_change 4 = .ok (.iload_n 1, 1) := by decide +kernel
theorem dX11_change_5 : decode cX11_change 5 = .ok (.iload_n 2, 1) := by decide +kernel
theorem dX11_change_6 : decode cX11_change 6 = .ok (.aload_n 0, 1) := by decide +kernel
theorem dX11_change_7 : decode cX11_change 7 = .ok (.getfield 23, 3) := by decide +kernel
theorem dX11_change_10 : decode cX11_change 10 = .ok (.iload_n 1, 1) := by decide +kernel
theorem dX11_change_11 : decode cX11_change 11 = .ok (.iload_n 2, 1) := by decide +kernel
theorem dX11_change_12 : decode cX11_change 12 = .ok (.invokevirtual 318, 3) := by decide +kernel
theorem dX11_change_15 : decode cX11_change 15 = .ok (.invokevirtual 321, 3) := by decide +kernel
theorem dX11_change_18 : decode cX11_change 18 = .ok (.aload_n 0, 1) := by decide +kernel
theorem dX11_change_19 : decode cX11_change 19 = .ok (.iload_n 1, 1) := by decide +kernel
theorem dX11_change_20 : decode cX11_change 20 = .ok (.iload_n 2, 1) := by decide +kernel
theorem dX11_change_21 : decode cX11_change 21 = .ok (.iload_n 3, 1) := by decide +kernel
theorem dX11_change_22 : decode cX11_change 22 = .ok (.invokevirtual 324, 3) := by decide +kernel
theorem dX11_change_25 : decode cX11_change 25 = .ok (.return_, 1) := by decide +kernel
theorem dX11_tell_0 : decode cX11_tell 0 = .ok (.aload_n 0, 1) := by decide +kernel
theorem dX11_tell_1 : decode cX11_tell 1 = .ok (.getfield 23, 3) := by decide +kernel
theorem dX11_tell_4 : decode cX11_tell 4 = .ok (.iload_n 1, 1) := by decide +kernel
theorem dX11_tell_5 : decode cX11_tell 5 = .ok (.iload_n 2, 1) := by decide +kernel
theorem dX11_tell_6 : decode cX11_tell 6 = .ok (.iload_n 3, 1) := by decide +kernel
theorem dX11_tell_7 : decode cX11_tell 7 = .ok (.invokevirtual 327, 3) := by decide +kernel
theorem dX11_tell_10 : decode cX11_tell 10 = .ok (.iload_n 1, 1) := by decide +kernel
theorem dX11_tell_11 : decode cX11_tell 11 = .ok (.ifCond .eq 11, 3) := by decide +kernel
theorem dX11_tell_14 : decode cX11_tell 14 = .ok (.aload_n 0, 1) := by decide +kernel
theorem dX11_tell_15 : decode cX11_tell 15 = .ok (.getfield 56, 3) := by decide +kernel
theorem dX11_tell_18 : decode cX11_tell 18 = .ok (.iconst 1, 1) := by decide +kernel
theorem dX11_tell_19 : decode cX11_tell 19 = .ok (.putfield 104, 3) := by decide +kernel
theorem dX11_tell_22 : decode cX11_tell 22 = .ok (.return_, 1) := by decide +kernel
theorem dX11_undo_0 : decode cX11_undo 0 = .ok (.aload_n 0, 1) := by decide +kernel
theorem dX11_undo_1 : decode cX11_undo 1 = .ok (.getfield 47, 3) := by decide +kernel
theorem dX11_undo_4 : decode cX11_undo 4 = .ok (.getfield 101, 3) := by decide +kernel
theorem dX11_undo_7 : decode cX11_undo 7 = .ok (.ifCond .ne 5, 3) := by decide +kernel
theorem dX11_undo_10 : decode cX11_undo 10 = .ok (.iconst (-1), 1) := by decide +kernel
theorem dX11_undo_11 : decode cX11_undo 11 = .ok (.ireturn, 1) := by decide +kernel
theorem dX11_undo_12 : decode cX11_undo 12 = .ok (.aload_n 0, 1) := by decide +kernel
theorem dX11_undo_13 : decode cX11_undo 13 = .ok (.getfield 47, 3) := by decide +kernel
theorem dX11_undo_16 : decode cX11_undo 16 = .ok (.getfield 101, 3) := by decide +kernel
theorem dX11_undo_19 : decode cX11_undo 19 = .ok (.iconst 1, 1) := by decide +kernel
theorem dX11_undo_20 : decode cX11_undo 20 = .ok (.isub, 1) := by decide +kernel
theorem dX11_undo_21 : decode cX11_undo 21 = .ok (.istore_n 1, 1) := by decide +kernel
theorem dX11_undo_22 : decode cX11_undo 22 = .ok (.aload_n 0, 1) := by decide +kernel
theorem dX11_undo_23 : decode cX11_undo 23 = .ok (.getfield 47, 3) := by decide +kernel
theorem dX11_undo_26 : decode cX11_undo 26 = .ok (.iload_n 1, 1) := by decide +kernel
theorem dX11_undo_27 : decode cX11_undo 27 = .ok (.putfield 101, 3) := by decide +kernel
theorem dX11_undo_30 : decode cX11_undo 30 = .ok (.aload_n 0, 1) := by decide +kernel
theorem dX11_undo_31 : decode cX11_undo 31 = .ok (.aload_n 0, 1) := by decide +kernel
theorem dX11_undo_32 : decode cX11_undo 32 = .ok (.getfield 47, 3) := by decide +kernel
theorem dX11_undo_35 : decode cX11_undo 35 = .ok (.getfield 328, 3) := by decide +kernel
theorem dX11_undo_38 : decode cX11_undo 38 = .ok (.iload_n 1, 1) := by decide +kernel
theorem dX11_undo_39 : decode cX11_undo 39 = .ok (.iaload, 1) := by decide +kernel
theorem dX11_undo_40 : decode cX11_undo 40 = .ok (.aload_n 0, 1) := by decide +kernel
theorem dX11_undo_41 : decode cX11_undo 41 = .ok (.getfield 47, 3) := by decide +kernel
theorem dX11_undo_44 : decode cX11_undo 44 = .ok (.getfield 331, 3) := by decide +kernel
theorem dX11_undo_47 : decode cX11_undo 47 = .ok (.iload_n 1, 1) := by decide +kernel
theorem dX11_undo_48 : decode cX11_undo 48 = .ok (.iaload, 1) := by decide +kernel
theorem dX11_undo_49 : decode cX11_undo 49 = .ok (.aload_n 0, 1) := by decide +kernel
theorem dX11_undo_50 : decode cX11_undo 50 = .ok (.getfield 47, 3) := by decide +kernel
theorem dX11_undo_53 : decode cX11_undo 53 = .ok (.getfield 334, 3) := by decide +kernel
theorem dX11_undo_56 : decode cX11_undo 56 = .ok (.iload_n 1, 1) := by decide +kernel
theorem dX11_undo_57 : decode cX11_undo 57 = .ok (.iaload, 1) := by decide +kernel
theorem dX11_undo_58 : decode cX11_undo 58 = .ok (.invokevirtual 324, 3) := by decide +kernel
theorem dX11_undo_61 : decode cX11_undo 61 = .ok (.iload_n 1, 1) := by decide +kernel
theorem dX11_undo_62 : decode cX11_undo 62 = .ok (.ireturn, 1) := by decide +kernel
theorem dX11_image_0 : decode cX11_image 0 = .ok (.iload_n 1, 1) := by decide +kernel
theorem dX11_image_1 : decode cX11_image 1 = .ok (.ifCond .lt 8, 3) := by decide +kernel
theorem dX11_image_4 : decode cX11_image 4 = .ok (.iload_n 1, 1) := by decide +kernel
theorem dX11_image_5 : decode cX11_image 5 = .ok (.iconst 2, 1) := by decide +kernel
theorem dX11_image_6 : decode cX11_image 6 = .ok (.if_icmp .lt 5, 3) := by decide +kernel
theorem dX11_image_9 : decode cX11_image 9 = .ok (.iconst 0, 1) := by decide +kernel
theorem dX11_image_10 : decode cX11_image 10 = .ok (.ireturn, 1) := by decide +kernel
theorem dX11_image_11 : decode cX11_image 11 = .ok (.aload_n 0, 1) := by decide +kernel
theorem dX11_image_12 : decode cX11_image 12 = .ok (.getfield 27, 3) := by decide +kernel
theorem dX11_image_15 : decode cX11_image 15 = .ok (.iload_n 1, 1) := by decide +kernel
theorem dX11_image_16 : decode cX11_image 16 = .ok (.aaload, 1) := by decide +kernel
theorem dX11_image_17 : decode cX11_image 17 = .ok (.aload_n 0, 1) := by decide +kernel
theorem dX11_image_18 : decode cX11_image 18 = .ok (.getfield 23, 3) := by decide +kernel
theorem dX11_image_21 : decode cX11_image 21 = .ok (.invokevirtual 98, 3) := by decide +kernel
theorem dX11_image_24 : decode cX11_image 24 = .ok (.aload_n 0, 1) := by decide +kernel
theorem dX11_image_25 : decode cX11_image 25 = .ok (.getfield 31, 3) := by decide +kernel
theorem dX11_image_28 : decode cX11_image 28 = .ok (.iload_n 1, 1) := by decide +kernel
theorem dX11_image_29 : decode cX11_image 29 = .ok (.iconst 1, 1) := by decide +kernel
theorem dX11_image_30 : decode cX11_image 30 = .ok (.bastore, 1) := by decide +kernel
theorem dX11_image_31 : decode cX11_image 31 = .ok (.iconst 1, 1) := by decide +kernel
theorem dX11_image_32 : decode cX11_image 32 = .ok (.ireturn, 1) := by decide +kernel
theorem dX11_restore_0 : decode cX11_restore 0 = .ok (.iload_n 1, 1) := by decide +kernel
theorem dX11_restore_1 : decode cX11_restore 1 = .ok (.ifCond .lt 17, 3) := by decide +kernel
theorem dX11_restore_4 : decode cX11_restore 4 = .ok (.iload_n 1, 1) := by decide +kernel
theorem dX11_restore_5 : decode cX11_restore 5 = .ok (.iconst 2, 1) := by decide +kernel
theorem dX11_restore_6 : decode cX11_restore 6 = .ok (.if_icmp .ge 12, 3) := by decide +kernel
theorem dX11_restore_9 : decode cX11_restore 9 = .ok (.aload_n 0, 1) := by decide +kernel
theorem dX11_restore_10 : decode cX11_restore 10 = .ok (.getfield 31, 3) := by decide +kernel
theorem dX11_restore_13 : decode cX11_restore 13 = .ok (.iload_n 1, 1) := by decide +kernel
theorem dX11_restore_14 : decode cX11_restore 14 = .ok (.baload, 1) := by decide +kernel
theorem dX11_restore_15 : decode cX11_restore 15 = .ok (.ifCond .ne 5, 3) := by decide +kernel
theorem dX11_restore_18 : decode cX11_restore 18 = .ok (.iconst 0, 1) := by decide +kernel
theorem dX11_restore_19 : decode cX11_restore 19 = .ok (.ireturn, 1) := by decide +kernel
theorem dX11_restore_20 : decode cX11_restore 20 = .ok (.aload_n 0, 1) := by decide +kernel
theorem dX11_restore_21 : decode cX11_restore 21 = .ok (.getfield 23, 3) := by decide +kernel
theorem dX11_restore_24 : decode cX11_restore 24 = .ok (.aload_n 0, 1) := by decide +kernel
theorem dX11_restore_25 : decode cX11_restore 25 = .ok (.getfield 27, 3) := by decide +kernel
theorem dX11_restore_28 : decode cX11_restore 28 = .ok (.iload_n 1, 1) := by decide +kernel
theorem dX11_restore_29 : decode cX11_restore 29 = .ok (.aaload, 1) := by decide +kernel
theorem dX11_restore_30 : decode cX11_restore 30 = .ok (.invokevirtual 98, 3) := by decide +kernel
theorem dX11_restore_33 : decode cX11_restore 33 = .ok (.aload_n 0, 1) := by decide +kernel
theorem dX11_restore_34 : decode cX11_restore 34 = .ok (.getfield 47, 3) := by decide +kernel
theorem dX11_restore_37 : decode cX11_restore 37 = .ok (.iconst 0, 1) := by decide +kernel
theorem dX11_restore_38 : decode cX11_restore 38 = .ok (.putfield 101, 3) := by decide +kernel
theorem dX11_restore_41 : decode cX11_restore 41 = .ok (.aload_n 0, 1) := by decide +kernel
theorem dX11_restore_42 : decode cX11_restore 42 = .ok (.getfield 56, 3) := by decide +kernel
theorem dX11_restore_45 : decode cX11_restore 45 = .ok (.iconst 1, 1) := by decide +kernel
theorem dX11_restore_46 : decode cX11_restore 46 = .ok (.putfield 104, 3) := by decide +kernel
theorem dX11_restore_49 : decode cX11_restore 49 = .ok (.iconst 1, 1) := by decide +kernel
theorem dX11_restore_50 : decode cX11_restore 50 = .ok (.ireturn, 1) := by decide +kernel
theorem dX11_isOption_0 : decode cX11_isOption 0 = .ok (.iload_n 1, 1) := by decide +kernel
theorem dX11_isOption_1 : decode cX11_isOption 1 = .ok (.ifCond .lt 18, 3) := by decide +kernel
theorem dX11_isOption_4 : decode cX11_isOption 4 = .ok (.iload_n 1, 1) := by decide +kernel
theorem dX11_isOption_5 : decode cX11_isOption 5 = .ok (.aload_n 0, 1) := by decide +kernel
theorem dX11_isOption_6 : decode cX11_isOption 6 = .ok (.getfield 23, 3) := by decide +kernel
theorem dX11_isOption_9 : decode cX11_isOption 9 = .ok (.getfield 108, 3) := by decide +kernel
theorem dX11_isOption_12 : decode cX11_isOption 12 = .ok (.if_icmp .ge 7, 3) := by decide +kernel
theorem dX11_isOption_15 : decode cX11_isOption 15 = .ok (.iconst 1, 1) := by decide +kernel
theorem dX11_isOption_16 : decode cX11_isOption 16 = .ok (.goto 4, 3) := by decide +kernel
theorem dX11_isOption_19 : decode cX11_isOption 19 = .ok (.iconst 0, 1) := by decide +kernel
theorem dX11_isOption_20 : decode cX11_isOption 20 = .ok (.ireturn, 1) := by decide +kernel
theorem dX11_isStep_0 : decode cX11_isStep 0 = .ok (.iload_n 1, 1) := by decide +kernel
theorem dX11_isStep_1 : decode cX11_isStep 1 = .ok (.ifCond .lt 18, 3) := by decide +kernel
theorem dX11_isStep_4 : decode cX11_isStep 4 = .ok (.iload_n 1, 1) := by decide +kernel
theorem dX11_isStep_5 : decode cX11_isStep 5 = .ok (.aload_n 0, 1) := by decide +kernel
theorem dX11_isStep_6 : decode cX11_isStep 6 = .ok (.getfield 23, 3) := by decide +kernel
theorem dX11_isStep_9 : decode cX11_isStep 9 = .ok (.getfield 111, 3) := by decide +kernel
theorem dX11_isStep_12 : decode cX11_isStep 12 = .ok (.if_icmp .gt 7, 3) := by decide +kernel
theorem dX11_isStep_15 : decode cX11_isStep 15 = .ok (.iconst 1, 1) := by decide +kernel
theorem dX11_isStep_16 : decode cX11_isStep 16 = .ok (.goto 4, 3) := by decide +kernel
theorem dX11_isStep_19 : decode cX11_isStep 19 = .ok (.iconst 0, 1) := by decide +kernel
theorem dX11_isStep_20 : decode cX11_isStep 20 = .ok (.ireturn, 1) := by decide +kernel
theorem dX11_isNode_0 : decode cX11_isNode 0 = .ok (.aload_n 0, 1) := by decide +kernel
theorem dX11_isNode_1 : decode cX11_isNode 1 = .ok (.iload_n 1, 1) := by decide +kernel
theorem dX11_isNode_2 : decode cX11_isNode 2 = .ok (.invokevirtual 128, 3) := by decide +kernel
theorem dX11_isNode_5 : decode cX11_isNode 5 = .ok (.ifCond .eq 16, 3) := by decide +kernel
theorem dX11_isNode_8 : decode cX11_isNode 8 = .ok (.iload_n 2, 1) := by decide +kernel
theorem dX11_isNode_9 : decode cX11_isNode 9 = .ok (.ifCond .lt 12, 3) := by decide +kernel
theorem dX11_isNode_12 : decode cX11_isNode 12 = .ok (.iload_n 2, 1) := by decide +kernel
theorem dX11_isNode_13 : decode cX11_isNode 13 = .ok (.iload_n 1, 1) := by decide +kernel
theorem dX11_isNode_14 : decode cX11_isNode 14 = .ok (.if_icmp .gt 7, 3) := by decide +kernel
theorem dX11_isNode_17 : decode cX11_isNode 17 = .ok (.iconst 1, 1) := by decide +kernel
theorem dX11_isNode_18 : decode cX11_isNode 18 = .ok (.goto 4, 3) := by decide +kernel
theorem dX11_isNode_21 : decode cX11_isNode 21 = .ok (.iconst 0, 1) := by decide +kernel
theorem dX11_isNode_22 : decode cX11_isNode 22 = .ok (.ireturn, 1) := by decide +kernel
theorem dX11_isPath_0 : decode cX11_isPath 0 = .ok (.iload_n 1, 1) := by decide +kernel
theorem dX11_isPath_1 : decode cX11_isPath 1 = .ok (.ifCond .lt 20, 3) := by decide +kernel
theorem dX11_isPath_4 : decode cX11_isPath 4 = .ok (.iload_n 1, 1) := by decide +kernel
theorem dX11_isPath_5 : decode cX11_isPath 5 = .ok (.iconst 1, 1) := by decide +kernel
theorem dX11_isPath_6 : decode cX11_isPath 6 = .ok (.aload_n 0, 1) := by decide +kernel
theorem dX11_isPath_7 : decode cX11_isPath 7 = .ok (.getfield 23, 3) := by decide +kernel
theorem dX11_isPath_10 : decode cX11_isPath 10 = .ok (.getfield 111, 3) := by decide +kernel
theorem dX11_isPath_13 : decode cX11_isPath 13 = .ok (.ishl, 1) := by decide +kernel
theorem dX11_isPath_14 : decode cX11_isPath 14 = .ok (.if_icmp .ge 7, 3) := by decide +kernel
theorem dX11_isPath_17 : decode cX11_isPath 17 = .ok (.iconst 1, 1) := by decide +kernel
theorem dX11_isPath_18 : decode cX11_isPath 18 = .ok (.goto 4, 3) := by decide +kernel
theorem dX11_isPath_21 : decode cX11_isPath 21 = .ok (.iconst 0, 1) := by decide +kernel
theorem dX11_isPath_22 : decode cX11_isPath 22 = .ok (.ireturn, 1) := by decide +kernel
theorem dX11_isExercise_0 : decode cX11_isExercise 0 = .ok (.iload_n 1, 1) := by decide +kernel
theorem dX11_isExercise_1 : decode cX11_isExercise 1 = .ok (.iconst (-1), 1) := by decide +kernel
theorem dX11_isExercise_2 : decode cX11_isExercise 2 = .ok (.if_icmp .eq 11, 3) := by decide +kernel
theorem dX11_isExercise_5 : decode cX11_isExercise 5 = .ok (.aload_n 0, 1) := by decide +kernel
theorem dX11_isExercise_6 : decode cX11_isExercise 6 = .ok (.iload_n 1, 1) := by decide +kernel
theorem dX11_isExercise_7 : decode cX11_isExercise 7 = .ok (.invokevirtual 128, 3) := by decide +kernel
theorem dX11_isExercise_10 : decode cX11_isExercise 10 = .ok (.ifCond .eq 7, 3) := by decide +kernel
theorem dX11_isExercise_13 : decode cX11_isExercise 13 = .ok (.iconst 1, 1) := by decide +kernel
theorem dX11_isExercise_14 : decode cX11_isExercise 14 = .ok (.goto 4, 3) := by decide +kernel
theorem dX11_isExercise_17 : decode cX11_isExercise 17 = .ok (.iconst 0, 1) := by decide +kernel
theorem dX11_isExercise_18 : decode cX11_isExercise 18 = .ok (.ireturn, 1) := by decide +kernel
theorem dX11_isBit_0 : decode cX11_isBit 0 = .ok (.iload_n 0, 1) := by decide +kernel
theorem dX11_isBit_1 : decode cX11_isBit 1 = .ok (.ifCond .eq 8, 3) := by decide +kernel
theorem dX11_isBit_4 : decode cX11_isBit 4 = .ok (.iload_n 0, 1) := by decide +kernel
theorem dX11_isBit_5 : decode cX11_isBit 5 = .ok (.iconst 1, 1) := by decide +kernel
theorem dX11_isBit_6 : decode cX11_isBit 6 = .ok (.if_icmp .ne 7, 3) := by decide +kernel
theorem dX11_isBit_9 : decode cX11_isBit 9 = .ok (.iconst 1, 1) := by decide +kernel
theorem dX11_isBit_10 : decode cX11_isBit 10 = .ok (.goto 4, 3) := by decide +kernel
theorem dX11_isBit_13 : decode cX11_isBit 13 = .ok (.iconst 0, 1) := by decide +kernel
theorem dX11_isBit_14 : decode cX11_isBit 14 = .ok (.ireturn, 1) := by decide +kernel
theorem dX11_isMark_0 : decode cX11_isMark 0 = .ok (.iload_n 0, 1) := by decide +kernel
theorem dX11_isMark_1 : decode cX11_isMark 1 = .ok (.ifCond .lt 14, 3) := by decide +kernel
theorem dX11_isMark_4 : decode cX11_isMark 4 = .ok (.iload_n 0, 1) := by decide +kernel
theorem dX11_isMark_5 : decode cX11_isMark 5 = .ok (.sipush 2999, 3) := by decide +kernel
theorem dX11_isMark_8 : decode cX11_isMark 8 = .ok (.if_icmp .gt 7, 3) := by decide +kernel
theorem dX11_isMark_11 : decode cX11_isMark 11 = .ok (.iconst 1, 1) := by decide +kernel
theorem dX11_isMark_12 : decode cX11_isMark 12 = .ok (.goto 4, 3) := by decide +kernel
theorem dX11_isMark_15 : decode cX11_isMark 15 = .ok (.iconst 0, 1) := by decide +kernel
theorem dX11_isMark_16 : decode cX11_isMark 16 = .ok (.ireturn, 1) := by decide +kernel
theorem dX11_require_0 : decode cX11_require 0 = .ok (.iload_n 0, 1) := by decide +kernel
theorem dX11_require_1 : decode cX11_require 1 = .ok (.ifCond .ne 11, 3) := by decide +kernel
theorem dX11_require_4 : decode cX11_require 4 = .ok (.new 337, 3) := by decide +kernel
theorem dX11_require_7 : decode cX11_require 7 = .ok (.dup, 1) := by decide +kernel
theorem dX11_require_8 : decode cX11_require 8 = .ok (.invokespecial 339, 3) := by decide +kernel
theorem dX11_require_11 : decode cX11_require 11 = .ok (.athrow, 1) := by decide +kernel
theorem dX11_require_12 : decode cX11_require 12 = .ok (.return_, 1) := by decide +kernel
theorem dX11_sheetOf_0 : decode cX11_sheetOf 0 = .ok (.aload_n 0, 1) := by decide +kernel
theorem dX11_sheetOf_1 : decode cX11_sheetOf 1 = .ok (.getfield 56, 3) := by decide +kernel
theorem dX11_sheetOf_4 : decode cX11_sheetOf 4 = .ok (.invokevirtual 184, 3) := by decide +kernel
theorem dX11_sheetOf_7 : decode cX11_sheetOf 7 = .ok (.aload_n 0, 1) := by decide +kernel
theorem dX11_sheetOf_8 : decode cX11_sheetOf 8 = .ok (.getfield 56, 3) := by decide +kernel
theorem dX11_sheetOf_11 : decode cX11_sheetOf 11 = .ok (.getfield 306, 3) := by decide +kernel
theorem dX11_sheetOf_14 : decode cX11_sheetOf 14 = .ok (.iload_n 1, 1) := by decide +kernel
theorem dX11_sheetOf_15 : decode cX11_sheetOf 15 = .ok (.aaload, 1) := by decide +kernel
theorem dX11_sheetOf_16 : decode cX11_sheetOf 16 = .ok (.areturn, 1) := by decide +kernel
theorem dX11_nodeAt_0 : decode cX11_nodeAt 0 = .ok (.iload_n 0, 1) := by decide +kernel
theorem dX11_nodeAt_1 : decode cX11_nodeAt 1 = .ok (.iload_n 0, 1) := by decide +kernel
theorem dX11_nodeAt_2 : decode cX11_nodeAt 2 = .ok (.iconst 1, 1) := by decide +kernel
theorem dX11_nodeAt_3 : decode cX11_nodeAt 3 = .ok (.iadd, 1) := by decide +kernel
theorem dX11_nodeAt_4 : decode cX11_nodeAt 4 = .ok (.imul, 1) := by decide +kernel
theorem dX11_nodeAt_5 : decode cX11_nodeAt 5 = .ok (.iconst 2, 1) := by decide +kernel
theorem dX11_nodeAt_6 : decode cX11_nodeAt 6 = .ok (.idiv, 1) := by decide +kernel
theorem dX11_nodeAt_7 : decode cX11_nodeAt 7 = .ok (.iload_n 1, 1) := by decide +kernel
theorem dX11_nodeAt_8 : decode cX11_nodeAt 8 = .ok (.iadd, 1) := by decide +kernel
theorem dX11_nodeAt_9 : decode cX11_nodeAt 9 = .ok (.ireturn, 1) := by decide +kernel
theorem dX11_isPast_0 : decode cX11_isPast 0 = .ok (.iload_n 2, 1) := by decide +kernel
theorem dX11_isPast_1 : decode cX11_isPast 1 = .ok (.iconst 1, 1) := by decide +kernel
theorem dX11_isPast_2 : decode cX11_isPast 2 = .ok (.if_icmp .ne 16, 3) := by decide +kernel
theorem dX11_isPast_5 : decode cX11_isPast 5 = .ok (.iload_n 0, 1) := by decide +kernel
theorem dX11_isPast_6 : decode cX11_isPast 6 = .ok (.iload_n 1, 1) := by decide +kernel
theorem dX11_isPast_7 : decode cX11_isPast 7 = .ok (.if_icmp .lt 7, 3) := by decide +kernel
theorem dX11_isPast_10 : decode cX11_isPast 10 = .ok (.iconst 1, 1) := by decide +kernel
theorem dX11_isPast_11 : decode cX11_isPast 11 = .ok (.goto 17, 3) := by decide +kernel
theorem dX11_isPast_14 : decode cX11_isPast 14 = .ok (.iconst 0, 1) := by decide +kernel
theorem dX11_isPast_15 : decode cX11_isPast 15 = .ok (.goto 13, 3) := by decide +kernel
theorem dX11_isPast_18 : decode cX11_isPast 18 = .ok (.iload_n 0, 1) := by decide +kernel
theorem dX11_isPast_19 : decode cX11_isPast 19 = .ok (.iload_n 1, 1) := by decide +kernel
theorem dX11_isPast_20 : decode cX11_isPast 20 = .ok (.if_icmp .gt 7, 3) := by decide +kernel
theorem dX11_isPast_23 : decode cX11_isPast 23 = .ok (.iconst 1, 1) := by decide +kernel
theorem dX11_isPast_24 : decode cX11_isPast 24 = .ok (.goto 4, 3) := by decide +kernel
theorem dX11_isPast_27 : decode cX11_isPast 27 = .ok (.iconst 0, 1) := by decide +kernel
theorem dX11_isPast_28 : decode cX11_isPast 28 = .ok (.ireturn, 1) := by decide +kernel
theorem dX11_told_0 : decode cX11_told 0 = .ok (.lload_n 0, 1) := by decide +kernel
theorem dX11_told_1 : decode cX11_told 1 = .ok (.invokestatic 340, 3) := by decide +kernel
theorem dX11_told_4 : decode cX11_told 4 = .ok (.lload_n 2, 1) := by decide +kernel
theorem dX11_told_5 : decode cX11_told 5 = .ok (.invokestatic 344, 3) := by decide +kernel
theorem dX11_told_8 : decode cX11_told 8 = .ok (.lstore 5, 2) := by decide +kernel
theorem dX11_told_10 : decode cX11_told 10 = .ok (.lload 5, 2) := by decide +kernel
theorem dX11_told_12 : decode cX11_told 12 = .ok (.lconst 1, 1) := by decide +kernel
theorem dX11_told_13 : decode cX11_told 13 = .ok (.lcmp, 1) := by decide +kernel
theorem dX11_told_14 : decode cX11_told 14 = .ok (.ifCond .ge 7, 3) := by decide +kernel
theorem dX11_told_17 : decode cX11_told 17 = .ok (.iload 4, 2) := by decide +kernel
theorem dX11_told_19 : decode cX11_told 19 = .ok (.i2l, 1) := by decide +kernel
theorem dX11_told_20 : decode cX11_told 20 = .ok (.lreturn, 1) := by decide +kernel
theorem dX11_told_21 : decode cX11_told 21 = .ok (.iload 4, 2) := by decide +kernel
theorem dX11_told_23 : decode cX11_told 23 = .ok (.ifCond .ne 10, 3) := by decide +kernel
theorem dX11_told_26 : decode cX11_told 26 = .ok (.lload_n 0, 1) := by decide +kernel
theorem dX11_told_27 : decode cX11_told 27 = .ok (.lload 5, 2) := by decide +kernel
theorem dX11_told_29 : decode cX11_told 29 = .ok (.ldiv, 1) := by decide +kernel
theorem dX11_told_30 : decode cX11_told 30 = .ok (.goto 7, 3) := by decide +kernel
theorem dX11_told_33 : decode cX11_told 33 = .ok (.lload_n 2, 1) := by decide +kernel
theorem dX11_told_34 : decode cX11_told 34 = .ok (.lload 5, 2) := by decide +kernel
theorem dX11_told_36 : decode cX11_told 36 = .ok (.ldiv, 1) := by decide +kernel
theorem dX11_told_37 : decode cX11_told 37 = .ok (.lreturn, 1) := by decide +kernel
theorem dX11_commonDivisor_0 : decode cX11_commonDivisor 0 = .ok (.lload_n 0, 1) := by decide +kernel
theorem dX11_commonDivisor_1 : decode cX11_commonDivisor 1 = .ok (.lstore 4, 2) := by decide +kernel
theorem dX11_commonDivisor_3 : decode cX11_commonDivisor 3 = .ok (.lload_n 2, 1) := by decide +kernel
theorem dX11_commonDivisor_4 : decode cX11_commonDivisor 4 = .ok (.lstore 6, 2) := by decide +kernel
theorem dX11_commonDivisor_6 : decode cX11_commonDivisor 6 = .ok (.iconst 0, 1) := by decide +kernel
theorem dX11_commonDivisor_7 : decode cX11_commonDivisor 7 = .ok (.istore 8, 2) := by decide +kernel
theorem dX11_commonDivisor_9 : decode cX11_commonDivisor 9 = .ok (.lload 6, 2) := by decide +kernel
theorem dX11_commonDivisor_11 : decode cX11_commonDivisor 11 = .ok (.lconst 0, 1) := by decide +kernel
theorem dX11_commonDivisor_12 : decode cX11_commonDivisor 12 = .ok (.lcmp, 1) := by decide +kernel
theorem dX11_commonDivisor_13 : decode cX11_commonDivisor 13 = .ok (.ifCond .eq 32, 3) := by decide +kernel
theorem dX11_commonDivisor_16 : decode cX11_commonDivisor 16 = .ok (.iload 8, 2) := by decide +kernel
theorem dX11_commonDivisor_18 : decode cX11_commonDivisor 18 = .ok (.sipush 130, 3) := by decide +kernel
theorem dX11_commonDivisor_21 : decode cX11_commonDivisor 21 = .ok (.if_icmp .ge 24, 3) := by decide +kernel
theorem dX11_commonDivisor_24 : decode cX11_commonDivisor 24 = .ok (.lload 4, 2) := by decide +kernel
theorem dX11_commonDivisor_26 : decode cX11_commonDivisor 26 = .ok (.lload 6, 2) := by decide +kernel
theorem dX11_commonDivisor_28 : decode cX11_commonDivisor 28 = .ok (.lrem, 1) := by decide +kernel
theorem dX11_commonDivisor_29 : decode cX11_commonDivisor 29 = .ok (.lstore 9, 2) := by decide +kernel
theorem dX11_commonDivisor_31 : decode cX11_commonDivisor 31 = .ok (.lload 6, 2) := by decide +kernel
theorem dX11_commonDivisor_33 : decode cX11_commonDivisor 33 = .ok (.lstore 4, 2) := by decide +kernel
theorem dX11_commonDivisor_35 : decode cX11_commonDivisor 35 = .ok (.lload 9, 2) := by decide +kernel
theorem dX11_commonDivisor_37 : decode cX11_commonDivisor 37 = .ok (.lstore 6, 2) := by decide +kernel
theorem dX11_commonDivisor_39 : decode cX11_commonDivisor 39 = .ok (.iinc 8 1, 3) := by decide +kernel
theorem dX11_commonDivisor_42 : decode cX11_commonDivisor 42 = .ok (.goto (-33), 3) := by decide +kernel
theorem dX11_commonDivisor_45 : decode cX11_commonDivisor 45 = .ok (.lload 4, 2) := by decide +kernel
theorem dX11_commonDivisor_47 : decode cX11_commonDivisor 47 = .ok (.lreturn, 1) := by decide +kernel
