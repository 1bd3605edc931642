theorem dX12_thrown_0 : decode cX12_thrown 0 = .ok (.aload_n 0, 1) := by decide +kernel
theorem dX12_thrown_1 : decode cX12_thrown 1 = .ok (.getfield 1, 3) := by decide +kernel
theorem dX12_thrown_4 : decode cX12_thrown 4 = .ok (.ireturn, 1) := by decide +kernel
theorem dX12_throwsIf_0 : decode cX12_throwsIf 0 = .ok (.aload_n 0, 1) := by decide +kernel
theorem dX12_throwsIf_1 : decode cX12_throwsIf 1 = .ok (.iload_n 1, 1) := by decide +kernel
theorem dX12_throwsIf_2 : decode cX12_throwsIf 2 = .ok (.ifCond .eq 7, 3) := by decide +kernel
theorem dX12_throwsIf_5 : decode cX12_throwsIf 5 = .ok (.iconst 1, 1) := by decide +kernel
theorem dX12_throwsIf_6 : decode cX12_throwsIf 6 = .ok (.goto 4, 3) := by decide +kernel
theorem dX12_throwsIf_9 : decode cX12_throwsIf 9 = .ok (.iconst 0, 1) := by decide +kernel
theorem dX12_throwsIf_10 : decode cX12_throwsIf 10 = .ok (.putfield 1, 3) := by decide +kernel
theorem dX12_throwsIf_13 : decode cX12_throwsIf 13 = .ok (.iload_n 1, 1) := by decide +kernel
theorem dX12_throwsIf_14 : decode cX12_throwsIf 14 = .ok (.ireturn, 1) := by decide +kernel
theorem dX12_init_0 : decode cX12_init 0 = .ok (.aload_n 0, 1) := by decide +kernel
theorem dX12_init_1 : decode cX12_init 1 = .ok (.invokespecial 7, 3) := by decide +kernel
theorem dX12_init_4 : decode cX12_init 4 = .ok (.aload_n 0, 1) := by decide +kernel
theorem dX12_init_5 : decode cX12_init 5 = .ok (.bipush 70, 2) := by decide +kernel
theorem dX12_init_7 : decode cX12_init 7 = .ok (.newarray .int, 2) := by decide +kernel
theorem dX12_init_9 : decode cX12_init 9 = .ok (.putfield 13, 3) := by decide +kernel
theorem dX12_init_12 : decode cX12_init 12 = .ok (.aload_n 0, 1) := by decide +kernel
theorem dX12_init_13 : decode cX12_init 13 = .ok (.bipush 70, 2) := by decide +kernel
theorem dX12_init_15 : decode cX12_init 15 = .ok (.newarray .int, 2) := by decide +kernel
theorem dX12_init_17 : decode cX12_init 17 = .ok (.putfield 17, 3) := by decide +kernel
theorem dX12_init_20 : decode cX12_init 20 = .ok (.aload_n 0, 1) := by decide +kernel
theorem dX12_init_21 : decode cX12_init 21 = .ok (.sipush 140, 3) := by decide +kernel
theorem dX12_init_24 : decode cX12_init 24 = .ok (.newarray .int, 2) := by decide +kernel
theorem dX12_init_26 : decode cX12_init 26 = .ok (.putfield 20, 3) := by decide +kernel
theorem dX12_init_29 : decode cX12_init 29 = .ok (.aload_n 0, 1) := by decide +kernel
theorem dX12_init_30 : decode cX12_init 30 = .ok (.sipush 560, 3) := by decide +kernel
theorem dX12_init_33 : decode cX12_init 33 = .ok (.newarray .int, 2) := by decide +kernel
theorem dX12_init_35 : decode cX12_init 35 = .ok (.putfield 23, 3) := by decide +kernel
theorem dX12_init_38 : decode cX12_init 38 = .ok (.aload_n 0, 1) := by decide +kernel
theorem dX12_init_39 : decode cX12_init 39 = .ok (.iconst 2, 1) := by decide +kernel
theorem dX12_init_40 : decode cX12_init 40 = .ok (.newarray .boolean, 2) := by decide +kernel
theorem dX12_init_42 : decode cX12_init 42 = .ok (.putfield 26, 3) := by decide +kernel
theorem dX12_init_45 : decode cX12_init 45 = .ok (.aload_n 0, 1) := by decide +kernel
theorem dX12_init_46 : decode cX12_init 46 = .ok (.sipush 540, 3) := by decide +kernel
theorem dX12_init_49 : decode cX12_init 49 = .ok (.newarray .byte, 2) := by decide +kernel
theorem dX12_init_51 : decode cX12_init 51 = .ok (.putfield 30, 3) := by decide +kernel
theorem dX12_init_54 : decode cX12_init 54 = .ok (.aload_n 0, 1) := by decide +kernel
theorem dX12_init_55 : decode cX12_init 55 = .ok (.bipush 8, 2) := by decide +kernel
theorem dX12_init_57 : decode cX12_init 57 = .ok (.newarray .byte, 2) := by decide +kernel
theorem dX12_init_59 : decode cX12_init 59 = .ok (.putfield 34, 3) := by decide +kernel
theorem dX12_init_62 : decode cX12_init 62 = .ok (.aload_n 0, 1) := by decide +kernel
theorem dX12_init_63 : decode cX12_init 63 = .ok (.bipush 32, 2) := by decide +kernel
theorem dX12_init_65 : decode cX12_init 65 = .ok (.newarray .byte, 2) := by decide +kernel
theorem dX12_init_67 : decode cX12_init 67 = .ok (.putfield 37, 3) := by decide +kernel
theorem dX12_init_70 : decode cX12_init 70 = .ok (.aload_n 0, 1) := by decide +kernel
theorem dX12_init_71 : decode cX12_init 71 = .ok (.sipush 676, 3) := by decide +kernel
theorem dX12_init_74 : decode cX12_init 74 = .ok (.newarray .long, 2) := by decide +kernel
theorem dX12_init_76 : decode cX12_init 76 = .ok (.putfield 40, 3) := by decide +kernel
theorem dX12_init_79 : decode cX12_init 79 = .ok (.aload_n 0, 1) := by decide +kernel
theorem dX12_init_80 : decode cX12_init 80 = .ok (.sipush 676, 3) := by decide +kernel
theorem dX12_init_83 : decode cX12_init 83 = .ok (.newarray .long, 2) := by decide +kernel
theorem dX12_init_85 : decode cX12_init 85 = .ok (.putfield 44, 3) := by decide +kernel
theorem dX12_init_88 : decode cX12_init 88 = .ok (.aload_n 0, 1) := by decide +kernel
theorem dX12_init_89 : decode cX12_init 89 = .ok (.bipush 14, 2) := by decide +kernel
theorem dX12_init_91 : decode cX12_init 91 = .ok (.newarray .long, 2) := by decide +kernel
theorem dX12_init_93 : decode cX12_init 93 = .ok (.putfield 47, 3) := by decide +kernel
theorem dX12_init_96 : decode cX12_init 96 = .ok (.aload_n 0, 1) := by decide +kernel
theorem dX12_init_97 : decode cX12_init 97 = .ok (.sipush 676, 3) := by decide +kernel
theorem dX12_init_100 : decode cX12_init 100 = .ok (.newarray .byte, 2) := by decide +kernel
theorem dX12_init_102 : decode cX12_init 102 = .ok (.putfield 50, 3) := by decide +kernel
theorem dX12_init_105 : decode cX12_init 105 = .ok (.aload_n 0, 1) := by decide +kernel
theorem dX12_init_106 : decode cX12_init 106 = .ok (.sipush 676, 3) := by decide +kernel
theorem dX12_init_109 : decode cX12_init 109 = .ok (.newarray .byte, 2) := by decide +kernel
theorem dX12_init_111 : decode cX12_init 111 = .ok (.putfield 53, 3) := by decide +kernel
theorem dX12_init_114 : decode cX12_init 114 = .ok (.aload_n 0, 1) := by decide +kernel
theorem dX12_init_115 : decode cX12_init 115 = .ok (.sipush 338, 3) := by decide +kernel
theorem dX12_init_118 : decode cX12_init 118 = .ok (.newarray .long, 2) := by decide +kernel
theorem dX12_init_120 : decode cX12_init 120 = .ok (.putfield 56, 3) := by decide +kernel
theorem dX12_init_123 : decode cX12_init 123 = .ok (.aload_n 0, 1) := by decide +kernel
theorem dX12_init_124 : decode cX12_init 124 = .ok (.sipush 338, 3) := by decide +kernel
theorem dX12_init_127 : decode cX12_init 127 = .ok (.newarray .long, 2) := by decide +kernel
theorem dX12_init_129 : decode cX12_init 129 = .ok (.putfield 59, 3) := by decide +kernel
theorem dX12_init_132 : decode cX12_init 132 = .ok (.aload_n 0, 1) := by decide +kernel
theorem dX12_init_133 : decode cX12_init 133 = .ok (.bipush 52, 2) := by decide +kernel
theorem dX12_init_135 : decode cX12_init 135 = .ok (.newarray .long, 2) := by decide +kernel
theorem dX12_init_137 : decode cX12_init 137 = .ok (.putfield 62, 3) := by decide +kernel
theorem dX12_init_140 : decode cX12_init 140 = .ok (.aload_n 0, 1) := by decide +kernel
theorem dX12_init_141 : decode cX12_init 141 = .ok (.sipush 169, 3) := by decide +kernel
theorem dX12_init_144 : decode cX12_init 144 = .ok (.newarray .long, 2) := by decide +kernel
theorem dX12_init_146 : decode cX12_init 146 = .ok (.putfield 65, 3) := by decide +kernel
theorem dX12_init_149 : decode cX12_init 149 = .ok (.aload_n 0, 1) := by decide +kernel
theorem dX12_init_150 : decode cX12_init 150 = .ok (.sipush 169, 3) := by decide +kernel
theorem dX12_init_153 : decode cX12_init 153 = .ok (.newarray .long, 2) := by decide +kernel
theorem dX12_init_155 : decode cX12_init 155 = .ok (.putfield 68, 3) := by decide +kernel
theorem dX12_init_158 : decode cX12_init 158 = .ok (.aload_n 0, 1) := by decide +kernel
theorem dX12_init_159 : decode cX12_init 159 = .ok (.getfield 13, 3) := by decide +kernel
theorem dX12_init_162 : decode cX12_init 162 = .ok (.invokestatic 71, 3) := by decide +kernel
theorem dX12_init_165 : decode cX12_init 165 = .ok (.return_, 1) := by decide +kernel
theorem dX12_bare_0 : decode cX12_bare 0 = .ok (.iconst 0, 1) := by decide +kernel
theorem dX12_bare_1 : decode cX12_bare 1 = .ok (.istore_n 1, 1) := by decide +kernel
theorem dX12_bare_2 : decode cX12_bare 2 = .ok (.iload_n 1, 1) := by decide +kernel
theorem dX12_bare_3 : decode cX12_bare 3 = .ok (.bipush 70, 2) := by decide +kernel
theorem dX12_bare_5 : decode cX12_bare 5 = .ok (.if_icmp .ge 13, 3) := by decide +kernel
theorem dX12_bare_8 : decode cX12_bare 8 = .ok (.aload_n 0, 1) := by decide +kernel
theorem dX12_bare_9 : decode cX12_bare 9 = .ok (.iload_n 1, 1) := by decide +kernel
theorem dX12_bare_10 : decode cX12_bare 10 = .ok (.iconst 0, 1) := by decide +kernel
theorem dX12_bare_11 : decode cX12_bare 11 = .ok (.iastore, 1) := by decide +kernel
theorem dX12_bare_12 : decode cX12_bare 12 = .ok (.iinc 1 1, 3) := by decide +kernel
theorem dX12_bare_15 : decode cX12_bare 15 = .ok (.goto (-13), 3) := by decide +kernel
theorem dX12_bare_18 : decode cX12_bare 18 = .ok (.aload_n 0, 1) := by decide +kernel
theorem dX12_bare_19 : decode cX12_bare 19 = .ok (.iconst 0, 1) := by decide +kernel
theorem dX12_bare_20 : decode cX12_bare 20 = .ok (.bipush 100, 2) := by decide +kernel
theorem dX12_bare_22 : decode cX12_bare 22 = .ok (.iastore, 1) := by decide +kernel
theorem dX12_bare_23 : decode cX12_bare 23 = .ok (.aload_n 0, 1) := by decide +kernel
theorem dX12_bare_24 : decode cX12_bare 24 = .ok (.iconst 1, 1) := by decide +kernel
theorem dX12_bare_25 : decode cX12_bare 25 = .ok (.iconst 2, 1) := by decide +kernel
theorem dX12_bare_26 : decode cX12_bare 26 = .ok (.iastore, 1) := by decide +kernel
theorem dX12_bare_27 : decode cX12_bare 27 = .ok (.return_, 1) := by decide +kernel
theorem dX12_copies_0 : decode cX12_copies 0 = .ok (.iconst 0, 1) := by decide +kernel
theorem dX12_copies_1 : decode cX12_copies 1 = .ok (.istore 4, 2) := by decide +kernel
theorem dX12_copies_3 : decode cX12_copies 3 = .ok (.iload 4, 2) := by decide +kernel
theorem dX12_copies_5 : decode cX12_copies 5 = .ok (.bipush 70, 2) := by decide +kernel
theorem dX12_copies_7 : decode cX12_copies 7 = .ok (.if_icmp .ge 21, 3) := by decide +kernel
theorem dX12_copies_10 : decode cX12_copies 10 = .ok (.aload_n 2, 1) := by decide +kernel
theorem dX12_copies_11 : decode cX12_copies 11 = .ok (.iload_n 3, 1) := by decide +kernel
theorem dX12_copies_12 : decode cX12_copies 12 = .ok (.iload 4, 2) := by decide +kernel
theorem dX12_copies_14 : decode cX12_copies 14 = .ok (.iadd, 1) := by decide +kernel
theorem dX12_copies_15 : decode cX12_copies 15 = .ok (.aload_n 0, 1) := by decide +kernel
theorem dX12_copies_16 : decode cX12_copies 16 = .ok (.iload_n 1, 1) := by decide +kernel
theorem dX12_copies_17 : decode cX12_copies 17 = .ok (.iload 4, 2) := by decide +kernel
theorem dX12_copies_19 : decode cX12_copies 19 = .ok (.iadd, 1) := by decide +kernel
theorem dX12_copies_20 : decode cX12_copies 20 = .ok (.iaload, 1) := by decide +kernel
theorem dX12_copies_21 : decode cX12_copies 21 = .ok (.iastore, 1) := by decide +kernel
theorem dX12_copies_22 : decode cX12_copies 22 = .ok (.iinc 4 1, 3) := by decide +kernel
theorem dX12_copies_25 : decode cX12_copies 25 = .ok (.goto (-22), 3) := by decide +kernel
theorem dX12_copies_28 : decode cX12_copies 28 = .ok (.return_, 1) := by decide +kernel
theorem dX12_isIn_0 : decode cX12_isIn 0 = .ok (.iload_n 0, 1) := by decide +kernel
theorem dX12_isIn_1 : decode cX12_isIn 1 = .ok (.iload_n 1, 1) := by decide +kernel
theorem dX12_isIn_2 : decode cX12_isIn 2 = .ok (.if_icmp .lt 12, 3) := by decide +kernel
theorem dX12_isIn_5 : decode cX12_isIn 5 = .ok (.iload_n 0, 1) := by decide +kernel
theorem dX12_isIn_6 : decode cX12_isIn 6 = .ok (.iload_n 2, 1) := by decide +kernel
theorem dX12_isIn_7 : decode cX12_isIn 7 = .ok (.if_icmp .gt 7, 3) := by decide +kernel
theorem dX12_isIn_10 : decode cX12_isIn 10 = .ok (.iconst 1, 1) := by decide +kernel
theorem dX12_isIn_11 : decode cX12_isIn 11 = .ok (.goto 4, 3) := by decide +kernel
theorem dX12_isIn_14 : decode cX12_isIn 14 = .ok (.iconst 0, 1) := by decide +kernel
theorem dX12_isIn_15 : decode cX12_isIn 15 = .ok (.ireturn, 1) := by decide +kernel
theorem dX12_bitOf_0 : decode cX12_bitOf 0 = .ok (.iload_n 0, 1) := by decide +kernel
theorem dX12_bitOf_1 : decode cX12_bitOf 1 = .ok (.iload_n 1, 1) := by decide +kernel
theorem dX12_bitOf_2 : decode cX12_bitOf 2 = .ok (.ishr, 1) := by decide +kernel
theorem dX12_bitOf_3 : decode cX12_bitOf 3 = .ok (.iconst 1, 1) := by decide +kernel
theorem dX12_bitOf_4 : decode cX12_bitOf 4 = .ok (.iand, 1) := by decide +kernel
theorem dX12_bitOf_5 : decode cX12_bitOf 5 = .ok (.iconst 1, 1) := by decide +kernel
theorem dX12_bitOf_6 : decode cX12_bitOf 6 = .ok (.if_icmp .ne 7, 3) := by decide +kernel
theorem dX12_bitOf_9 : decode cX12_bitOf 9 = .ok (.iconst 1, 1) := by decide +kernel
theorem dX12_bitOf_10 : decode cX12_bitOf 10 = .ok (.goto 4, 3) := by decide +kernel
theorem dX12_bitOf_13 : decode cX12_bitOf 13 = .ok (.iconst 0, 1) := by decide +kernel
theorem dX12_bitOf_14 : decode cX12_bitOf 14 = .ok (.ireturn, 1) := by decide +kernel
theorem dX12_feed_0 : decode cX12_feed 0 = .ok (.aload_n 0, 1) := by decide +kernel
theorem dX12_feed_1 : decode cX12_feed 1 = .ok (.iconst 0, 1) := by decide +kernel
theorem dX12_feed_2 : decode cX12_feed 2 = .ok (.putfield 1, 3) := by decide +kernel
theorem dX12_feed_5 : decode cX12_feed 5 = .ok (.aload_n 0, 1) := by decide +kernel
theorem dX12_feed_6 : decode cX12_feed 6 = .ok (.getfield 75, 3) := by decide +kernel
theorem dX12_feed_9 : decode cX12_feed 9 = .ok (.bipush 20, 2) := by decide +kernel
theorem dX12_feed_11 : decode cX12_feed 11 = .ok (.iadd, 1) := by decide +kernel
theorem dX12_feed_12 : decode cX12_feed 12 = .ok (.sipush 540, 3) := by decide +kernel
theorem dX12_feed_15 : decode cX12_feed 15 = .ok (.if_icmp .le 5, 3) := by decide +kernel
theorem dX12_feed_18 : decode cX12_feed 18 = .ok (.iconst (-1), 1) := by decide +kernel
theorem dX12_feed_19 : decode cX12_feed 19 = .ok (.ireturn, 1) := by decide +kernel
theorem dX12_feed_20 : decode cX12_feed 20 = .ok (.aload_n 0, 1) := by decide +kernel
theorem dX12_feed_21 : decode cX12_feed 21 = .ok (.iload_n 1, 1) := by decide +kernel
theorem dX12_feed_22 : decode cX12_feed 22 = .ok (.invokevirtual 78, 3) := by decide +kernel
theorem dX12_feed_25 : decode cX12_feed 25 = .ok (.aload_n 0, 1) := by decide +kernel
theorem dX12_feed_26 : decode cX12_feed 26 = .ok (.iload_n 2, 1) := by decide +kernel
theorem dX12_feed_27 : decode cX12_feed 27 = .ok (.invokevirtual 78, 3) := by decide +kernel
theorem dX12_feed_30 : decode cX12_feed 30 = .ok (.aload_n 0, 1) := by decide +kernel
theorem dX12_feed_31 : decode cX12_feed 31 = .ok (.iload_n 3, 1) := by decide +kernel
theorem dX12_feed_32 : decode cX12_feed 32 = .ok (.invokevirtual 78, 3) := by decide +kernel
theorem dX12_feed_35 : decode cX12_feed 35 = .ok (.aload_n 0, 1) := by decide +kernel
theorem dX12_feed_36 : decode cX12_feed 36 = .ok (.iload 4, 2) := by decide +kernel
theorem dX12_feed_38 : decode cX12_feed 38 = .ok (.invokevirtual 78, 3) := by decide +kernel
theorem dX12_feed_41 : decode cX12_feed 41 = .ok (.aload_n 0, 1) := by decide +kernel
theorem dX12_feed_42 : decode cX12_feed 42 = .ok (.iload 5, 2) := by decide +kernel
theorem dX12_feed_44 : decode cX12_feed 44 = .ok (.invokevirtual 78, 3) := by decide +kernel
theorem dX12_feed_47 : decode cX12_feed 47 = .ok (.aload_n 0, 1) := by decide +kernel
theorem dX12_feed_48 : decode cX12_feed 48 = .ok (.getfield 75, 3) := by decide +kernel
theorem dX12_feed_51 : decode cX12_feed 51 = .ok (.ireturn, 1) := by decide +kernel
theorem dX12_four_0 : decode cX12_four 0 = .ok (.bipush 24, 2) := by decide +kernel
theorem dX12_four_2 : decode cX12_four 2 = .ok (.istore_n 2, 1) := by decide +kernel
theorem dX12_four_3 : decode cX12_four 3 = .ok (.iload_n 2, 1) := by decide +kernel
theorem dX12_four_4 : decode cX12_four 4 = .ok (.ifCond .lt 32, 3) := by decide +kernel
theorem dX12_four_7 : decode cX12_four 7 = .ok (.aload_n 0, 1) := by decide +kernel
theorem dX12_four_8 : decode cX12_four 8 = .ok (.getfield 30, 3) := by decide +kernel
theorem dX12_four_11 : decode cX12_four 11 = .ok (.aload_n 0, 1) := by decide +kernel
theorem dX12_four_12 : decode cX12_four 12 = .ok (.getfield 75, 3) := by decide +kernel
theorem dX12_four_15 : decode cX12_four 15 = .ok (.iload_n 1, 1) := by decide +kernel
theorem dX12_four_16 : decode cX12_four 16 = .ok (.iload_n 2, 1) := by decide +kernel
theorem dX12_four_17 : decode cX12_four 17 = .ok (.ishr, 1) := by decide +kernel
theorem dX12_four_18 : decode cX12_four 18 = .ok (.i2b, 1) := by decide +kernel
theorem dX12_four_19 : decode cX12_four 19 = .ok (.bastore, 1) := by decide +kernel
theorem dX12_four_20 : decode cX12_four 20 = .ok (.aload_n 0, 1) := by decide +kernel
theorem dX12_four_21 : decode cX12_four 21 = .ok (.dup, 1) := by decide +kernel
theorem dX12_four_22 : decode cX12_four 22 = .ok (.getfield 75, 3) := by decide +kernel
theorem dX12_four_25 : decode cX12_four 25 = .ok (.iconst 1, 1) := by decide +kernel
theorem dX12_four_26 : decode cX12_four 26 = .ok (.iadd, 1) := by decide +kernel
theorem dX12_four_27 : decode cX12_four 27 = .ok (.putfield 75, 3) := by decide +kernel
theorem dX12_four_30 : decode cX12_four 30 = .ok (.iinc 2 (-8), 3) := by decide +kernel
theorem dX12_four_33 : decode cX12_four 33 = .ok (.goto (-30), 3) := by decide +kernel
theorem dX12_four_36 : decode cX12_four 36 = .ok (.return_, 1) := by decide +kernel
theorem dX12_end_0 : decode cX12_end 0 = .ok (.aload_n 0, 1) := by decide +kernel
theorem dX12_end_1 : decode cX12_end 1 = .ok (.iconst 0, 1) := by decide +kernel
theorem dX12_end_2 : decode cX12_end 2 = .ok (.putfield 1, 3) := by decide +kernel
theorem dX12_end_5 : decode cX12_end 5 = .ok (.iload_n 1, 1) := by decide +kernel
theorem dX12_end_6 : decode cX12_end 6 = .ok (.ifCond .lt 11, 3) := by decide +kernel
theorem dX12_end_9 : decode cX12_end 9 = .ok (.iload_n 1, 1) := by decide +kernel
theorem dX12_end_10 : decode cX12_end 10 = .ok (.aload_n 0, 1) := by decide +kernel
theorem dX12_end_11 : decode cX12_end 11 = .ok (.getfield 75, 3) := by decide +kernel
theorem dX12_end_14 : decode cX12_end 14 = .ok (.if_icmp .le 5, 3) := by decide +kernel
theorem dX12_end_17 : decode cX12_end 17 = .ok (.iconst 0, 1) := by decide +kernel
theorem dX12_end_18 : decode cX12_end 18 = .ok (.ireturn, 1) := by decide +kernel
theorem dX12_end_19 : decode cX12_end 19 = .ok (.aload_n 0, 1) := by decide +kernel
theorem dX12_end_20 : decode cX12_end 20 = .ok (.iload_n 1, 1) := by decide +kernel
theorem dX12_end_21 : decode cX12_end 21 = .ok (.putfield 75, 3) := by decide +kernel
theorem dX12_end_24 : decode cX12_end 24 = .ok (.iconst 1, 1) := by decide +kernel
theorem dX12_end_25 : decode cX12_end 25 = .ok (.ireturn, 1) := by decide +kernel
theorem dX12_peek_0 : decode cX12_peek 0 = .ok (.aload_n 0, 1) := by decide +kernel
theorem dX12_peek_1 : decode cX12_peek 1 = .ok (.getfield 82, 3) := by decide +kernel
theorem dX12_peek_4 : decode cX12_peek 4 = .ok (.aload_n 0, 1) := by decide +kernel
theorem dX12_peek_5 : decode cX12_peek 5 = .ok (.getfield 85, 3) := by decide +kernel
theorem dX12_peek_8 : decode cX12_peek 8 = .ok (.if_icmp .ge 19, 3) := by decide +kernel
theorem dX12_peek_11 : decode cX12_peek 11 = .ok (.aload_n 0, 1) := by decide +kernel
theorem dX12_peek_12 : decode cX12_peek 12 = .ok (.getfield 30, 3) := by decide +kernel
theorem dX12_peek_15 : decode cX12_peek 15 = .ok (.aload_n 0, 1) := by decide +kernel
theorem dX12_peek_16 : decode cX12_peek 16 = .ok (.getfield 82, 3) := by decide +kernel
theorem dX12_peek_19 : decode cX12_peek 19 = .ok (.baload, 1) := by decide +kernel
theorem dX12_peek_20 : decode cX12_peek 20 = .ok (.sipush 255, 3) := by decide +kernel
theorem dX12_peek_23 : decode cX12_peek 23 = .ok (.iand, 1) := by decide +kernel
theorem dX12_peek_24 : decode cX12_peek 24 = .ok (.goto 4, 3) := by decide +kernel
theorem dX12_peek_27 : decode cX12_peek 27 = .ok (.iconst (-1), 1) := by decide +kernel
theorem dX12_peek_28 : decode cX12_peek 28 = .ok (.ireturn, 1) := by decide +kernel
theorem dX12_isSmall_0 : decode cX12_isSmall 0 = .ok (.iload_n 0, 1) := by decide +kernel
theorem dX12_isSmall_1 : decode cX12_isSmall 1 = .ok (.bipush 97, 2) := by decide +kernel
theorem dX12_isSmall_3 : decode cX12_isSmall 3 = .ok (.bipush 122, 2) := by decide +kernel
theorem dX12_isSmall_5 : decode cX12_isSmall 5 = .ok (.invokestatic 88, 3) := by decide +kernel
theorem dX12_isSmall_8 : decode cX12_isSmall 8 = .ok (.ireturn, 1) := by decide +kernel
theorem dX12_isDigit_0 : decode cX12_isDigit 0 = .ok (.iload_n 0, 1) := by decide +kernel
theorem dX12_isDigit_1 : decode cX12_isDigit 1 = .ok (.bipush 48, 2) := by decide +kernel
theorem dX12_isDigit_3 : decode cX12_isDigit 3 = .ok (.bipush 57, 2) := by decide +kernel
theorem dX12_isDigit_5 : decode cX12_isDigit 5 = .ok (.invokestatic 88, 3) := by decide +kernel
theorem dX12_isDigit_8 : decode cX12_isDigit 8 = .ok (.ireturn, 1) := by decide +kernel
theorem dX12_bad_0 : decode cX12_bad 0 = .ok (.aload_n 0, 1) := by decide +kernel
theorem dX12_bad_1 : decode cX12_bad 1 = .ok (.iload_n 1, 1) := by decide +kernel
theorem dX12_bad_2 : decode cX12_bad 2 = .ok (.putfield 92, 3) := by decide +kernel
theorem dX12_bad_5 : decode cX12_bad 5 = .ok (.aload_n 0, 1) := by decide +kernel
theorem dX12_bad_6 : decode cX12_bad 6 = .ok (.iload_n 2, 1) := by decide +kernel
theorem dX12_bad_7 : decode cX12_bad 7 = .ok (.putfield 95, 3) := by decide +kernel
theorem dX12_bad_10 : decode cX12_bad 10 = .ok (.iconst 0, 1) := by decide +kernel
theorem dX12_bad_11 : decode cX12_bad 11 = .ok (.ireturn, 1) := by decide +kernel
theorem dX12_badHere_0 : decode cX12_badHere 0 = .ok (.aload_n 0, 1) := by decide +kernel
theorem dX12_badHere_1 : decode cX12_badHere 1 = .ok (.iload_n 1, 1) := by decide +kernel
theorem dX12_badHere_2 : decode cX12_badHere 2 = .ok (.aload_n 0, 1) := by decide +kernel
theorem dX12_badHere_3 : decode cX12_badHere 3 = .ok (.getfield 98, 3) := by decide +kernel
theorem dX12_badHere_6 : decode cX12_badHere 6 = .ok (.invokevirtual 101, 3) := by decide +kernel
theorem dX12_badHere_9 : decode cX12_badHere 9 = .ok (.ireturn, 1) := by decide +kernel
theorem dX12_next_0 : decode cX12_next 0 = .ok (.aload_n 0, 1) := by decide +kernel
theorem dX12_next_1 : decode cX12_next 1 = .ok (.invokevirtual 105, 3) := by decide +kernel
theorem dX12_next_4 : decode cX12_next 4 = .ok (.bipush 32, 2) := by decide +kernel
theorem dX12_next_6 : decode cX12_next 6 = .ok (.if_icmp .ne 16, 3) := by decide +kernel
theorem dX12_next_9 : decode cX12_next 9 = .ok (.aload_n 0, 1) := by decide +kernel
theorem dX12_next_10 : decode cX12_next 10 = .ok (.dup, 1) := by decide +kernel
theorem dX12_next_11 : decode cX12_next 11 = .ok (.getfield 82, 3) := by decide +kernel
theorem dX12_next_14 : decode cX12_next 14 = .ok (.iconst 1, 1) := by decide +kernel
theorem dX12_next_15 : decode cX12_next 15 = .ok (.iadd, 1) := by decide +kernel
theorem dX12_next_16 : decode cX12_next 16 = .ok (.putfield 82, 3) := by decide +kernel
theorem dX12_next_19 : decode cX12_next 19 = .ok (.goto (-19), 3) := by decide +kernel
theorem dX12_next_22 : decode cX12_next 22 = .ok (.aload_n 0, 1) := by decide +kernel
theorem dX12_next_23 : decode cX12_next 23 = .ok (.aload_n 0, 1) := by decide +kernel
theorem dX12_next_24 : decode cX12_next 24 = .ok (.getfield 82, 3) := by decide +kernel
theorem dX12_next_27 : decode cX12_next 27 = .ok (.putfield 98, 3) := by decide +kernel
theorem dX12_next_30 : decode cX12_next 30 = .ok (.aload_n 0, 1) := by decide +kernel
theorem dX12_next_31 : decode cX12_next 31 = .ok (.invokevirtual 105, 3) := by decide +kernel
theorem dX12_next_34 : decode cX12_next 34 = .ok (.istore_n 1, 1) := by decide +kernel
theorem dX12_next_35 : decode cX12_next 35 = .ok (.iload_n 1, 1) := by decide +kernel
theorem dX12_next_36 : decode cX12_next 36 = .ok (.iconst (-1), 1) := by decide +kernel
theorem dX12_next_37 : decode cX12_next 37 = .ok (.if_icmp .ne 9, 3) := by decide +kernel
theorem dX12_next_40 : decode cX12_next 40 = .ok (.aload_n 0, 1) := by decide +kernel
theorem dX12_next_41 : decode cX12_next 41 = .ok (.iconst 0, 1) := by decide +kernel
theorem dX12_next_42 : decode cX12_next 42 = .ok (.putfield 109, 3) := by decide +kernel
theorem dX12_next_45 : decode cX12_next 45 = .ok (.return_, 1) := by decide +kernel
theorem dX12_next_46 : decode cX12_next 46 = .ok (.iload_n 1, 1) := by decide +kernel
theorem dX12_next_47 : decode cX12_next 47 = .ok (.invokestatic 112, 3) := by decide +kernel
theorem dX12_next_50 : decode cX12_next 50 = .ok (.ifCond .ne 36, 3) := by decide +kernel
theorem dX12_next_53 : decode cX12_next 53 = .ok (.iload_n 1, 1) := by decide +kernel
theorem dX12_next_54 : decode cX12_next 54 = .ok (.invokestatic 116, 3) := by decide +kernel
theorem dX12_next_57 : decode cX12_next 57 = .ok (.ifCond .ne 29, 3) := by decide +kernel
theorem dX12_next_60 : decode cX12_next 60 = .ok (.aload_n 0, 1) := by decide +kernel
theorem dX12_next_61 : decode cX12_next 61 = .ok (.dup, 1) := by decide +kernel
theorem dX12_next_62 : decode cX12_next 62 = .ok (.getfield 82, 3) := by decide +kernel
theorem dX12_next_65 : decode cX12_next 65 = .ok (.iconst 1, 1) := by decide +kernel
theorem dX12_next_66 : decode cX12_next 66 = .ok (.iadd, 1) := by decide +kernel
theorem dX12_next_67 : decode cX12_next 67 = .ok (.putfield 82, 3) := by decide +kernel
theorem dX12_next_70 : decode cX12_next 70 = .ok (.aload_n 0, 1) := by decide +kernel
theorem dX12_next_71 : decode cX12_next 71 = .ok (.iload_n 1, 1) := by decide +kernel
theorem dX12_next_72 : decode cX12_next 72 = .ok (.bipush 59, 2) := by decide +kernel
theorem dX12_next_74 : decode cX12_next 74 = .ok (.if_icmp .ne 7, 3) := by decide +kernel
theorem dX12_next_77 : decode cX12_next 77 = .ok (.iconst 3, 1) := by decide +kernel
theorem dX12_next_78 : decode cX12_next 78 = .ok (.goto 4, 3) := by decide +kernel
theorem dX12_next_81 : decode cX12_next 81 = .ok (.iconst 4, 1) := by decide +kernel
theorem dX12_next_82 : decode cX12_next 82 = .ok (.putfield 109, 3) := by decide +kernel
theorem dX12_next_85 : decode cX12_next 85 = .ok (.return_, 1) := by decide +kernel
theorem dX12_next_86 : decode cX12_next 86 = .ok (.iconst 0, 1) := by decide +kernel
theorem dX12_next_87 : decode cX12_next 87 = .ok (.istore_n 2, 1) := by decide +kernel
theorem dX12_next_88 : decode cX12_next 88 = .ok (.aload_n 0, 1) := by decide +kernel
theorem dX12_next_89 : decode cX12_next 89 = .ok (.iconst 0, 1) := by decide +kernel
theorem dX12_next_90 : decode cX12_next 90 = .ok (.putfield 119, 3) := by decide +kernel
theorem dX12_next_93 : decode cX12_next 93 = .ok (.aload_n 0, 1) := by decide +kernel
theorem dX12_next_94 : decode cX12_next 94 = .ok (.invokevirtual 105, 3) := by decide +kernel
theorem dX12_next_97 : decode cX12_next 97 = .ok (.invokestatic 112, 3) := by decide +kernel
theorem dX12_next_100 : decode cX12_next 100 = .ok (.ifCond .ne 13, 3) := by decide +kernel
theorem dX12_next_103 : decode cX12_next 103 = .ok (.aload_n 0, 1) := by decide +kernel
theorem dX12_next_104 : decode cX12_next 104 = .ok (.invokevirtual 105, 3) := by decide +kernel
theorem dX12_next_107 : decode cX12_next 107 = .ok (.invokestatic 116, 3) := by decide +kernel
theorem dX12_next_110 : decode cX12_next 110 = .ok (.ifCond .eq 92, 3) := by decide +kernel
theorem dX12_next_113 : decode cX12_next 113 = .ok (.aload_n 0, 1) := by decide +kernel
theorem dX12_next_114 : decode cX12_next 114 = .ok (.getfield 82, 3) := by decide +kernel
theorem dX12_next_117 : decode cX12_next 117 = .ok (.aload_n 0, 1) := by decide +kernel
theorem dX12_next_118 : decode cX12_next 118 = .ok (.getfield 98, 3) := by decide +kernel
theorem dX12_next_121 : decode cX12_next 121 = .ok (.isub, 1) := by decide +kernel
theorem dX12_next_122 : decode cX12_next 122 = .ok (.istore_n 3, 1) := by decide +kernel
theorem dX12_next_123 : decode cX12_next 123 = .ok (.iload_n 3, 1) := by decide +kernel
theorem dX12_next_124 : decode cX12_next 124 = .ok (.bipush 8, 2) := by decide +kernel
theorem dX12_next_126 : decode cX12_next 126 = .ok (.if_icmp .ge 14, 3) := by decide +kernel
theorem dX12_next_129 : decode cX12_next 129 = .ok (.aload_n 0, 1) := by decide +kernel
theorem dX12_next_130 : decode cX12_next 130 = .ok (.getfield 34, 3) := by decide +kernel
theorem dX12_next_133 : decode cX12_next 133 = .ok (.iload_n 3, 1) := by decide +kernel
theorem dX12_next_134 : decode cX12_next 134 = .ok (.aload_n 0, 1) := by decide +kernel
theorem dX12_next_135 : decode cX12_next 135 = .ok (.invokevirtual 105, 3) := by decide +kernel
theorem dX12_next_138 : decode cX12_next 138 = .ok (.i2b, 1) := by decide +kernel
theorem dX12_next_139 : decode cX12_next 139 = .ok (.bastore, 1) := by decide +kernel
theorem dX12_next_140 : decode cX12_next 140 = .ok (.iload_n 2, 1) := by decide +kernel
theorem dX12_next_141 : decode cX12_next 141 = .ok (.aload_n 0, 1) := by decide +kernel
theorem dX12_next_142 : decode cX12_next 142 = .ok (.invokevirtual 105, 3) := by decide +kernel
theorem dX12_next_145 : decode cX12_next 145 = .ok (.invokestatic 112, 3) := by decide +kernel
theorem dX12_next_148 : decode cX12_next 148 = .ok (.ifCond .eq 7, 3) := by decide +kernel
theorem dX12_next_151 : decode cX12_next 151 = .ok (.iconst 1, 1) := by decide +kernel
theorem dX12_next_152 : decode cX12_next 152 = .ok (.goto 4, 3) := by decide +kernel
theorem dX12_next_155 : decode cX12_next 155 = .ok (.iconst 0, 1) := by decide +kernel
theorem dX12_next_156 : decode cX12_next 156 = .ok (.iadd, 1) := by decide +kernel
theorem dX12_next_157 : decode cX12_next 157 = .ok (.istore_n 2, 1) := by decide +kernel
theorem dX12_next_158 : decode cX12_next 158 = .ok (.aload_n 0, 1) := by decide +kernel
theorem dX12_next_159 : decode cX12_next 159 = .ok (.iload_n 3, 1) := by decide +kernel
theorem dX12_next_160 : decode cX12_next 160 = .ok (.iconst 3, 1) := by decide +kernel
theorem dX12_next_161 : decode cX12_next 161 = .ok (.if_icmp .ge 21, 3) := by decide +kernel
theorem dX12_next_164 : decode cX12_next 164 = .ok (.bipush 10, 2) := by decide +kernel
theorem dX12_next_166 : decode cX12_next 166 = .ok (.aload_n 0, 1) := by decide +kernel
theorem dX12_next_167 : decode cX12_next 167 = .ok (.getfield 119, 3) := by decide +kernel
theorem dX12_next_170 : decode cX12_next 170 = .ok (.imul, 1) := by decide +kernel
theorem dX12_next_171 : decode cX12_next 171 = .ok (.aload_n 0, 1) := by decide +kernel
theorem dX12_next_172 : decode cX12_next 172 = .ok (.invokevirtual 105, 3) := by decide +kernel
theorem dX12_next_175 : decode cX12_next 175 = .ok (.iadd, 1) := by decide +kernel
theorem dX12_next_176 : decode cX12_next 176 = .ok (.bipush 48, 2) := by decide +kernel
theorem dX12_next_178 : decode cX12_next 178 = .ok (.isub, 1) := by decide +kernel
theorem dX12_next_179 : decode cX12_next 179 = .ok (.goto 7, 3) := by decide +kernel
theorem dX12_next_182 : decode cX12_next 182 = .ok (.aload_n 0, 1) := by decide +kernel
theorem dX12_next_183 : decode cX12_next 183 = .ok (.getfield 119, 3) := by decide +kernel
theorem dX12_next_186 : decode cX12_next 186 = .ok (.putfield 119, 3) := by decide +kernel
theorem dX12_next_189 : decode cX12_next 189 = .ok (.aload_n 0, 1) := by decide +kernel
theorem dX12_next_190 : decode cX12_next 190 = .ok (.dup, 1) := by decide +kernel
theorem dX12_next_191 : decode cX12_next 191 = .ok (.getfield 82, 3) := by decide +kernel
theorem dX12_next_194 : decode cX12_next 194 = .ok (.iconst 1, 1) := by decide +kernel
theorem dX12_next_195 : decode cX12_next 195 = .ok (.iadd, 1) := by decide +kernel
theorem dX12_next_196 : decode cX12_next 196 = .ok (.putfield 82, 3) := by decide +kernel
theorem dX12_next_199 : decode cX12_next 199 = .ok (.goto (-106), 3) := by decide +kernel
theorem dX12_next_202 : decode cX12_next 202 = .ok (.aload_n 0, 1) := by decide +kernel
theorem dX12_next_203 : decode cX12_next 203 = .ok (.aload_n 0, 1) := by decide +kernel
theorem dX12_next_204 : decode cX12_next 204 = .ok (.getfield 82, 3) := by decide +kernel
theorem dX12_next_207 : decode cX12_next 207 = .ok (.aload_n 0, 1) := by decide +kernel
theorem dX12_next_208 : decode cX12_next 208 = .ok (.getfield 98, 3) := by decide +kernel
theorem dX12_next_211 : decode cX12_next 211 = .ok (.isub, 1) := by decide +kernel
theorem dX12_next_212 : decode cX12_next 212 = .ok (.putfield 122, 3) := by decide +kernel
theorem dX12_next_215 : decode cX12_next 215 = .ok (.aload_n 0, 1) := by decide +kernel
theorem dX12_next_216 : decode cX12_next 216 = .ok (.iload_n 2, 1) := by decide +kernel
theorem dX12_next_217 : decode cX12_next 217 = .ok (.aload_n 0, 1) := by decide +kernel
theorem dX12_next_218 : decode cX12_next 218 = .ok (.getfield 122, 3) := by decide +kernel
theorem dX12_next_221 : decode cX12_next 221 = .ok (.if_icmp .ne 16, 3) := by decide +kernel
theorem dX12_next_224 : decode cX12_next 224 = .ok (.aload_n 0, 1) := by decide +kernel
theorem dX12_next_225 : decode cX12_next 225 = .ok (.getfield 122, 3) := by decide +kernel
theorem dX12_next_228 : decode cX12_next 228 = .ok (.bipush 9, 2) := by decide +kernel
theorem dX12_next_230 : decode cX12_next 230 = .ok (.if_icmp .ge 7, 3) := by decide +kernel
theorem dX12_next_233 : decode cX12_next 233 = .ok (.iconst 1, 1) := by decide +kernel
theorem dX12_next_234 : decode cX12_next 234 = .ok (.goto 20, 3) := by decide +kernel
theorem dX12_next_237 : decode cX12_next 237 = .ok (.iload_n 2, 1) := by decide +kernel
theorem dX12_next_238 : decode cX12_next 238 = .ok (.ifCond .ne 15, 3) := by decide +kernel
theorem dX12_next_241 : decode cX12_next 241 = .ok (.aload_n 0, 1) := by decide +kernel
theorem dX12_next_242 : decode cX12_next 242 = .ok (.getfield 122, 3) := by decide +kernel
theorem dX12_next_245 : decode cX12_next 245 = .ok (.iconst 4, 1) := by decide +kernel
theorem dX12_next_246 : decode cX12_next 246 = .ok (.if_icmp .ge 7, 3) := by decide +kernel
theorem dX12_next_249 : decode cX12_next 249 = .ok (.iconst 2, 1) := by decide +kernel
theorem dX12_next_250 : decode cX12_next 250 = .ok (.goto 4, 3) := by decide +kernel
theorem dX12_next_253 : decode cX12_next 253 = .ok (.iconst 4, 1) := by decide +kernel
theorem dX12_next_254 : decode cX12_next 254 = .ok (.putfield 109, 3) := by decide +kernel
theorem dX12_next_257 : decode cX12_next 257 = .ok (.return_, 1) := by decide +kernel
theorem dX12_known_0 : decode cX12_known 0 = .ok (.iconst 0, 1) := by decide +kernel
theorem dX12_known_1 : decode cX12_known 1 = .ok (.istore_n 1, 1) := by decide +kernel
theorem dX12_known_2 : decode cX12_known 2 = .ok (.iload_n 1, 1) := by decide +kernel
theorem dX12_known_3 : decode cX12_known 3 = .ok (.bipush 20, 2) := by decide +kernel
theorem dX12_known_5 : decode cX12_known 5 = .ok (.if_icmp .ge 93, 3) := by decide +kernel
theorem dX12_known_8 : decode cX12_known 8 = .ok (.aload_n 0, 1) := by decide +kernel
theorem dX12_known_9 : decode cX12_known 9 = .ok (.getfield 109, 3) := by decide +kernel
theorem dX12_known_12 : decode cX12_known 12 = .ok (.iconst 1, 1) := by decide +kernel
theorem dX12_known_13 : decode cX12_known 13 = .ok (.if_icmp .ne 16, 3) := by decide +kernel
theorem dX12_known_16 : decode cX12_known 16 = .ok (.aload_n 0, 1) := by decide +kernel
theorem dX12_known_17 : decode cX12_known 17 = .ok (.getfield 122, 3) := by decide +kernel
theorem dX12_known_20 : decode cX12_known 20 = .ok (.bipush 7, 2) := by decide +kernel
theorem dX12_known_22 : decode cX12_known 22 = .ok (.if_icmp .ge 7, 3) := by decide +kernel
theorem dX12_known_25 : decode cX12_known 25 = .ok (.iconst 1, 1) := by decide +kernel
theorem dX12_known_26 : decode cX12_known 26 = .ok (.goto 4, 3) := by decide +kernel
theorem dX12_known_29 : decode cX12_known 29 = .ok (.iconst 0, 1) := by decide +kernel
theorem dX12_known_30 : decode cX12_known 30 = .ok (.istore_n 2, 1) := by decide +kernel
theorem dX12_known_31 : decode cX12_known 31 = .ok (.iconst 0, 1) := by decide +kernel
theorem dX12_known_32 : decode cX12_known 32 = .ok (.istore_n 3, 1) := by decide +kernel
theorem dX12_known_33 : decode cX12_known 33 = .ok (.iload_n 3, 1) := by decide +kernel
theorem dX12_known_34 : decode cX12_known 34 = .ok (.bipush 6, 2) := by decide +kernel
theorem dX12_known_36 : decode cX12_known 36 = .ok (.if_icmp .ge 50, 3) := by decide +kernel
theorem dX12_known_39 : decode cX12_known 39 = .ok (.iload_n 2, 1) := by decide +kernel
theorem dX12_known_40 : decode cX12_known 40 = .ok (.ifCond .eq 46, 3) := by decide +kernel
theorem dX12_known_43 : decode cX12_known 43 = .ok (.getstatic 125, 3) := by decide +kernel
theorem dX12_known_46 : decode cX12_known 46 = .ok (.bipush 6, 2) := by decide +kernel
theorem dX12_known_48 : decode cX12_known 48 = .ok (.iload_n 1, 1) := by decide +kernel
theorem dX12_known_49 : decode cX12_known 49 = .ok (.imul, 1) := by decide +kernel
theorem dX12_known_50 : decode cX12_known 50 = .ok (.iload_n 3, 1) := by decide +kernel
theorem dX12_known_51 : decode cX12_known 51 = .ok (.iadd, 1) := by decide +kernel
theorem dX12_known_52 : decode cX12_known 52 = .ok (.baload, 1) := by decide +kernel
theorem dX12_known_53 : decode cX12_known 53 = .ok (.iload_n 3, 1) := by decide +kernel
theorem dX12_known_54 : decode cX12_known 54 = .ok (.aload_n 0, 1) := by decide +kernel
theorem dX12_known_55 : decode cX12_known 55 = .ok (.getfield 122, 3) := by decide +kernel
theorem dX12_known_58 : decode cX12_known 58 = .ok (.if_icmp .ge 12, 3) := by decide +kernel
theorem dX12_known_61 : decode cX12_known 61 = .ok (.aload_n 0, 1) := by decide +kernel
theorem dX12_known_62 : decode cX12_known 62 = .ok (.getfield 34, 3) := by decide +kernel
theorem dX12_known_65 : decode cX12_known 65 = .ok (.iload_n 3, 1) := by decide +kernel
theorem dX12_known_66 : decode cX12_known 66 = .ok (.baload, 1) := by decide +kernel
theorem dX12_known_67 : decode cX12_known 67 = .ok (.goto 4, 3) := by decide +kernel
theorem dX12_known_70 : decode cX12_known 70 = .ok (.iconst 0, 1) := by decide +kernel
theorem dX12_known_71 : decode cX12_known 71 = .ok (.if_icmp .ne 7, 3) := by decide +kernel
theorem dX12_known_74 : decode cX12_known 74 = .ok (.iconst 1, 1) := by decide +kernel
theorem dX12_known_75 : decode cX12_known 75 = .ok (.goto 4, 3) := by decide +kernel
theorem dX12_known_78 : decode cX12_known 78 = .ok (.iconst 0, 1) := by decide +kernel
theorem dX12_known_79 : decode cX12_known 79 = .ok (.istore_n 2, 1) := by decide +kernel
theorem dX12_known_80 : decode cX12_known 80 = .ok (.iinc 3 1, 3) := by decide +kernel
theorem dX12_known_83 : decode cX12_known 83 = .ok (.goto (-50), 3) := by decide +kernel
theorem dX12_known_86 : decode cX12_known 86 = .ok (.iload_n 2, 1) := by decide +kernel
theorem dX12_known_87 : decode cX12_known 87 = .ok (.ifCond .eq 5, 3) := by decide +kernel
theorem dX12_known_90 : decode cX12_known 90 = .ok (.iload_n 1, 1) := by decide +kernel
theorem dX12_known_91 : decode cX12_known 91 = .ok (.ireturn, 1) := by decide +kernel
theorem dX12_known_92 : decode cX12_known 92 = .ok (.iinc 1 1, 3) := by decide +kernel
theorem dX12_known_95 : decode cX12_known 95 = .ok (.goto (-93), 3) := by decide +kernel
theorem dX12_known_98 : decode cX12_known 98 = .ok (.iconst (-1), 1) := by decide +kernel
theorem dX12_known_99 : decode cX12_known 99 = .ok (.ireturn, 1) := by decide +kernel
theorem dX12_takes_0 : decode cX12_takes 0 = .ok (.aload_n 0, 1) := by decide +kernel
theorem dX12_takes_1 : decode cX12_takes 1 = .ok (.getfield 109, 3) := by decide +kernel
theorem dX12_takes_4 : decode cX12_takes 4 = .ok (.iconst 2, 1) := by decide +kernel
theorem dX12_takes_5 : decode cX12_takes 5 = .ok (.if_icmp .eq 9, 3) := by decide +kernel
theorem dX12_takes_8 : decode cX12_takes 8 = .ok (.aload_n 0, 1) := by decide +kernel
theorem dX12_takes_9 : decode cX12_takes 9 = .ok (.iconst 1, 1) := by decide +kernel
theorem dX12_takes_10 : decode cX12_takes 10 = .ok (.invokevirtual 128, 3) := by decide +kernel
theorem dX12_takes_13 : decode cX12_takes 13 = .ok (.ireturn, 1) := by decide +kernel
theorem dX12_takes_14 : decode cX12_takes 14 = .ok (.aload_n 0, 1) := by decide +kernel
theorem dX12_takes_15 : decode cX12_takes 15 = .ok (.getfield 119, 3) := by decide +kernel
theorem dX12_takes_18 : decode cX12_takes 18 = .ok (.iload_n 2, 1) := by decide +kernel
theorem dX12_takes_19 : decode cX12_takes 19 = .ok (.iload_n 3, 1) := by decide +kernel
theorem dX12_takes_20 : decode cX12_takes 20 = .ok (.invokestatic 88, 3) := by decide +kernel
theorem dX12_takes_23 : decode cX12_takes 23 = .ok (.ifCond .ne 9, 3) := by decide +kernel
theorem dX12_takes_26 : decode cX12_takes 26 = .ok (.aload_n 0, 1) := by decide +kernel
theorem dX12_takes_27 : decode cX12_takes 27 = .ok (.iconst 2, 1) := by decide +kernel
theorem dX12_takes_28 : decode cX12_takes 28 = .ok (.invokevirtual 128, 3) := by decide +kernel
theorem dX12_takes_31 : decode cX12_takes 31 = .ok (.ireturn, 1) := by decide +kernel
theorem dX12_takes_32 : decode cX12_takes 32 = .ok (.aload_n 0, 1) := by decide +kernel
theorem dX12_takes_33 : decode cX12_takes 33 = .ok (.getfield 17, 3) := by decide +kernel
theorem dX12_takes_36 : decode cX12_takes 36 = .ok (.iload_n 1, 1) := by decide +kernel
theorem dX12_takes_37 : decode cX12_takes 37 = .ok (.aload_n 0, 1) := by decide +kernel
theorem dX12_takes_38 : decode cX12_takes 38 = .ok (.getfield 119, 3) := by decide +kernel
theorem dX12_takes_41 : decode cX12_takes 41 = .ok (.iastore, 1) := by decide +kernel
theorem dX12_takes_42 : decode cX12_takes 42 = .ok (.aload_n 0, 1) := by decide +kernel
theorem dX12_takes_43 : decode cX12_takes 43 = .ok (.invokevirtual 131, 3) := by decide +kernel
theorem dX12_takes_46 : decode cX12_takes 46 = .ok (.iconst 1, 1) := by decide +kernel
theorem dX12_takes_47 : decode cX12_takes 47 = .ok (.ireturn, 1) := by decide +kernel
theorem dX12_named_0 : decode cX12_named 0 = .ok (.iconst 0, 1) := by decide +kernel
theorem dX12_named_1 : decode cX12_named 1 = .ok (.istore_n 2, 1) := by decide +kernel
theorem dX12_named_2 : decode cX12_named 2 = .ok (.iload_n 2, 1) := by decide +kernel
theorem dX12_named_3 : decode cX12_named 3 = .ok (.iload_n 1, 1) := by decide +kernel
theorem dX12_named_4 : decode cX12_named 4 = .ok (.if_icmp .ge 78, 3) := by decide +kernel
theorem dX12_named_7 : decode cX12_named 7 = .ok (.iconst 1, 1) := by decide +kernel
theorem dX12_named_8 : decode cX12_named 8 = .ok (.istore_n 3, 1) := by decide +kernel
theorem dX12_named_9 : decode cX12_named 9 = .ok (.iconst 0, 1) := by decide +kernel
theorem dX12_named_10 : decode cX12_named 10 = .ok (.istore 4, 2) := by decide +kernel
theorem dX12_named_12 : decode cX12_named 12 = .ok (.iload 4, 2) := by decide +kernel
theorem dX12_named_14 : decode cX12_named 14 = .ok (.bipush 8, 2) := by decide +kernel
theorem dX12_named_16 : decode cX12_named 16 = .ok (.if_icmp .ge 54, 3) := by decide +kernel
theorem dX12_named_19 : decode cX12_named 19 = .ok (.iload_n 3, 1) := by decide +kernel
theorem dX12_named_20 : decode cX12_named 20 = .ok (.ifCond .eq 50, 3) := by decide +kernel
theorem dX12_named_23 : decode cX12_named 23 = .ok (.aload_n 0, 1) := by decide +kernel
theorem dX12_named_24 : decode cX12_named 24 = .ok (.getfield 37, 3) := by decide +kernel
theorem dX12_named_27 : decode cX12_named 27 = .ok (.bipush 8, 2) := by decide +kernel
theorem dX12_named_29 : decode cX12_named 29 = .ok (.iload_n 2, 1) := by decide +kernel
theorem dX12_named_30 : decode cX12_named 30 = .ok (.imul, 1) := by decide +kernel
theorem dX12_named_31 : decode cX12_named 31 = .ok (.iload 4, 2) := by decide +kernel
theorem dX12_named_33 : decode cX12_named 33 = .ok (.iadd, 1) := by decide +kernel
theorem dX12_named_34 : decode cX12_named 34 = .ok (.baload, 1) := by decide +kernel
theorem dX12_named_35 : decode cX12_named 35 = .ok (.iload 4, 2) := by decide +kernel
theorem dX12_named_37 : decode cX12_named 37 = .ok (.aload_n 0, 1) := by decide +kernel
theorem dX12_named_38 : decode cX12_named 38 = .ok (.getfield 122, 3) := by decide +kernel
theorem dX12_named_41 : decode cX12_named 41 = .ok (.if_icmp .ge 13, 3) := by decide +kernel
theorem dX12_named_44 : decode cX12_named 44 = .ok (.aload_n 0, 1) := by decide +kernel
theorem dX12_named_45 : decode cX12_named 45 = .ok (.getfield 34, 3) := by decide +kernel
theorem dX12_named_48 : decode cX12_named 48 = .ok (.iload 4, 2) := by decide +kernel
theorem dX12_named_50 : decode cX12_named 50 = .ok (.baload, 1) := by decide +kernel
theorem dX12_named_51 : decode cX12_named 51 = .ok (.goto 4, 3) := by decide +kernel
theorem dX12_named_54 : decode cX12_named 54 = .ok (.iconst 0, 1) := by decide +kernel
theorem dX12_named_55 : decode cX12_named 55 = .ok (.if_icmp .ne 7, 3) := by decide +kernel
theorem dX12_named_58 : decode cX12_named 58 = .ok (.iconst 1, 1) := by decide +kernel
theorem dX12_named_59 : decode cX12_named 59 = .ok (.goto 4, 3) := by decide +kernel
theorem dX12_named_62 : decode cX12_named 62 = .ok (.iconst 0, 1) := by decide +kernel
theorem dX12_named_63 : decode cX12_named 63 = .ok (.istore_n 3, 1) := by decide +kernel
theorem dX12_named_64 : decode cX12_named 64 = .ok (.iinc 4 1, 3) := by decide +kernel
theorem dX12_named_67 : decode cX12_named 67 = .ok (.goto (-55), 3) := by decide +kernel
theorem dX12_named_70 : decode cX12_named 70 = .ok (.iload_n 3, 1) := by decide +kernel
theorem dX12_named_71 : decode cX12_named 71 = .ok (.ifCond .eq 5, 3) := by decide +kernel
theorem dX12_named_74 : decode cX12_named 74 = .ok (.iload_n 2, 1) := by decide +kernel
theorem dX12_named_75 : decode cX12_named 75 = .ok (.ireturn, 1) := by decide +kernel
theorem dX12_named_76 : decode cX12_named 76 = .ok (.iinc 2 1, 3) := by decide +kernel
theorem dX12_named_79 : decode cX12_named 79 = .ok (.goto (-77), 3) := by decide +kernel
theorem dX12_named_82 : decode cX12_named 82 = .ok (.iconst (-1), 1) := by decide +kernel
theorem dX12_named_83 : decode cX12_named 83 = .ok (.ireturn, 1) := by decide +kernel
theorem dX12_isName_0 : decode cX12_isName 0 = .ok (.aload_n 0, 1) := by decide +kernel
theorem dX12_isName_1 : decode cX12_isName 1 = .ok (.getfield 109, 3) := by decide +kernel
theorem dX12_isName_4 : decode cX12_isName 4 = .ok (.iconst 1, 1) := by decide +kernel
theorem dX12_isName_5 : decode cX12_isName 5 = .ok (.if_icmp .ne 14, 3) := by decide +kernel
theorem dX12_isName_8 : decode cX12_isName 8 = .ok (.aload_n 0, 1) := by decide +kernel
theorem dX12_isName_9 : decode cX12_isName 9 = .ok (.invokevirtual 134, 3) := by decide +kernel
theorem dX12_isName_12 : decode cX12_isName 12 = .ok (.ifCond .ge 7, 3) := by decide +kernel
theorem dX12_isName_15 : decode cX12_isName 15 = .ok (.iconst 1, 1) := by decide +kernel
theorem dX12_isName_16 : decode cX12_isName 16 = .ok (.goto 4, 3) := by decide +kernel
theorem dX12_isName_19 : decode cX12_isName 19 = .ok (.iconst 0, 1) := by decide +kernel
theorem dX12_isName_20 : decode cX12_isName 20 = .ok (.ireturn, 1) := by decide +kernel
theorem dX12_lowest_0 : decode cX12_lowest 0 = .ok (.aload_n 0, 1) := by decide +kernel
theorem dX12_lowest_1 : decode cX12_lowest 1 = .ok (.iconst 0, 1) := by decide +kernel
theorem dX12_lowest_2 : decode cX12_lowest 2 = .ok (.iaload, 1) := by decide +kernel
theorem dX12_lowest_3 : decode cX12_lowest 3 = .ok (.istore_n 1, 1) := by decide +kernel
theorem dX12_lowest_4 : decode cX12_lowest 4 = .ok (.iconst 1, 1) := by decide +kernel
theorem dX12_lowest_5 : decode cX12_lowest 5 = .ok (.istore_n 2, 1) := by decide +kernel
theorem dX12_lowest_6 : decode cX12_lowest 6 = .ok (.iload_n 2, 1) := by decide +kernel
theorem dX12_lowest_7 : decode cX12_lowest 7 = .ok (.aload_n 0, 1) := by decide +kernel
theorem dX12_lowest_8 : decode cX12_lowest 8 = .ok (.iconst 2, 1) := by decide +kernel
theorem dX12_lowest_9 : decode cX12_lowest 9 = .ok (.iaload, 1) := by decide +kernel
theorem dX12_lowest_10 : decode cX12_lowest 10 = .ok (.if_icmp .gt 17, 3) := by decide +kernel
theorem dX12_lowest_13 : decode cX12_lowest 13 = .ok (.iload_n 1, 1) := by decide +kernel
theorem dX12_lowest_14 : decode cX12_lowest 14 = .ok (.aload_n 0, 1) := by decide +kernel
theorem dX12_lowest_15 : decode cX12_lowest 15 = .ok (.iconst 3, 1) := by decide +kernel
theorem dX12_lowest_16 : decode cX12_lowest 16 = .ok (.iload_n 2, 1) := by decide +kernel
theorem dX12_lowest_17 : decode cX12_lowest 17 = .ok (.iadd, 1) := by decide +kernel
theorem dX12_lowest_18 : decode cX12_lowest 18 = .ok (.iaload, 1) := by decide +kernel
theorem dX12_lowest_19 : decode cX12_lowest 19 = .ok (.isub, 1) := by decide +kernel
theorem dX12_lowest_20 : decode cX12_lowest 20 = .ok (.istore_n 1, 1) := by decide +kernel
theorem dX12_lowest_21 : decode cX12_lowest 21 = .ok (.iinc 2 1, 3) := by decide +kernel
theorem dX12_lowest_24 : decode cX12_lowest 24 = .ok (.goto (-18), 3) := by decide +kernel
theorem dX12_lowest_27 : decode cX12_lowest 27 = .ok (.iload_n 1, 1) := by decide +kernel
theorem dX12_lowest_28 : decode cX12_lowest 28 = .ok (.ireturn, 1) := by decide +kernel
theorem dX12_stepLine_0 : decode cX12_stepLine 0 = .ok (.aload_n 0, 1) := by decide +kernel
theorem dX12_stepLine_1 : decode cX12_stepLine 1 = .ok (.getfield 98, 3) := by decide +kernel
theorem dX12_stepLine_4 : decode cX12_stepLine 4 = .ok (.istore_n 1, 1) := by decide +kernel
theorem dX12_stepLine_5 : decode cX12_stepLine 5 = .ok (.aload_n 0, 1) := by decide +kernel
theorem dX12_stepLine_6 : decode cX12_stepLine 6 = .ok (.iconst 3, 1) := by decide +kernel
theorem dX12_stepLine_7 : decode cX12_stepLine 7 = .ok (.iconst 1, 1) := by decide +kernel
theorem dX12_stepLine_8 : decode cX12_stepLine 8 = .ok (.aload_n 0, 1) := by decide +kernel
theorem dX12_stepLine_9 : decode cX12_stepLine 9 = .ok (.getfield 17, 3) := by decide +kernel
theorem dX12_stepLine_12 : decode cX12_stepLine 12 = .ok (.iconst 1, 1) := by decide +kernel
theorem dX12_stepLine_13 : decode cX12_stepLine 13 = .ok (.iaload, 1) := by decide +kernel
theorem dX12_stepLine_14 : decode cX12_stepLine 14 = .ok (.iconst 1, 1) := by decide +kernel
theorem dX12_stepLine_15 : decode cX12_stepLine 15 = .ok (.isub, 1) := by decide +kernel
theorem dX12_stepLine_16 : decode cX12_stepLine 16 = .ok (.invokevirtual 137, 3) := by decide +kernel
theorem dX12_stepLine_19 : decode cX12_stepLine 19 = .ok (.ifCond .ne 5, 3) := by decide +kernel
theorem dX12_stepLine_22 : decode cX12_stepLine 22 = .ok (.iconst 0, 1) := by decide +kernel
theorem dX12_stepLine_23 : decode cX12_stepLine 23 = .ok (.ireturn, 1) := by decide +kernel
theorem dX12_stepLine_24 : decode cX12_stepLine 24 = .ok (.aload_n 0, 1) := by decide +kernel
theorem dX12_stepLine_25 : decode cX12_stepLine 25 = .ok (.getfield 17, 3) := by decide +kernel
theorem dX12_stepLine_28 : decode cX12_stepLine 28 = .ok (.iconst 3, 1) := by decide +kernel
theorem dX12_stepLine_29 : decode cX12_stepLine 29 = .ok (.iaload, 1) := by decide +kernel
theorem dX12_stepLine_30 : decode cX12_stepLine 30 = .ok (.istore_n 2, 1) := by decide +kernel
theorem dX12_stepLine_31 : decode cX12_stepLine 31 = .ok (.iconst 1, 1) := by decide +kernel
theorem dX12_stepLine_32 : decode cX12_stepLine 32 = .ok (.istore_n 3, 1) := by decide +kernel
theorem dX12_stepLine_33 : decode cX12_stepLine 33 = .ok (.aload_n 0, 1) := by decide +kernel
theorem dX12_stepLine_34 : decode cX12_stepLine 34 = .ok (.invokevirtual 134, 3) := by decide +kernel
theorem dX12_stepLine_37 : decode cX12_stepLine 37 = .ok (.bipush 17, 2) := by decide +kernel
theorem dX12_stepLine_39 : decode cX12_stepLine 39 = .ok (.if_icmp .ne 39, 3) := by decide +kernel
theorem dX12_stepLine_42 : decode cX12_stepLine 42 = .ok (.aload_n 0, 1) := by decide +kernel
theorem dX12_stepLine_43 : decode cX12_stepLine 43 = .ok (.invokevirtual 131, 3) := by decide +kernel
theorem dX12_stepLine_46 : decode cX12_stepLine 46 = .ok (.aload_n 0, 1) := by decide +kernel
theorem dX12_stepLine_47 : decode cX12_stepLine 47 = .ok (.getfield 98, 3) := by decide +kernel
theorem dX12_stepLine_50 : decode cX12_stepLine 50 = .ok (.istore_n 1, 1) := by decide +kernel
theorem dX12_stepLine_51 : decode cX12_stepLine 51 = .ok (.aload_n 0, 1) := by decide +kernel
theorem dX12_stepLine_52 : decode cX12_stepLine 52 = .ok (.iconst 3, 1) := by decide +kernel
theorem dX12_stepLine_53 : decode cX12_stepLine 53 = .ok (.iconst 1, 1) := by decide +kernel
theorem dX12_stepLine_54 : decode cX12_stepLine 54 = .ok (.bipush 12, 2) := by decide +kernel
theorem dX12_stepLine_56 : decode cX12_stepLine 56 = .ok (.aload_n 0, 1) := by decide +kernel
theorem dX12_stepLine_57 : decode cX12_stepLine 57 = .ok (.getfield 17, 3) := by decide +kernel
theorem dX12_stepLine_60 : decode cX12_stepLine 60 = .ok (.iconst 2, 1) := by decide +kernel
theorem dX12_stepLine_61 : decode cX12_stepLine 61 = .ok (.iaload, 1) := by decide +kernel
theorem dX12_stepLine_62 : decode cX12_stepLine 62 = .ok (.isub, 1) := by decide +kernel
theorem dX12_stepLine_63 : decode cX12_stepLine 63 = .ok (.invokevirtual 137, 3) := by decide +kernel
theorem dX12_stepLine_66 : decode cX12_stepLine 66 = .ok (.ifCond .ne 5, 3) := by decide +kernel
theorem dX12_stepLine_69 : decode cX12_stepLine 69 = .ok (.iconst 0, 1) := by decide +kernel
theorem dX12_stepLine_70 : decode cX12_stepLine 70 = .ok (.ireturn, 1) := by decide +kernel
theorem dX12_stepLine_71 : decode cX12_stepLine 71 = .ok (.aload_n 0, 1) := by decide +kernel
theorem dX12_stepLine_72 : decode cX12_stepLine 72 = .ok (.getfield 17, 3) := by decide +kernel
theorem dX12_stepLine_75 : decode cX12_stepLine 75 = .ok (.iconst 3, 1) := by decide +kernel
theorem dX12_stepLine_76 : decode cX12_stepLine 76 = .ok (.iaload, 1) := by decide +kernel
theorem dX12_stepLine_77 : decode cX12_stepLine 77 = .ok (.istore_n 3, 1) := by decide +kernel
theorem dX12_stepLine_78 : decode cX12_stepLine 78 = .ok (.aload_n 0, 1) := by decide +kernel
theorem dX12_stepLine_79 : decode cX12_stepLine 79 = .ok (.getfield 17, 3) := by decide +kernel
theorem dX12_stepLine_82 : decode cX12_stepLine 82 = .ok (.invokestatic 140, 3) := by decide +kernel
theorem dX12_stepLine_85 : decode cX12_stepLine 85 = .ok (.iload_n 2, 1) := by decide +kernel
theorem dX12_stepLine_86 : decode cX12_stepLine 86 = .ok (.iload_n 3, 1) := by decide +kernel
theorem dX12_stepLine_87 : decode cX12_stepLine 87 = .ok (.imul, 1) := by decide +kernel
theorem dX12_stepLine_88 : decode cX12_stepLine 88 = .ok (.if_icmp .ge 10, 3) := by decide +kernel
theorem dX12_stepLine_91 : decode cX12_stepLine 91 = .ok (.aload_n 0, 1) := by decide +kernel
theorem dX12_stepLine_92 : decode cX12_stepLine 92 = .ok (.iconst 2, 1) := by decide +kernel
theorem dX12_stepLine_93 : decode cX12_stepLine 93 = .ok (.iload_n 1, 1) := by decide +kernel
theorem dX12_stepLine_94 : decode cX12_stepLine 94 = .ok (.invokevirtual 101, 3) := by decide +kernel
theorem dX12_stepLine_97 : decode cX12_stepLine 97 = .ok (.ireturn, 1) := by decide +kernel
theorem dX12_stepLine_98 : decode cX12_stepLine 98 = .ok (.iconst 0, 1) := by decide +kernel
theorem dX12_stepLine_99 : decode cX12_stepLine 99 = .ok (.istore 4, 2) := by decide +kernel
theorem dX12_stepLine_101 : decode cX12_stepLine 101 = .ok (.iload 4, 2) := by decide +kernel
theorem dX12_stepLine_103 : decode cX12_stepLine 103 = .ok (.iload_n 3, 1) := by decide +kernel
theorem dX12_stepLine_104 : decode cX12_stepLine 104 = .ok (.if_icmp .ge 33, 3) := by decide +kernel
theorem dX12_stepLine_107 : decode cX12_stepLine 107 = .ok (.aload_n 0, 1) := by decide +kernel
theorem dX12_stepLine_108 : decode cX12_stepLine 108 = .ok (.getfield 17, 3) := by decide +kernel
theorem dX12_stepLine_111 : decode cX12_stepLine 111 = .ok (.iconst 2, 1) := by decide +kernel
theorem dX12_stepLine_112 : decode cX12_stepLine 112 = .ok (.dup2, 1) := by decide +kernel
theorem dX12_stepLine_113 : decode cX12_stepLine 113 = .ok (.iaload, 1) := by decide +kernel
theorem dX12_stepLine_114 : decode cX12_stepLine 114 = .ok (.iconst 1, 1) := by decide +kernel
theorem dX12_stepLine_115 : decode cX12_stepLine 115 = .ok (.iadd, 1) := by decide +kernel
theorem dX12_stepLine_116 : decode cX12_stepLine 116 = .ok (.iastore, 1) := by decide +kernel
theorem dX12_stepLine_117 : decode cX12_stepLine 117 = .ok (.aload_n 0, 1) := by decide +kernel
theorem dX12_stepLine_118 : decode cX12_stepLine 118 = .ok (.getfield 17, 3) := by decide +kernel
theorem dX12_stepLine_121 : decode cX12_stepLine 121 = .ok (.iconst 3, 1) := by decide +kernel
theorem dX12_stepLine_122 : decode cX12_stepLine 122 = .ok (.aload_n 0, 1) := by decide +kernel
theorem dX12_stepLine_123 : decode cX12_stepLine 123 = .ok (.getfield 17, 3) := by decide +kernel
theorem dX12_stepLine_126 : decode cX12_stepLine 126 = .ok (.iconst 2, 1) := by decide +kernel
theorem dX12_stepLine_127 : decode cX12_stepLine 127 = .ok (.iaload, 1) := by decide +kernel
theorem dX12_stepLine_128 : decode cX12_stepLine 128 = .ok (.iadd, 1) := by decide +kernel
theorem dX12_stepLine_129 : decode cX12_stepLine 129 = .ok (.iload_n 2, 1) := by decide +kernel
theorem dX12_stepLine_130 : decode cX12_stepLine 130 = .ok (.iastore, 1) := by decide +kernel
theorem dX12_stepLine_131 : decode cX12_stepLine 131 = .ok (.iinc 4 1, 3) := by decide +kernel
theorem dX12_stepLine_134 : decode cX12_stepLine 134 = .ok (.goto (-33), 3) := by decide +kernel
theorem dX12_stepLine_137 : decode cX12_stepLine 137 = .ok (.aload_n 0, 1) := by decide +kernel
theorem dX12_stepLine_138 : decode cX12_stepLine 138 = .ok (.getfield 17, 3) := by decide +kernel
theorem dX12_stepLine_141 : decode cX12_stepLine 141 = .ok (.iconst 3, 1) := by decide +kernel
theorem dX12_stepLine_142 : decode cX12_stepLine 142 = .ok (.iconst 0, 1) := by decide +kernel
theorem dX12_stepLine_143 : decode cX12_stepLine 143 = .ok (.iastore, 1) := by decide +kernel
theorem dX12_stepLine_144 : decode cX12_stepLine 144 = .ok (.iconst 1, 1) := by decide +kernel
theorem dX12_stepLine_145 : decode cX12_stepLine 145 = .ok (.ireturn, 1) := by decide +kernel
theorem dX12_kindWord_0 : decode cX12_kindWord 0 = .ok (.aload_n 0, 1) := by decide +kernel
theorem dX12_kindWord_1 : decode cX12_kindWord 1 = .ok (.invokevirtual 134, 3) := by decide +kernel
theorem dX12_kindWord_4 : decode cX12_kindWord 4 = .ok (.istore_n 2, 1) := by decide +kernel
theorem dX12_kindWord_5 : decode cX12_kindWord 5 = .ok (.iload_n 2, 1) := by decide +kernel
theorem dX12_kindWord_6 : decode cX12_kindWord 6 = .ok (.ifCond .lt 8, 3) := by decide +kernel
theorem dX12_kindWord_9 : decode cX12_kindWord 9 = .ok (.iload_n 2, 1) := by decide +kernel
theorem dX12_kindWord_10 : decode cX12_kindWord 10 = .ok (.iconst 5, 1) := by decide +kernel
theorem dX12_kindWord_11 : decode cX12_kindWord 11 = .ok (.if_icmp .le 9, 3) := by decide +kernel
theorem dX12_kindWord_14 : decode cX12_kindWord 14 = .ok (.aload_n 0, 1) := by decide +kernel
theorem dX12_kindWord_15 : decode cX12_kindWord 15 = .ok (.iconst 1, 1) := by decide +kernel
theorem dX12_kindWord_16 : decode cX12_kindWord 16 = .ok (.invokevirtual 128, 3) := by decide +kernel
theorem dX12_kindWord_19 : decode cX12_kindWord 19 = .ok (.ireturn, 1) := by decide +kernel
theorem dX12_kindWord_20 : decode cX12_kindWord 20 = .ok (.aload_n 0, 1) := by decide +kernel
theorem dX12_kindWord_21 : decode cX12_kindWord 21 = .ok (.getfield 17, 3) := by decide +kernel
theorem dX12_kindWord_24 : decode cX12_kindWord 24 = .ok (.iload_n 1, 1) := by decide +kernel
theorem dX12_kindWord_25 : decode cX12_kindWord 25 = .ok (.iconst 0, 1) := by decide +kernel
theorem dX12_kindWord_26 : decode cX12_kindWord 26 = .ok (.iadd, 1) := by decide +kernel
theorem dX12_kindWord_27 : decode cX12_kindWord 27 = .ok (.iload_n 2, 1) := by decide +kernel
theorem dX12_kindWord_28 : decode cX12_kindWord 28 = .ok (.iastore, 1) := by decide +kernel
theorem dX12_kindWord_29 : decode cX12_kindWord 29 = .ok (.aload_n 0, 1) := by decide +kernel
theorem dX12_kindWord_30 : decode cX12_kindWord 30 = .ok (.getfield 17, 3) := by decide +kernel
theorem dX12_kindWord_33 : decode cX12_kindWord 33 = .ok (.iload_n 1, 1) := by decide +kernel
theorem dX12_kindWord_34 : decode cX12_kindWord 34 = .ok (.iconst 2, 1) := by decide +kernel
theorem dX12_kindWord_35 : decode cX12_kindWord 35 = .ok (.iadd, 1) := by decide +kernel
theorem dX12_kindWord_36 : decode cX12_kindWord 36 = .ok (.iconst (-1), 1) := by decide +kernel
theorem dX12_kindWord_37 : decode cX12_kindWord 37 = .ok (.iastore, 1) := by decide +kernel
theorem dX12_kindWord_38 : decode cX12_kindWord 38 = .ok (.aload_n 0, 1) := by decide +kernel
theorem dX12_kindWord_39 : decode cX12_kindWord 39 = .ok (.invokevirtual 131, 3) := by decide +kernel
theorem dX12_kindWord_42 : decode cX12_kindWord 42 = .ok (.iload_n 2, 1) := by decide +kernel
theorem dX12_kindWord_43 : decode cX12_kindWord 43 = .ok (.iconst 5, 1) := by decide +kernel
theorem dX12_kindWord_44 : decode cX12_kindWord 44 = .ok (.if_icmp .ne 56, 3) := by decide +kernel
theorem dX12_kindWord_47 : decode cX12_kindWord 47 = .ok (.aload_n 0, 1) := by decide +kernel
theorem dX12_kindWord_48 : decode cX12_kindWord 48 = .ok (.invokevirtual 144, 3) := by decide +kernel
theorem dX12_kindWord_51 : decode cX12_kindWord 51 = .ok (.ifCond .ne 9, 3) := by decide +kernel
theorem dX12_kindWord_54 : decode cX12_kindWord 54 = .ok (.aload_n 0, 1) := by decide +kernel
theorem dX12_kindWord_55 : decode cX12_kindWord 55 = .ok (.iconst 1, 1) := by decide +kernel
theorem dX12_kindWord_56 : decode cX12_kindWord 56 = .ok (.invokevirtual 128, 3) := by decide +kernel
theorem dX12_kindWord_59 : decode cX12_kindWord 59 = .ok (.ireturn, 1) := by decide +kernel
theorem dX12_kindWord_60 : decode cX12_kindWord 60 = .ok (.aload_n 0, 1) := by decide +kernel
theorem dX12_kindWord_61 : decode cX12_kindWord 61 = .ok (.getfield 17, 3) := by decide +kernel
theorem dX12_kindWord_64 : decode cX12_kindWord 64 = .ok (.iload_n 1, 1) := by decide +kernel
theorem dX12_kindWord_65 : decode cX12_kindWord 65 = .ok (.iconst 2, 1) := by decide +kernel
theorem dX12_kindWord_66 : decode cX12_kindWord 66 = .ok (.iadd, 1) := by decide +kernel
theorem dX12_kindWord_67 : decode cX12_kindWord 67 = .ok (.aload_n 0, 1) := by decide +kernel
theorem dX12_kindWord_68 : decode cX12_kindWord 68 = .ok (.aload_n 0, 1) := by decide +kernel
theorem dX12_kindWord_69 : decode cX12_kindWord 69 = .ok (.getfield 17, 3) := by decide +kernel
theorem dX12_kindWord_72 : decode cX12_kindWord 72 = .ok (.bipush 29, 2) := by decide +kernel
theorem dX12_kindWord_74 : decode cX12_kindWord 74 = .ok (.iaload, 1) := by decide +kernel
theorem dX12_kindWord_75 : decode cX12_kindWord 75 = .ok (.invokevirtual 148, 3) := by decide +kernel
theorem dX12_kindWord_78 : decode cX12_kindWord 78 = .ok (.iastore, 1) := by decide +kernel
theorem dX12_kindWord_79 : decode cX12_kindWord 79 = .ok (.aload_n 0, 1) := by decide +kernel
theorem dX12_kindWord_80 : decode cX12_kindWord 80 = .ok (.getfield 17, 3) := by decide +kernel
theorem dX12_kindWord_83 : decode cX12_kindWord 83 = .ok (.iload_n 1, 1) := by decide +kernel
theorem dX12_kindWord_84 : decode cX12_kindWord 84 = .ok (.iconst 2, 1) := by decide +kernel
theorem dX12_kindWord_85 : decode cX12_kindWord 85 = .ok (.iadd, 1) := by decide +kernel
theorem dX12_kindWord_86 : decode cX12_kindWord 86 = .ok (.iaload, 1) := by decide +kernel
theorem dX12_kindWord_87 : decode cX12_kindWord 87 = .ok (.ifCond .ge 9, 3) := by decide +kernel
theorem dX12_kindWord_90 : decode cX12_kindWord 90 = .ok (.aload_n 0, 1) := by decide +kernel
theorem dX12_kindWord_91 : decode cX12_kindWord 91 = .ok (.iconst 3, 1) := by decide +kernel
theorem dX12_kindWord_92 : decode cX12_kindWord 92 = .ok (.invokevirtual 128, 3) := by decide +kernel
theorem dX12_kindWord_95 : decode cX12_kindWord 95 = .ok (.ireturn, 1) := by decide +kernel
theorem dX12_kindWord_96 : decode cX12_kindWord 96 = .ok (.aload_n 0, 1) := by decide +kernel
theorem dX12_kindWord_97 : decode cX12_kindWord 97 = .ok (.invokevirtual 131, 3) := by decide +kernel
theorem dX12_kindWord_100 : decode cX12_kindWord 100 = .ok (.aload_n 0, 1) := by decide +kernel
theorem dX12_kindWord_101 : decode cX12_kindWord 101 = .ok (.iload_n 1, 1) := by decide +kernel
theorem dX12_kindWord_102 : decode cX12_kindWord 102 = .ok (.iconst 1, 1) := by decide +kernel
theorem dX12_kindWord_103 : decode cX12_kindWord 103 = .ok (.iadd, 1) := by decide +kernel
theorem dX12_kindWord_104 : decode cX12_kindWord 104 = .ok (.iconst 0, 1) := by decide +kernel
theorem dX12_kindWord_105 : decode cX12_kindWord 105 = .ok (.sipush 999, 3) := by decide +kernel
theorem dX12_kindWord_108 : decode cX12_kindWord 108 = .ok (.invokevirtual 137, 3) := by decide +kernel
theorem dX12_kindWord_111 : decode cX12_kindWord 111 = .ok (.ifCond .ne 5, 3) := by decide +kernel
theorem dX12_kindWord_114 : decode cX12_kindWord 114 = .ok (.iconst 0, 1) := by decide +kernel
theorem dX12_kindWord_115 : decode cX12_kindWord 115 = .ok (.ireturn, 1) := by decide +kernel
theorem dX12_kindWord_116 : decode cX12_kindWord 116 = .ok (.iload_n 2, 1) := by decide +kernel
theorem dX12_kindWord_117 : decode cX12_kindWord 117 = .ok (.iconst 2, 1) := by decide +kernel
theorem dX12_kindWord_118 : decode cX12_kindWord 118 = .ok (.if_icmp .ne 14, 3) := by decide +kernel
theorem dX12_kindWord_121 : decode cX12_kindWord 121 = .ok (.aload_n 0, 1) := by decide +kernel
theorem dX12_kindWord_122 : decode cX12_kindWord 122 = .ok (.iload_n 1, 1) := by decide +kernel
theorem dX12_kindWord_123 : decode cX12_kindWord 123 = .ok (.iconst 2, 1) := by decide +kernel
theorem dX12_kindWord_124 : decode cX12_kindWord 124 = .ok (.iadd, 1) := by decide +kernel
theorem dX12_kindWord_125 : decode cX12_kindWord 125 = .ok (.iconst 1, 1) := by decide +kernel
theorem dX12_kindWord_126 : decode cX12_kindWord 126 = .ok (.bipush 99, 2) := by decide +kernel
theorem dX12_kindWord_128 : decode cX12_kindWord 128 = .ok (.invokevirtual 137, 3) := by decide +kernel
theorem dX12_kindWord_131 : decode cX12_kindWord 131 = .ok (.ireturn, 1) := by decide +kernel
theorem dX12_kindWord_132 : decode cX12_kindWord 132 = .ok (.iload_n 2, 1) := by decide +kernel
theorem dX12_kindWord_133 : decode cX12_kindWord 133 = .ok (.iconst 3, 1) := by decide +kernel
theorem dX12_kindWord_134 : decode cX12_kindWord 134 = .ok (.if_icmp .ne 26, 3) := by decide +kernel
theorem dX12_kindWord_137 : decode cX12_kindWord 137 = .ok (.aload_n 0, 1) := by decide +kernel
theorem dX12_kindWord_138 : decode cX12_kindWord 138 = .ok (.iload_n 1, 1) := by decide +kernel
theorem dX12_kindWord_139 : decode cX12_kindWord 139 = .ok (.iconst 2, 1) := by decide +kernel
theorem dX12_kindWord_140 : decode cX12_kindWord 140 = .ok (.iadd, 1) := by decide +kernel
theorem dX12_kindWord_141 : decode cX12_kindWord 141 = .ok (.aload_n 0, 1) := by decide +kernel
theorem dX12_kindWord_142 : decode cX12_kindWord 142 = .ok (.getfield 17, 3) := by decide +kernel
theorem dX12_kindWord_145 : decode cX12_kindWord 145 = .ok (.iload_n 1, 1) := by decide +kernel
theorem dX12_kindWord_146 : decode cX12_kindWord 146 = .ok (.iconst 1, 1) := by decide +kernel
theorem dX12_kindWord_147 : decode cX12_kindWord 147 = .ok (.iadd, 1) := by decide +kernel
theorem dX12_kindWord_148 : decode cX12_kindWord 148 = .ok (.iaload, 1) := by decide +kernel
theorem dX12_kindWord_149 : decode cX12_kindWord 149 = .ok (.iconst 1, 1) := by decide +kernel
theorem dX12_kindWord_150 : decode cX12_kindWord 150 = .ok (.iadd, 1) := by decide +kernel
theorem dX12_kindWord_151 : decode cX12_kindWord 151 = .ok (.sipush 999, 3) := by decide +kernel
theorem dX12_kindWord_154 : decode cX12_kindWord 154 = .ok (.invokevirtual 137, 3) := by decide +kernel
theorem dX12_kindWord_157 : decode cX12_kindWord 157 = .ok (.ifCond .eq 7, 3) := by decide +kernel
theorem dX12_kindWord_160 : decode cX12_kindWord 160 = .ok (.iconst 1, 1) := by decide +kernel
theorem dX12_kindWord_161 : decode cX12_kindWord 161 = .ok (.goto 4, 3) := by decide +kernel
theorem dX12_kindWord_164 : decode cX12_kindWord 164 = .ok (.iconst 0, 1) := by decide +kernel
theorem dX12_kindWord_165 : decode cX12_kindWord 165 = .ok (.ireturn, 1) := by decide +kernel
theorem dX12_whenWord_0 : decode cX12_whenWord 0 = .ok (.aload_n 0, 1) := by decide +kernel
theorem dX12_whenWord_1 : decode cX12_whenWord 1 = .ok (.invokevirtual 134, 3) := by decide +kernel
theorem dX12_whenWord_4 : decode cX12_whenWord 4 = .ok (.istore_n 2, 1) := by decide +kernel
theorem dX12_whenWord_5 : decode cX12_whenWord 5 = .ok (.aload_n 0, 1) := by decide +kernel
theorem dX12_whenWord_6 : decode cX12_whenWord 6 = .ok (.getfield 17, 3) := by decide +kernel
theorem dX12_whenWord_9 : decode cX12_whenWord 9 = .ok (.iload_n 1, 1) := by decide +kernel
theorem dX12_whenWord_10 : decode cX12_whenWord 10 = .ok (.iconst 3, 1) := by decide +kernel
theorem dX12_whenWord_11 : decode cX12_whenWord 11 = .ok (.iadd, 1) := by decide +kernel
theorem dX12_whenWord_12 : decode cX12_whenWord 12 = .ok (.bipush 99, 2) := by decide +kernel
theorem dX12_whenWord_14 : decode cX12_whenWord 14 = .ok (.iastore, 1) := by decide +kernel
theorem dX12_whenWord_15 : decode cX12_whenWord 15 = .ok (.iload_n 2, 1) := by decide +kernel
theorem dX12_whenWord_16 : decode cX12_whenWord 16 = .ok (.bipush 6, 2) := by decide +kernel
theorem dX12_whenWord_18 : decode cX12_whenWord 18 = .ok (.bipush 8, 2) := by decide +kernel
theorem dX12_whenWord_20 : decode cX12_whenWord 20 = .ok (.invokestatic 88, 3) := by decide +kernel
theorem dX12_whenWord_23 : decode cX12_whenWord 23 = .ok (.ifCond .ne 5, 3) := by decide +kernel
theorem dX12_whenWord_26 : decode cX12_whenWord 26 = .ok (.iconst 1, 1) := by decide +kernel
theorem dX12_whenWord_27 : decode cX12_whenWord 27 = .ok (.ireturn, 1) := by decide +kernel
theorem dX12_whenWord_28 : decode cX12_whenWord 28 = .ok (.aload_n 0, 1) := by decide +kernel
theorem dX12_whenWord_29 : decode cX12_whenWord 29 = .ok (.invokevirtual 131, 3) := by decide +kernel
theorem dX12_whenWord_32 : decode cX12_whenWord 32 = .ok (.iload_n 2, 1) := by decide +kernel
theorem dX12_whenWord_33 : decode cX12_whenWord 33 = .ok (.bipush 7, 2) := by decide +kernel
theorem dX12_whenWord_35 : decode cX12_whenWord 35 = .ok (.if_icmp .ne 12, 3) := by decide +kernel
theorem dX12_whenWord_38 : decode cX12_whenWord 38 = .ok (.aload_n 0, 1) := by decide +kernel
theorem dX12_whenWord_39 : decode cX12_whenWord 39 = .ok (.getfield 17, 3) := by decide +kernel
theorem dX12_whenWord_42 : decode cX12_whenWord 42 = .ok (.iload_n 1, 1) := by decide +kernel
theorem dX12_whenWord_43 : decode cX12_whenWord 43 = .ok (.iconst 3, 1) := by decide +kernel
theorem dX12_whenWord_44 : decode cX12_whenWord 44 = .ok (.iadd, 1) := by decide +kernel
theorem dX12_whenWord_45 : decode cX12_whenWord 45 = .ok (.iconst 0, 1) := by decide +kernel
theorem dX12_whenWord_46 : decode cX12_whenWord 46 = .ok (.iastore, 1) := by decide +kernel
theorem dX12_whenWord_47 : decode cX12_whenWord 47 = .ok (.iload_n 2, 1) := by decide +kernel
theorem dX12_whenWord_48 : decode cX12_whenWord 48 = .ok (.bipush 8, 2) := by decide +kernel
theorem dX12_whenWord_50 : decode cX12_whenWord 50 = .ok (.if_icmp .ne 16, 3) := by decide +kernel
theorem dX12_whenWord_53 : decode cX12_whenWord 53 = .ok (.aload_n 0, 1) := by decide +kernel
theorem dX12_whenWord_54 : decode cX12_whenWord 54 = .ok (.iload_n 1, 1) := by decide +kernel
theorem dX12_whenWord_55 : decode cX12_whenWord 55 = .ok (.iconst 3, 1) := by decide +kernel
theorem dX12_whenWord_56 : decode cX12_whenWord 56 = .ok (.iadd, 1) := by decide +kernel
theorem dX12_whenWord_57 : decode cX12_whenWord 57 = .ok (.iconst 0, 1) := by decide +kernel
theorem dX12_whenWord_58 : decode cX12_whenWord 58 = .ok (.bipush 12, 2) := by decide +kernel
theorem dX12_whenWord_60 : decode cX12_whenWord 60 = .ok (.invokevirtual 137, 3) := by decide +kernel
theorem dX12_whenWord_63 : decode cX12_whenWord 63 = .ok (.ifCond .eq 7, 3) := by decide +kernel
theorem dX12_whenWord_66 : decode cX12_whenWord 66 = .ok (.iconst 1, 1) := by decide +kernel
theorem dX12_whenWord_67 : decode cX12_whenWord 67 = .ok (.goto 4, 3) := by decide +kernel
theorem dX12_whenWord_70 : decode cX12_whenWord 70 = .ok (.iconst 0, 1) := by decide +kernel
theorem dX12_whenWord_71 : decode cX12_whenWord 71 = .ok (.ireturn, 1) := by decide +kernel
theorem dX12_barrier_0 : decode cX12_barrier 0 = .ok (.aload_n 0, 1) := by decide +kernel
theorem dX12_barrier_1 : decode cX12_barrier 1 = .ok (.invokevirtual 134, 3) := by decide +kernel
theorem dX12_barrier_4 : decode cX12_barrier 4 = .ok (.istore_n 2, 1) := by decide +kernel
theorem dX12_barrier_5 : decode cX12_barrier 5 = .ok (.aload_n 0, 1) := by decide +kernel
theorem dX12_barrier_6 : decode cX12_barrier 6 = .ok (.getfield 17, 3) := by decide +kernel
theorem dX12_barrier_9 : decode cX12_barrier 9 = .ok (.iload_n 1, 1) := by decide +kernel
theorem dX12_barrier_10 : decode cX12_barrier 10 = .ok (.iconst 4, 1) := by decide +kernel
theorem dX12_barrier_11 : decode cX12_barrier 11 = .ok (.iadd, 1) := by decide +kernel
theorem dX12_barrier_12 : decode cX12_barrier 12 = .ok (.iconst 0, 1) := by decide +kernel
theorem dX12_barrier_13 : decode cX12_barrier 13 = .ok (.iastore, 1) := by decide +kernel
theorem dX12_barrier_14 : decode cX12_barrier 14 = .ok (.aload_n 0, 1) := by decide +kernel
theorem dX12_barrier_15 : decode cX12_barrier 15 = .ok (.getfield 17, 3) := by decide +kernel
theorem dX12_barrier_18 : decode cX12_barrier 18 = .ok (.iload_n 1, 1) := by decide +kernel
theorem dX12_barrier_19 : decode cX12_barrier 19 = .ok (.iconst 5, 1) := by decide +kernel
theorem dX12_barrier_20 : decode cX12_barrier 20 = .ok (.iadd, 1) := by decide +kernel
theorem dX12_barrier_21 : decode cX12_barrier 21 = .ok (.iconst (-1), 1) := by decide +kernel
theorem dX12_barrier_22 : decode cX12_barrier 22 = .ok (.iastore, 1) := by decide +kernel
theorem dX12_barrier_23 : decode cX12_barrier 23 = .ok (.aload_n 0, 1) := by decide +kernel
theorem dX12_barrier_24 : decode cX12_barrier 24 = .ok (.getfield 17, 3) := by decide +kernel
theorem dX12_barrier_27 : decode cX12_barrier 27 = .ok (.iload_n 1, 1) := by decide +kernel
theorem dX12_barrier_28 : decode cX12_barrier 28 = .ok (.bipush 6, 2) := by decide +kernel
theorem dX12_barrier_30 : decode cX12_barrier 30 = .ok (.iadd, 1) := by decide +kernel
theorem dX12_barrier_31 : decode cX12_barrier 31 = .ok (.iconst (-1), 1) := by decide +kernel
theorem dX12_barrier_32 : decode cX12_barrier 32 = .ok (.iastore, 1) := by decide +kernel
theorem dX12_barrier_33 : decode cX12_barrier 33 = .ok (.aload_n 0, 1) := by decide +kernel
theorem dX12_barrier_34 : decode cX12_barrier 34 = .ok (.getfield 17, 3) := by decide +kernel
theorem dX12_barrier_37 : decode cX12_barrier 37 = .ok (.iload_n 1, 1) := by decide +kernel
theorem dX12_barrier_38 : decode cX12_barrier 38 = .ok (.bipush 7, 2) := by decide +kernel
theorem dX12_barrier_40 : decode cX12_barrier 40 = .ok (.iadd, 1) := by decide +kernel
theorem dX12_barrier_41 : decode cX12_barrier 41 = .ok (.iconst 0, 1) := by decide +kernel
theorem dX12_barrier_42 : decode cX12_barrier 42 = .ok (.iastore, 1) := by decide +kernel
theorem dX12_barrier_43 : decode cX12_barrier 43 = .ok (.iload_n 2, 1) := by decide +kernel
theorem dX12_barrier_44 : decode cX12_barrier 44 = .ok (.bipush 9, 2) := by decide +kernel
theorem dX12_barrier_46 : decode cX12_barrier 46 = .ok (.if_icmp .eq 11, 3) := by decide +kernel
theorem dX12_barrier_49 : decode cX12_barrier 49 = .ok (.iload_n 2, 1) := by decide +kernel
theorem dX12_barrier_50 : decode cX12_barrier 50 = .ok (.bipush 10, 2) := by decide +kernel
theorem dX12_barrier_52 : decode cX12_barrier 52 = .ok (.if_icmp .eq 5, 3) := by decide +kernel
theorem dX12_barrier_55 : decode cX12_barrier 55 = .ok (.iconst 1, 1) := by decide +kernel
theorem dX12_barrier_56 : decode cX12_barrier 56 = .ok (.ireturn, 1) := by decide +kernel
theorem dX12_barrier_57 : decode cX12_barrier 57 = .ok (.aload_n 0, 1) := by decide +kernel
theorem dX12_barrier_58 : decode cX12_barrier 58 = .ok (.getfield 17, 3) := by decide +kernel
theorem dX12_barrier_61 : decode cX12_barrier 61 = .ok (.iload_n 1, 1) := by decide +kernel
theorem dX12_barrier_62 : decode cX12_barrier 62 = .ok (.iconst 4, 1) := by decide +kernel
theorem dX12_barrier_63 : decode cX12_barrier 63 = .ok (.iadd, 1) := by decide +kernel
theorem dX12_barrier_64 : decode cX12_barrier 64 = .ok (.iload_n 2, 1) := by decide +kernel
theorem dX12_barrier_65 : decode cX12_barrier 65 = .ok (.bipush 9, 2) := by decide +kernel
theorem dX12_barrier_67 : decode cX12_barrier 67 = .ok (.if_icmp .ne 7, 3) := by decide +kernel
theorem dX12_barrier_70 : decode cX12_barrier 70 = .ok (.iconst 1, 1) := by decide +kernel
theorem dX12_barrier_71 : decode cX12_barrier 71 = .ok (.goto 4, 3) := by decide +kernel
theorem dX12_barrier_74 : decode cX12_barrier 74 = .ok (.iconst 2, 1) := by decide +kernel
theorem dX12_barrier_75 : decode cX12_barrier 75 = .ok (.iastore, 1) := by decide +kernel
theorem dX12_barrier_76 : decode cX12_barrier 76 = .ok (.aload_n 0, 1) := by decide +kernel
theorem dX12_barrier_77 : decode cX12_barrier 77 = .ok (.invokevirtual 131, 3) := by decide +kernel
theorem dX12_barrier_80 : decode cX12_barrier 80 = .ok (.aload_n 0, 1) := by decide +kernel
theorem dX12_barrier_81 : decode cX12_barrier 81 = .ok (.invokevirtual 134, 3) := by decide +kernel
theorem dX12_barrier_84 : decode cX12_barrier 84 = .ok (.istore_n 3, 1) := by decide +kernel
theorem dX12_barrier_85 : decode cX12_barrier 85 = .ok (.iload_n 3, 1) := by decide +kernel
theorem dX12_barrier_86 : decode cX12_barrier 86 = .ok (.bipush 11, 2) := by decide +kernel
theorem dX12_barrier_88 : decode cX12_barrier 88 = .ok (.if_icmp .eq 15, 3) := by decide +kernel
theorem dX12_barrier_91 : decode cX12_barrier 91 = .ok (.iload_n 3, 1) := by decide +kernel
theorem dX12_barrier_92 : decode cX12_barrier 92 = .ok (.bipush 12, 2) := by decide +kernel
theorem dX12_barrier_94 : decode cX12_barrier 94 = .ok (.if_icmp .eq 9, 3) := by decide +kernel
theorem dX12_barrier_97 : decode cX12_barrier 97 = .ok (.aload_n 0, 1) := by decide +kernel
theorem dX12_barrier_98 : decode cX12_barrier 98 = .ok (.iconst 1, 1) := by decide +kernel
theorem dX12_barrier_99 : decode cX12_barrier 99 = .ok (.invokevirtual 128, 3) := by decide +kernel
theorem dX12_barrier_102 : decode cX12_barrier 102 = .ok (.ireturn, 1) := by decide +kernel
theorem dX12_barrier_103 : decode cX12_barrier 103 = .ok (.aload_n 0, 1) := by decide +kernel
theorem dX12_barrier_104 : decode cX12_barrier 104 = .ok (.getfield 17, 3) := by decide +kernel
theorem dX12_barrier_107 : decode cX12_barrier 107 = .ok (.iload_n 1, 1) := by decide +kernel
theorem dX12_barrier_108 : decode cX12_barrier 108 = .ok (.iconst 5, 1) := by decide +kernel
theorem dX12_barrier_109 : decode cX12_barrier 109 = .ok (.iadd, 1) := by decide +kernel
theorem dX12_barrier_110 : decode cX12_barrier 110 = .ok (.iload_n 3, 1) := by decide +kernel
theorem dX12_barrier_111 : decode cX12_barrier 111 = .ok (.bipush 11, 2) := by decide +kernel
theorem dX12_barrier_113 : decode cX12_barrier 113 = .ok (.if_icmp .ne 7, 3) := by decide +kernel
theorem dX12_barrier_116 : decode cX12_barrier 116 = .ok (.iconst 1, 1) := by decide +kernel
theorem dX12_barrier_117 : decode cX12_barrier 117 = .ok (.goto 4, 3) := by decide +kernel
theorem dX12_barrier_120 : decode cX12_barrier 120 = .ok (.iconst 0, 1) := by decide +kernel
theorem dX12_barrier_121 : decode cX12_barrier 121 = .ok (.iastore, 1) := by decide +kernel
theorem dX12_barrier_122 : decode cX12_barrier 122 = .ok (.aload_n 0, 1) := by decide +kernel
theorem dX12_barrier_123 : decode cX12_barrier 123 = .ok (.invokevirtual 131, 3) := by decide +kernel
theorem dX12_barrier_126 : decode cX12_barrier 126 = .ok (.aload_n 0, 1) := by decide +kernel
theorem dX12_barrier_127 : decode cX12_barrier 127 = .ok (.iload_n 1, 1) := by decide +kernel
theorem dX12_barrier_128 : decode cX12_barrier 128 = .ok (.bipush 6, 2) := by decide +kernel
theorem dX12_barrier_130 : decode cX12_barrier 130 = .ok (.iadd, 1) := by decide +kernel
theorem dX12_barrier_131 : decode cX12_barrier 131 = .ok (.iconst 0, 1) := by decide +kernel
theorem dX12_barrier_132 : decode cX12_barrier 132 = .ok (.sipush 999, 3) := by decide +kernel
theorem dX12_barrier_135 : decode cX12_barrier 135 = .ok (.invokevirtual 137, 3) := by decide +kernel
theorem dX12_barrier_138 : decode cX12_barrier 138 = .ok (.ifCond .ne 5, 3) := by decide +kernel
theorem dX12_barrier_141 : decode cX12_barrier 141 = .ok (.iconst 0, 1) := by decide +kernel
theorem dX12_barrier_142 : decode cX12_barrier 142 = .ok (.ireturn, 1) := by decide +kernel
theorem dX12_barrier_143 : decode cX12_barrier 143 = .ok (.iload_n 2, 1) := by decide +kernel
theorem dX12_barrier_144 : decode cX12_barrier 144 = .ok (.bipush 9, 2) := by decide +kernel
theorem dX12_barrier_146 : decode cX12_barrier 146 = .ok (.if_icmp .ne 12, 3) := by decide +kernel
theorem dX12_barrier_149 : decode cX12_barrier 149 = .ok (.aload_n 0, 1) := by decide +kernel
theorem dX12_barrier_150 : decode cX12_barrier 150 = .ok (.invokevirtual 134, 3) := by decide +kernel
theorem dX12_barrier_153 : decode cX12_barrier 153 = .ok (.bipush 13, 2) := by decide +kernel
theorem dX12_barrier_155 : decode cX12_barrier 155 = .ok (.if_icmp .eq 5, 3) := by decide +kernel
theorem dX12_barrier_158 : decode cX12_barrier 158 = .ok (.iconst 1, 1) := by decide +kernel
theorem dX12_barrier_159 : decode cX12_barrier 159 = .ok (.ireturn, 1) := by decide +kernel
theorem dX12_barrier_160 : decode cX12_barrier 160 = .ok (.aload_n 0, 1) := by decide +kernel
theorem dX12_barrier_161 : decode cX12_barrier 161 = .ok (.invokevirtual 131, 3) := by decide +kernel
theorem dX12_barrier_164 : decode cX12_barrier 164 = .ok (.aload_n 0, 1) := by decide +kernel
theorem dX12_barrier_165 : decode cX12_barrier 165 = .ok (.iload_n 1, 1) := by decide +kernel
theorem dX12_barrier_166 : decode cX12_barrier 166 = .ok (.bipush 7, 2) := by decide +kernel
theorem dX12_barrier_168 : decode cX12_barrier 168 = .ok (.iadd, 1) := by decide +kernel
theorem dX12_barrier_169 : decode cX12_barrier 169 = .ok (.iconst 0, 1) := by decide +kernel
theorem dX12_barrier_170 : decode cX12_barrier 170 = .ok (.bipush 99, 2) := by decide +kernel
theorem dX12_barrier_172 : decode cX12_barrier 172 = .ok (.invokevirtual 137, 3) := by decide +kernel
theorem dX12_barrier_175 : decode cX12_barrier 175 = .ok (.ireturn, 1) := by decide +kernel
theorem dX12_optionLine_0 : decode cX12_optionLine 0 = .ok (.aload_n 0, 1) := by decide +kernel
theorem dX12_optionLine_1 : decode cX12_optionLine 1 = .ok (.getfield 17, 3) := by decide +kernel
theorem dX12_optionLine_4 : decode cX12_optionLine 4 = .ok (.bipush 29, 2) := by decide +kernel
theorem dX12_optionLine_6 : decode cX12_optionLine 6 = .ok (.iaload, 1) := by decide +kernel
theorem dX12_optionLine_7 : decode cX12_optionLine 7 = .ok (.istore_n 1, 1) := by decide +kernel
theorem dX12_optionLine_8 : decode cX12_optionLine 8 = .ok (.bipush 30, 2) := by decide +kernel
theorem dX12_optionLine_10 : decode cX12_optionLine 10 = .ok (.bipush 10, 2) := by decide +kernel
theorem dX12_optionLine_12 : decode cX12_optionLine 12 = .ok (.iload_n 1, 1) := by decide +kernel
theorem dX12_optionLine_13 : decode cX12_optionLine 13 = .ok (.imul, 1) := by decide +kernel
theorem dX12_optionLine_14 : decode cX12_optionLine 14 = .ok (.iadd, 1) := by decide +kernel
theorem dX12_optionLine_15 : decode cX12_optionLine 15 = .ok (.istore_n 2, 1) := by decide +kernel
theorem dX12_optionLine_16 : decode cX12_optionLine 16 = .ok (.aload_n 0, 1) := by decide +kernel
theorem dX12_optionLine_17 : decode cX12_optionLine 17 = .ok (.invokevirtual 144, 3) := by decide +kernel
theorem dX12_optionLine_20 : decode cX12_optionLine 20 = .ok (.ifCond .ne 9, 3) := by decide +kernel
theorem dX12_optionLine_23 : decode cX12_optionLine 23 = .ok (.aload_n 0, 1) := by decide +kernel
theorem dX12_optionLine_24 : decode cX12_optionLine 24 = .ok (.iconst 1, 1) := by decide +kernel
theorem dX12_optionLine_25 : decode cX12_optionLine 25 = .ok (.invokevirtual 128, 3) := by decide +kernel
theorem dX12_optionLine_28 : decode cX12_optionLine 28 = .ok (.ireturn, 1) := by decide +kernel
theorem dX12_optionLine_29 : decode cX12_optionLine 29 = .ok (.aload_n 0, 1) := by decide +kernel
theorem dX12_optionLine_30 : decode cX12_optionLine 30 = .ok (.iload_n 1, 1) := by decide +kernel
theorem dX12_optionLine_31 : decode cX12_optionLine 31 = .ok (.invokevirtual 148, 3) := by decide +kernel
theorem dX12_optionLine_34 : decode cX12_optionLine 34 = .ok (.ifCond .lt 9, 3) := by decide +kernel
theorem dX12_optionLine_37 : decode cX12_optionLine 37 = .ok (.aload_n 0, 1) := by decide +kernel
theorem dX12_optionLine_38 : decode cX12_optionLine 38 = .ok (.iconst 3, 1) := by decide +kernel
theorem dX12_optionLine_39 : decode cX12_optionLine 39 = .ok (.invokevirtual 128, 3) := by decide +kernel
theorem dX12_optionLine_42 : decode cX12_optionLine 42 = .ok (.ireturn, 1) := by decide +kernel
theorem dX12_optionLine_43 : decode cX12_optionLine 43 = .ok (.iconst 0, 1) := by decide +kernel
theorem dX12_optionLine_44 : decode cX12_optionLine 44 = .ok (.istore_n 3, 1) := by decide +kernel
theorem dX12_optionLine_45 : decode cX12_optionLine 45 = .ok (.iload_n 3, 1) := by decide +kernel
theorem dX12_optionLine_46 : decode cX12_optionLine 46 = .ok (.bipush 8, 2) := by decide +kernel
theorem dX12_optionLine_48 : decode cX12_optionLine 48 = .ok (.if_icmp .ge 38, 3) := by decide +kernel
theorem dX12_optionLine_51 : decode cX12_optionLine 51 = .ok (.aload_n 0, 1) := by decide +kernel
theorem dX12_optionLine_52 : decode cX12_optionLine 52 = .ok (.getfield 37, 3) := by decide +kernel
theorem dX12_optionLine_55 : decode cX12_optionLine 55 = .ok (.bipush 8, 2) := by decide +kernel
theorem dX12_optionLine_57 : decode cX12_optionLine 57 = .ok (.iload_n 1, 1) := by decide +kernel
theorem dX12_optionLine_58 : decode cX12_optionLine 58 = .ok (.imul, 1) := by decide +kernel
theorem dX12_optionLine_59 : decode cX12_optionLine 59 = .ok (.iload_n 3, 1) := by decide +kernel
theorem dX12_optionLine_60 : decode cX12_optionLine 60 = .ok (.iadd, 1) := by decide +kernel
theorem dX12_optionLine_61 : decode cX12_optionLine 61 = .ok (.iload_n 3, 1) := by decide +kernel
theorem dX12_optionLine_62 : decode cX12_optionLine 62 = .ok (.aload_n 0, 1) := by decide +kernel
theorem dX12_optionLine_63 : decode cX12_optionLine 63 = .ok (.getfield 122, 3) := by decide +kernel
theorem dX12_optionLine_66 : decode cX12_optionLine 66 = .ok (.if_icmp .ge 12, 3) := by decide +kernel
theorem dX12_optionLine_69 : decode cX12_optionLine 69 = .ok (.aload_n 0, 1) := by decide +kernel
theorem dX12_optionLine_70 : decode cX12_optionLine 70 = .ok (.getfield 34, 3) := by decide +kernel
theorem dX12_optionLine_73 : decode cX12_optionLine 73 = .ok (.iload_n 3, 1) := by decide +kernel
theorem dX12_optionLine_74 : decode cX12_optionLine 74 = .ok (.baload, 1) := by decide +kernel
theorem dX12_optionLine_75 : decode cX12_optionLine 75 = .ok (.goto 4, 3) := by decide +kernel
theorem dX12_optionLine_78 : decode cX12_optionLine 78 = .ok (.iconst 0, 1) := by decide +kernel
theorem dX12_optionLine_79 : decode cX12_optionLine 79 = .ok (.bastore, 1) := by decide +kernel
theorem dX12_optionLine_80 : decode cX12_optionLine 80 = .ok (.iinc 3 1, 3) := by decide +kernel
theorem dX12_optionLine_83 : decode cX12_optionLine 83 = .ok (.goto (-38), 3) := by decide +kernel
theorem dX12_optionLine_86 : decode cX12_optionLine 86 = .ok (.aload_n 0, 1) := by decide +kernel
theorem dX12_optionLine_87 : decode cX12_optionLine 87 = .ok (.invokevirtual 131, 3) := by decide +kernel
theorem dX12_optionLine_90 : decode cX12_optionLine 90 = .ok (.aload_n 0, 1) := by decide +kernel
theorem dX12_optionLine_91 : decode cX12_optionLine 91 = .ok (.iload_n 2, 1) := by decide +kernel
theorem dX12_optionLine_92 : decode cX12_optionLine 92 = .ok (.invokevirtual 152, 3) := by decide +kernel
theorem dX12_optionLine_95 : decode cX12_optionLine 95 = .ok (.ifCond .eq 19, 3) := by decide +kernel
theorem dX12_optionLine_98 : decode cX12_optionLine 98 = .ok (.aload_n 0, 1) := by decide +kernel
theorem dX12_optionLine_99 : decode cX12_optionLine 99 = .ok (.iload_n 2, 1) := by decide +kernel
theorem dX12_optionLine_100 : decode cX12_optionLine 100 = .ok (.invokevirtual 155, 3) := by decide +kernel
theorem dX12_optionLine_103 : decode cX12_optionLine 103 = .ok (.ifCond .eq 11, 3) := by decide +kernel
theorem dX12_optionLine_106 : decode cX12_optionLine 106 = .ok (.aload_n 0, 1) := by decide +kernel
theorem dX12_optionLine_107 : decode cX12_optionLine 107 = .ok (.iload_n 2, 1) := by decide +kernel
theorem dX12_optionLine_108 : decode cX12_optionLine 108 = .ok (.invokevirtual 158, 3) := by decide +kernel
theorem dX12_optionLine_111 : decode cX12_optionLine 111 = .ok (.ifCond .ne 5, 3) := by decide +kernel
theorem dX12_optionLine_114 : decode cX12_optionLine 114 = .ok (.iconst 0, 1) := by decide +kernel
theorem dX12_optionLine_115 : decode cX12_optionLine 115 = .ok (.ireturn, 1) := by decide +kernel
theorem dX12_optionLine_116 : decode cX12_optionLine 116 = .ok (.aload_n 0, 1) := by decide +kernel
theorem dX12_optionLine_117 : decode cX12_optionLine 117 = .ok (.getfield 17, 3) := by decide +kernel
theorem dX12_optionLine_120 : decode cX12_optionLine 120 = .ok (.iload_n 2, 1) := by decide +kernel
theorem dX12_optionLine_121 : decode cX12_optionLine 121 = .ok (.bipush 8, 2) := by decide +kernel
theorem dX12_optionLine_123 : decode cX12_optionLine 123 = .ok (.iadd, 1) := by decide +kernel
theorem dX12_optionLine_124 : decode cX12_optionLine 124 = .ok (.iconst (-1), 1) := by decide +kernel
theorem dX12_optionLine_125 : decode cX12_optionLine 125 = .ok (.iastore, 1) := by decide +kernel
theorem dX12_optionLine_126 : decode cX12_optionLine 126 = .ok (.aload_n 0, 1) := by decide +kernel
theorem dX12_optionLine_127 : decode cX12_optionLine 127 = .ok (.getfield 17, 3) := by decide +kernel
theorem dX12_optionLine_130 : decode cX12_optionLine 130 = .ok (.iload_n 2, 1) := by decide +kernel
theorem dX12_optionLine_131 : decode cX12_optionLine 131 = .ok (.bipush 9, 2) := by decide +kernel
theorem dX12_optionLine_133 : decode cX12_optionLine 133 = .ok (.iadd, 1) := by decide +kernel
theorem dX12_optionLine_134 : decode cX12_optionLine 134 = .ok (.iconst 0, 1) := by decide +kernel
theorem dX12_optionLine_135 : decode cX12_optionLine 135 = .ok (.iastore, 1) := by decide +kernel
theorem dX12_optionLine_136 : decode cX12_optionLine 136 = .ok (.aload_n 0, 1) := by decide +kernel
theorem dX12_optionLine_137 : decode cX12_optionLine 137 = .ok (.invokevirtual 134, 3) := by decide +kernel
theorem dX12_optionLine_140 : decode cX12_optionLine 140 = .ok (.bipush 14, 2) := by decide +kernel
theorem dX12_optionLine_142 : decode cX12_optionLine 142 = .ok (.if_icmp .ne 23, 3) := by decide +kernel
theorem dX12_optionLine_145 : decode cX12_optionLine 145 = .ok (.aload_n 0, 1) := by decide +kernel
theorem dX12_optionLine_146 : decode cX12_optionLine 146 = .ok (.invokevirtual 131, 3) := by decide +kernel
theorem dX12_optionLine_149 : decode cX12_optionLine 149 = .ok (.aload_n 0, 1) := by decide +kernel
theorem dX12_optionLine_150 : decode cX12_optionLine 150 = .ok (.iload_n 2, 1) := by decide +kernel
theorem dX12_optionLine_151 : decode cX12_optionLine 151 = .ok (.bipush 8, 2) := by decide +kernel
theorem dX12_optionLine_153 : decode cX12_optionLine 153 = .ok (.iadd, 1) := by decide +kernel
theorem dX12_optionLine_154 : decode cX12_optionLine 154 = .ok (.iconst 1, 1) := by decide +kernel
theorem dX12_optionLine_155 : decode cX12_optionLine 155 = .ok (.bipush 99, 2) := by decide +kernel
theorem dX12_optionLine_157 : decode cX12_optionLine 157 = .ok (.invokevirtual 137, 3) := by decide +kernel
theorem dX12_optionLine_160 : decode cX12_optionLine 160 = .ok (.ifCond .ne 5, 3) := by decide +kernel
theorem dX12_optionLine_163 : decode cX12_optionLine 163 = .ok (.iconst 0, 1) := by decide +kernel
theorem dX12_optionLine_164 : decode cX12_optionLine 164 = .ok (.ireturn, 1) := by decide +kernel
theorem dX12_optionLine_165 : decode cX12_optionLine 165 = .ok (.aload_n 0, 1) := by decide +kernel
theorem dX12_optionLine_166 : decode cX12_optionLine 166 = .ok (.getfield 17, 3) := by decide +kernel
theorem dX12_optionLine_169 : decode cX12_optionLine 169 = .ok (.bipush 29, 2) := by decide +kernel
theorem dX12_optionLine_171 : decode cX12_optionLine 171 = .ok (.dup2, 1) := by decide +kernel
theorem dX12_optionLine_172 : decode cX12_optionLine 172 = .ok (.iaload, 1) := by decide +kernel
theorem dX12_optionLine_173 : decode cX12_optionLine 173 = .ok (.iconst 1, 1) := by decide +kernel
theorem dX12_optionLine_174 : decode cX12_optionLine 174 = .ok (.iadd, 1) := by decide +kernel
theorem dX12_optionLine_175 : decode cX12_optionLine 175 = .ok (.iastore, 1) := by decide +kernel
theorem dX12_optionLine_176 : decode cX12_optionLine 176 = .ok (.iconst 1, 1) := by decide +kernel
theorem dX12_optionLine_177 : decode cX12_optionLine 177 = .ok (.ireturn, 1) := by decide +kernel
theorem dX12_line_0 : decode cX12_line 0 = .ok (.iload_n 1, 1) := by decide +kernel
theorem dX12_line_1 : decode cX12_line 1 = .ok (.bipush 16, 2) := by decide +kernel
theorem dX12_line_3 : decode cX12_line 3 = .ok (.if_icmp .ne 14, 3) := by decide +kernel
theorem dX12_line_6 : decode cX12_line 6 = .ok (.aload_n 0, 1) := by decide +kernel
theorem dX12_line_7 : decode cX12_line 7 = .ok (.getfield 17, 3) := by decide +kernel
theorem dX12_line_10 : decode cX12_line 10 = .ok (.iconst 2, 1) := by decide +kernel
theorem dX12_line_11 : decode cX12_line 11 = .ok (.iaload, 1) := by decide +kernel
theorem dX12_line_12 : decode cX12_line 12 = .ok (.bipush 12, 2) := by decide +kernel
theorem dX12_line_14 : decode cX12_line 14 = .ok (.if_icmp .eq 20, 3) := by decide +kernel
theorem dX12_line_17 : decode cX12_line 17 = .ok (.iload_n 1, 1) := by decide +kernel
theorem dX12_line_18 : decode cX12_line 18 = .ok (.bipush 19, 2) := by decide +kernel
theorem dX12_line_20 : decode cX12_line 20 = .ok (.if_icmp .ne 20, 3) := by decide +kernel
theorem dX12_line_23 : decode cX12_line 23 = .ok (.aload_n 0, 1) := by decide +kernel
theorem dX12_line_24 : decode cX12_line 24 = .ok (.getfield 17, 3) := by decide +kernel
theorem dX12_line_27 : decode cX12_line 27 = .ok (.bipush 29, 2) := by decide +kernel
theorem dX12_line_29 : decode cX12_line 29 = .ok (.iaload, 1) := by decide +kernel
theorem dX12_line_30 : decode cX12_line 30 = .ok (.iconst 4, 1) := by decide +kernel
theorem dX12_line_31 : decode cX12_line 31 = .ok (.if_icmp .ne 9, 3) := by decide +kernel
theorem dX12_line_34 : decode cX12_line 34 = .ok (.aload_n 0, 1) := by decide +kernel
theorem dX12_line_35 : decode cX12_line 35 = .ok (.iconst 4, 1) := by decide +kernel
theorem dX12_line_36 : decode cX12_line 36 = .ok (.invokevirtual 128, 3) := by decide +kernel
theorem dX12_line_39 : decode cX12_line 39 = .ok (.ireturn, 1) := by decide +kernel
theorem dX12_line_40 : decode cX12_line 40 = .ok (.iload_n 1, 1) := by decide +kernel
theorem dX12_line_41 : decode cX12_line 41 = .ok (.bipush 18, 2) := by decide +kernel
theorem dX12_line_43 : decode cX12_line 43 = .ok (.if_icmp .ne 26, 3) := by decide +kernel
theorem dX12_line_46 : decode cX12_line 46 = .ok (.aload_n 0, 1) := by decide +kernel
theorem dX12_line_47 : decode cX12_line 47 = .ok (.getfield 17, 3) := by decide +kernel
theorem dX12_line_50 : decode cX12_line 50 = .ok (.bipush 16, 2) := by decide +kernel
theorem dX12_line_52 : decode cX12_line 52 = .ok (.aload_n 0, 1) := by decide +kernel
theorem dX12_line_53 : decode cX12_line 53 = .ok (.getfield 17, 3) := by decide +kernel
theorem dX12_line_56 : decode cX12_line 56 = .ok (.iconst 2, 1) := by decide +kernel
theorem dX12_line_57 : decode cX12_line 57 = .ok (.iaload, 1) := by decide +kernel
theorem dX12_line_58 : decode cX12_line 58 = .ok (.iadd, 1) := by decide +kernel
theorem dX12_line_59 : decode cX12_line 59 = .ok (.iaload, 1) := by decide +kernel
theorem dX12_line_60 : decode cX12_line 60 = .ok (.ifCond .le 9, 3) := by decide +kernel
theorem dX12_line_63 : decode cX12_line 63 = .ok (.aload_n 0, 1) := by decide +kernel
theorem dX12_line_64 : decode cX12_line 64 = .ok (.iconst 3, 1) := by decide +kernel
theorem dX12_line_65 : decode cX12_line 65 = .ok (.invokevirtual 128, 3) := by decide +kernel
theorem dX12_line_68 : decode cX12_line 68 = .ok (.ireturn, 1) := by decide +kernel
theorem dX12_line_69 : decode cX12_line 69 = .ok (.aload_n 0, 1) := by decide +kernel
theorem dX12_line_70 : decode cX12_line 70 = .ok (.invokevirtual 131, 3) := by decide +kernel
theorem dX12_line_73 : decode cX12_line 73 = .ok (.iload_n 1, 1) := by decide +kernel
theorem dX12_line_74 : decode cX12_line 74 = .ok (.tableswitch 81 15 18 #[30, 59, 81, 64], 30) := by decide +kernel
theorem dX12_line_104 : decode cX12_line 104 = .ok (.aload_n 0, 1) := by decide +kernel
theorem dX12_line_105 : decode cX12_line 105 = .ok (.iconst 0, 1) := by decide +kernel
theorem dX12_line_106 : decode cX12_line 106 = .ok (.iconst 0, 1) := by decide +kernel
theorem dX12_line_107 : decode cX12_line 107 = .ok (.sipush 999, 3) := by decide +kernel
theorem dX12_line_110 : decode cX12_line 110 = .ok (.invokevirtual 137, 3) := by decide +kernel
theorem dX12_line_113 : decode cX12_line 113 = .ok (.ifCond .eq 18, 3) := by decide +kernel
theorem dX12_line_116 : decode cX12_line 116 = .ok (.aload_n 0, 1) := by decide +kernel
theorem dX12_line_117 : decode cX12_line 117 = .ok (.iconst 1, 1) := by decide +kernel
theorem dX12_line_118 : decode cX12_line 118 = .ok (.iconst 2, 1) := by decide +kernel
theorem dX12_line_119 : decode cX12_line 119 = .ok (.bipush 9, 2) := by decide +kernel
theorem dX12_line_121 : decode cX12_line 121 = .ok (.invokevirtual 137, 3) := by decide +kernel
theorem dX12_line_124 : decode cX12_line 124 = .ok (.ifCond .eq 7, 3) := by decide +kernel
theorem dX12_line_127 : decode cX12_line 127 = .ok (.iconst 1, 1) := by decide +kernel
theorem dX12_line_128 : decode cX12_line 128 = .ok (.goto 4, 3) := by decide +kernel
theorem dX12_line_131 : decode cX12_line 131 = .ok (.iconst 0, 1) := by decide +kernel
theorem dX12_line_132 : decode cX12_line 132 = .ok (.ireturn, 1) := by decide +kernel
theorem dX12_line_133 : decode cX12_line 133 = .ok (.aload_n 0, 1) := by decide +kernel
theorem dX12_line_134 : decode cX12_line 134 = .ok (.invokevirtual 161, 3) := by decide +kernel
theorem dX12_line_137 : decode cX12_line 137 = .ok (.ireturn, 1) := by decide +kernel
theorem dX12_line_138 : decode cX12_line 138 = .ok (.aload_n 0, 1) := by decide +kernel
theorem dX12_line_139 : decode cX12_line 139 = .ok (.bipush 16, 2) := by decide +kernel
theorem dX12_line_141 : decode cX12_line 141 = .ok (.aload_n 0, 1) := by decide +kernel
theorem dX12_line_142 : decode cX12_line 142 = .ok (.getfield 17, 3) := by decide +kernel
theorem dX12_line_145 : decode cX12_line 145 = .ok (.iconst 2, 1) := by decide +kernel
theorem dX12_line_146 : decode cX12_line 146 = .ok (.iaload, 1) := by decide +kernel
theorem dX12_line_147 : decode cX12_line 147 = .ok (.iadd, 1) := by decide +kernel
theorem dX12_line_148 : decode cX12_line 148 = .ok (.iconst 1, 1) := by decide +kernel
theorem dX12_line_149 : decode cX12_line 149 = .ok (.bipush 99, 2) := by decide +kernel
theorem dX12_line_151 : decode cX12_line 151 = .ok (.invokevirtual 137, 3) := by decide +kernel
theorem dX12_line_154 : decode cX12_line 154 = .ok (.ireturn, 1) := by decide +kernel
theorem dX12_line_155 : decode cX12_line 155 = .ok (.aload_n 0, 1) := by decide +kernel
theorem dX12_line_156 : decode cX12_line 156 = .ok (.invokevirtual 164, 3) := by decide +kernel
theorem dX12_line_159 : decode cX12_line 159 = .ok (.ireturn, 1) := by decide +kernel
theorem dX12_reads_0 : decode cX12_reads 0 = .ok (.aload_n 0, 1) := by decide +kernel
theorem dX12_reads_1 : decode cX12_reads 1 = .ok (.getfield 17, 3) := by decide +kernel
theorem dX12_reads_4 : decode cX12_reads 4 = .ok (.invokestatic 71, 3) := by decide +kernel
theorem dX12_reads_7 : decode cX12_reads 7 = .ok (.aload_n 0, 1) := by decide +kernel
theorem dX12_reads_8 : decode cX12_reads 8 = .ok (.getfield 85, 3) := by decide +kernel
theorem dX12_reads_11 : decode cX12_reads 11 = .ok (.sipush 500, 3) := by decide +kernel
theorem dX12_reads_14 : decode cX12_reads 14 = .ok (.if_icmp .le 12, 3) := by decide +kernel
theorem dX12_reads_17 : decode cX12_reads 17 = .ok (.aload_n 0, 1) := by decide +kernel
theorem dX12_reads_18 : decode cX12_reads 18 = .ok (.iconst 1, 1) := by decide +kernel
theorem dX12_reads_19 : decode cX12_reads 19 = .ok (.sipush 500, 3) := by decide +kernel
theorem dX12_reads_22 : decode cX12_reads 22 = .ok (.invokevirtual 101, 3) := by decide +kernel
theorem dX12_reads_25 : decode cX12_reads 25 = .ok (.ireturn, 1) := by decide +kernel
theorem dX12_reads_26 : decode cX12_reads 26 = .ok (.aload_n 0, 1) := by decide +kernel
theorem dX12_reads_27 : decode cX12_reads 27 = .ok (.iconst 0, 1) := by decide +kernel
theorem dX12_reads_28 : decode cX12_reads 28 = .ok (.putfield 82, 3) := by decide +kernel
theorem dX12_reads_31 : decode cX12_reads 31 = .ok (.aload_n 0, 1) := by decide +kernel
theorem dX12_reads_32 : decode cX12_reads 32 = .ok (.invokevirtual 131, 3) := by decide +kernel
theorem dX12_reads_35 : decode cX12_reads 35 = .ok (.iconst 1, 1) := by decide +kernel
theorem dX12_reads_36 : decode cX12_reads 36 = .ok (.istore_n 1, 1) := by decide +kernel
theorem dX12_reads_37 : decode cX12_reads 37 = .ok (.aload_n 0, 1) := by decide +kernel
theorem dX12_reads_38 : decode cX12_reads 38 = .ok (.getfield 109, 3) := by decide +kernel
theorem dX12_reads_41 : decode cX12_reads 41 = .ok (.ifCond .eq 75, 3) := by decide +kernel
theorem dX12_reads_44 : decode cX12_reads 44 = .ok (.aload_n 0, 1) := by decide +kernel
theorem dX12_reads_45 : decode cX12_reads 45 = .ok (.invokevirtual 134, 3) := by decide +kernel
theorem dX12_reads_48 : decode cX12_reads 48 = .ok (.istore_n 2, 1) := by decide +kernel
theorem dX12_reads_49 : decode cX12_reads 49 = .ok (.iload_n 2, 1) := by decide +kernel
theorem dX12_reads_50 : decode cX12_reads 50 = .ok (.bipush 16, 2) := by decide +kernel
theorem dX12_reads_52 : decode cX12_reads 52 = .ok (.if_icmp .eq 31, 3) := by decide +kernel
theorem dX12_reads_55 : decode cX12_reads 55 = .ok (.iload_n 2, 1) := by decide +kernel
theorem dX12_reads_56 : decode cX12_reads 56 = .ok (.bipush 18, 2) := by decide +kernel
theorem dX12_reads_58 : decode cX12_reads 58 = .ok (.if_icmp .eq 25, 3) := by decide +kernel
theorem dX12_reads_61 : decode cX12_reads 61 = .ok (.iload_n 2, 1) := by decide +kernel
theorem dX12_reads_62 : decode cX12_reads 62 = .ok (.bipush 19, 2) := by decide +kernel
theorem dX12_reads_64 : decode cX12_reads 64 = .ok (.if_icmp .eq 19, 3) := by decide +kernel
theorem dX12_reads_67 : decode cX12_reads 67 = .ok (.iload_n 2, 1) := by decide +kernel
theorem dX12_reads_68 : decode cX12_reads 68 = .ok (.bipush 15, 2) := by decide +kernel
theorem dX12_reads_70 : decode cX12_reads 70 = .ok (.if_icmp .ne 7, 3) := by decide +kernel
theorem dX12_reads_73 : decode cX12_reads 73 = .ok (.iload_n 1, 1) := by decide +kernel
theorem dX12_reads_74 : decode cX12_reads 74 = .ok (.ifCond .ne 9, 3) := by decide +kernel
theorem dX12_reads_77 : decode cX12_reads 77 = .ok (.aload_n 0, 1) := by decide +kernel
theorem dX12_reads_78 : decode cX12_reads 78 = .ok (.iconst 1, 1) := by decide +kernel
theorem dX12_reads_79 : decode cX12_reads 79 = .ok (.invokevirtual 128, 3) := by decide +kernel
theorem dX12_reads_82 : decode cX12_reads 82 = .ok (.ireturn, 1) := by decide +kernel
theorem dX12_reads_83 : decode cX12_reads 83 = .ok (.iconst 0, 1) := by decide +kernel
theorem dX12_reads_84 : decode cX12_reads 84 = .ok (.istore_n 1, 1) := by decide +kernel
theorem dX12_reads_85 : decode cX12_reads 85 = .ok (.aload_n 0, 1) := by decide +kernel
theorem dX12_reads_86 : decode cX12_reads 86 = .ok (.iload_n 2, 1) := by decide +kernel
theorem dX12_reads_87 : decode cX12_reads 87 = .ok (.invokevirtual 167, 3) := by decide +kernel
theorem dX12_reads_90 : decode cX12_reads 90 = .ok (.ifCond .ne 5, 3) := by decide +kernel
theorem dX12_reads_93 : decode cX12_reads 93 = .ok (.iconst 0, 1) := by decide +kernel
theorem dX12_reads_94 : decode cX12_reads 94 = .ok (.ireturn, 1) := by decide +kernel
theorem dX12_reads_95 : decode cX12_reads 95 = .ok (.aload_n 0, 1) := by decide +kernel
theorem dX12_reads_96 : decode cX12_reads 96 = .ok (.getfield 109, 3) := by decide +kernel
theorem dX12_reads_99 : decode cX12_reads 99 = .ok (.iconst 3, 1) := by decide +kernel
theorem dX12_reads_100 : decode cX12_reads 100 = .ok (.if_icmp .eq 9, 3) := by decide +kernel
theorem dX12_reads_103 : decode cX12_reads 103 = .ok (.aload_n 0, 1) := by decide +kernel
theorem dX12_reads_104 : decode cX12_reads 104 = .ok (.iconst 1, 1) := by decide +kernel
theorem dX12_reads_105 : decode cX12_reads 105 = .ok (.invokevirtual 128, 3) := by decide +kernel
theorem dX12_reads_108 : decode cX12_reads 108 = .ok (.ireturn, 1) := by decide +kernel
theorem dX12_reads_109 : decode cX12_reads 109 = .ok (.aload_n 0, 1) := by decide +kernel
theorem dX12_reads_110 : decode cX12_reads 110 = .ok (.invokevirtual 131, 3) := by decide +kernel
theorem dX12_reads_113 : decode cX12_reads 113 = .ok (.goto (-76), 3) := by decide +kernel
theorem dX12_reads_116 : decode cX12_reads 116 = .ok (.iconst 1, 1) := by decide +kernel
theorem dX12_reads_117 : decode cX12_reads 117 = .ok (.ireturn, 1) := by decide +kernel
theorem dX12_bench_0 : decode cX12_bench 0 = .ok (.aload_n 0, 1) := by decide +kernel
theorem dX12_bench_1 : decode cX12_bench 1 = .ok (.iconst 0, 1) := by decide +kernel
theorem dX12_bench_2 : decode cX12_bench 2 = .ok (.putfield 1, 3) := by decide +kernel
theorem dX12_bench_5 : decode cX12_bench 5 = .ok (.aload_n 0, 1) := by decide +kernel
theorem dX12_bench_6 : decode cX12_bench 6 = .ok (.aload_n 0, 1) := by decide +kernel
theorem dX12_bench_7 : decode cX12_bench 7 = .ok (.getfield 75, 3) := by decide +kernel
theorem dX12_bench_10 : decode cX12_bench 10 = .ok (.putfield 85, 3) := by decide +kernel
theorem dX12_bench_13 : decode cX12_bench 13 = .ok (.aload_n 0, 1) := by decide +kernel
theorem dX12_bench_14 : decode cX12_bench 14 = .ok (.iconst 0, 1) := by decide +kernel
theorem dX12_bench_15 : decode cX12_bench 15 = .ok (.putfield 75, 3) := by decide +kernel
theorem dX12_bench_18 : decode cX12_bench 18 = .ok (.aload_n 0, 1) := by decide +kernel
theorem dX12_bench_19 : decode cX12_bench 19 = .ok (.iconst 0, 1) := by decide +kernel
theorem dX12_bench_20 : decode cX12_bench 20 = .ok (.putfield 92, 3) := by decide +kernel
theorem dX12_bench_23 : decode cX12_bench 23 = .ok (.aload_n 0, 1) := by decide +kernel
theorem dX12_bench_24 : decode cX12_bench 24 = .ok (.invokevirtual 170, 3) := by decide +kernel
theorem dX12_bench_27 : decode cX12_bench 27 = .ok (.ifCond .ne 12, 3) := by decide +kernel
theorem dX12_bench_30 : decode cX12_bench 30 = .ok (.sipush (-1000), 3) := by decide +kernel
theorem dX12_bench_33 : decode cX12_bench 33 = .ok (.aload_n 0, 1) := by decide +kernel
theorem dX12_bench_34 : decode cX12_bench 34 = .ok (.getfield 95, 3) := by decide +kernel
theorem dX12_bench_37 : decode cX12_bench 37 = .ok (.isub, 1) := by decide +kernel
theorem dX12_bench_38 : decode cX12_bench 38 = .ok (.ireturn, 1) := by decide +kernel
theorem dX12_bench_39 : decode cX12_bench 39 = .ok (.aload_n 0, 1) := by decide +kernel
theorem dX12_bench_40 : decode cX12_bench 40 = .ok (.getfield 17, 3) := by decide +kernel
theorem dX12_bench_43 : decode cX12_bench 43 = .ok (.iconst 0, 1) := by decide +kernel
theorem dX12_bench_44 : decode cX12_bench 44 = .ok (.aload_n 0, 1) := by decide +kernel
theorem dX12_bench_45 : decode cX12_bench 45 = .ok (.getfield 13, 3) := by decide +kernel
theorem dX12_bench_48 : decode cX12_bench 48 = .ok (.iconst 0, 1) := by decide +kernel
theorem dX12_bench_49 : decode cX12_bench 49 = .ok (.invokestatic 173, 3) := by decide +kernel
theorem dX12_bench_52 : decode cX12_bench 52 = .ok (.aload_n 0, 1) := by decide +kernel
theorem dX12_bench_53 : decode cX12_bench 53 = .ok (.iconst 0, 1) := by decide +kernel
theorem dX12_bench_54 : decode cX12_bench 54 = .ok (.putfield 177, 3) := by decide +kernel
theorem dX12_bench_57 : decode cX12_bench 57 = .ok (.aload_n 0, 1) := by decide +kernel
theorem dX12_bench_58 : decode cX12_bench 58 = .ok (.iconst 0, 1) := by decide +kernel
theorem dX12_bench_59 : decode cX12_bench 59 = .ok (.putfield 180, 3) := by decide +kernel
theorem dX12_bench_62 : decode cX12_bench 62 = .ok (.aload_n 0, 1) := by decide +kernel
theorem dX12_bench_63 : decode cX12_bench 63 = .ok (.getfield 13, 3) := by decide +kernel
theorem dX12_bench_66 : decode cX12_bench 66 = .ok (.bipush 29, 2) := by decide +kernel
theorem dX12_bench_68 : decode cX12_bench 68 = .ok (.iaload, 1) := by decide +kernel
theorem dX12_bench_69 : decode cX12_bench 69 = .ok (.ireturn, 1) := by decide +kernel
theorem dX12_fault_0 : decode cX12_fault 0 = .ok (.aload_n 0, 1) := by decide +kernel
theorem dX12_fault_1 : decode cX12_fault 1 = .ok (.iconst 0, 1) := by decide +kernel
theorem dX12_fault_2 : decode cX12_fault 2 = .ok (.putfield 1, 3) := by decide +kernel
theorem dX12_fault_5 : decode cX12_fault 5 = .ok (.aload_n 0, 1) := by decide +kernel
theorem dX12_fault_6 : decode cX12_fault 6 = .ok (.getfield 92, 3) := by decide +kernel
theorem dX12_fault_9 : decode cX12_fault 9 = .ok (.ireturn, 1) := by decide +kernel
theorem dX12_isNode_0 : decode cX12_isNode 0 = .ok (.iload_n 1, 1) := by decide +kernel
theorem dX12_isNode_1 : decode cX12_isNode 1 = .ok (.iconst 0, 1) := by decide +kernel
theorem dX12_isNode_2 : decode cX12_isNode 2 = .ok (.aload_n 0, 1) := by decide +kernel
theorem dX12_isNode_3 : decode cX12_isNode 3 = .ok (.getfield 13, 3) := by decide +kernel
theorem dX12_isNode_6 : decode cX12_isNode 6 = .ok (.iconst 2, 1) := by decide +kernel
theorem dX12_isNode_7 : decode cX12_isNode 7 = .ok (.iaload, 1) := by decide +kernel
theorem dX12_isNode_8 : decode cX12_isNode 8 = .ok (.invokestatic 88, 3) := by decide +kernel
theorem dX12_isNode_11 : decode cX12_isNode 11 = .ok (.ifCond .eq 16, 3) := by decide +kernel
theorem dX12_isNode_14 : decode cX12_isNode 14 = .ok (.iload_n 2, 1) := by decide +kernel
theorem dX12_isNode_15 : decode cX12_isNode 15 = .ok (.iconst 0, 1) := by decide +kernel
theorem dX12_isNode_16 : decode cX12_isNode 16 = .ok (.iload_n 1, 1) := by decide +kernel
theorem dX12_isNode_17 : decode cX12_isNode 17 = .ok (.invokestatic 88, 3) := by decide +kernel
theorem dX12_isNode_20 : decode cX12_isNode 20 = .ok (.ifCond .eq 7, 3) := by decide +kernel
theorem dX12_isNode_23 : decode cX12_isNode 23 = .ok (.iconst 1, 1) := by decide +kernel
theorem dX12_isNode_24 : decode cX12_isNode 24 = .ok (.goto 4, 3) := by decide +kernel
theorem dX12_isNode_27 : decode cX12_isNode 27 = .ok (.iconst 0, 1) := by decide +kernel
theorem dX12_isNode_28 : decode cX12_isNode 28 = .ok (.ireturn, 1) := by decide +kernel
theorem dX12_stripped_0 : decode cX12_stripped 0 = .ok (.aload_n 0, 1) := by decide +kernel
theorem dX12_stripped_1 : decode cX12_stripped 1 = .ok (.getfield 13, 3) := by decide +kernel
theorem dX12_stripped_4 : decode cX12_stripped 4 = .ok (.iconst 0, 1) := by decide +kernel
theorem dX12_stripped_5 : decode cX12_stripped 5 = .ok (.iaload, 1) := by decide +kernel
theorem dX12_stripped_6 : decode cX12_stripped 6 = .ok (.iload_n 2, 1) := by decide +kernel
theorem dX12_stripped_7 : decode cX12_stripped 7 = .ok (.aload_n 0, 1) := by decide +kernel
theorem dX12_stripped_8 : decode cX12_stripped 8 = .ok (.getfield 13, 3) := by decide +kernel
theorem dX12_stripped_11 : decode cX12_stripped 11 = .ok (.iconst 1, 1) := by decide +kernel
theorem dX12_stripped_12 : decode cX12_stripped 12 = .ok (.iaload, 1) := by decide +kernel
theorem dX12_stripped_13 : decode cX12_stripped 13 = .ok (.imul, 1) := by decide +kernel
theorem dX12_stripped_14 : decode cX12_stripped 14 = .ok (.iadd, 1) := by decide +kernel
theorem dX12_stripped_15 : decode cX12_stripped 15 = .ok (.istore_n 3, 1) := by decide +kernel
theorem dX12_stripped_16 : decode cX12_stripped 16 = .ok (.iconst 1, 1) := by decide +kernel
theorem dX12_stripped_17 : decode cX12_stripped 17 = .ok (.istore 4, 2) := by decide +kernel
theorem dX12_stripped_19 : decode cX12_stripped 19 = .ok (.iload 4, 2) := by decide +kernel
theorem dX12_stripped_21 : decode cX12_stripped 21 = .ok (.iload_n 1, 1) := by decide +kernel
theorem dX12_stripped_22 : decode cX12_stripped 22 = .ok (.if_icmp .gt 21, 3) := by decide +kernel
theorem dX12_stripped_25 : decode cX12_stripped 25 = .ok (.iload_n 3, 1) := by decide +kernel
theorem dX12_stripped_26 : decode cX12_stripped 26 = .ok (.aload_n 0, 1) := by decide +kernel
theorem dX12_stripped_27 : decode cX12_stripped 27 = .ok (.getfield 13, 3) := by decide +kernel
theorem dX12_stripped_30 : decode cX12_stripped 30 = .ok (.iconst 3, 1) := by decide +kernel
theorem dX12_stripped_31 : decode cX12_stripped 31 = .ok (.iload 4, 2) := by decide +kernel
theorem dX12_stripped_33 : decode cX12_stripped 33 = .ok (.iadd, 1) := by decide +kernel
theorem dX12_stripped_34 : decode cX12_stripped 34 = .ok (.iaload, 1) := by decide +kernel
theorem dX12_stripped_35 : decode cX12_stripped 35 = .ok (.isub, 1) := by decide +kernel
theorem dX12_stripped_36 : decode cX12_stripped 36 = .ok (.istore_n 3, 1) := by decide +kernel
theorem dX12_stripped_37 : decode cX12_stripped 37 = .ok (.iinc 4 1, 3) := by decide +kernel
theorem dX12_stripped_40 : decode cX12_stripped 40 = .ok (.goto (-21), 3) := by decide +kernel
theorem dX12_stripped_43 : decode cX12_stripped 43 = .ok (.iload_n 3, 1) := by decide +kernel
theorem dX12_stripped_44 : decode cX12_stripped 44 = .ok (.ireturn, 1) := by decide +kernel
theorem dX12_cashFrom_0 : decode cX12_cashFrom 0 = .ok (.iconst 0, 1) := by decide +kernel
theorem dX12_cashFrom_1 : decode cX12_cashFrom 1 = .ok (.istore_n 2, 1) := by decide +kernel
theorem dX12_cashFrom_2 : decode cX12_cashFrom 2 = .ok (.iload_n 1, 1) := by decide +kernel
theorem dX12_cashFrom_3 : decode cX12_cashFrom 3 = .ok (.istore_n 3, 1) := by decide +kernel
theorem dX12_cashFrom_4 : decode cX12_cashFrom 4 = .ok (.iload_n 3, 1) := by decide +kernel
theorem dX12_cashFrom_5 : decode cX12_cashFrom 5 = .ok (.aload_n 0, 1) := by decide +kernel
theorem dX12_cashFrom_6 : decode cX12_cashFrom 6 = .ok (.getfield 13, 3) := by decide +kernel
theorem dX12_cashFrom_9 : decode cX12_cashFrom 9 = .ok (.iconst 2, 1) := by decide +kernel
theorem dX12_cashFrom_10 : decode cX12_cashFrom 10 = .ok (.iaload, 1) := by decide +kernel
theorem dX12_cashFrom_11 : decode cX12_cashFrom 11 = .ok (.if_icmp .gt 21, 3) := by decide +kernel
theorem dX12_cashFrom_14 : decode cX12_cashFrom 14 = .ok (.iload_n 2, 1) := by decide +kernel
theorem dX12_cashFrom_15 : decode cX12_cashFrom 15 = .ok (.aload_n 0, 1) := by decide +kernel
theorem dX12_cashFrom_16 : decode cX12_cashFrom 16 = .ok (.getfield 13, 3) := by decide +kernel
theorem dX12_cashFrom_19 : decode cX12_cashFrom 19 = .ok (.bipush 16, 2) := by decide +kernel
theorem dX12_cashFrom_21 : decode cX12_cashFrom 21 = .ok (.iload_n 3, 1) := by decide +kernel
theorem dX12_cashFrom_22 : decode cX12_cashFrom 22 = .ok (.iadd, 1) := by decide +kernel
theorem dX12_cashFrom_23 : decode cX12_cashFrom 23 = .ok (.iaload, 1) := by decide +kernel
theorem dX12_cashFrom_24 : decode cX12_cashFrom 24 = .ok (.iadd, 1) := by decide +kernel
theorem dX12_cashFrom_25 : decode cX12_cashFrom 25 = .ok (.istore_n 2, 1) := by decide +kernel
theorem dX12_cashFrom_26 : decode cX12_cashFrom 26 = .ok (.iinc 3 1, 3) := by decide +kernel
theorem dX12_cashFrom_29 : decode cX12_cashFrom 29 = .ok (.goto (-25), 3) := by decide +kernel
theorem dX12_cashFrom_32 : decode cX12_cashFrom 32 = .ok (.iload_n 2, 1) := by decide +kernel
theorem dX12_cashFrom_33 : decode cX12_cashFrom 33 = .ok (.ireturn, 1) := by decide +kernel
theorem dX12_priceAt_0 : decode cX12_priceAt 0 = .ok (.aload_n 0, 1) := by decide +kernel
theorem dX12_priceAt_1 : decode cX12_priceAt 1 = .ok (.iload_n 1, 1) := by decide +kernel
theorem dX12_priceAt_2 : decode cX12_priceAt 2 = .ok (.iload_n 2, 1) := by decide +kernel
theorem dX12_priceAt_3 : decode cX12_priceAt 3 = .ok (.invokevirtual 184, 3) := by decide +kernel
theorem dX12_priceAt_6 : decode cX12_priceAt 6 = .ok (.aload_n 0, 1) := by decide +kernel
theorem dX12_priceAt_7 : decode cX12_priceAt 7 = .ok (.iload_n 1, 1) := by decide +kernel
theorem dX12_priceAt_8 : decode cX12_priceAt 8 = .ok (.invokevirtual 188, 3) := by decide +kernel
theorem dX12_priceAt_11 : decode cX12_priceAt 11 = .ok (.iadd, 1) := by decide +kernel
theorem dX12_priceAt_12 : decode cX12_priceAt 12 = .ok (.ireturn, 1) := by decide +kernel
theorem dX12_count_0 : decode cX12_count 0 = .ok (.aload_n 0, 1) := by decide +kernel
theorem dX12_count_1 : decode cX12_count 1 = .ok (.iconst 0, 1) := by decide +kernel
theorem dX12_count_2 : decode cX12_count 2 = .ok (.putfield 1, 3) := by decide +kernel
theorem dX12_count_5 : decode cX12_count 5 = .ok (.iload_n 1, 1) := by decide +kernel
theorem dX12_count_6 : decode cX12_count 6 = .ok (.tableswitch 87 0 6 #[42, 49, 57, 64, 71, 77, 82], 42) := by decide +kernel
theorem dX12_count_48 : decode cX12_count 48 = .ok (.aload_n 0, 1) := by decide +kernel
theorem dX12_count_49 : decode cX12_count 49 = .ok (.getfield 13, 3) := by decide +kernel
theorem dX12_count_52 : decode cX12_count 52 = .ok (.iconst 2, 1) := by decide +kernel
theorem dX12_count_53 : decode cX12_count 53 = .ok (.iaload, 1) := by decide +kernel
theorem dX12_count_54 : decode cX12_count 54 = .ok (.ireturn, 1) := by decide +kernel
theorem dX12_count_55 : decode cX12_count 55 = .ok (.aload_n 0, 1) := by decide +kernel
theorem dX12_count_56 : decode cX12_count 56 = .ok (.getfield 13, 3) := by decide +kernel
theorem dX12_count_59 : decode cX12_count 59 = .ok (.bipush 29, 2) := by decide +kernel
theorem dX12_count_61 : decode cX12_count 61 = .ok (.iaload, 1) := by decide +kernel
theorem dX12_count_62 : decode cX12_count 62 = .ok (.ireturn, 1) := by decide +kernel
theorem dX12_count_63 : decode cX12_count 63 = .ok (.aload_n 0, 1) := by decide +kernel
theorem dX12_count_64 : decode cX12_count 64 = .ok (.getfield 13, 3) := by decide +kernel
theorem dX12_count_67 : decode cX12_count 67 = .ok (.iconst 1, 1) := by decide +kernel
theorem dX12_count_68 : decode cX12_count 68 = .ok (.iaload, 1) := by decide +kernel
theorem dX12_count_69 : decode cX12_count 69 = .ok (.ireturn, 1) := by decide +kernel
theorem dX12_count_70 : decode cX12_count 70 = .ok (.aload_n 0, 1) := by decide +kernel
theorem dX12_count_71 : decode cX12_count 71 = .ok (.getfield 13, 3) := by decide +kernel
theorem dX12_count_74 : decode cX12_count 74 = .ok (.iconst 0, 1) := by decide +kernel
theorem dX12_count_75 : decode cX12_count 75 = .ok (.iaload, 1) := by decide +kernel
theorem dX12_count_76 : decode cX12_count 76 = .ok (.ireturn, 1) := by decide +kernel
theorem dX12_count_77 : decode cX12_count 77 = .ok (.aload_n 0, 1) := by decide +kernel
theorem dX12_count_78 : decode cX12_count 78 = .ok (.iconst 0, 1) := by decide +kernel
theorem dX12_count_79 : decode cX12_count 79 = .ok (.invokevirtual 188, 3) := by decide +kernel
theorem dX12_count_82 : decode cX12_count 82 = .ok (.ireturn, 1) := by decide +kernel
theorem dX12_count_83 : decode cX12_count 83 = .ok (.aload_n 0, 1) := by decide +kernel
theorem dX12_count_84 : decode cX12_count 84 = .ok (.getfield 177, 3) := by decide +kernel
theorem dX12_count_87 : decode cX12_count 87 = .ok (.ireturn, 1) := by decide +kernel
theorem dX12_count_88 : decode cX12_count 88 = .ok (.aload_n 0, 1) := by decide +kernel
theorem dX12_count_89 : decode cX12_count 89 = .ok (.getfield 75, 3) := by decide +kernel
theorem dX12_count_92 : decode cX12_count 92 = .ok (.ireturn, 1) := by decide +kernel
theorem dX12_count_93 : decode cX12_count 93 = .ok (.iconst (-1), 1) := by decide +kernel
theorem dX12_count_94 : decode cX12_count 94 = .ok (.ireturn, 1) := by decide +kernel
theorem dX12_step_0 : decode cX12_step 0 = .ok (.aload_n 0, 1) := by decide +kernel
theorem dX12_step_1 : decode cX12_step 1 = .ok (.iconst 0, 1) := by decide +kernel
theorem dX12_step_2 : decode cX12_step 2 = .ok (.putfield 1, 3) := by decide +kernel
theorem dX12_step_5 : decode cX12_step 5 = .ok (.iload_n 2, 1) := by decide +kernel
theorem dX12_step_6 : decode cX12_step 6 = .ok (.ifCond .ne 26, 3) := by decide +kernel
theorem dX12_step_9 : decode cX12_step 9 = .ok (.iload_n 1, 1) := by decide +kernel
theorem dX12_step_10 : decode cX12_step 10 = .ok (.iconst 1, 1) := by decide +kernel
theorem dX12_step_11 : decode cX12_step 11 = .ok (.aload_n 0, 1) := by decide +kernel
theorem dX12_step_12 : decode cX12_step 12 = .ok (.getfield 13, 3) := by decide +kernel
theorem dX12_step_15 : decode cX12_step 15 = .ok (.iconst 2, 1) := by decide +kernel
theorem dX12_step_16 : decode cX12_step 16 = .ok (.iaload, 1) := by decide +kernel
theorem dX12_step_17 : decode cX12_step 17 = .ok (.invokestatic 88, 3) := by decide +kernel
theorem dX12_step_20 : decode cX12_step 20 = .ok (.ifCond .eq 12, 3) := by decide +kernel
theorem dX12_step_23 : decode cX12_step 23 = .ok (.aload_n 0, 1) := by decide +kernel
theorem dX12_step_24 : decode cX12_step 24 = .ok (.getfield 13, 3) := by decide +kernel
theorem dX12_step_27 : decode cX12_step 27 = .ok (.iconst 3, 1) := by decide +kernel
theorem dX12_step_28 : decode cX12_step 28 = .ok (.iload_n 1, 1) := by decide +kernel
theorem dX12_step_29 : decode cX12_step 29 = .ok (.iadd, 1) := by decide +kernel
theorem dX12_step_30 : decode cX12_step 30 = .ok (.iaload, 1) := by decide +kernel
theorem dX12_step_31 : decode cX12_step 31 = .ok (.ireturn, 1) := by decide +kernel
theorem dX12_step_32 : decode cX12_step 32 = .ok (.iload_n 2, 1) := by decide +kernel
theorem dX12_step_33 : decode cX12_step 33 = .ok (.iconst 1, 1) := by decide +kernel
theorem dX12_step_34 : decode cX12_step 34 = .ok (.if_icmp .ne 29, 3) := by decide +kernel
theorem dX12_step_37 : decode cX12_step 37 = .ok (.iload_n 1, 1) := by decide +kernel
theorem dX12_step_38 : decode cX12_step 38 = .ok (.iconst 0, 1) := by decide +kernel
theorem dX12_step_39 : decode cX12_step 39 = .ok (.aload_n 0, 1) := by decide +kernel
theorem dX12_step_40 : decode cX12_step 40 = .ok (.getfield 13, 3) := by decide +kernel
theorem dX12_step_43 : decode cX12_step 43 = .ok (.iconst 2, 1) := by decide +kernel
theorem dX12_step_44 : decode cX12_step 44 = .ok (.iaload, 1) := by decide +kernel
theorem dX12_step_45 : decode cX12_step 45 = .ok (.invokestatic 88, 3) := by decide +kernel
theorem dX12_step_48 : decode cX12_step 48 = .ok (.ifCond .eq 15, 3) := by decide +kernel
theorem dX12_step_51 : decode cX12_step 51 = .ok (.aload_n 0, 1) := by decide +kernel
theorem dX12_step_52 : decode cX12_step 52 = .ok (.getfield 13, 3) := by decide +kernel
theorem dX12_step_55 : decode cX12_step 55 = .ok (.bipush 16, 2) := by decide +kernel
theorem dX12_step_57 : decode cX12_step 57 = .ok (.iload_n 1, 1) := by decide +kernel
theorem dX12_step_58 : decode cX12_step 58 = .ok (.iadd, 1) := by decide +kernel
theorem dX12_step_59 : decode cX12_step 59 = .ok (.iaload, 1) := by decide +kernel
theorem dX12_step_60 : decode cX12_step 60 = .ok (.goto 4, 3) := by decide +kernel
theorem dX12_step_63 : decode cX12_step 63 = .ok (.iconst (-1), 1) := by decide +kernel
theorem dX12_step_64 : decode cX12_step 64 = .ok (.ireturn, 1) := by decide +kernel
theorem dX12_isOption_0 : decode cX12_isOption 0 = .ok (.iload_n 1, 1) := by decide +kernel
theorem dX12_isOption_1 : decode cX12_isOption 1 = .ok (.iconst 0, 1) := by decide +kernel
theorem dX12_isOption_2 : decode cX12_isOption 2 = .ok (.aload_n 0, 1) := by decide +kernel
theorem dX12_isOption_3 : decode cX12_isOption 3 = .ok (.getfield 13, 3) := by decide +kernel
theorem dX12_isOption_6 : decode cX12_isOption 6 = .ok (.bipush 29, 2) := by decide +kernel
theorem dX12_isOption_8 : decode cX12_isOption 8 = .ok (.iaload, 1) := by decide +kernel
theorem dX12_isOption_9 : decode cX12_isOption 9 = .ok (.iconst 1, 1) := by decide +kernel
theorem dX12_isOption_10 : decode cX12_isOption 10 = .ok (.isub, 1) := by decide +kernel
theorem dX12_isOption_11 : decode cX12_isOption 11 = .ok (.invokestatic 88, 3) := by decide +kernel
theorem dX12_isOption_14 : decode cX12_isOption 14 = .ok (.ireturn, 1) := by decide +kernel
theorem dX12_get_0 : decode cX12_get 0 = .ok (.aload_n 0, 1) := by decide +kernel
theorem dX12_get_1 : decode cX12_get 1 = .ok (.getfield 13, 3) := by decide +kernel
theorem dX12_get_4 : decode cX12_get 4 = .ok (.bipush 30, 2) := by decide +kernel
theorem dX12_get_6 : decode cX12_get 6 = .ok (.bipush 10, 2) := by decide +kernel
theorem dX12_get_8 : decode cX12_get 8 = .ok (.iload_n 1, 1) := by decide +kernel
theorem dX12_get_9 : decode cX12_get 9 = .ok (.imul, 1) := by decide +kernel
theorem dX12_get_10 : decode cX12_get 10 = .ok (.iadd, 1) := by decide +kernel
theorem dX12_get_11 : decode cX12_get 11 = .ok (.iload_n 2, 1) := by decide +kernel
theorem dX12_get_12 : decode cX12_get 12 = .ok (.iadd, 1) := by decide +kernel
theorem dX12_get_13 : decode cX12_get 13 = .ok (.iaload, 1) := by decide +kernel
theorem dX12_get_14 : decode cX12_get 14 = .ok (.ireturn, 1) := by decide +kernel
theorem dX12_firstMay_0 : decode cX12_firstMay 0 = .ok (.aload_n 0, 1) := by decide +kernel
theorem dX12_firstMay_1 : decode cX12_firstMay 1 = .ok (.iload_n 1, 1) := by decide +kernel
theorem dX12_firstMay_2 : decode cX12_firstMay 2 = .ok (.iconst 3, 1) := by decide +kernel
theorem dX12_firstMay_3 : decode cX12_firstMay 3 = .ok (.invokevirtual 191, 3) := by decide +kernel
theorem dX12_firstMay_6 : decode cX12_firstMay 6 = .ok (.aload_n 0, 1) := by decide +kernel
theorem dX12_firstMay_7 : decode cX12_firstMay 7 = .ok (.getfield 13, 3) := by decide +kernel
theorem dX12_firstMay_10 : decode cX12_firstMay 10 = .ok (.iconst 2, 1) := by decide +kernel
theorem dX12_firstMay_11 : decode cX12_firstMay 11 = .ok (.iaload, 1) := by decide +kernel
theorem dX12_firstMay_12 : decode cX12_firstMay 12 = .ok (.if_icmp .ge 12, 3) := by decide +kernel
theorem dX12_firstMay_15 : decode cX12_firstMay 15 = .ok (.aload_n 0, 1) := by decide +kernel
theorem dX12_firstMay_16 : decode cX12_firstMay 16 = .ok (.iload_n 1, 1) := by decide +kernel
theorem dX12_firstMay_17 : decode cX12_firstMay 17 = .ok (.iconst 3, 1) := by decide +kernel
theorem dX12_firstMay_18 : decode cX12_firstMay 18 = .ok (.invokevirtual 191, 3) := by decide +kernel
theorem dX12_firstMay_21 : decode cX12_firstMay 21 = .ok (.goto 9, 3) := by decide +kernel
theorem dX12_firstMay_24 : decode cX12_firstMay 24 = .ok (.aload_n 0, 1) := by decide +kernel
theorem dX12_firstMay_25 : decode cX12_firstMay 25 = .ok (.getfield 13, 3) := by decide +kernel
theorem dX12_firstMay_28 : decode cX12_firstMay 28 = .ok (.iconst 2, 1) := by decide +kernel
theorem dX12_firstMay_29 : decode cX12_firstMay 29 = .ok (.iaload, 1) := by decide +kernel
theorem dX12_firstMay_30 : decode cX12_firstMay 30 = .ok (.ireturn, 1) := by decide +kernel
theorem dX12_option_0 : decode cX12_option 0 = .ok (.aload_n 0, 1) := by decide +kernel
