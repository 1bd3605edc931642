theorem dX8_insertMark_62 : decode cX8_insertMark 62 = .ok (.iload_n 2, 1) := by decide +kernel
theorem dX8_insertMark_63 : decode cX8_insertMark 63 = .ok (.if_icmp .le 23, 3) := by decide +kernel
theorem dX8_insertMark_66 : decode cX8_insertMark 66 = .ok (.aload_n 0, 1) := by decide +kernel
theorem dX8_insertMark_67 : decode cX8_insertMark 67 = .ok (.getfield 18, 3) := by decide +kernel
theorem dX8_insertMark_70 : decode cX8_insertMark 70 = .ok (.iload_n 3, 1) := by decide +kernel
theorem dX8_insertMark_71 : decode cX8_insertMark 71 = .ok (.aload_n 0, 1) := by decide +kernel
theorem dX8_insertMark_72 : decode cX8_insertMark 72 = .ok (.getfield 18, 3) := by decide +kernel
theorem dX8_insertMark_75 : decode cX8_insertMark 75 = .ok (.iload_n 3, 1) := by decide +kernel
theorem dX8_insertMark_76 : decode cX8_insertMark 76 = .ok (.iconst 1, 1) := by decide +kernel
theorem dX8_insertMark_77 : decode cX8_insertMark 77 = .ok (.isub, 1) := by decide +kernel
theorem dX8_insertMark_78 : decode cX8_insertMark 78 = .ok (.iaload, 1) := by decide +kernel
theorem dX8_insertMark_79 : decode cX8_insertMark 79 = .ok (.iastore, 1) := by decide +kernel
theorem dX8_insertMark_80 : decode cX8_insertMark 80 = .ok (.iinc 3 (-1), 3) := by decide +kernel
theorem dX8_insertMark_83 : decode cX8_insertMark 83 = .ok (.goto (-22), 3) := by decide +kernel
theorem dX8_insertMark_86 : decode cX8_insertMark 86 = .ok (.aload_n 0, 1) := by decide +kernel
theorem dX8_insertMark_87 : decode cX8_insertMark 87 = .ok (.getfield 18, 3) := by decide +kernel
theorem dX8_insertMark_90 : decode cX8_insertMark 90 = .ok (.iload_n 2, 1) := by decide +kernel
theorem dX8_insertMark_91 : decode cX8_insertMark 91 = .ok (.iload_n 1, 1) := by decide +kernel
theorem dX8_insertMark_92 : decode cX8_insertMark 92 = .ok (.iastore, 1) := by decide +kernel
theorem dX8_insertMark_93 : decode cX8_insertMark 93 = .ok (.aload_n 0, 1) := by decide +kernel
theorem dX8_insertMark_94 : decode cX8_insertMark 94 = .ok (.dup, 1) := by decide +kernel
theorem dX8_insertMark_95 : decode cX8_insertMark 95 = .ok (.getfield 22, 3) := by decide +kernel
theorem dX8_insertMark_98 : decode cX8_insertMark 98 = .ok (.iconst 1, 1) := by decide +kernel
theorem dX8_insertMark_99 : decode cX8_insertMark 99 = .ok (.iadd, 1) := by decide +kernel
theorem dX8_insertMark_100 : decode cX8_insertMark 100 = .ok (.putfield 22, 3) := by decide +kernel
theorem dX8_insertMark_103 : decode cX8_insertMark 103 = .ok (.return_, 1) := by decide +kernel
theorem dX8_oddsOf_0 : decode cX8_oddsOf 0 = .ok (.aload_n 0, 1) := by decide +kernel
theorem dX8_oddsOf_1 : decode cX8_oddsOf 1 = .ok (.getfield 26, 3) := by decide +kernel
theorem dX8_oddsOf_4 : decode cX8_oddsOf 4 = .ok (.getfield 30, 3) := by decide +kernel
theorem dX8_oddsOf_7 : decode cX8_oddsOf 7 = .ok (.getfield 36, 3) := by decide +kernel
theorem dX8_oddsOf_10 : decode cX8_oddsOf 10 = .ok (.istore_n 3, 1) := by decide +kernel
theorem dX8_oddsOf_11 : decode cX8_oddsOf 11 = .ok (.iload_n 3, 1) := by decide +kernel
theorem dX8_oddsOf_12 : decode cX8_oddsOf 12 = .ok (.ifCond .lt 86, 3) := by decide +kernel
theorem dX8_oddsOf_15 : decode cX8_oddsOf 15 = .ok (.iconst 0, 1) := by decide +kernel
theorem dX8_oddsOf_16 : decode cX8_oddsOf 16 = .ok (.istore 4, 2) := by decide +kernel
theorem dX8_oddsOf_18 : decode cX8_oddsOf 18 = .ok (.iload 4, 2) := by decide +kernel
theorem dX8_oddsOf_20 : decode cX8_oddsOf 20 = .ok (.iload_n 3, 1) := by decide +kernel
theorem dX8_oddsOf_21 : decode cX8_oddsOf 21 = .ok (.if_icmp .gt 71, 3) := by decide +kernel
theorem dX8_oddsOf_24 : decode cX8_oddsOf 24 = .ok (.iload_n 3, 1) := by decide +kernel
theorem dX8_oddsOf_25 : decode cX8_oddsOf 25 = .ok (.iload 4, 2) := by decide +kernel
theorem dX8_oddsOf_27 : decode cX8_oddsOf 27 = .ok (.invokestatic 50, 3) := by decide +kernel
theorem dX8_oddsOf_30 : decode cX8_oddsOf 30 = .ok (.istore 5, 2) := by decide +kernel
theorem dX8_oddsOf_32 : decode cX8_oddsOf 32 = .ok (.aload_n 0, 1) := by decide +kernel
theorem dX8_oddsOf_33 : decode cX8_oddsOf 33 = .ok (.getfield 26, 3) := by decide +kernel
theorem dX8_oddsOf_36 : decode cX8_oddsOf 36 = .ok (.getfield 54, 3) := by decide +kernel
theorem dX8_oddsOf_39 : decode cX8_oddsOf 39 = .ok (.iload 5, 2) := by decide +kernel
theorem dX8_oddsOf_41 : decode cX8_oddsOf 41 = .ok (.iaload, 1) := by decide +kernel
theorem dX8_oddsOf_42 : decode cX8_oddsOf 42 = .ok (.iload_n 1, 1) := by decide +kernel
theorem dX8_oddsOf_43 : decode cX8_oddsOf 43 = .ok (.iload_n 2, 1) := by decide +kernel
theorem dX8_oddsOf_44 : decode cX8_oddsOf 44 = .ok (.invokestatic 57, 3) := by decide +kernel
theorem dX8_oddsOf_47 : decode cX8_oddsOf 47 = .ok (.istore 6, 2) := by decide +kernel
theorem dX8_oddsOf_49 : decode cX8_oddsOf 49 = .ok (.aload_n 0, 1) := by decide +kernel
theorem dX8_oddsOf_50 : decode cX8_oddsOf 50 = .ok (.getfield 9, 3) := by decide +kernel
theorem dX8_oddsOf_53 : decode cX8_oddsOf 53 = .ok (.iload 5, 2) := by decide +kernel
theorem dX8_oddsOf_55 : decode cX8_oddsOf 55 = .ok (.iload 6, 2) := by decide +kernel
theorem dX8_oddsOf_57 : decode cX8_oddsOf 57 = .ok (.ifCond .eq 14, 3) := by decide +kernel
theorem dX8_oddsOf_60 : decode cX8_oddsOf 60 = .ok (.aload_n 0, 1) := by decide +kernel
theorem dX8_oddsOf_61 : decode cX8_oddsOf 61 = .ok (.getfield 26, 3) := by decide +kernel
theorem dX8_oddsOf_64 : decode cX8_oddsOf 64 = .ok (.iload_n 3, 1) := by decide +kernel
theorem dX8_oddsOf_65 : decode cX8_oddsOf 65 = .ok (.invokevirtual 84, 3) := by decide +kernel
theorem dX8_oddsOf_68 : decode cX8_oddsOf 68 = .ok (.goto 17, 3) := by decide +kernel
theorem dX8_oddsOf_71 : decode cX8_oddsOf 71 = .ok (.aload_n 0, 1) := by decide +kernel
theorem dX8_oddsOf_72 : decode cX8_oddsOf 72 = .ok (.getfield 26, 3) := by decide +kernel
theorem dX8_oddsOf_75 : decode cX8_oddsOf 75 = .ok (.aload_n 0, 1) := by decide +kernel
theorem dX8_oddsOf_76 : decode cX8_oddsOf 76 = .ok (.getfield 9, 3) := by decide +kernel
theorem dX8_oddsOf_79 : decode cX8_oddsOf 79 = .ok (.iload_n 3, 1) := by decide +kernel
theorem dX8_oddsOf_80 : decode cX8_oddsOf 80 = .ok (.iload 5, 2) := by decide +kernel
theorem dX8_oddsOf_82 : decode cX8_oddsOf 82 = .ok (.invokevirtual 66, 3) := by decide +kernel
theorem dX8_oddsOf_85 : decode cX8_oddsOf 85 = .ok (.lastore, 1) := by decide +kernel
theorem dX8_oddsOf_86 : decode cX8_oddsOf 86 = .ok (.iinc 4 1, 3) := by decide +kernel
theorem dX8_oddsOf_89 : decode cX8_oddsOf 89 = .ok (.goto (-71), 3) := by decide +kernel
theorem dX8_oddsOf_92 : decode cX8_oddsOf 92 = .ok (.iinc 3 (-1), 3) := by decide +kernel
theorem dX8_oddsOf_95 : decode cX8_oddsOf 95 = .ok (.goto (-84), 3) := by decide +kernel
theorem dX8_oddsOf_98 : decode cX8_oddsOf 98 = .ok (.aload_n 0, 1) := by decide +kernel
theorem dX8_oddsOf_99 : decode cX8_oddsOf 99 = .ok (.getfield 9, 3) := by decide +kernel
theorem dX8_oddsOf_102 : decode cX8_oddsOf 102 = .ok (.iconst 0, 1) := by decide +kernel
theorem dX8_oddsOf_103 : decode cX8_oddsOf 103 = .ok (.laload, 1) := by decide +kernel
theorem dX8_oddsOf_104 : decode cX8_oddsOf 104 = .ok (.lreturn, 1) := by decide +kernel
theorem dX9_init_0 : decode cX9_init 0 = .ok (.aload_n 0, 1) := by decide +kernel
theorem dX9_init_1 : decode cX9_init 1 = .ok (.invokespecial 3, 3) := by decide +kernel
theorem dX9_init_4 : decode cX9_init 4 = .ok (.aload_n 0, 1) := by decide +kernel
theorem dX9_init_5 : decode cX9_init 5 = .ok (.bipush 91, 2) := by decide +kernel
theorem dX9_init_7 : decode cX9_init 7 = .ok (.newarray .long, 2) := by decide +kernel
theorem dX9_init_9 : decode cX9_init 9 = .ok (.putfield 9, 3) := by decide +kernel
theorem dX9_init_12 : decode cX9_init 12 = .ok (.aload_n 0, 1) := by decide +kernel
theorem dX9_init_13 : decode cX9_init 13 = .ok (.new 15, 3) := by decide +kernel
theorem dX9_init_16 : decode cX9_init 16 = .ok (.dup, 1) := by decide +kernel
theorem dX9_init_17 : decode cX9_init 17 = .ok (.invokespecial 17, 3) := by decide +kernel
theorem dX9_init_20 : decode cX9_init 20 = .ok (.putfield 18, 3) := by decide +kernel
theorem dX9_init_23 : decode cX9_init 23 = .ok (.aload_n 0, 1) := by decide +kernel
theorem dX9_init_24 : decode cX9_init 24 = .ok (.new 15, 3) := by decide +kernel
theorem dX9_init_27 : decode cX9_init 27 = .ok (.dup, 1) := by decide +kernel
theorem dX9_init_28 : decode cX9_init 28 = .ok (.invokespecial 17, 3) := by decide +kernel
theorem dX9_init_31 : decode cX9_init 31 = .ok (.putfield 22, 3) := by decide +kernel
theorem dX9_init_34 : decode cX9_init 34 = .ok (.return_, 1) := by decide +kernel
theorem dX10_init_0 : decode cX10_init 0 = .ok (.aload_n 0, 1) := by decide +kernel
theorem dX10_init_1 : decode cX10_init 1 = .ok (.invokespecial 3, 3) := by decide +kernel
theorem dX10_init_4 : decode cX10_init 4 = .ok (.aload_n 0, 1) := by decide +kernel
theorem dX10_init_5 : decode cX10_init 5 = .ok (.sipush 501, 3) := by decide +kernel
theorem dX10_init_8 : decode cX10_init 8 = .ok (.newarray .int, 2) := by decide +kernel
theorem dX10_init_10 : decode cX10_init 10 = .ok (.putfield 9, 3) := by decide +kernel
theorem dX10_init_13 : decode cX10_init 13 = .ok (.aload_n 0, 1) := by decide +kernel
theorem dX10_init_14 : decode cX10_init 14 = .ok (.sipush 501, 3) := by decide +kernel
theorem dX10_init_17 : decode cX10_init 17 = .ok (.newarray .int, 2) := by decide +kernel
theorem dX10_init_19 : decode cX10_init 19 = .ok (.putfield 15, 3) := by decide +kernel
theorem dX10_init_22 : decode cX10_init 22 = .ok (.aload_n 0, 1) := by decide +kernel
theorem dX10_init_23 : decode cX10_init 23 = .ok (.sipush 501, 3) := by decide +kernel
theorem dX10_init_26 : decode cX10_init 26 = .ok (.newarray .long, 2) := by decide +kernel
theorem dX10_init_28 : decode cX10_init 28 = .ok (.putfield 18, 3) := by decide +kernel
theorem dX10_init_31 : decode cX10_init 31 = .ok (.aload_n 0, 1) := by decide +kernel
theorem dX10_init_32 : decode cX10_init 32 = .ok (.bipush 20, 2) := by decide +kernel
theorem dX10_init_34 : decode cX10_init 34 = .ok (.newarray .long, 2) := by decide +kernel
theorem dX10_init_36 : decode cX10_init 36 = .ok (.putfield 22, 3) := by decide +kernel
theorem dX10_init_39 : decode cX10_init 39 = .ok (.aload_n 0, 1) := by decide +kernel
theorem dX10_init_40 : decode cX10_init 40 = .ok (.aload_n 1, 1) := by decide +kernel
theorem dX10_init_41 : decode cX10_init 41 = .ok (.putfield 25, 3) := by decide +kernel
theorem dX10_init_44 : decode cX10_init 44 = .ok (.iconst 0, 1) := by decide +kernel
theorem dX10_init_45 : decode cX10_init 45 = .ok (.istore_n 2, 1) := by decide +kernel
theorem dX10_init_46 : decode cX10_init 46 = .ok (.iconst 0, 1) := by decide +kernel
theorem dX10_init_47 : decode cX10_init 47 = .ok (.istore_n 3, 1) := by decide +kernel
theorem dX10_init_48 : decode cX10_init 48 = .ok (.iload_n 3, 1) := by decide +kernel
theorem dX10_init_49 : decode cX10_init 49 = .ok (.ldc 29, 2) := by decide +kernel
theorem dX10_init_51 : decode cX10_init 51 = .ok (.invokevirtual 31, 3) := by decide +kernel
theorem dX10_init_54 : decode cX10_init 54 = .ok (.if_icmp .ge 53, 3) := by decide +kernel
theorem dX10_init_57 : decode cX10_init 57 = .ok (.iload_n 2, 1) := by decide +kernel
theorem dX10_init_58 : decode cX10_init 58 = .ok (.bipush 20, 2) := by decide +kernel
theorem dX10_init_60 : decode cX10_init 60 = .ok (.if_icmp .ge 47, 3) := by decide +kernel
theorem dX10_init_63 : decode cX10_init 63 = .ok (.ldc 29, 2) := by decide +kernel
theorem dX10_init_65 : decode cX10_init 65 = .ok (.iload_n 3, 1) := by decide +kernel
theorem dX10_init_66 : decode cX10_init 66 = .ok (.invokevirtual 37, 3) := by decide +kernel
theorem dX10_init_69 : decode cX10_init 69 = .ok (.istore 4, 2) := by decide +kernel
theorem dX10_init_71 : decode cX10_init 71 = .ok (.iload 4, 2) := by decide +kernel
theorem dX10_init_73 : decode cX10_init 73 = .ok (.bipush 32, 2) := by decide +kernel
theorem dX10_init_75 : decode cX10_init 75 = .ok (.if_icmp .ne 9, 3) := by decide +kernel
theorem dX10_init_78 : decode cX10_init 78 = .ok (.iinc 2 1, 3) := by decide +kernel
theorem dX10_init_81 : decode cX10_init 81 = .ok (.goto 20, 3) := by decide +kernel
theorem dX10_init_84 : decode cX10_init 84 = .ok (.aload_n 0, 1) := by decide +kernel
theorem dX10_init_85 : decode cX10_init 85 = .ok (.getfield 22, 3) := by decide +kernel
theorem dX10_init_88 : decode cX10_init 88 = .ok (.iload_n 2, 1) := by decide +kernel
theorem dX10_init_89 : decode cX10_init 89 = .ok (.aload_n 0, 1) := by decide +kernel
theorem dX10_init_90 : decode cX10_init 90 = .ok (.getfield 22, 3) := by decide +kernel
theorem dX10_init_93 : decode cX10_init 93 = .ok (.iload_n 2, 1) := by decide +kernel
theorem dX10_init_94 : decode cX10_init 94 = .ok (.laload, 1) := by decide +kernel
theorem dX10_init_95 : decode cX10_init 95 = .ok (.iload 4, 2) := by decide +kernel
theorem dX10_init_97 : decode cX10_init 97 = .ok (.invokestatic 41, 3) := by decide +kernel
theorem dX10_init_100 : decode cX10_init 100 = .ok (.lastore, 1) := by decide +kernel
theorem dX10_init_101 : decode cX10_init 101 = .ok (.iinc 3 1, 3) := by decide +kernel
theorem dX10_init_104 : decode cX10_init 104 = .ok (.goto (-56), 3) := by decide +kernel
theorem dX10_init_107 : decode cX10_init 107 = .ok (.return_, 1) := by decide +kernel
theorem dX10_spelt_0 : decode cX10_spelt 0 = .ok (.lload_n 0, 1) := by decide +kernel
theorem dX10_spelt_1 : decode cX10_spelt 1 = .ok (.ldc2_w 45, 3) := by decide +kernel
theorem dX10_spelt_4 : decode cX10_spelt 4 = .ok (.lmul, 1) := by decide +kernel
theorem dX10_spelt_5 : decode cX10_spelt 5 = .ok (.iload_n 2, 1) := by decide +kernel
theorem dX10_spelt_6 : decode cX10_spelt 6 = .ok (.i2l, 1) := by decide +kernel
theorem dX10_spelt_7 : decode cX10_spelt 7 = .ok (.ladd, 1) := by decide +kernel
theorem dX10_spelt_8 : decode cX10_spelt 8 = .ok (.ldc2_w 47, 3) := by decide +kernel
theorem dX10_spelt_11 : decode cX10_spelt 11 = .ok (.lsub, 1) := by decide +kernel
theorem dX10_spelt_12 : decode cX10_spelt 12 = .ok (.lconst 1, 1) := by decide +kernel
theorem dX10_spelt_13 : decode cX10_spelt 13 = .ok (.ladd, 1) := by decide +kernel
theorem dX10_spelt_14 : decode cX10_spelt 14 = .ok (.lreturn, 1) := by decide +kernel
theorem dX10_scan_0 : decode cX10_scan 0 = .ok (.iconst 0, 1) := by decide +kernel
theorem dX10_scan_1 : decode cX10_scan 1 = .ok (.istore_n 2, 1) := by decide +kernel
theorem dX10_scan_2 : decode cX10_scan 2 = .ok (.iconst 0, 1) := by decide +kernel
theorem dX10_scan_3 : decode cX10_scan 3 = .ok (.istore_n 3, 1) := by decide +kernel
theorem dX10_scan_4 : decode cX10_scan 4 = .ok (.iload_n 3, 1) := by decide +kernel
theorem dX10_scan_5 : decode cX10_scan 5 = .ok (.iload_n 1, 1) := by decide +kernel
theorem dX10_scan_6 : decode cX10_scan 6 = .ok (.if_icmp .ge 93, 3) := by decide +kernel
theorem dX10_scan_9 : decode cX10_scan 9 = .ok (.iload_n 2, 1) := by decide +kernel
theorem dX10_scan_10 : decode cX10_scan 10 = .ok (.sipush 500, 3) := by decide +kernel
theorem dX10_scan_13 : decode cX10_scan 13 = .ok (.if_icmp .ge 86, 3) := by decide +kernel
theorem dX10_scan_16 : decode cX10_scan 16 = .ok (.aload_n 0, 1) := by decide +kernel
theorem dX10_scan_17 : decode cX10_scan 17 = .ok (.iload_n 3, 1) := by decide +kernel
theorem dX10_scan_18 : decode cX10_scan 18 = .ok (.iload_n 1, 1) := by decide +kernel
theorem dX10_scan_19 : decode cX10_scan 19 = .ok (.invokevirtual 49, 3) := by decide +kernel
theorem dX10_scan_22 : decode cX10_scan 22 = .ok (.istore 4, 2) := by decide +kernel
theorem dX10_scan_24 : decode cX10_scan 24 = .ok (.aload_n 0, 1) := by decide +kernel
theorem dX10_scan_25 : decode cX10_scan 25 = .ok (.getfield 15, 3) := by decide +kernel
theorem dX10_scan_28 : decode cX10_scan 28 = .ok (.iload_n 2, 1) := by decide +kernel
theorem dX10_scan_29 : decode cX10_scan 29 = .ok (.iload_n 3, 1) := by decide +kernel
theorem dX10_scan_30 : decode cX10_scan 30 = .ok (.iastore, 1) := by decide +kernel
theorem dX10_scan_31 : decode cX10_scan 31 = .ok (.iload 4, 2) := by decide +kernel
theorem dX10_scan_33 : decode cX10_scan 33 = .ok (.iload_n 3, 1) := by decide +kernel
theorem dX10_scan_34 : decode cX10_scan 34 = .ok (.if_icmp .le 17, 3) := by decide +kernel
theorem dX10_scan_37 : decode cX10_scan 37 = .ok (.aload_n 0, 1) := by decide +kernel
theorem dX10_scan_38 : decode cX10_scan 38 = .ok (.iload_n 2, 1) := by decide +kernel
theorem dX10_scan_39 : decode cX10_scan 39 = .ok (.iload_n 3, 1) := by decide +kernel
theorem dX10_scan_40 : decode cX10_scan 40 = .ok (.iload 4, 2) := by decide +kernel
theorem dX10_scan_42 : decode cX10_scan 42 = .ok (.invokevirtual 53, 3) := by decide +kernel
theorem dX10_scan_45 : decode cX10_scan 45 = .ok (.iinc 2 1, 3) := by decide +kernel
theorem dX10_scan_48 : decode cX10_scan 48 = .ok (.goto 39, 3) := by decide +kernel
theorem dX10_scan_51 : decode cX10_scan 51 = .ok (.aload_n 0, 1) := by decide +kernel
theorem dX10_scan_52 : decode cX10_scan 52 = .ok (.getfield 25, 3) := by decide +kernel
theorem dX10_scan_55 : decode cX10_scan 55 = .ok (.iload_n 3, 1) := by decide +kernel
theorem dX10_scan_56 : decode cX10_scan 56 = .ok (.baload, 1) := by decide +kernel
theorem dX10_scan_57 : decode cX10_scan 57 = .ok (.bipush 32, 2) := by decide +kernel
theorem dX10_scan_59 : decode cX10_scan 59 = .ok (.if_icmp .eq 28, 3) := by decide +kernel
theorem dX10_scan_62 : decode cX10_scan 62 = .ok (.aload_n 0, 1) := by decide +kernel
theorem dX10_scan_63 : decode cX10_scan 63 = .ok (.getfield 9, 3) := by decide +kernel
theorem dX10_scan_66 : decode cX10_scan 66 = .ok (.iload_n 2, 1) := by decide +kernel
theorem dX10_scan_67 : decode cX10_scan 67 = .ok (.aload_n 0, 1) := by decide +kernel
theorem dX10_scan_68 : decode cX10_scan 68 = .ok (.getfield 25, 3) := by decide +kernel
theorem dX10_scan_71 : decode cX10_scan 71 = .ok (.iload_n 3, 1) := by decide +kernel
theorem dX10_scan_72 : decode cX10_scan 72 = .ok (.baload, 1) := by decide +kernel
theorem dX10_scan_73 : decode cX10_scan 73 = .ok (.bipush 59, 2) := by decide +kernel
theorem dX10_scan_75 : decode cX10_scan 75 = .ok (.if_icmp .ne 7, 3) := by decide +kernel
theorem dX10_scan_78 : decode cX10_scan 78 = .ok (.iconst 2, 1) := by decide +kernel
theorem dX10_scan_79 : decode cX10_scan 79 = .ok (.goto 4, 3) := by decide +kernel
theorem dX10_scan_82 : decode cX10_scan 82 = .ok (.iconst 1, 1) := by decide +kernel
theorem dX10_scan_83 : decode cX10_scan 83 = .ok (.iastore, 1) := by decide +kernel
theorem dX10_scan_84 : decode cX10_scan 84 = .ok (.iinc 2 1, 3) := by decide +kernel
theorem dX10_scan_87 : decode cX10_scan 87 = .ok (.iload 4, 2) := by decide +kernel
theorem dX10_scan_89 : decode cX10_scan 89 = .ok (.iload_n 3, 1) := by decide +kernel
theorem dX10_scan_90 : decode cX10_scan 90 = .ok (.iconst 1, 1) := by decide +kernel
theorem dX10_scan_91 : decode cX10_scan 91 = .ok (.iadd, 1) := by decide +kernel
theorem dX10_scan_92 : decode cX10_scan 92 = .ok (.invokestatic 57, 3) := by decide +kernel
theorem dX10_scan_95 : decode cX10_scan 95 = .ok (.istore_n 3, 1) := by decide +kernel
theorem dX10_scan_96 : decode cX10_scan 96 = .ok (.goto (-92), 3) := by decide +kernel
theorem dX10_scan_99 : decode cX10_scan 99 = .ok (.aload_n 0, 1) := by decide +kernel
theorem dX10_scan_100 : decode cX10_scan 100 = .ok (.getfield 9, 3) := by decide +kernel
theorem dX10_scan_103 : decode cX10_scan 103 = .ok (.iload_n 2, 1) := by decide +kernel
theorem dX10_scan_104 : decode cX10_scan 104 = .ok (.iconst 0, 1) := by decide +kernel
theorem dX10_scan_105 : decode cX10_scan 105 = .ok (.iastore, 1) := by decide +kernel
theorem dX10_scan_106 : decode cX10_scan 106 = .ok (.aload_n 0, 1) := by decide +kernel
theorem dX10_scan_107 : decode cX10_scan 107 = .ok (.getfield 15, 3) := by decide +kernel
theorem dX10_scan_110 : decode cX10_scan 110 = .ok (.iload_n 2, 1) := by decide +kernel
theorem dX10_scan_111 : decode cX10_scan 111 = .ok (.iload_n 1, 1) := by decide +kernel
theorem dX10_scan_112 : decode cX10_scan 112 = .ok (.iastore, 1) := by decide +kernel
theorem dX10_scan_113 : decode cX10_scan 113 = .ok (.return_, 1) := by decide +kernel
theorem dX10_runEnd_0 : decode cX10_runEnd 0 = .ok (.iload_n 1, 1) := by decide +kernel
theorem dX10_runEnd_1 : decode cX10_runEnd 1 = .ok (.istore_n 3, 1) := by decide +kernel
theorem dX10_runEnd_2 : decode cX10_runEnd 2 = .ok (.iload_n 3, 1) := by decide +kernel
theorem dX10_runEnd_3 : decode cX10_runEnd 3 = .ok (.iload_n 2, 1) := by decide +kernel
theorem dX10_runEnd_4 : decode cX10_runEnd 4 = .ok (.if_icmp .ge 33, 3) := by decide +kernel
theorem dX10_runEnd_7 : decode cX10_runEnd 7 = .ok (.aload_n 0, 1) := by decide +kernel
theorem dX10_runEnd_8 : decode cX10_runEnd 8 = .ok (.getfield 25, 3) := by decide +kernel
theorem dX10_runEnd_11 : decode cX10_runEnd 11 = .ok (.iload_n 3, 1) := by decide +kernel
theorem dX10_runEnd_12 : decode cX10_runEnd 12 = .ok (.baload, 1) := by decide +kernel
theorem dX10_runEnd_13 : decode cX10_runEnd 13 = .ok (.invokestatic 62, 3) := by decide +kernel
theorem dX10_runEnd_16 : decode cX10_runEnd 16 = .ok (.ifCond .ne 15, 3) := by decide +kernel
theorem dX10_runEnd_19 : decode cX10_runEnd 19 = .ok (.aload_n 0, 1) := by decide +kernel
theorem dX10_runEnd_20 : decode cX10_runEnd 20 = .ok (.getfield 25, 3) := by decide +kernel
theorem dX10_runEnd_23 : decode cX10_runEnd 23 = .ok (.iload_n 3, 1) := by decide +kernel
theorem dX10_runEnd_24 : decode cX10_runEnd 24 = .ok (.baload, 1) := by decide +kernel
theorem dX10_runEnd_25 : decode cX10_runEnd 25 = .ok (.invokestatic 66, 3) := by decide +kernel
theorem dX10_runEnd_28 : decode cX10_runEnd 28 = .ok (.ifCond .eq 9, 3) := by decide +kernel
theorem dX10_runEnd_31 : decode cX10_runEnd 31 = .ok (.iinc 3 1, 3) := by decide +kernel
theorem dX10_runEnd_34 : decode cX10_runEnd 34 = .ok (.goto (-32), 3) := by decide +kernel
theorem dX10_runEnd_37 : decode cX10_runEnd 37 = .ok (.iload_n 3, 1) := by decide +kernel
theorem dX10_runEnd_38 : decode cX10_runEnd 38 = .ok (.ireturn, 1) := by decide +kernel
theorem dX10_sort_0 : decode cX10_sort 0 = .ok (.iconst 0, 1) := by decide +kernel
theorem dX10_sort_1 : decode cX10_sort 1 = .ok (.istore 4, 2) := by decide +kernel
theorem dX10_sort_3 : decode cX10_sort 3 = .ok (.lconst 0, 1) := by decide +kernel
theorem dX10_sort_4 : decode cX10_sort 4 = .ok (.lstore 5, 2) := by decide +kernel
theorem dX10_sort_6 : decode cX10_sort 6 = .ok (.lconst 0, 1) := by decide +kernel
theorem dX10_sort_7 : decode cX10_sort 7 = .ok (.lstore 7, 2) := by decide +kernel
theorem dX10_sort_9 : decode cX10_sort 9 = .ok (.iload_n 2, 1) := by decide +kernel
theorem dX10_sort_10 : decode cX10_sort 10 = .ok (.istore 9, 2) := by decide +kernel
theorem dX10_sort_12 : decode cX10_sort 12 = .ok (.iload 9, 2) := by decide +kernel
theorem dX10_sort_14 : decode cX10_sort 14 = .ok (.iload_n 3, 1) := by decide +kernel
theorem dX10_sort_15 : decode cX10_sort 15 = .ok (.if_icmp .ge 63, 3) := by decide +kernel
theorem dX10_sort_18 : decode cX10_sort 18 = .ok (.aload_n 0, 1) := by decide +kernel
theorem dX10_sort_19 : decode cX10_sort 19 = .ok (.getfield 25, 3) := by decide +kernel
theorem dX10_sort_22 : decode cX10_sort 22 = .ok (.iload 9, 2) := by decide +kernel
theorem dX10_sort_24 : decode cX10_sort 24 = .ok (.baload, 1) := by decide +kernel
theorem dX10_sort_25 : decode cX10_sort 25 = .ok (.invokestatic 66, 3) := by decide +kernel
theorem dX10_sort_28 : decode cX10_sort 28 = .ok (.ifCond .eq 30, 3) := by decide +kernel
theorem dX10_sort_31 : decode cX10_sort 31 = .ok (.iinc 4 1, 3) := by decide +kernel
theorem dX10_sort_34 : decode cX10_sort 34 = .ok (.lload 5, 2) := by decide +kernel
theorem dX10_sort_36 : decode cX10_sort 36 = .ok (.ldc2_w 69, 3) := by decide +kernel
theorem dX10_sort_39 : decode cX10_sort 39 = .ok (.lmul, 1) := by decide +kernel
theorem dX10_sort_40 : decode cX10_sort 40 = .ok (.aload_n 0, 1) := by decide +kernel
theorem dX10_sort_41 : decode cX10_sort 41 = .ok (.getfield 25, 3) := by decide +kernel
theorem dX10_sort_44 : decode cX10_sort 44 = .ok (.iload 9, 2) := by decide +kernel
theorem dX10_sort_46 : decode cX10_sort 46 = .ok (.baload, 1) := by decide +kernel
theorem dX10_sort_47 : decode cX10_sort 47 = .ok (.i2l, 1) := by decide +kernel
theorem dX10_sort_48 : decode cX10_sort 48 = .ok (.ladd, 1) := by decide +kernel
theorem dX10_sort_49 : decode cX10_sort 49 = .ok (.ldc2_w 71, 3) := by decide +kernel
theorem dX10_sort_52 : decode cX10_sort 52 = .ok (.lsub, 1) := by decide +kernel
theorem dX10_sort_53 : decode cX10_sort 53 = .ok (.lstore 5, 2) := by decide +kernel
theorem dX10_sort_55 : decode cX10_sort 55 = .ok (.goto 17, 3) := by decide +kernel
theorem dX10_sort_58 : decode cX10_sort 58 = .ok (.lload 7, 2) := by decide +kernel
theorem dX10_sort_60 : decode cX10_sort 60 = .ok (.aload_n 0, 1) := by decide +kernel
theorem dX10_sort_61 : decode cX10_sort 61 = .ok (.getfield 25, 3) := by decide +kernel
theorem dX10_sort_64 : decode cX10_sort 64 = .ok (.iload 9, 2) := by decide +kernel
theorem dX10_sort_66 : decode cX10_sort 66 = .ok (.baload, 1) := by decide +kernel
theorem dX10_sort_67 : decode cX10_sort 67 = .ok (.invokestatic 41, 3) := by decide +kernel
theorem dX10_sort_70 : decode cX10_sort 70 = .ok (.lstore 7, 2) := by decide +kernel
theorem dX10_sort_72 : decode cX10_sort 72 = .ok (.iinc 9 1, 3) := by decide +kernel
theorem dX10_sort_75 : decode cX10_sort 75 = .ok (.goto (-63), 3) := by decide +kernel
theorem dX10_sort_78 : decode cX10_sort 78 = .ok (.iload_n 3, 1) := by decide +kernel
theorem dX10_sort_79 : decode cX10_sort 79 = .ok (.iload_n 2, 1) := by decide +kernel
theorem dX10_sort_80 : decode cX10_sort 80 = .ok (.isub, 1) := by decide +kernel
theorem dX10_sort_81 : decode cX10_sort 81 = .ok (.istore 9, 2) := by decide +kernel
theorem dX10_sort_83 : decode cX10_sort 83 = .ok (.aload_n 0, 1) := by decide +kernel
theorem dX10_sort_84 : decode cX10_sort 84 = .ok (.getfield 9, 3) := by decide +kernel
theorem dX10_sort_87 : decode cX10_sort 87 = .ok (.iload_n 1, 1) := by decide +kernel
theorem dX10_sort_88 : decode cX10_sort 88 = .ok (.iconst 1, 1) := by decide +kernel
theorem dX10_sort_89 : decode cX10_sort 89 = .ok (.iastore, 1) := by decide +kernel
theorem dX10_sort_90 : decode cX10_sort 90 = .ok (.iload 4, 2) := by decide +kernel
theorem dX10_sort_92 : decode cX10_sort 92 = .ok (.iload 9, 2) := by decide +kernel
theorem dX10_sort_94 : decode cX10_sort 94 = .ok (.if_icmp .ne 27, 3) := by decide +kernel
theorem dX10_sort_97 : decode cX10_sort 97 = .ok (.iload 9, 2) := by decide +kernel
theorem dX10_sort_99 : decode cX10_sort 99 = .ok (.iconst 3, 1) := by decide +kernel
theorem dX10_sort_100 : decode cX10_sort 100 = .ok (.if_icmp .gt 21, 3) := by decide +kernel
theorem dX10_sort_103 : decode cX10_sort 103 = .ok (.aload_n 0, 1) := by decide +kernel
theorem dX10_sort_104 : decode cX10_sort 104 = .ok (.getfield 9, 3) := by decide +kernel
theorem dX10_sort_107 : decode cX10_sort 107 = .ok (.iload_n 1, 1) := by decide +kernel
theorem dX10_sort_108 : decode cX10_sort 108 = .ok (.iconst 3, 1) := by decide +kernel
theorem dX10_sort_109 : decode cX10_sort 109 = .ok (.iastore, 1) := by decide +kernel
theorem dX10_sort_110 : decode cX10_sort 110 = .ok (.aload_n 0, 1) := by decide +kernel
theorem dX10_sort_111 : decode cX10_sort 111 = .ok (.getfield 18, 3) := by decide +kernel
theorem dX10_sort_114 : decode cX10_sort 114 = .ok (.iload_n 1, 1) := by decide +kernel
theorem dX10_sort_115 : decode cX10_sort 115 = .ok (.lload 5, 2) := by decide +kernel
theorem dX10_sort_117 : decode cX10_sort 117 = .ok (.lastore, 1) := by decide +kernel
theorem dX10_sort_118 : decode cX10_sort 118 = .ok (.goto 60, 3) := by decide +kernel
theorem dX10_sort_121 : decode cX10_sort 121 = .ok (.iload 4, 2) := by decide +kernel
theorem dX10_sort_123 : decode cX10_sort 123 = .ok (.ifCond .ne 55, 3) := by decide +kernel
theorem dX10_sort_126 : decode cX10_sort 126 = .ok (.iload 9, 2) := by decide +kernel
theorem dX10_sort_128 : decode cX10_sort 128 = .ok (.bipush 8, 2) := by decide +kernel
theorem dX10_sort_130 : decode cX10_sort 130 = .ok (.if_icmp .gt 48, 3) := by decide +kernel
theorem dX10_sort_133 : decode cX10_sort 133 = .ok (.aload_n 0, 1) := by decide +kernel
theorem dX10_sort_134 : decode cX10_sort 134 = .ok (.lload 7, 2) := by decide +kernel
theorem dX10_sort_136 : decode cX10_sort 136 = .ok (.invokevirtual 73, 3) := by decide +kernel
theorem dX10_sort_139 : decode cX10_sort 139 = .ok (.istore 10, 2) := by decide +kernel
theorem dX10_sort_141 : decode cX10_sort 141 = .ok (.aload_n 0, 1) := by decide +kernel
theorem dX10_sort_142 : decode cX10_sort 142 = .ok (.getfield 9, 3) := by decide +kernel
theorem dX10_sort_145 : decode cX10_sort 145 = .ok (.iload_n 1, 1) := by decide +kernel
theorem dX10_sort_146 : decode cX10_sort 146 = .ok (.iload 10, 2) := by decide +kernel
theorem dX10_sort_148 : decode cX10_sort 148 = .ok (.iconst (-1), 1) := by decide +kernel
theorem dX10_sort_149 : decode cX10_sort 149 = .ok (.if_icmp .ne 7, 3) := by decide +kernel
theorem dX10_sort_152 : decode cX10_sort 152 = .ok (.iconst 4, 1) := by decide +kernel
theorem dX10_sort_153 : decode cX10_sort 153 = .ok (.goto 4, 3) := by decide +kernel
theorem dX10_sort_156 : decode cX10_sort 156 = .ok (.iconst 5, 1) := by decide +kernel
theorem dX10_sort_157 : decode cX10_sort 157 = .ok (.iastore, 1) := by decide +kernel
theorem dX10_sort_158 : decode cX10_sort 158 = .ok (.aload_n 0, 1) := by decide +kernel
theorem dX10_sort_159 : decode cX10_sort 159 = .ok (.getfield 18, 3) := by decide +kernel
theorem dX10_sort_162 : decode cX10_sort 162 = .ok (.iload_n 1, 1) := by decide +kernel
theorem dX10_sort_163 : decode cX10_sort 163 = .ok (.iload 10, 2) := by decide +kernel
theorem dX10_sort_165 : decode cX10_sort 165 = .ok (.iconst (-1), 1) := by decide +kernel
theorem dX10_sort_166 : decode cX10_sort 166 = .ok (.if_icmp .ne 8, 3) := by decide +kernel
theorem dX10_sort_169 : decode cX10_sort 169 = .ok (.lload 7, 2) := by decide +kernel
theorem dX10_sort_171 : decode cX10_sort 171 = .ok (.goto 6, 3) := by decide +kernel
theorem dX10_sort_174 : decode cX10_sort 174 = .ok (.iload 10, 2) := by decide +kernel
theorem dX10_sort_176 : decode cX10_sort 176 = .ok (.i2l, 1) := by decide +kernel
theorem dX10_sort_177 : decode cX10_sort 177 = .ok (.lastore, 1) := by decide +kernel
theorem dX10_sort_178 : decode cX10_sort 178 = .ok (.return_, 1) := by decide +kernel
theorem dX10_keywordOf_0 : decode cX10_keywordOf 0 = .ok (.iconst 0, 1) := by decide +kernel
theorem dX10_keywordOf_1 : decode cX10_keywordOf 1 = .ok (.istore_n 3, 1) := by decide +kernel
theorem dX10_keywordOf_2 : decode cX10_keywordOf 2 = .ok (.iload_n 3, 1) := by decide +kernel
theorem dX10_keywordOf_3 : decode cX10_keywordOf 3 = .ok (.bipush 20, 2) := by decide +kernel
theorem dX10_keywordOf_5 : decode cX10_keywordOf 5 = .ok (.if_icmp .ge 22, 3) := by decide +kernel
theorem dX10_keywordOf_8 : decode cX10_keywordOf 8 = .ok (.aload_n 0, 1) := by decide +kernel
theorem dX10_keywordOf_9 : decode cX10_keywordOf 9 = .ok (.getfield 22, 3) := by decide +kernel
theorem dX10_keywordOf_12 : decode cX10_keywordOf 12 = .ok (.iload_n 3, 1) := by decide +kernel
theorem dX10_keywordOf_13 : decode cX10_keywordOf 13 = .ok (.laload, 1) := by decide +kernel
theorem dX10_keywordOf_14 : decode cX10_keywordOf 14 = .ok (.lload_n 1, 1) := by decide +kernel
theorem dX10_keywordOf_15 : decode cX10_keywordOf 15 = .ok (.lcmp, 1) := by decide +kernel
theorem dX10_keywordOf_16 : decode cX10_keywordOf 16 = .ok (.ifCond .ne 5, 3) := by decide +kernel
theorem dX10_keywordOf_19 : decode cX10_keywordOf 19 = .ok (.iload_n 3, 1) := by decide +kernel
theorem dX10_keywordOf_20 : decode cX10_keywordOf 20 = .ok (.ireturn, 1) := by decide +kernel
theorem dX10_keywordOf_21 : decode cX10_keywordOf 21 = .ok (.iinc 3 1, 3) := by decide +kernel
theorem dX10_keywordOf_24 : decode cX10_keywordOf 24 = .ok (.goto (-22), 3) := by decide +kernel
theorem dX10_keywordOf_27 : decode cX10_keywordOf 27 = .ok (.iconst (-1), 1) := by decide +kernel
theorem dX10_keywordOf_28 : decode cX10_keywordOf 28 = .ok (.ireturn, 1) := by decide +kernel
theorem dX10_isLetter_0 : decode cX10_isLetter 0 = .ok (.iload_n 0, 1) := by decide +kernel
theorem dX10_isLetter_1 : decode cX10_isLetter 1 = .ok (.bipush 97, 2) := by decide +kernel
theorem dX10_isLetter_3 : decode cX10_isLetter 3 = .ok (.if_icmp .lt 13, 3) := by decide +kernel
theorem dX10_isLetter_6 : decode cX10_isLetter 6 = .ok (.iload_n 0, 1) := by decide +kernel
theorem dX10_isLetter_7 : decode cX10_isLetter 7 = .ok (.bipush 122, 2) := by decide +kernel
theorem dX10_isLetter_9 : decode cX10_isLetter 9 = .ok (.if_icmp .gt 7, 3) := by decide +kernel
theorem dX10_isLetter_12 : decode cX10_isLetter 12 = .ok (.iconst 1, 1) := by decide +kernel
theorem dX10_isLetter_13 : decode cX10_isLetter 13 = .ok (.goto 4, 3) := by decide +kernel
theorem dX10_isLetter_16 : decode cX10_isLetter 16 = .ok (.iconst 0, 1) := by decide +kernel
theorem dX10_isLetter_17 : decode cX10_isLetter 17 = .ok (.ireturn, 1) := by decide +kernel
theorem dX10_isFigure_0 : decode cX10_isFigure 0 = .ok (.iload_n 0, 1) := by decide +kernel
theorem dX10_isFigure_1 : decode cX10_isFigure 1 = .ok (.bipush 48, 2) := by decide +kernel
theorem dX10_isFigure_3 : decode cX10_isFigure 3 = .ok (.if_icmp .lt 13, 3) := by decide +kernel
theorem dX10_isFigure_6 : decode cX10_isFigure 6 = .ok (.iload_n 0, 1) := by decide +kernel
theorem dX10_isFigure_7 : decode cX10_isFigure 7 = .ok (.bipush 57, 2) := by decide +kernel
theorem dX10_isFigure_9 : decode cX10_isFigure 9 = .ok (.if_icmp .gt 7, 3) := by decide +kernel
theorem dX10_isFigure_12 : decode cX10_isFigure 12 = .ok (.iconst 1, 1) := by decide +kernel
theorem dX10_isFigure_13 : decode cX10_isFigure 13 = .ok (.goto 4, 3) := by decide +kernel
theorem dX10_isFigure_16 : decode cX10_isFigure 16 = .ok (.iconst 0, 1) := by decide +kernel
theorem dX10_isFigure_17 : decode cX10_isFigure 17 = .ok (.ireturn, 1) := by decide +kernel
theorem dX11_init_0 : decode cX11_init 0 = .ok (.aload_n 0, 1) := by decide +kernel
theorem dX11_init_1 : decode cX11_init 1 = .ok (.invokespecial 3, 3) := by decide +kernel
theorem dX11_init_4 : decode cX11_init 4 = .ok (.aload_n 0, 1) := by decide +kernel
theorem dX11_init_5 : decode cX11_init 5 = .ok (.sipush 540, 3) := by decide +kernel
theorem dX11_init_8 : decode cX11_init 8 = .ok (.newarray .byte, 2) := by decide +kernel
theorem dX11_init_10 : decode cX11_init 10 = .ok (.putfield 9, 3) := by decide +kernel
theorem dX11_init_13 : decode cX11_init 13 = .ok (.aload_n 0, 1) := by decide +kernel
theorem dX11_init_14 : decode cX11_init 14 = .ok (.iconst 0, 1) := by decide +kernel
theorem dX11_init_15 : decode cX11_init 15 = .ok (.putfield 13, 3) := by decide +kernel
theorem dX11_init_18 : decode cX11_init 18 = .ok (.aload_n 0, 1) := by decide +kernel
theorem dX11_init_19 : decode cX11_init 19 = .ok (.iconst 0, 1) := by decide +kernel
theorem dX11_init_20 : decode cX11_init 20 = .ok (.putfield 17, 3) := by decide +kernel
theorem dX11_init_23 : decode cX11_init 23 = .ok (.aload_n 0, 1) := by decide +kernel
theorem dX11_init_24 : decode cX11_init 24 = .ok (.new 20, 3) := by decide +kernel
theorem dX11_init_27 : decode cX11_init 27 = .ok (.dup, 1) := by decide +kernel
theorem dX11_init_28 : decode cX11_init 28 = .ok (.invokespecial 22, 3) := by decide +kernel
theorem dX11_init_31 : decode cX11_init 31 = .ok (.putfield 23, 3) := by decide +kernel
theorem dX11_init_34 : decode cX11_init 34 = .ok (.aload_n 0, 1) := by decide +kernel
theorem dX11_init_35 : decode cX11_init 35 = .ok (.iconst 2, 1) := by decide +kernel
theorem dX11_init_36 : decode cX11_init 36 = .ok (.anewarray 20, 3) := by decide +kernel
theorem dX11_init_39 : decode cX11_init 39 = .ok (.putfield 27, 3) := by decide +kernel
theorem dX11_init_42 : decode cX11_init 42 = .ok (.aload_n 0, 1) := by decide +kernel
theorem dX11_init_43 : decode cX11_init 43 = .ok (.iconst 2, 1) := by decide +kernel
theorem dX11_init_44 : decode cX11_init 44 = .ok (.newarray .boolean, 2) := by decide +kernel
theorem dX11_init_46 : decode cX11_init 46 = .ok (.putfield 31, 3) := by decide +kernel
theorem dX11_init_49 : decode cX11_init 49 = .ok (.aload_n 0, 1) := by decide +kernel
theorem dX11_init_50 : decode cX11_init 50 = .ok (.new 35, 3) := by decide +kernel
theorem dX11_init_53 : decode cX11_init 53 = .ok (.dup, 1) := by decide +kernel
theorem dX11_init_54 : decode cX11_init 54 = .ok (.aload_n 0, 1) := by decide +kernel
theorem dX11_init_55 : decode cX11_init 55 = .ok (.getfield 9, 3) := by decide +kernel
theorem dX11_init_58 : decode cX11_init 58 = .ok (.invokespecial 37, 3) := by decide +kernel
theorem dX11_init_61 : decode cX11_init 61 = .ok (.putfield 40, 3) := by decide +kernel
theorem dX11_init_64 : decode cX11_init 64 = .ok (.aload_n 0, 1) := by decide +kernel
theorem dX11_init_65 : decode cX11_init 65 = .ok (.new 44, 3) := by decide +kernel
theorem dX11_init_68 : decode cX11_init 68 = .ok (.dup, 1) := by decide +kernel
theorem dX11_init_69 : decode cX11_init 69 = .ok (.invokespecial 46, 3) := by decide +kernel
theorem dX11_init_72 : decode cX11_init 72 = .ok (.putfield 47, 3) := by decide +kernel
theorem dX11_init_75 : decode cX11_init 75 = .ok (.aload_n 0, 1) := by decide +kernel
theorem dX11_init_76 : decode cX11_init 76 = .ok (.new 51, 3) := by decide +kernel
theorem dX11_init_79 : decode cX11_init 79 = .ok (.dup, 1) := by decide +kernel
theorem dX11_init_80 : decode cX11_init 80 = .ok (.aload_n 0, 1) := by decide +kernel
theorem dX11_init_81 : decode cX11_init 81 = .ok (.getfield 23, 3) := by decide +kernel
theorem dX11_init_84 : decode cX11_init 84 = .ok (.invokespecial 53, 3) := by decide +kernel
theorem dX11_init_87 : decode cX11_init 87 = .ok (.putfield 56, 3) := by decide +kernel
theorem dX11_init_90 : decode cX11_init 90 = .ok (.aload_n 0, 1) := by decide +kernel
theorem dX11_init_91 : decode cX11_init 91 = .ok (.new 60, 3) := by decide +kernel
theorem dX11_init_94 : decode cX11_init 94 = .ok (.dup, 1) := by decide +kernel
theorem dX11_init_95 : decode cX11_init 95 = .ok (.aload_n 0, 1) := by decide +kernel
theorem dX11_init_96 : decode cX11_init 96 = .ok (.getfield 56, 3) := by decide +kernel
theorem dX11_init_99 : decode cX11_init 99 = .ok (.invokespecial 62, 3) := by decide +kernel
theorem dX11_init_102 : decode cX11_init 102 = .ok (.putfield 65, 3) := by decide +kernel
theorem dX11_init_105 : decode cX11_init 105 = .ok (.aload_n 0, 1) := by decide +kernel
theorem dX11_init_106 : decode cX11_init 106 = .ok (.new 69, 3) := by decide +kernel
theorem dX11_init_109 : decode cX11_init 109 = .ok (.dup, 1) := by decide +kernel
theorem dX11_init_110 : decode cX11_init 110 = .ok (.aload_n 0, 1) := by decide +kernel
theorem dX11_init_111 : decode cX11_init 111 = .ok (.getfield 56, 3) := by decide +kernel
theorem dX11_init_114 : decode cX11_init 114 = .ok (.invokespecial 71, 3) := by decide +kernel
theorem dX11_init_117 : decode cX11_init 117 = .ok (.putfield 72, 3) := by decide +kernel
theorem dX11_init_120 : decode cX11_init 120 = .ok (.aload_n 0, 1) := by decide +kernel
theorem dX11_init_121 : decode cX11_init 121 = .ok (.new 76, 3) := by decide +kernel
theorem dX11_init_124 : decode cX11_init 124 = .ok (.dup, 1) := by decide +kernel
theorem dX11_init_125 : decode cX11_init 125 = .ok (.aload_n 0, 1) := by decide +kernel
theorem dX11_init_126 : decode cX11_init 126 = .ok (.getfield 56, 3) := by decide +kernel
theorem dX11_init_129 : decode cX11_init 129 = .ok (.invokespecial 78, 3) := by decide +kernel
theorem dX11_init_132 : decode cX11_init 132 = .ok (.putfield 79, 3) := by decide +kernel
theorem dX11_init_135 : decode cX11_init 135 = .ok (.iconst 0, 1) := by decide +kernel
theorem dX11_init_136 : decode cX11_init 136 = .ok (.istore_n 1, 1) := by decide +kernel
theorem dX11_init_137 : decode cX11_init 137 = .ok (.iload_n 1, 1) := by decide +kernel
theorem dX11_init_138 : decode cX11_init 138 = .ok (.iconst 2, 1) := by decide +kernel
theorem dX11_init_139 : decode cX11_init 139 = .ok (.if_icmp .ge 22, 3) := by decide +kernel
theorem dX11_init_142 : decode cX11_init 142 = .ok (.aload_n 0, 1) := by decide +kernel
theorem dX11_init_143 : decode cX11_init 143 = .ok (.getfield 27, 3) := by decide +kernel
theorem dX11_init_146 : decode cX11_init 146 = .ok (.iload_n 1, 1) := by decide +kernel
theorem dX11_init_147 : decode cX11_init 147 = .ok (.new 20, 3) := by decide +kernel
theorem dX11_init_150 : decode cX11_init 150 = .ok (.dup, 1) := by decide +kernel
theorem dX11_init_151 : decode cX11_init 151 = .ok (.invokespecial 22, 3) := by decide +kernel
theorem dX11_init_154 : decode cX11_init 154 = .ok (.aastore, 1) := by decide +kernel
theorem dX11_init_155 : decode cX11_init 155 = .ok (.iinc 1 1, 3) := by decide +kernel
theorem dX11_init_158 : decode cX11_init 158 = .ok (.goto (-21), 3) := by decide +kernel
theorem dX11_init_161 : decode cX11_init 161 = .ok (.return_, 1) := by decide +kernel
theorem dX11_feed_0 : decode cX11_feed 0 = .ok (.aload_n 0, 1) := by decide +kernel
theorem dX11_feed_1 : decode cX11_feed 1 = .ok (.getfield 13, 3) := by decide +kernel
theorem dX11_feed_4 : decode cX11_feed 4 = .ok (.bipush 20, 2) := by decide +kernel
theorem dX11_feed_6 : decode cX11_feed 6 = .ok (.iadd, 1) := by decide +kernel
theorem dX11_feed_7 : decode cX11_feed 7 = .ok (.sipush 540, 3) := by decide +kernel
theorem dX11_feed_10 : decode cX11_feed 10 = .ok (.if_icmp .le 5, 3) := by decide +kernel
theorem dX11_feed_13 : decode cX11_feed 13 = .ok (.iconst (-1), 1) := by decide +kernel
theorem dX11_feed_14 : decode cX11_feed 14 = .ok (.ireturn, 1) := by decide +kernel
theorem dX11_feed_15 : decode cX11_feed 15 = .ok (.aload_n 0, 1) := by decide +kernel
theorem dX11_feed_16 : decode cX11_feed 16 = .ok (.iload_n 1, 1) := by decide +kernel
theorem dX11_feed_17 : decode cX11_feed 17 = .ok (.invokevirtual 83, 3) := by decide +kernel
theorem dX11_feed_20 : decode cX11_feed 20 = .ok (.aload_n 0, 1) := by decide +kernel
theorem dX11_feed_21 : decode cX11_feed 21 = .ok (.iload_n 2, 1) := by decide +kernel
theorem dX11_feed_22 : decode cX11_feed 22 = .ok (.invokevirtual 83, 3) := by decide +kernel
theorem dX11_feed_25 : decode cX11_feed 25 = .ok (.aload_n 0, 1) := by decide +kernel
theorem dX11_feed_26 : decode cX11_feed 26 = .ok (.iload_n 3, 1) := by decide +kernel
theorem dX11_feed_27 : decode cX11_feed 27 = .ok (.invokevirtual 83, 3) := by decide +kernel
theorem dX11_feed_30 : decode cX11_feed 30 = .ok (.aload_n 0, 1) := by decide +kernel
theorem dX11_feed_31 : decode cX11_feed 31 = .ok (.iload 4, 2) := by decide +kernel
theorem dX11_feed_33 : decode cX11_feed 33 = .ok (.invokevirtual 83, 3) := by decide +kernel
theorem dX11_feed_36 : decode cX11_feed 36 = .ok (.aload_n 0, 1) := by decide +kernel
theorem dX11_feed_37 : decode cX11_feed 37 = .ok (.iload 5, 2) := by decide +kernel
theorem dX11_feed_39 : decode cX11_feed 39 = .ok (.invokevirtual 83, 3) := by decide +kernel
theorem dX11_feed_42 : decode cX11_feed 42 = .ok (.aload_n 0, 1) := by decide +kernel
theorem dX11_feed_43 : decode cX11_feed 43 = .ok (.getfield 13, 3) := by decide +kernel
theorem dX11_feed_46 : decode cX11_feed 46 = .ok (.ireturn, 1) := by decide +kernel
theorem dX11_append_0 : decode cX11_append 0 = .ok (.bipush 24, 2) := by decide +kernel
theorem dX11_append_2 : decode cX11_append 2 = .ok (.istore_n 2, 1) := by decide +kernel
theorem dX11_append_3 : decode cX11_append 3 = .ok (.iload_n 2, 1) := by decide +kernel
theorem dX11_append_4 : decode cX11_append 4 = .ok (.ifCond .lt 32, 3) := by decide +kernel
theorem dX11_append_7 : decode cX11_append 7 = .ok (.aload_n 0, 1) := by decide +kernel
theorem dX11_append_8 : decode cX11_append 8 = .ok (.getfield 9, 3) := by decide +kernel
theorem dX11_append_11 : decode cX11_append 11 = .ok (.aload_n 0, 1) := by decide +kernel
theorem dX11_append_12 : decode cX11_append 12 = .ok (.getfield 13, 3) := by decide +kernel
theorem dX11_append_15 : decode cX11_append 15 = .ok (.iload_n 1, 1) := by decide +kernel
theorem dX11_append_16 : decode cX11_append 16 = .ok (.iload_n 2, 1) := by decide +kernel
theorem dX11_append_17 : decode cX11_append 17 = .ok (.iushr, 1) := by decide +kernel
theorem dX11_append_18 : decode cX11_append 18 = .ok (.i2b, 1) := by decide +kernel
theorem dX11_append_19 : decode cX11_append 19 = .ok (.bastore, 1) := by decide +kernel
theorem dX11_append_20 : decode cX11_append 20 = .ok (.aload_n 0, 1) := by decide +kernel
theorem dX11_append_21 : decode cX11_append 21 = .ok (.dup, 1) := by decide +kernel
theorem dX11_append_22 : decode cX11_append 22 = .ok (.getfield 13, 3) := by decide +kernel
theorem dX11_append_25 : decode cX11_append 25 = .ok (.iconst 1, 1) := by decide +kernel
theorem dX11_append_26 : decode cX11_append 26 = .ok (.iadd, 1) := by decide +kernel
theorem dX11_append_27 : decode cX11_append 27 = .ok (.putfield 13, 3) := by decide +kernel
theorem dX11_append_30 : decode cX11_append 30 = .ok (.iinc 2 (-8), 3) := by decide +kernel
theorem dX11_append_33 : decode cX11_append 33 = .ok (.goto (-30), 3) := by decide +kernel
theorem dX11_append_36 : decode cX11_append 36 = .ok (.return_, 1) := by decide +kernel
theorem dX11_end_0 : decode cX11_end 0 = .ok (.iload_n 1, 1) := by decide +kernel
theorem dX11_end_1 : decode cX11_end 1 = .ok (.ifCond .lt 11, 3) := by decide +kernel
theorem dX11_end_4 : decode cX11_end 4 = .ok (.iload_n 1, 1) := by decide +kernel
theorem dX11_end_5 : decode cX11_end 5 = .ok (.aload_n 0, 1) := by decide +kernel
theorem dX11_end_6 : decode cX11_end 6 = .ok (.getfield 13, 3) := by decide +kernel
theorem dX11_end_9 : decode cX11_end 9 = .ok (.if_icmp .le 5, 3) := by decide +kernel
theorem dX11_end_12 : decode cX11_end 12 = .ok (.iconst 0, 1) := by decide +kernel
theorem dX11_end_13 : decode cX11_end 13 = .ok (.ireturn, 1) := by decide +kernel
theorem dX11_end_14 : decode cX11_end 14 = .ok (.aload_n 0, 1) := by decide +kernel
theorem dX11_end_15 : decode cX11_end 15 = .ok (.iload_n 1, 1) := by decide +kernel
theorem dX11_end_16 : decode cX11_end 16 = .ok (.putfield 13, 3) := by decide +kernel
theorem dX11_end_19 : decode cX11_end 19 = .ok (.iconst 1, 1) := by decide +kernel
theorem dX11_end_20 : decode cX11_end 20 = .ok (.ireturn, 1) := by decide +kernel
theorem dX11_bench_0 : decode cX11_bench 0 = .ok (.aload_n 0, 1) := by decide +kernel
theorem dX11_bench_1 : decode cX11_bench 1 = .ok (.getfield 40, 3) := by decide +kernel
theorem dX11_bench_4 : decode cX11_bench 4 = .ok (.aload_n 0, 1) := by decide +kernel
theorem dX11_bench_5 : decode cX11_bench 5 = .ok (.getfield 13, 3) := by decide +kernel
theorem dX11_bench_8 : decode cX11_bench 8 = .ok (.invokevirtual 87, 3) := by decide +kernel
theorem dX11_bench_11 : decode cX11_bench 11 = .ok (.istore_n 1, 1) := by decide +kernel
theorem dX11_bench_12 : decode cX11_bench 12 = .ok (.aload_n 0, 1) := by decide +kernel
theorem dX11_bench_13 : decode cX11_bench 13 = .ok (.iconst 0, 1) := by decide +kernel
theorem dX11_bench_14 : decode cX11_bench 14 = .ok (.putfield 13, 3) := by decide +kernel
theorem dX11_bench_17 : decode cX11_bench 17 = .ok (.aload_n 0, 1) := by decide +kernel
theorem dX11_bench_18 : decode cX11_bench 18 = .ok (.aload_n 0, 1) := by decide +kernel
theorem dX11_bench_19 : decode cX11_bench 19 = .ok (.getfield 40, 3) := by decide +kernel
theorem dX11_bench_22 : decode cX11_bench 22 = .ok (.getfield 91, 3) := by decide +kernel
theorem dX11_bench_25 : decode cX11_bench 25 = .ok (.putfield 17, 3) := by decide +kernel
theorem dX11_bench_28 : decode cX11_bench 28 = .ok (.iload_n 1, 1) := by decide +kernel
theorem dX11_bench_29 : decode cX11_bench 29 = .ok (.ifCond .ne 15, 3) := by decide +kernel
theorem dX11_bench_32 : decode cX11_bench 32 = .ok (.sipush (-1000), 3) := by decide +kernel
theorem dX11_bench_35 : decode cX11_bench 35 = .ok (.aload_n 0, 1) := by decide +kernel
theorem dX11_bench_36 : decode cX11_bench 36 = .ok (.getfield 40, 3) := by decide +kernel
theorem dX11_bench_39 : decode cX11_bench 39 = .ok (.getfield 92, 3) := by decide +kernel
theorem dX11_bench_42 : decode cX11_bench 42 = .ok (.isub, 1) := by decide +kernel
theorem dX11_bench_43 : decode cX11_bench 43 = .ok (.ireturn, 1) := by decide +kernel
theorem dX11_bench_44 : decode cX11_bench 44 = .ok (.aload_n 0, 1) := by decide +kernel
theorem dX11_bench_45 : decode cX11_bench 45 = .ok (.getfield 23, 3) := by decide +kernel
theorem dX11_bench_48 : decode cX11_bench 48 = .ok (.aload_n 0, 1) := by decide +kernel
theorem dX11_bench_49 : decode cX11_bench 49 = .ok (.getfield 40, 3) := by decide +kernel
theorem dX11_bench_52 : decode cX11_bench 52 = .ok (.getfield 95, 3) := by decide +kernel
theorem dX11_bench_55 : decode cX11_bench 55 = .ok (.invokevirtual 98, 3) := by decide +kernel
theorem dX11_bench_58 : decode cX11_bench 58 = .ok (.aload_n 0, 1) := by decide +kernel
theorem dX11_bench_59 : decode cX11_bench 59 = .ok (.getfield 47, 3) := by decide +kernel
theorem dX11_bench_62 : decode cX11_bench 62 = .ok (.iconst 0, 1) := by decide +kernel
theorem dX11_bench_63 : decode cX11_bench 63 = .ok (.putfield 101, 3) := by decide +kernel
theorem dX11_bench_66 : decode cX11_bench 66 = .ok (.aload_n 0, 1) := by decide +kernel
theorem dX11_bench_67 : decode cX11_bench 67 = .ok (.getfield 56, 3) := by decide +kernel
theorem dX11_bench_70 : decode cX11_bench 70 = .ok (.iconst 1, 1) := by decide +kernel
theorem dX11_bench_71 : decode cX11_bench 71 = .ok (.putfield 104, 3) := by decide +kernel
theorem dX11_bench_74 : decode cX11_bench 74 = .ok (.aload_n 0, 1) := by decide +kernel
theorem dX11_bench_75 : decode cX11_bench 75 = .ok (.getfield 23, 3) := by decide +kernel
theorem dX11_bench_78 : decode cX11_bench 78 = .ok (.getfield 108, 3) := by decide +kernel
theorem dX11_bench_81 : decode cX11_bench 81 = .ok (.ireturn, 1) := by decide +kernel
theorem dX11_fault_0 : decode cX11_fault 0 = .ok (.aload_n 0, 1) := by decide +kernel
theorem dX11_fault_1 : decode cX11_fault 1 = .ok (.getfield 17, 3) := by decide +kernel
theorem dX11_fault_4 : decode cX11_fault 4 = .ok (.ireturn, 1) := by decide +kernel
theorem dX11_count_0 : decode cX11_count 0 = .ok (.iload_n 1, 1) := by decide +kernel
theorem dX11_count_1 : decode cX11_count 1 = .ok (.tableswitch 97 0 6 #[43, 51, 59, 67, 75, 84, 92], 43) := by decide +kernel
theorem dX11_count_44 : decode cX11_count 44 = .ok (.aload_n 0, 1) := by decide +kernel
theorem dX11_count_45 : decode cX11_count 45 = .ok (.getfield 23, 3) := by decide +kernel
theorem dX11_count_48 : decode cX11_count 48 = .ok (.getfield 111, 3) := by decide +kernel
theorem dX11_count_51 : decode cX11_count 51 = .ok (.ireturn, 1) := by decide +kernel
theorem dX11_count_52 : decode cX11_count 52 = .ok (.aload_n 0, 1) := by decide +kernel
theorem dX11_count_53 : decode cX11_count 53 = .ok (.getfield 23, 3) := by decide +kernel
theorem dX11_count_56 : decode cX11_count 56 = .ok (.getfield 108, 3) := by decide +kernel
theorem dX11_count_59 : decode cX11_count 59 = .ok (.ireturn, 1) := by decide +kernel
theorem dX11_count_60 : decode cX11_count 60 = .ok (.aload_n 0, 1) := by decide +kernel
theorem dX11_count_61 : decode cX11_count 61 = .ok (.getfield 23, 3) := by decide +kernel
theorem dX11_count_64 : decode cX11_count 64 = .ok (.getfield 114, 3) := by decide +kernel
theorem dX11_count_67 : decode cX11_count 67 = .ok (.ireturn, 1) := by decide +kernel
theorem dX11_count_68 : decode cX11_count 68 = .ok (.aload_n 0, 1) := by decide +kernel
theorem dX11_count_69 : decode cX11_count 69 = .ok (.getfield 23, 3) := by decide +kernel
theorem dX11_count_72 : decode cX11_count 72 = .ok (.getfield 117, 3) := by decide +kernel
theorem dX11_count_75 : decode cX11_count 75 = .ok (.ireturn, 1) := by decide +kernel
theorem dX11_count_76 : decode cX11_count 76 = .ok (.aload_n 0, 1) := by decide +kernel
theorem dX11_count_77 : decode cX11_count 77 = .ok (.getfield 23, 3) := by decide +kernel
theorem dX11_count_80 : decode cX11_count 80 = .ok (.iconst 0, 1) := by decide +kernel
theorem dX11_count_81 : decode cX11_count 81 = .ok (.invokevirtual 120, 3) := by decide +kernel
theorem dX11_count_84 : decode cX11_count 84 = .ok (.ireturn, 1) := by decide +kernel
theorem dX11_count_85 : decode cX11_count 85 = .ok (.aload_n 0, 1) := by decide +kernel
theorem dX11_count_86 : decode cX11_count 86 = .ok (.getfield 47, 3) := by decide +kernel
theorem dX11_count_89 : decode cX11_count 89 = .ok (.getfield 101, 3) := by decide +kernel
theorem dX11_count_92 : decode cX11_count 92 = .ok (.ireturn, 1) := by decide +kernel
theorem dX11_count_93 : decode cX11_count 93 = .ok (.aload_n 0, 1) := by decide +kernel
theorem dX11_count_94 : decode cX11_count 94 = .ok (.getfield 13, 3) := by decide +kernel
theorem dX11_count_97 : decode cX11_count 97 = .ok (.ireturn, 1) := by decide +kernel
theorem dX11_count_98 : decode cX11_count 98 = .ok (.iconst (-1), 1) := by decide +kernel
theorem dX11_count_99 : decode cX11_count 99 = .ok (.ireturn, 1) := by decide +kernel
theorem dX11_step_0 : decode cX11_step 0 = .ok (.iload_n 2, 1) := by decide +kernel
theorem dX11_step_1 : decode cX11_step 1 = .ok (.ifCond .ne 29, 3) := by decide +kernel
theorem dX11_step_4 : decode cX11_step 4 = .ok (.iload_n 1, 1) := by decide +kernel
theorem dX11_step_5 : decode cX11_step 5 = .ok (.iconst 1, 1) := by decide +kernel
theorem dX11_step_6 : decode cX11_step 6 = .ok (.if_icmp .lt 24, 3) := by decide +kernel
theorem dX11_step_9 : decode cX11_step 9 = .ok (.iload_n 1, 1) := by decide +kernel
theorem dX11_step_10 : decode cX11_step 10 = .ok (.aload_n 0, 1) := by decide +kernel
theorem dX11_step_11 : decode cX11_step 11 = .ok (.getfield 23, 3) := by decide +kernel
theorem dX11_step_14 : decode cX11_step 14 = .ok (.getfield 111, 3) := by decide +kernel
theorem dX11_step_17 : decode cX11_step 17 = .ok (.if_icmp .gt 13, 3) := by decide +kernel
theorem dX11_step_20 : decode cX11_step 20 = .ok (.aload_n 0, 1) := by decide +kernel
theorem dX11_step_21 : decode cX11_step 21 = .ok (.getfield 23, 3) := by decide +kernel
theorem dX11_step_24 : decode cX11_step 24 = .ok (.getfield 124, 3) := by decide +kernel
theorem dX11_step_27 : decode cX11_step 27 = .ok (.iload_n 1, 1) := by decide +kernel
theorem dX11_step_28 : decode cX11_step 28 = .ok (.iaload, 1) := by decide +kernel
theorem dX11_step_29 : decode cX11_step 29 = .ok (.ireturn, 1) := by decide +kernel
theorem dX11_step_30 : decode cX11_step 30 = .ok (.iload_n 2, 1) := by decide +kernel
theorem dX11_step_31 : decode cX11_step 31 = .ok (.iconst 1, 1) := by decide +kernel
theorem dX11_step_32 : decode cX11_step 32 = .ok (.if_icmp .ne 21, 3) := by decide +kernel
theorem dX11_step_35 : decode cX11_step 35 = .ok (.aload_n 0, 1) := by decide +kernel
theorem dX11_step_36 : decode cX11_step 36 = .ok (.iload_n 1, 1) := by decide +kernel
theorem dX11_step_37 : decode cX11_step 37 = .ok (.invokevirtual 128, 3) := by decide +kernel
theorem dX11_step_40 : decode cX11_step 40 = .ok (.ifCond .eq 13, 3) := by decide +kernel
theorem dX11_step_43 : decode cX11_step 43 = .ok (.aload_n 0, 1) := by decide +kernel
theorem dX11_step_44 : decode cX11_step 44 = .ok (.getfield 23, 3) := by decide +kernel
theorem dX11_step_47 : decode cX11_step 47 = .ok (.getfield 131, 3) := by decide +kernel
theorem dX11_step_50 : decode cX11_step 50 = .ok (.iload_n 1, 1) := by decide +kernel
theorem dX11_step_51 : decode cX11_step 51 = .ok (.iaload, 1) := by decide +kernel
theorem dX11_step_52 : decode cX11_step 52 = .ok (.ireturn, 1) := by decide +kernel
theorem dX11_step_53 : decode cX11_step 53 = .ok (.iconst (-1), 1) := by decide +kernel
theorem dX11_step_54 : decode cX11_step 54 = .ok (.ireturn, 1) := by decide +kernel
theorem dX11_option_0 : decode cX11_option 0 = .ok (.aload_n 0, 1) := by decide +kernel
theorem dX11_option_1 : decode cX11_option 1 = .ok (.iload_n 1, 1) := by decide +kernel
theorem dX11_option_2 : decode cX11_option 2 = .ok (.invokevirtual 134, 3) := by decide +kernel
theorem dX11_option_5 : decode cX11_option 5 = .ok (.ifCond .ne 6, 3) := by decide +kernel
theorem dX11_option_8 : decode cX11_option 8 = .ok (.ldc 137, 2) := by decide +kernel
theorem dX11_option_10 : decode cX11_option 10 = .ok (.ireturn, 1) := by decide +kernel
theorem dX11_option_11 : decode cX11_option 11 = .ok (.aload_n 0, 1) := by decide +kernel
theorem dX11_option_12 : decode cX11_option 12 = .ok (.getfield 23, 3) := by decide +kernel
theorem dX11_option_15 : decode cX11_option 15 = .ok (.getfield 138, 3) := by decide +kernel
theorem dX11_option_18 : decode cX11_option 18 = .ok (.iload_n 1, 1) := by decide +kernel
theorem dX11_option_19 : decode cX11_option 19 = .ok (.aaload, 1) := by decide +kernel
theorem dX11_option_20 : decode cX11_option 20 = .ok (.astore_n 3, 1) := by decide +kernel
theorem dX11_option_21 : decode cX11_option 21 = .ok (.iload_n 2, 1) := by decide +kernel
theorem dX11_option_22 : decode cX11_option 22 = .ok (.tableswitch 114 0 9 #[54, 59, 64, 69, 84, 89, 94, 99, 104, 109], 54) := by decide +kernel
theorem dX11_option_76 : decode cX11_option 76 = .ok (.aload_n 3, 1) := by decide +kernel
theorem dX11_option_77 : decode cX11_option 77 = .ok (.getfield 142, 3) := by decide +kernel
theorem dX11_option_80 : decode cX11_option 80 = .ok (.ireturn, 1) := by decide +kernel
theorem dX11_option_81 : decode cX11_option 81 = .ok (.aload_n 3, 1) := by decide +kernel
theorem dX11_option_82 : decode cX11_option 82 = .ok (.getfield 147, 3) := by decide +kernel
theorem dX11_option_85 : decode cX11_option 85 = .ok (.ireturn, 1) := by decide +kernel
theorem dX11_option_86 : decode cX11_option 86 = .ok (.aload_n 3, 1) := by decide +kernel
theorem dX11_option_87 : decode cX11_option 87 = .ok (.getfield 150, 3) := by decide +kernel
theorem dX11_option_90 : decode cX11_option 90 = .ok (.ireturn, 1) := by decide +kernel
theorem dX11_option_91 : decode cX11_option 91 = .ok (.aload_n 3, 1) := by decide +kernel
theorem dX11_option_92 : decode cX11_option 92 = .ok (.getfield 153, 3) := by decide +kernel
theorem dX11_option_95 : decode cX11_option 95 = .ok (.aload_n 0, 1) := by decide +kernel
theorem dX11_option_96 : decode cX11_option 96 = .ok (.getfield 23, 3) := by decide +kernel
theorem dX11_option_99 : decode cX11_option 99 = .ok (.getfield 111, 3) := by decide +kernel
theorem dX11_option_102 : decode cX11_option 102 = .ok (.invokestatic 156, 3) := by decide +kernel
theorem dX11_option_105 : decode cX11_option 105 = .ok (.ireturn, 1) := by decide +kernel
theorem dX11_option_106 : decode cX11_option 106 = .ok (.aload_n 3, 1) := by decide +kernel
theorem dX11_option_107 : decode cX11_option 107 = .ok (.getfield 162, 3) := by decide +kernel
theorem dX11_option_110 : decode cX11_option 110 = .ok (.ireturn, 1) := by decide +kernel
theorem dX11_option_111 : decode cX11_option 111 = .ok (.aload_n 3, 1) := by decide +kernel
theorem dX11_option_112 : decode cX11_option 112 = .ok (.getfield 165, 3) := by decide +kernel
theorem dX11_option_115 : decode cX11_option 115 = .ok (.ireturn, 1) := by decide +kernel
theorem dX11_option_116 : decode cX11_option 116 = .ok (.aload_n 3, 1) := by decide +kernel
theorem dX11_option_117 : decode cX11_option 117 = .ok (.getfield 168, 3) := by decide +kernel
theorem dX11_option_120 : decode cX11_option 120 = .ok (.ireturn, 1) := by decide +kernel
theorem dX11_option_121 : decode cX11_option 121 = .ok (.aload_n 3, 1) := by decide +kernel
theorem dX11_option_122 : decode cX11_option 122 = .ok (.getfield 171, 3) := by decide +kernel
theorem dX11_option_125 : decode cX11_option 125 = .ok (.ireturn, 1) := by decide +kernel
theorem dX11_option_126 : decode cX11_option 126 = .ok (.aload_n 3, 1) := by decide +kernel
theorem dX11_option_127 : decode cX11_option 127 = .ok (.getfield 174, 3) := by decide +kernel
theorem dX11_option_130 : decode cX11_option 130 = .ok (.ireturn, 1) := by decide +kernel
theorem dX11_option_131 : decode cX11_option 131 = .ok (.aload_n 3, 1) := by decide +kernel
theorem dX11_option_132 : decode cX11_option 132 = .ok (.getfield 177, 3) := by decide +kernel
theorem dX11_option_135 : decode cX11_option 135 = .ok (.ireturn, 1) := by decide +kernel
theorem dX11_option_136 : decode cX11_option 136 = .ok (.ldc 137, 2) := by decide +kernel
theorem dX11_option_138 : decode cX11_option 138 = .ok (.ireturn, 1) := by decide +kernel
theorem dX11_price_0 : decode cX11_price 0 = .ok (.aload_n 0, 1) := by decide +kernel
theorem dX11_price_1 : decode cX11_price 1 = .ok (.iload_n 1, 1) := by decide +kernel
theorem dX11_price_2 : decode cX11_price 2 = .ok (.iload_n 2, 1) := by decide +kernel
theorem dX11_price_3 : decode cX11_price 3 = .ok (.invokevirtual 180, 3) := by decide +kernel
theorem dX11_price_6 : decode cX11_price 6 = .ok (.ifCond .ne 5, 3) := by decide +kernel
theorem dX11_price_9 : decode cX11_price 9 = .ok (.iconst (-1), 1) := by decide +kernel
theorem dX11_price_10 : decode cX11_price 10 = .ok (.ireturn, 1) := by decide +kernel
theorem dX11_price_11 : decode cX11_price 11 = .ok (.aload_n 0, 1) := by decide +kernel
theorem dX11_price_12 : decode cX11_price 12 = .ok (.getfield 56, 3) := by decide +kernel
theorem dX11_price_15 : decode cX11_price 15 = .ok (.invokevirtual 184, 3) := by decide +kernel
theorem dX11_price_18 : decode cX11_price 18 = .ok (.iload_n 1, 1) := by decide +kernel
theorem dX11_price_19 : decode cX11_price 19 = .ok (.iload_n 2, 1) := by decide +kernel
theorem dX11_price_20 : decode cX11_price 20 = .ok (.invokestatic 187, 3) := by decide +kernel
theorem dX11_price_23 : decode cX11_price 23 = .ok (.istore 4, 2) := by decide +kernel
theorem dX11_price_25 : decode cX11_price 25 = .ok (.iload_n 3, 1) := by decide +kernel
theorem dX11_price_26 : decode cX11_price 26 = .ok (.tableswitch 69 0 2 #[26, 37, 58], 26) := by decide +kernel
theorem dX11_price_52 : decode cX11_price 52 = .ok (.aload_n 0, 1) := by decide +kernel
theorem dX11_price_53 : decode cX11_price 53 = .ok (.getfield 56, 3) := by decide +kernel
theorem dX11_price_56 : decode cX11_price 56 = .ok (.getfield 190, 3) := by decide +kernel
theorem dX11_price_59 : decode cX11_price 59 = .ok (.iload 4, 2) := by decide +kernel
theorem dX11_price_61 : decode cX11_price 61 = .ok (.iaload, 1) := by decide +kernel
theorem dX11_price_62 : decode cX11_price 62 = .ok (.ireturn, 1) := by decide +kernel
theorem dX11_price_63 : decode cX11_price 63 = .ok (.aload_n 0, 1) := by decide +kernel
theorem dX11_price_64 : decode cX11_price 64 = .ok (.getfield 56, 3) := by decide +kernel
theorem dX11_price_67 : decode cX11_price 67 = .ok (.getfield 190, 3) := by decide +kernel
theorem dX11_price_70 : decode cX11_price 70 = .ok (.iload 4, 2) := by decide +kernel
theorem dX11_price_72 : decode cX11_price 72 = .ok (.iaload, 1) := by decide +kernel
theorem dX11_price_73 : decode cX11_price 73 = .ok (.aload_n 0, 1) := by decide +kernel
theorem dX11_price_74 : decode cX11_price 74 = .ok (.getfield 23, 3) := by decide +kernel
theorem dX11_price_77 : decode cX11_price 77 = .ok (.getfield 131, 3) := by decide +kernel
theorem dX11_price_80 : decode cX11_price 80 = .ok (.iload_n 1, 1) := by decide +kernel
theorem dX11_price_81 : decode cX11_price 81 = .ok (.iaload, 1) := by decide +kernel
theorem dX11_price_82 : decode cX11_price 82 = .ok (.isub, 1) := by decide +kernel
theorem dX11_price_83 : decode cX11_price 83 = .ok (.ireturn, 1) := by decide +kernel
theorem dX11_price_84 : decode cX11_price 84 = .ok (.aload_n 0, 1) := by decide +kernel
theorem dX11_price_85 : decode cX11_price 85 = .ok (.getfield 56, 3) := by decide +kernel
theorem dX11_price_88 : decode cX11_price 88 = .ok (.getfield 193, 3) := by decide +kernel
theorem dX11_price_91 : decode cX11_price 91 = .ok (.iload 4, 2) := by decide +kernel
theorem dX11_price_93 : decode cX11_price 93 = .ok (.iaload, 1) := by decide +kernel
theorem dX11_price_94 : decode cX11_price 94 = .ok (.ireturn, 1) := by decide +kernel
theorem dX11_price_95 : decode cX11_price 95 = .ok (.iconst (-1), 1) := by decide +kernel
theorem dX11_price_96 : decode cX11_price 96 = .ok (.ireturn, 1) := by decide +kernel
theorem dX11_pays_0 : decode cX11_pays 0 = .ok (.aload_n 0, 1) := by decide +kernel
theorem dX11_pays_1 : decode cX11_pays 1 = .ok (.iload_n 1, 1) := by decide +kernel
theorem dX11_pays_2 : decode cX11_pays 2 = .ok (.invokevirtual 134, 3) := by decide +kernel
theorem dX11_pays_5 : decode cX11_pays 5 = .ok (.ifCond .eq 24, 3) := by decide +kernel
theorem dX11_pays_8 : decode cX11_pays 8 = .ok (.aload_n 0, 1) := by decide +kernel
theorem dX11_pays_9 : decode cX11_pays 9 = .ok (.iload_n 2, 1) := by decide +kernel
theorem dX11_pays_10 : decode cX11_pays 10 = .ok (.iload_n 3, 1) := by decide +kernel
theorem dX11_pays_11 : decode cX11_pays 11 = .ok (.invokevirtual 180, 3) := by decide +kernel
theorem dX11_pays_14 : decode cX11_pays 14 = .ok (.ifCond .eq 15, 3) := by decide +kernel
theorem dX11_pays_17 : decode cX11_pays 17 = .ok (.iload 4, 2) := by decide +kernel
theorem dX11_pays_19 : decode cX11_pays 19 = .ok (.invokestatic 196, 3) := by decide +kernel
theorem dX11_pays_22 : decode cX11_pays 22 = .ok (.ifCond .eq 7, 3) := by decide +kernel
theorem dX11_pays_25 : decode cX11_pays 25 = .ok (.iconst 1, 1) := by decide +kernel
theorem dX11_pays_26 : decode cX11_pays 26 = .ok (.goto 4, 3) := by decide +kernel
theorem dX11_pays_29 : decode cX11_pays 29 = .ok (.iconst 0, 1) := by decide +kernel
theorem dX11_pays_30 : decode cX11_pays 30 = .ok (.invokestatic 199, 3) := by decide +kernel
theorem dX11_pays_33 : decode cX11_pays 33 = .ok (.aload_n 0, 1) := by decide +kernel
theorem dX11_pays_34 : decode cX11_pays 34 = .ok (.iload_n 1, 1) := by decide +kernel
theorem dX11_pays_35 : decode cX11_pays 35 = .ok (.invokevirtual 203, 3) := by decide +kernel
theorem dX11_pays_38 : decode cX11_pays 38 = .ok (.getfield 207, 3) := by decide +kernel
theorem dX11_pays_41 : decode cX11_pays 41 = .ok (.iload_n 2, 1) := by decide +kernel
theorem dX11_pays_42 : decode cX11_pays 42 = .ok (.iload_n 3, 1) := by decide +kernel
theorem dX11_pays_43 : decode cX11_pays 43 = .ok (.invokestatic 187, 3) := by decide +kernel
theorem dX11_pays_46 : decode cX11_pays 46 = .ok (.laload, 1) := by decide +kernel
theorem dX11_pays_47 : decode cX11_pays 47 = .ok (.aload_n 0, 1) := by decide +kernel
theorem dX11_pays_48 : decode cX11_pays 48 = .ok (.getfield 56, 3) := by decide +kernel
theorem dX11_pays_51 : decode cX11_pays 51 = .ok (.iload_n 2, 1) := by decide +kernel
theorem dX11_pays_52 : decode cX11_pays 52 = .ok (.invokevirtual 213, 3) := by decide +kernel
theorem dX11_pays_55 : decode cX11_pays 55 = .ok (.iload 4, 2) := by decide +kernel
theorem dX11_pays_57 : decode cX11_pays 57 = .ok (.invokestatic 217, 3) := by decide +kernel
theorem dX11_pays_60 : decode cX11_pays 60 = .ok (.lreturn, 1) := by decide +kernel
theorem dX11_value_0 : decode cX11_value 0 = .ok (.aload_n 0, 1) := by decide +kernel
theorem dX11_value_1 : decode cX11_value 1 = .ok (.iload_n 1, 1) := by decide +kernel
theorem dX11_value_2 : decode cX11_value 2 = .ok (.invokevirtual 134, 3) := by decide +kernel
theorem dX11_value_5 : decode cX11_value 5 = .ok (.ifCond .eq 24, 3) := by decide +kernel
theorem dX11_value_8 : decode cX11_value 8 = .ok (.aload_n 0, 1) := by decide +kernel
theorem dX11_value_9 : decode cX11_value 9 = .ok (.iload_n 2, 1) := by decide +kernel
theorem dX11_value_10 : decode cX11_value 10 = .ok (.iload_n 3, 1) := by decide +kernel
theorem dX11_value_11 : decode cX11_value 11 = .ok (.invokevirtual 180, 3) := by decide +kernel
theorem dX11_value_14 : decode cX11_value 14 = .ok (.ifCond .eq 15, 3) := by decide +kernel
theorem dX11_value_17 : decode cX11_value 17 = .ok (.iload 4, 2) := by decide +kernel
theorem dX11_value_19 : decode cX11_value 19 = .ok (.invokestatic 196, 3) := by decide +kernel
theorem dX11_value_22 : decode cX11_value 22 = .ok (.ifCond .eq 7, 3) := by decide +kernel
theorem dX11_value_25 : decode cX11_value 25 = .ok (.iconst 1, 1) := by decide +kernel
theorem dX11_value_26 : decode cX11_value 26 = .ok (.goto 4, 3) := by decide +kernel
theorem dX11_value_29 : decode cX11_value 29 = .ok (.iconst 0, 1) := by decide +kernel
theorem dX11_value_30 : decode cX11_value 30 = .ok (.invokestatic 199, 3) := by decide +kernel
theorem dX11_value_33 : decode cX11_value 33 = .ok (.aload_n 0, 1) := by decide +kernel
theorem dX11_value_34 : decode cX11_value 34 = .ok (.iload_n 1, 1) := by decide +kernel
theorem dX11_value_35 : decode cX11_value 35 = .ok (.invokevirtual 203, 3) := by decide +kernel
theorem dX11_value_38 : decode cX11_value 38 = .ok (.getfield 221, 3) := by decide +kernel
theorem dX11_value_41 : decode cX11_value 41 = .ok (.getfield 225, 3) := by decide +kernel
theorem dX11_value_44 : decode cX11_value 44 = .ok (.iload_n 2, 1) := by decide +kernel
theorem dX11_value_45 : decode cX11_value 45 = .ok (.iload_n 3, 1) := by decide +kernel
theorem dX11_value_46 : decode cX11_value 46 = .ok (.invokestatic 187, 3) := by decide +kernel
theorem dX11_value_49 : decode cX11_value 49 = .ok (.laload, 1) := by decide +kernel
theorem dX11_value_50 : decode cX11_value 50 = .ok (.aload_n 0, 1) := by decide +kernel
theorem dX11_value_51 : decode cX11_value 51 = .ok (.getfield 56, 3) := by decide +kernel
theorem dX11_value_54 : decode cX11_value 54 = .ok (.iload_n 2, 1) := by decide +kernel
theorem dX11_value_55 : decode cX11_value 55 = .ok (.invokevirtual 213, 3) := by decide +kernel
theorem dX11_value_58 : decode cX11_value 58 = .ok (.iload 4, 2) := by decide +kernel
theorem dX11_value_60 : decode cX11_value 60 = .ok (.invokestatic 217, 3) := by decide +kernel
theorem dX11_value_63 : decode cX11_value 63 = .ok (.lreturn, 1) := by decide +kernel
theorem dX11_plain_0 : decode cX11_plain 0 = .ok (.aload_n 0, 1) := by decide +kernel
theorem dX11_plain_1 : decode cX11_plain 1 = .ok (.iload_n 1, 1) := by decide +kernel
theorem dX11_plain_2 : decode cX11_plain 2 = .ok (.invokevirtual 134, 3) := by decide +kernel
theorem dX11_plain_5 : decode cX11_plain 5 = .ok (.ifCond .eq 24, 3) := by decide +kernel
theorem dX11_plain_8 : decode cX11_plain 8 = .ok (.aload_n 0, 1) := by decide +kernel
theorem dX11_plain_9 : decode cX11_plain 9 = .ok (.iload_n 2, 1) := by decide +kernel
theorem dX11_plain_10 : decode cX11_plain 10 = .ok (.iload_n 3, 1) := by decide +kernel
theorem dX11_plain_11 : decode cX11_plain 11 = .ok (.invokevirtual 180, 3) := by decide +kernel
theorem dX11_plain_14 : decode cX11_plain 14 = .ok (.ifCond .eq 15, 3) := by decide +kernel
theorem dX11_plain_17 : decode cX11_plain 17 = .ok (.iload 4, 2) := by decide +kernel
theorem dX11_plain_19 : decode cX11_plain 19 = .ok (.invokestatic 196, 3) := by decide +kernel
theorem dX11_plain_22 : decode cX11_plain 22 = .ok (.ifCond .eq 7, 3) := by decide +kernel
theorem dX11_plain_25 : decode cX11_plain 25 = .ok (.iconst 1, 1) := by decide +kernel
theorem dX11_plain_26 : decode cX11_plain 26 = .ok (.goto 4, 3) := by decide +kernel
theorem dX11_plain_29 : decode cX11_plain 29 = .ok (.iconst 0, 1) := by decide +kernel
theorem dX11_plain_30 : decode cX11_plain 30 = .ok (.invokestatic 199, 3) := by decide +kernel
theorem dX11_plain_33 : decode cX11_plain 33 = .ok (.aload_n 0, 1) := by decide +kernel
theorem dX11_plain_34 : decode cX11_plain 34 = .ok (.iload_n 1, 1) := by decide +kernel
theorem dX11_plain_35 : decode cX11_plain 35 = .ok (.invokevirtual 203, 3) := by decide +kernel
theorem dX11_plain_38 : decode cX11_plain 38 = .ok (.getfield 230, 3) := by decide +kernel
theorem dX11_plain_41 : decode cX11_plain 41 = .ok (.getfield 225, 3) := by decide +kernel
theorem dX11_plain_44 : decode cX11_plain 44 = .ok (.iload_n 2, 1) := by decide +kernel
theorem dX11_plain_45 : decode cX11_plain 45 = .ok (.iload_n 3, 1) := by decide +kernel
theorem dX11_plain_46 : decode cX11_plain 46 = .ok (.invokestatic 187, 3) := by decide +kernel
theorem dX11_plain_49 : decode cX11_plain 49 = .ok (.laload, 1) := by decide +kernel
theorem dX11_plain_50 : decode cX11_plain 50 = .ok (.aload_n 0, 1) := by decide +kernel
theorem dX11_plain_51 : decode cX11_plain 51 = .ok (.getfield 56, 3) := by decide +kernel
theorem dX11_plain_54 : decode cX11_plain 54 = .ok (.iload_n 2, 1) := by decide +kernel
theorem dX11_plain_55 : decode cX11_plain 55 = .ok (.invokevirtual 213, 3) := by decide +kernel
theorem dX11_plain_58 : decode cX11_plain 58 = .ok (.iload 4, 2) := by decide +kernel
theorem dX11_plain_60 : decode cX11_plain 60 = .ok (.invokestatic 217, 3) := by decide +kernel
theorem dX11_plain_63 : decode cX11_plain 63 = .ok (.lreturn, 1) := by decide +kernel
theorem dX11_held_0 : decode cX11_held 0 = .ok (.aload_n 0, 1) := by decide +kernel
theorem dX11_held_1 : decode cX11_held 1 = .ok (.iload_n 1, 1) := by decide +kernel
theorem dX11_held_2 : decode cX11_held 2 = .ok (.invokevirtual 134, 3) := by decide +kernel
theorem dX11_held_5 : decode cX11_held 5 = .ok (.ifCond .eq 24, 3) := by decide +kernel
theorem dX11_held_8 : decode cX11_held 8 = .ok (.aload_n 0, 1) := by decide +kernel
theorem dX11_held_9 : decode cX11_held 9 = .ok (.iload_n 2, 1) := by decide +kernel
theorem dX11_held_10 : decode cX11_held 10 = .ok (.iload_n 3, 1) := by decide +kernel
theorem dX11_held_11 : decode cX11_held 11 = .ok (.invokevirtual 180, 3) := by decide +kernel
theorem dX11_held_14 : decode cX11_held 14 = .ok (.ifCond .eq 15, 3) := by decide +kernel
theorem dX11_held_17 : decode cX11_held 17 = .ok (.iload 4, 2) := by decide +kernel
theorem dX11_held_19 : decode cX11_held 19 = .ok (.invokestatic 196, 3) := by decide +kernel
theorem dX11_held_22 : decode cX11_held 22 = .ok (.ifCond .eq 7, 3) := by decide +kernel
theorem dX11_held_25 : decode cX11_held 25 = .ok (.iconst 1, 1) := by decide +kernel
theorem dX11_held_26 : decode cX11_held 26 = .ok (.goto 4, 3) := by decide +kernel
theorem dX11_held_29 : decode cX11_held 29 = .ok (.iconst 0, 1) := by decide +kernel
theorem dX11_held_30 : decode cX11_held 30 = .ok (.invokestatic 199, 3) := by decide +kernel
theorem dX11_held_33 : decode cX11_held 33 = .ok (.aload_n 0, 1) := by decide +kernel
theorem dX11_held_34 : decode cX11_held 34 = .ok (.iload_n 1, 1) := by decide +kernel
theorem dX11_held_35 : decode cX11_held 35 = .ok (.invokevirtual 203, 3) := by decide +kernel
theorem dX11_held_38 : decode cX11_held 38 = .ok (.getfield 221, 3) := by decide +kernel
theorem dX11_held_41 : decode cX11_held 41 = .ok (.getfield 225, 3) := by decide +kernel
theorem dX11_held_44 : decode cX11_held 44 = .ok (.astore 5, 2) := by decide +kernel
theorem dX11_held_46 : decode cX11_held 46 = .ok (.aload_n 0, 1) := by decide +kernel
theorem dX11_held_47 : decode cX11_held 47 = .ok (.getfield 56, 3) := by decide +kernel
theorem dX11_held_50 : decode cX11_held 50 = .ok (.aload 5, 2) := by decide +kernel
theorem dX11_held_52 : decode cX11_held 52 = .ok (.iload_n 2, 1) := by decide +kernel
theorem dX11_held_53 : decode cX11_held 53 = .ok (.iload_n 2, 1) := by decide +kernel
theorem dX11_held_54 : decode cX11_held 54 = .ok (.iload_n 3, 1) := by decide +kernel
theorem dX11_held_55 : decode cX11_held 55 = .ok (.invokestatic 187, 3) := by decide +kernel
theorem dX11_held_58 : decode cX11_held 58 = .ok (.invokevirtual 233, 3) := by decide +kernel
theorem dX11_held_61 : decode cX11_held 61 = .ok (.aload_n 0, 1) := by decide +kernel
theorem dX11_held_62 : decode cX11_held 62 = .ok (.getfield 56, 3) := by decide +kernel
theorem dX11_held_65 : decode cX11_held 65 = .ok (.iload_n 2, 1) := by decide +kernel
theorem dX11_held_66 : decode cX11_held 66 = .ok (.invokevirtual 213, 3) := by decide +kernel
theorem dX11_held_69 : decode cX11_held 69 = .ok (.iload 4, 2) := by decide +kernel
theorem dX11_held_71 : decode cX11_held 71 = .ok (.invokestatic 217, 3) := by decide +kernel
theorem dX11_held_74 : decode cX11_held 74 = .ok (.lreturn, 1) := by decide +kernel
theorem dX11_does_0 : decode cX11_does 0 = .ok (.aload_n 0, 1) := by decide +kernel
theorem dX11_does_1 : decode cX11_does 1 = .ok (.iload_n 1, 1) := by decide +kernel
theorem dX11_does_2 : decode cX11_does 2 = .ok (.invokevirtual 134, 3) := by decide +kernel
theorem dX11_does_5 : decode cX11_does 5 = .ok (.ifCond .eq 12, 3) := by decide +kernel
theorem dX11_does_8 : decode cX11_does 8 = .ok (.aload_n 0, 1) := by decide +kernel
theorem dX11_does_9 : decode cX11_does 9 = .ok (.iload_n 2, 1) := by decide +kernel
theorem dX11_does_10 : decode cX11_does 10 = .ok (.iload_n 3, 1) := by decide +kernel
theorem dX11_does_11 : decode cX11_does 11 = .ok (.invokevirtual 180, 3) := by decide +kernel
theorem dX11_does_14 : decode cX11_does 14 = .ok (.ifCond .ne 5, 3) := by decide +kernel
theorem dX11_does_17 : decode cX11_does 17 = .ok (.iconst (-1), 1) := by decide +kernel
theorem dX11_does_18 : decode cX11_does 18 = .ok (.ireturn, 1) := by decide +kernel
theorem dX11_does_19 : decode cX11_does 19 = .ok (.aload_n 0, 1) := by decide +kernel
theorem dX11_does_20 : decode cX11_does 20 = .ok (.iload_n 1, 1) := by decide +kernel
theorem dX11_does_21 : decode cX11_does 21 = .ok (.invokevirtual 203, 3) := by decide +kernel
theorem dX11_does_24 : decode cX11_does 24 = .ok (.getfield 221, 3) := by decide +kernel
theorem dX11_does_27 : decode cX11_does 27 = .ok (.getfield 237, 3) := by decide +kernel
theorem dX11_does_30 : decode cX11_does 30 = .ok (.iload_n 2, 1) := by decide +kernel
theorem dX11_does_31 : decode cX11_does 31 = .ok (.iload_n 3, 1) := by decide +kernel
theorem dX11_does_32 : decode cX11_does 32 = .ok (.invokestatic 187, 3) := by decide +kernel
theorem dX11_does_35 : decode cX11_does 35 = .ok (.iaload, 1) := by decide +kernel
theorem dX11_does_36 : decode cX11_does 36 = .ok (.ireturn, 1) := by decide +kernel
theorem dX11_stands_0 : decode cX11_stands 0 = .ok (.aload_n 0, 1) := by decide +kernel
theorem dX11_stands_1 : decode cX11_stands 1 = .ok (.iload_n 1, 1) := by decide +kernel
theorem dX11_stands_2 : decode cX11_stands 2 = .ok (.invokevirtual 134, 3) := by decide +kernel
theorem dX11_stands_5 : decode cX11_stands 5 = .ok (.ifCond .eq 24, 3) := by decide +kernel
theorem dX11_stands_8 : decode cX11_stands 8 = .ok (.aload_n 0, 1) := by decide +kernel
theorem dX11_stands_9 : decode cX11_stands 9 = .ok (.iload_n 2, 1) := by decide +kernel
theorem dX11_stands_10 : decode cX11_stands 10 = .ok (.iload_n 3, 1) := by decide +kernel
theorem dX11_stands_11 : decode cX11_stands 11 = .ok (.invokevirtual 180, 3) := by decide +kernel
theorem dX11_stands_14 : decode cX11_stands 14 = .ok (.ifCond .eq 15, 3) := by decide +kernel
theorem dX11_stands_17 : decode cX11_stands 17 = .ok (.iload 4, 2) := by decide +kernel
theorem dX11_stands_19 : decode cX11_stands 19 = .ok (.invokestatic 196, 3) := by decide +kernel
theorem dX11_stands_22 : decode cX11_stands 22 = .ok (.ifCond .eq 7, 3) := by decide +kernel
theorem dX11_stands_25 : decode cX11_stands 25 = .ok (.iconst 1, 1) := by decide +kernel
theorem dX11_stands_26 : decode cX11_stands 26 = .ok (.goto 4, 3) := by decide +kernel
theorem dX11_stands_29 : decode cX11_stands 29 = .ok (.iconst 0, 1) := by decide +kernel
theorem dX11_stands_30 : decode cX11_stands 30 = .ok (.invokestatic 199, 3) := by decide +kernel
theorem dX11_stands_33 : decode cX11_stands 33 = .ok (.aload_n 0, 1) := by decide +kernel
theorem dX11_stands_34 : decode cX11_stands 34 = .ok (.getfield 56, 3) := by decide +kernel
theorem dX11_stands_37 : decode cX11_stands 37 = .ok (.aload_n 0, 1) := by decide +kernel
theorem dX11_stands_38 : decode cX11_stands 38 = .ok (.iload_n 1, 1) := by decide +kernel
theorem dX11_stands_39 : decode cX11_stands 39 = .ok (.invokevirtual 203, 3) := by decide +kernel
theorem dX11_stands_42 : decode cX11_stands 42 = .ok (.iload_n 2, 1) := by decide +kernel
theorem dX11_stands_43 : decode cX11_stands 43 = .ok (.iload_n 2, 1) := by decide +kernel
theorem dX11_stands_44 : decode cX11_stands 44 = .ok (.iload_n 3, 1) := by decide +kernel
theorem dX11_stands_45 : decode cX11_stands 45 = .ok (.invokestatic 187, 3) := by decide +kernel
theorem dX11_stands_48 : decode cX11_stands 48 = .ok (.invokevirtual 240, 3) := by decide +kernel
theorem dX11_stands_51 : decode cX11_stands 51 = .ok (.aload_n 0, 1) := by decide +kernel
theorem dX11_stands_52 : decode cX11_stands 52 = .ok (.getfield 56, 3) := by decide +kernel
theorem dX11_stands_55 : decode cX11_stands 55 = .ok (.iload_n 2, 1) := by decide +kernel
theorem dX11_stands_56 : decode cX11_stands 56 = .ok (.invokevirtual 213, 3) := by decide +kernel
theorem dX11_stands_59 : decode cX11_stands 59 = .ok (.iload 4, 2) := by decide +kernel
theorem dX11_stands_61 : decode cX11_stands 61 = .ok (.invokestatic 217, 3) := by decide +kernel
theorem dX11_stands_64 : decode cX11_stands 64 = .ok (.lreturn, 1) := by decide +kernel
theorem dX11_frontier_0 : decode cX11_frontier 0 = .ok (.aload_n 0, 1) := by decide +kernel
theorem dX11_frontier_1 : decode cX11_frontier 1 = .ok (.iload_n 1, 1) := by decide +kernel
theorem dX11_frontier_2 : decode cX11_frontier 2 = .ok (.invokevirtual 134, 3) := by decide +kernel
theorem dX11_frontier_5 : decode cX11_frontier 5 = .ok (.ifCond .eq 11, 3) := by decide +kernel
theorem dX11_frontier_8 : decode cX11_frontier 8 = .ok (.aload_n 0, 1) := by decide +kernel
theorem dX11_frontier_9 : decode cX11_frontier 9 = .ok (.iload_n 2, 1) := by decide +kernel
theorem dX11_frontier_10 : decode cX11_frontier 10 = .ok (.invokevirtual 128, 3) := by decide +kernel
theorem dX11_frontier_13 : decode cX11_frontier 13 = .ok (.ifCond .ne 5, 3) := by decide +kernel
theorem dX11_frontier_16 : decode cX11_frontier 16 = .ok (.iconst (-1), 1) := by decide +kernel
theorem dX11_frontier_17 : decode cX11_frontier 17 = .ok (.ireturn, 1) := by decide +kernel
theorem dX11_frontier_18 : decode cX11_frontier 18 = .ok (.aload_n 0, 1) := by decide +kernel
theorem dX11_frontier_19 : decode cX11_frontier 19 = .ok (.iload_n 1, 1) := by decide +kernel
theorem dX11_frontier_20 : decode cX11_frontier 20 = .ok (.invokevirtual 203, 3) := by decide +kernel
theorem dX11_frontier_23 : decode cX11_frontier 23 = .ok (.getfield 221, 3) := by decide +kernel
theorem dX11_frontier_26 : decode cX11_frontier 26 = .ok (.getfield 237, 3) := by decide +kernel
theorem dX11_frontier_29 : decode cX11_frontier 29 = .ok (.astore_n 3, 1) := by decide +kernel
theorem dX11_frontier_30 : decode cX11_frontier 30 = .ok (.iconst 0, 1) := by decide +kernel
theorem dX11_frontier_31 : decode cX11_frontier 31 = .ok (.istore 4, 2) := by decide +kernel
theorem dX11_frontier_33 : decode cX11_frontier 33 = .ok (.iconst 0, 1) := by decide +kernel
theorem dX11_frontier_34 : decode cX11_frontier 34 = .ok (.istore 5, 2) := by decide +kernel
theorem dX11_frontier_36 : decode cX11_frontier 36 = .ok (.iload 5, 2) := by decide +kernel
theorem dX11_frontier_38 : decode cX11_frontier 38 = .ok (.iload_n 2, 1) := by decide +kernel
theorem dX11_frontier_39 : decode cX11_frontier 39 = .ok (.if_icmp .gt 30, 3) := by decide +kernel
theorem dX11_frontier_42 : decode cX11_frontier 42 = .ok (.aload_n 3, 1) := by decide +kernel
theorem dX11_frontier_43 : decode cX11_frontier 43 = .ok (.iload_n 2, 1) := by decide +kernel
theorem dX11_frontier_44 : decode cX11_frontier 44 = .ok (.iload 5, 2) := by decide +kernel
theorem dX11_frontier_46 : decode cX11_frontier 46 = .ok (.invokestatic 187, 3) := by decide +kernel
theorem dX11_frontier_49 : decode cX11_frontier 49 = .ok (.iaload, 1) := by decide +kernel
theorem dX11_frontier_50 : decode cX11_frontier 50 = .ok (.iconst 1, 1) := by decide +kernel
theorem dX11_frontier_51 : decode cX11_frontier 51 = .ok (.if_icmp .ne 12, 3) := by decide +kernel
theorem dX11_frontier_54 : decode cX11_frontier 54 = .ok (.iload 4, 2) := by decide +kernel
theorem dX11_frontier_56 : decode cX11_frontier 56 = .ok (.iconst 1, 1) := by decide +kernel
theorem dX11_frontier_57 : decode cX11_frontier 57 = .ok (.iload 5, 2) := by decide +kernel
theorem dX11_frontier_59 : decode cX11_frontier 59 = .ok (.ishl, 1) := by decide +kernel
theorem dX11_frontier_60 : decode cX11_frontier 60 = .ok (.ior, 1) := by decide +kernel
theorem dX11_frontier_61 : decode cX11_frontier 61 = .ok (.istore 4, 2) := by decide +kernel
theorem dX11_frontier_63 : decode cX11_frontier 63 = .ok (.iinc 5 1, 3) := by decide +kernel
theorem dX11_frontier_66 : decode cX11_frontier 66 = .ok (.goto (-30), 3) := by decide +kernel
theorem dX11_frontier_69 : decode cX11_frontier 69 = .ok (.iload 4, 2) := by decide +kernel
theorem dX11_frontier_71 : decode cX11_frontier 71 = .ok (.ireturn, 1) := by decide +kernel
theorem dX11_ways_0 : decode cX11_ways 0 = .ok (.aload_n 0, 1) := by decide +kernel
theorem dX11_ways_1 : decode cX11_ways 1 = .ok (.iload_n 1, 1) := by decide +kernel
theorem dX11_ways_2 : decode cX11_ways 2 = .ok (.invokevirtual 134, 3) := by decide +kernel
theorem dX11_ways_5 : decode cX11_ways 5 = .ok (.ifCond .eq 12, 3) := by decide +kernel
theorem dX11_ways_8 : decode cX11_ways 8 = .ok (.aload_n 0, 1) := by decide +kernel
theorem dX11_ways_9 : decode cX11_ways 9 = .ok (.iload_n 2, 1) := by decide +kernel
theorem dX11_ways_10 : decode cX11_ways 10 = .ok (.iload_n 3, 1) := by decide +kernel
theorem dX11_ways_11 : decode cX11_ways 11 = .ok (.invokevirtual 180, 3) := by decide +kernel
theorem dX11_ways_14 : decode cX11_ways 14 = .ok (.ifCond .ne 5, 3) := by decide +kernel
theorem dX11_ways_17 : decode cX11_ways 17 = .ok (.iconst (-1), 1) := by decide +kernel
theorem dX11_ways_18 : decode cX11_ways 18 = .ok (.ireturn, 1) := by decide +kernel
theorem dX11_ways_19 : decode cX11_ways 19 = .ok (.aload_n 0, 1) := by decide +kernel
theorem dX11_ways_20 : decode cX11_ways 20 = .ok (.getfield 65, 3) := by decide +kernel
theorem dX11_ways_23 : decode cX11_ways 23 = .ok (.aload_n 0, 1) := by decide +kernel
theorem dX11_ways_24 : decode cX11_ways 24 = .ok (.iload_n 1, 1) := by decide +kernel
theorem dX11_ways_25 : decode cX11_ways 25 = .ok (.invokevirtual 203, 3) := by decide +kernel
theorem dX11_ways_28 : decode cX11_ways 28 = .ok (.iconst 1, 1) := by decide +kernel
theorem dX11_ways_29 : decode cX11_ways 29 = .ok (.invokevirtual 244, 3) := by decide +kernel
theorem dX11_ways_32 : decode cX11_ways 32 = .ok (.aload_n 0, 1) := by decide +kernel
theorem dX11_ways_33 : decode cX11_ways 33 = .ok (.getfield 65, 3) := by decide +kernel
theorem dX11_ways_36 : decode cX11_ways 36 = .ok (.iload_n 2, 1) := by decide +kernel
theorem dX11_ways_37 : decode cX11_ways 37 = .ok (.iload_n 3, 1) := by decide +kernel
theorem dX11_ways_38 : decode cX11_ways 38 = .ok (.invokestatic 187, 3) := by decide +kernel
theorem dX11_ways_41 : decode cX11_ways 41 = .ok (.invokevirtual 248, 3) := by decide +kernel
theorem dX11_ways_44 : decode cX11_ways 44 = .ok (.l2i, 1) := by decide +kernel
theorem dX11_ways_45 : decode cX11_ways 45 = .ok (.ireturn, 1) := by decide +kernel
theorem dX11_ending_0 : decode cX11_ending 0 = .ok (.aload_n 0, 1) := by decide +kernel
theorem dX11_ending_1 : decode cX11_ending 1 = .ok (.iload_n 1, 1) := by decide +kernel
theorem dX11_ending_2 : decode cX11_ending 2 = .ok (.invokevirtual 134, 3) := by decide +kernel
theorem dX11_ending_5 : decode cX11_ending 5 = .ok (.ifCond .eq 32, 3) := by decide +kernel
theorem dX11_ending_8 : decode cX11_ending 8 = .ok (.aload_n 0, 1) := by decide +kernel
theorem dX11_ending_9 : decode cX11_ending 9 = .ok (.iload_n 2, 1) := by decide +kernel
theorem dX11_ending_10 : decode cX11_ending 10 = .ok (.invokevirtual 128, 3) := by decide +kernel
theorem dX11_ending_13 : decode cX11_ending 13 = .ok (.ifCond .eq 24, 3) := by decide +kernel
theorem dX11_ending_16 : decode cX11_ending 16 = .ok (.iload_n 3, 1) := by decide +kernel
theorem dX11_ending_17 : decode cX11_ending 17 = .ok (.ifCond .lt 20, 3) := by decide +kernel
theorem dX11_ending_20 : decode cX11_ending 20 = .ok (.iload_n 3, 1) := by decide +kernel
theorem dX11_ending_21 : decode cX11_ending 21 = .ok (.iconst 4, 1) := by decide +kernel
theorem dX11_ending_22 : decode cX11_ending 22 = .ok (.if_icmp .ge 15, 3) := by decide +kernel
theorem dX11_ending_25 : decode cX11_ending 25 = .ok (.iload 4, 2) := by decide +kernel
theorem dX11_ending_27 : decode cX11_ending 27 = .ok (.invokestatic 196, 3) := by decide +kernel
theorem dX11_ending_30 : decode cX11_ending 30 = .ok (.ifCond .eq 7, 3) := by decide +kernel
theorem dX11_ending_33 : decode cX11_ending 33 = .ok (.iconst 1, 1) := by decide +kernel
theorem dX11_ending_34 : decode cX11_ending 34 = .ok (.goto 4, 3) := by decide +kernel
theorem dX11_ending_37 : decode cX11_ending 37 = .ok (.iconst 0, 1) := by decide +kernel
theorem dX11_ending_38 : decode cX11_ending 38 = .ok (.invokestatic 199, 3) := by decide +kernel
theorem dX11_ending_41 : decode cX11_ending 41 = .ok (.aload_n 0, 1) := by decide +kernel
theorem dX11_ending_42 : decode cX11_ending 42 = .ok (.iload_n 1, 1) := by decide +kernel
theorem dX11_ending_43 : decode cX11_ending 43 = .ok (.invokevirtual 203, 3) := by decide +kernel
theorem dX11_ending_46 : decode cX11_ending 46 = .ok (.astore 5, 2) := by decide +kernel
theorem dX11_ending_48 : decode cX11_ending 48 = .ok (.aload_n 0, 1) := by decide +kernel
theorem dX11_ending_49 : decode cX11_ending 49 = .ok (.getfield 65, 3) := by decide +kernel
theorem dX11_ending_52 : decode cX11_ending 52 = .ok (.aload 5, 2) := by decide +kernel
theorem dX11_ending_54 : decode cX11_ending 54 = .ok (.iconst 0, 1) := by decide +kernel
theorem dX11_ending_55 : decode cX11_ending 55 = .ok (.invokevirtual 244, 3) := by decide +kernel
theorem dX11_ending_58 : decode cX11_ending 58 = .ok (.aload_n 0, 1) := by decide +kernel
theorem dX11_ending_59 : decode cX11_ending 59 = .ok (.getfield 65, 3) := by decide +kernel
theorem dX11_ending_62 : decode cX11_ending 62 = .ok (.aload 5, 2) := by decide +kernel
theorem dX11_ending_64 : decode cX11_ending 64 = .ok (.iload_n 2, 1) := by decide +kernel
theorem dX11_ending_65 : decode cX11_ending 65 = .ok (.iload_n 3, 1) := by decide +kernel
theorem dX11_ending_66 : decode cX11_ending 66 = .ok (.invokevirtual 251, 3) := by decide +kernel
theorem dX11_ending_69 : decode cX11_ending 69 = .ok (.aload_n 0, 1) := by decide +kernel
theorem dX11_ending_70 : decode cX11_ending 70 = .ok (.getfield 56, 3) := by decide +kernel
theorem dX11_ending_73 : decode cX11_ending 73 = .ok (.getfield 254, 3) := by decide +kernel
theorem dX11_ending_76 : decode cX11_ending 76 = .ok (.iload_n 2, 1) := by decide +kernel
theorem dX11_ending_77 : decode cX11_ending 77 = .ok (.laload, 1) := by decide +kernel
theorem dX11_ending_78 : decode cX11_ending 78 = .ok (.iload 4, 2) := by decide +kernel
theorem dX11_ending_80 : decode cX11_ending 80 = .ok (.invokestatic 217, 3) := by decide +kernel
theorem dX11_ending_83 : decode cX11_ending 83 = .ok (.lreturn, 1) := by decide +kernel
theorem dX11_life_0 : decode cX11_life 0 = .ok (.aload_n 0, 1) := by decide +kernel
theorem dX11_life_1 : decode cX11_life 1 = .ok (.iload_n 1, 1) := by decide +kernel
theorem dX11_life_2 : decode cX11_life 2 = .ok (.invokevirtual 134, 3) := by decide +kernel
theorem dX11_life_5 : decode cX11_life 5 = .ok (.ifCond .eq 14, 3) := by decide +kernel
theorem dX11_life_8 : decode cX11_life 8 = .ok (.iload_n 2, 1) := by decide +kernel
theorem dX11_life_9 : decode cX11_life 9 = .ok (.invokestatic 196, 3) := by decide +kernel
theorem dX11_life_12 : decode cX11_life 12 = .ok (.ifCond .eq 7, 3) := by decide +kernel
theorem dX11_life_15 : decode cX11_life 15 = .ok (.iconst 1, 1) := by decide +kernel
theorem dX11_life_16 : decode cX11_life 16 = .ok (.goto 4, 3) := by decide +kernel
theorem dX11_life_19 : decode cX11_life 19 = .ok (.iconst 0, 1) := by decide +kernel
theorem dX11_life_20 : decode cX11_life 20 = .ok (.invokestatic 199, 3) := by decide +kernel
theorem dX11_life_23 : decode cX11_life 23 = .ok (.aload_n 0, 1) := by decide +kernel
theorem dX11_life_24 : decode cX11_life 24 = .ok (.iload_n 1, 1) := by decide +kernel
theorem dX11_life_25 : decode cX11_life 25 = .ok (.invokevirtual 203, 3) := by decide +kernel
theorem dX11_life_28 : decode cX11_life 28 = .ok (.astore_n 3, 1) := by decide +kernel
theorem dX11_life_29 : decode cX11_life 29 = .ok (.aload_n 0, 1) := by decide +kernel
theorem dX11_life_30 : decode cX11_life 30 = .ok (.getfield 65, 3) := by decide +kernel
theorem dX11_life_33 : decode cX11_life 33 = .ok (.aload_n 3, 1) := by decide +kernel
theorem dX11_life_34 : decode cX11_life 34 = .ok (.iconst 0, 1) := by decide +kernel
theorem dX11_life_35 : decode cX11_life 35 = .ok (.invokevirtual 244, 3) := by decide +kernel
theorem dX11_life_38 : decode cX11_life 38 = .ok (.aload_n 0, 1) := by decide +kernel
theorem dX11_life_39 : decode cX11_life 39 = .ok (.getfield 65, 3) := by decide +kernel
theorem dX11_life_42 : decode cX11_life 42 = .ok (.aload_n 3, 1) := by decide +kernel
theorem dX11_life_43 : decode cX11_life 43 = .ok (.invokevirtual 257, 3) := by decide +kernel
theorem dX11_life_46 : decode cX11_life 46 = .ok (.aload_n 0, 1) := by decide +kernel
theorem dX11_life_47 : decode cX11_life 47 = .ok (.getfield 56, 3) := by decide +kernel
theorem dX11_life_50 : decode cX11_life 50 = .ok (.iconst 0, 1) := by decide +kernel
theorem dX11_life_51 : decode cX11_life 51 = .ok (.invokevirtual 213, 3) := by decide +kernel
theorem dX11_life_54 : decode cX11_life 54 = .ok (.iload_n 2, 1) := by decide +kernel
theorem dX11_life_55 : decode cX11_life 55 = .ok (.invokestatic 217, 3) := by decide +kernel
theorem dX11_life_58 : decode cX11_life 58 = .ok (.lreturn, 1) := by decide +kernel
theorem dX11_gain_0 : decode cX11_gain 0 = .ok (.aload_n 0, 1) := by decide +kernel
theorem dX11_gain_1 : decode cX11_gain 1 = .ok (.iload_n 1, 1) := by decide +kernel
theorem dX11_gain_2 : decode cX11_gain 2 = .ok (.invokevirtual 134, 3) := by decide +kernel
theorem dX11_gain_5 : decode cX11_gain 5 = .ok (.ifCond .eq 31, 3) := by decide +kernel
theorem dX11_gain_8 : decode cX11_gain 8 = .ok (.aload_n 0, 1) := by decide +kernel
theorem dX11_gain_9 : decode cX11_gain 9 = .ok (.iload_n 2, 1) := by decide +kernel
theorem dX11_gain_10 : decode cX11_gain 10 = .ok (.invokevirtual 261, 3) := by decide +kernel
theorem dX11_gain_13 : decode cX11_gain 13 = .ok (.ifCond .eq 23, 3) := by decide +kernel
theorem dX11_gain_16 : decode cX11_gain 16 = .ok (.aload_n 0, 1) := by decide +kernel
theorem dX11_gain_17 : decode cX11_gain 17 = .ok (.iload_n 3, 1) := by decide +kernel
theorem dX11_gain_18 : decode cX11_gain 18 = .ok (.invokevirtual 264, 3) := by decide +kernel
theorem dX11_gain_21 : decode cX11_gain 21 = .ok (.ifCond .eq 15, 3) := by decide +kernel
theorem dX11_gain_24 : decode cX11_gain 24 = .ok (.iload 4, 2) := by decide +kernel
theorem dX11_gain_26 : decode cX11_gain 26 = .ok (.invokestatic 196, 3) := by decide +kernel
theorem dX11_gain_29 : decode cX11_gain 29 = .ok (.ifCond .eq 7, 3) := by decide +kernel
theorem dX11_gain_32 : decode cX11_gain 32 = .ok (.iconst 1, 1) := by decide +kernel
theorem dX11_gain_33 : decode cX11_gain 33 = .ok (.goto 4, 3) := by decide +kernel
theorem dX11_gain_36 : decode cX11_gain 36 = .ok (.iconst 0, 1) := by decide +kernel
theorem dX11_gain_37 : decode cX11_gain 37 = .ok (.invokestatic 199, 3) := by decide +kernel
theorem dX11_gain_40 : decode cX11_gain 40 = .ok (.aload_n 0, 1) := by decide +kernel
theorem dX11_gain_41 : decode cX11_gain 41 = .ok (.getfield 72, 3) := by decide +kernel
theorem dX11_gain_44 : decode cX11_gain 44 = .ok (.aload_n 0, 1) := by decide +kernel
theorem dX11_gain_45 : decode cX11_gain 45 = .ok (.iload_n 1, 1) := by decide +kernel
theorem dX11_gain_46 : decode cX11_gain 46 = .ok (.invokevirtual 203, 3) := by decide +kernel
theorem dX11_gain_49 : decode cX11_gain 49 = .ok (.aload_n 0, 1) := by decide +kernel
theorem dX11_gain_50 : decode cX11_gain 50 = .ok (.getfield 23, 3) := by decide +kernel
theorem dX11_gain_53 : decode cX11_gain 53 = .ok (.getfield 138, 3) := by decide +kernel
theorem dX11_gain_56 : decode cX11_gain 56 = .ok (.iload_n 1, 1) := by decide +kernel
theorem dX11_gain_57 : decode cX11_gain 57 = .ok (.aaload, 1) := by decide +kernel
theorem dX11_gain_58 : decode cX11_gain 58 = .ok (.iload_n 2, 1) := by decide +kernel
theorem dX11_gain_59 : decode cX11_gain 59 = .ok (.iload_n 3, 1) := by decide +kernel
theorem dX11_gain_60 : decode cX11_gain 60 = .ok (.invokevirtual 267, 3) := by decide +kernel
theorem dX11_gain_63 : decode cX11_gain 63 = .ok (.aload_n 0, 1) := by decide +kernel
theorem dX11_gain_64 : decode cX11_gain 64 = .ok (.getfield 56, 3) := by decide +kernel
theorem dX11_gain_67 : decode cX11_gain 67 = .ok (.iconst 0, 1) := by decide +kernel
theorem dX11_gain_68 : decode cX11_gain 68 = .ok (.invokevirtual 213, 3) := by decide +kernel
theorem dX11_gain_71 : decode cX11_gain 71 = .ok (.iload 4, 2) := by decide +kernel
theorem dX11_gain_73 : decode cX11_gain 73 = .ok (.invokestatic 217, 3) := by decide +kernel
theorem dX11_gain_76 : decode cX11_gain 76 = .ok (.lreturn, 1) := by decide +kernel
theorem dX11_richest_0 : decode cX11_richest 0 = .ok (.aload_n 0, 1) := by decide +kernel
theorem dX11_richest_1 : decode cX11_richest 1 = .ok (.iload_n 1, 1) := by decide +kernel
theorem dX11_richest_2 : decode cX11_richest 2 = .ok (.invokevirtual 134, 3) := by decide +kernel
theorem dX11_richest_5 : decode cX11_richest 5 = .ok (.ifCond .eq 11, 3) := by decide +kernel
theorem dX11_richest_8 : decode cX11_richest 8 = .ok (.aload_n 0, 1) := by decide +kernel
theorem dX11_richest_9 : decode cX11_richest 9 = .ok (.iload_n 2, 1) := by decide +kernel
theorem dX11_richest_10 : decode cX11_richest 10 = .ok (.invokevirtual 264, 3) := by decide +kernel
theorem dX11_richest_13 : decode cX11_richest 13 = .ok (.ifCond .ne 5, 3) := by decide +kernel
theorem dX11_richest_16 : decode cX11_richest 16 = .ok (.iconst (-1), 1) := by decide +kernel
theorem dX11_richest_17 : decode cX11_richest 17 = .ok (.ireturn, 1) := by decide +kernel
theorem dX11_richest_18 : decode cX11_richest 18 = .ok (.aload_n 0, 1) := by decide +kernel
theorem dX11_richest_19 : decode cX11_richest 19 = .ok (.getfield 72, 3) := by decide +kernel
theorem dX11_richest_22 : decode cX11_richest 22 = .ok (.aload_n 0, 1) := by decide +kernel
theorem dX11_richest_23 : decode cX11_richest 23 = .ok (.iload_n 1, 1) := by decide +kernel
theorem dX11_richest_24 : decode cX11_richest 24 = .ok (.invokevirtual 203, 3) := by decide +kernel
theorem dX11_richest_27 : decode cX11_richest 27 = .ok (.aload_n 0, 1) := by decide +kernel
theorem dX11_richest_28 : decode cX11_richest 28 = .ok (.getfield 23, 3) := by decide +kernel
theorem dX11_richest_31 : decode cX11_richest 31 = .ok (.getfield 138, 3) := by decide +kernel
theorem dX11_richest_34 : decode cX11_richest 34 = .ok (.iload_n 1, 1) := by decide +kernel
theorem dX11_richest_35 : decode cX11_richest 35 = .ok (.aaload, 1) := by decide +kernel
theorem dX11_richest_36 : decode cX11_richest 36 = .ok (.iload_n 2, 1) := by decide +kernel
theorem dX11_richest_37 : decode cX11_richest 37 = .ok (.invokevirtual 271, 3) := by decide +kernel
theorem dX11_richest_40 : decode cX11_richest 40 = .ok (.ireturn, 1) := by decide +kernel
theorem dX11_strike_0 : decode cX11_strike 0 = .ok (.aload_n 0, 1) := by decide +kernel
theorem dX11_strike_1 : decode cX11_strike 1 = .ok (.iload_n 1, 1) := by decide +kernel
theorem dX11_strike_2 : decode cX11_strike 2 = .ok (.invokevirtual 134, 3) := by decide +kernel
theorem dX11_strike_5 : decode cX11_strike 5 = .ok (.ifCond .ne 5, 3) := by decide +kernel
theorem dX11_strike_8 : decode cX11_strike 8 = .ok (.iconst (-1), 1) := by decide +kernel
theorem dX11_strike_9 : decode cX11_strike 9 = .ok (.ireturn, 1) := by decide +kernel
theorem dX11_strike_10 : decode cX11_strike 10 = .ok (.aload_n 0, 1) := by decide +kernel
theorem dX11_strike_11 : decode cX11_strike 11 = .ok (.getfield 23, 3) := by decide +kernel
theorem dX11_strike_14 : decode cX11_strike 14 = .ok (.getfield 138, 3) := by decide +kernel
theorem dX11_strike_17 : decode cX11_strike 17 = .ok (.iload_n 1, 1) := by decide +kernel
theorem dX11_strike_18 : decode cX11_strike 18 = .ok (.aaload, 1) := by decide +kernel
theorem dX11_strike_19 : decode cX11_strike 19 = .ok (.astore_n 3, 1) := by decide +kernel
theorem dX11_strike_20 : decode cX11_strike 20 = .ok (.aload_n 3, 1) := by decide +kernel
theorem dX11_strike_21 : decode cX11_strike 21 = .ok (.getfield 142, 3) := by decide +kernel
theorem dX11_strike_24 : decode cX11_strike 24 = .ok (.ifCond .eq 13, 3) := by decide +kernel
theorem dX11_strike_27 : decode cX11_strike 27 = .ok (.aload_n 3, 1) := by decide +kernel
theorem dX11_strike_28 : decode cX11_strike 28 = .ok (.getfield 142, 3) := by decide +kernel
theorem dX11_strike_31 : decode cX11_strike 31 = .ok (.iconst 1, 1) := by decide +kernel
theorem dX11_strike_32 : decode cX11_strike 32 = .ok (.if_icmp .eq 5, 3) := by decide +kernel
theorem dX11_strike_35 : decode cX11_strike 35 = .ok (.iconst (-1), 1) := by decide +kernel
theorem dX11_strike_36 : decode cX11_strike 36 = .ok (.ireturn, 1) := by decide +kernel
theorem dX11_strike_37 : decode cX11_strike 37 = .ok (.aload_n 0, 1) := by decide +kernel
theorem dX11_strike_38 : decode cX11_strike 38 = .ok (.getfield 56, 3) := by decide +kernel
theorem dX11_strike_41 : decode cX11_strike 41 = .ok (.invokevirtual 184, 3) := by decide +kernel
theorem dX11_strike_44 : decode cX11_strike 44 = .ok (.aload_n 0, 1) := by decide +kernel
theorem dX11_strike_45 : decode cX11_strike 45 = .ok (.aload_n 3, 1) := by decide +kernel
theorem dX11_strike_46 : decode cX11_strike 46 = .ok (.iload_n 2, 1) := by decide +kernel
theorem dX11_strike_47 : decode cX11_strike 47 = .ok (.invokevirtual 275, 3) := by decide +kernel
theorem dX11_strike_50 : decode cX11_strike 50 = .ok (.ireturn, 1) := by decide +kernel
theorem dX11_boundingStrike_0 : decode cX11_boundingStrike 0 = .ok (.iconst 0, 1) := by decide +kernel
theorem dX11_boundingStrike_1 : decode cX11_boundingStrike 1 = .ok (.iload_n 2, 1) := by decide +kernel
theorem dX11_boundingStrike_2 : decode cX11_boundingStrike 2 = .ok (.sipush 2999, 3) := by decide +kernel
theorem dX11_boundingStrike_5 : decode cX11_boundingStrike 5 = .ok (.invokestatic 156, 3) := by decide +kernel
theorem dX11_boundingStrike_8 : decode cX11_boundingStrike 8 = .ok (.invokestatic 279, 3) := by decide +kernel
theorem dX11_boundingStrike_11 : decode cX11_boundingStrike 11 = .ok (.i2l, 1) := by decide +kernel
theorem dX11_boundingStrike_12 : decode cX11_boundingStrike 12 = .ok (.aload_n 0, 1) := by decide +kernel
theorem dX11_boundingStrike_13 : decode cX11_boundingStrike 13 = .ok (.getfield 56, 3) := by decide +kernel
theorem dX11_boundingStrike_16 : decode cX11_boundingStrike 16 = .ok (.iconst 0, 1) := by decide +kernel
theorem dX11_boundingStrike_17 : decode cX11_boundingStrike 17 = .ok (.invokevirtual 213, 3) := by decide +kernel
theorem dX11_boundingStrike_20 : decode cX11_boundingStrike 20 = .ok (.lmul, 1) := by decide +kernel
theorem dX11_boundingStrike_21 : decode cX11_boundingStrike 21 = .ok (.lstore_n 3, 1) := by decide +kernel
theorem dX11_boundingStrike_22 : decode cX11_boundingStrike 22 = .ok (.aload_n 1, 1) := by decide +kernel
theorem dX11_boundingStrike_23 : decode cX11_boundingStrike 23 = .ok (.getfield 142, 3) := by decide +kernel
theorem dX11_boundingStrike_26 : decode cX11_boundingStrike 26 = .ok (.ifCond .ne 7, 3) := by decide +kernel
theorem dX11_boundingStrike_29 : decode cX11_boundingStrike 29 = .ok (.iconst 1, 1) := by decide +kernel
theorem dX11_boundingStrike_30 : decode cX11_boundingStrike 30 = .ok (.goto 4, 3) := by decide +kernel
theorem dX11_boundingStrike_33 : decode cX11_boundingStrike 33 = .ok (.iconst 0, 1) := by decide +kernel
theorem dX11_boundingStrike_34 : decode cX11_boundingStrike 34 = .ok (.istore 5, 2) := by decide +kernel
theorem dX11_boundingStrike_36 : decode cX11_boundingStrike 36 = .ok (.iconst (-1), 1) := by decide +kernel
theorem dX11_boundingStrike_37 : decode cX11_boundingStrike 37 = .ok (.istore 6, 2) := by decide +kernel
theorem dX11_boundingStrike_39 : decode cX11_boundingStrike 39 = .ok (.iconst 0, 1) := by decide +kernel
theorem dX11_boundingStrike_40 : decode cX11_boundingStrike 40 = .ok (.istore 7, 2) := by decide +kernel
theorem dX11_boundingStrike_42 : decode cX11_boundingStrike 42 = .ok (.sipush 999, 3) := by decide +kernel
theorem dX11_boundingStrike_45 : decode cX11_boundingStrike 45 = .ok (.istore 8, 2) := by decide +kernel
theorem dX11_boundingStrike_47 : decode cX11_boundingStrike 47 = .ok (.iconst 0, 1) := by decide +kernel
theorem dX11_boundingStrike_48 : decode cX11_boundingStrike 48 = .ok (.istore 9, 2) := by decide +kernel
theorem dX11_boundingStrike_50 : decode cX11_boundingStrike 50 = .ok (.iload 7, 2) := by decide +kernel
theorem dX11_boundingStrike_52 : decode cX11_boundingStrike 52 = .ok (.iload 8, 2) := by decide +kernel
theorem dX11_boundingStrike_54 : decode cX11_boundingStrike 54 = .ok (.if_icmp .gt 83, 3) := by decide +kernel
theorem dX11_boundingStrike_57 : decode cX11_boundingStrike 57 = .ok (.iload 9, 2) := by decide +kernel
theorem dX11_boundingStrike_59 : decode cX11_boundingStrike 59 = .ok (.sipush 999, 3) := by decide +kernel
theorem dX11_boundingStrike_62 : decode cX11_boundingStrike 62 = .ok (.if_icmp .gt 75, 3) := by decide +kernel
theorem dX11_boundingStrike_65 : decode cX11_boundingStrike 65 = .ok (.iload 7, 2) := by decide +kernel
theorem dX11_boundingStrike_67 : decode cX11_boundingStrike 67 = .ok (.iload 8, 2) := by decide +kernel
theorem dX11_boundingStrike_69 : decode cX11_boundingStrike 69 = .ok (.iadd, 1) := by decide +kernel
theorem dX11_boundingStrike_70 : decode cX11_boundingStrike 70 = .ok (.iconst 2, 1) := by decide +kernel
theorem dX11_boundingStrike_71 : decode cX11_boundingStrike 71 = .ok (.idiv, 1) := by decide +kernel
theorem dX11_boundingStrike_72 : decode cX11_boundingStrike 72 = .ok (.istore 10, 2) := by decide +kernel
theorem dX11_boundingStrike_74 : decode cX11_boundingStrike 74 = .ok (.aload_n 0, 1) := by decide +kernel
theorem dX11_boundingStrike_75 : decode cX11_boundingStrike 75 = .ok (.getfield 56, 3) := by decide +kernel
theorem dX11_boundingStrike_78 : decode cX11_boundingStrike 78 = .ok (.aload_n 1, 1) := by decide +kernel
theorem dX11_boundingStrike_79 : decode cX11_boundingStrike 79 = .ok (.iload 10, 2) := by decide +kernel
theorem dX11_boundingStrike_81 : decode cX11_boundingStrike 81 = .ok (.aload_n 1, 1) := by decide +kernel
theorem dX11_boundingStrike_82 : decode cX11_boundingStrike 82 = .ok (.getfield 153, 3) := by decide +kernel
theorem dX11_boundingStrike_85 : decode cX11_boundingStrike 85 = .ok (.invokevirtual 282, 3) := by decide +kernel
theorem dX11_boundingStrike_88 : decode cX11_boundingStrike 88 = .ok (.lload_n 3, 1) := by decide +kernel
theorem dX11_boundingStrike_89 : decode cX11_boundingStrike 89 = .ok (.lcmp, 1) := by decide +kernel
theorem dX11_boundingStrike_90 : decode cX11_boundingStrike 90 = .ok (.ifCond .lt 7, 3) := by decide +kernel
theorem dX11_boundingStrike_93 : decode cX11_boundingStrike 93 = .ok (.iconst 1, 1) := by decide +kernel
theorem dX11_boundingStrike_94 : decode cX11_boundingStrike 94 = .ok (.goto 4, 3) := by decide +kernel
theorem dX11_boundingStrike_97 : decode cX11_boundingStrike 97 = .ok (.iconst 0, 1) := by decide +kernel
theorem dX11_boundingStrike_98 : decode cX11_boundingStrike 98 = .ok (.istore 11, 2) := by decide +kernel
theorem dX11_boundingStrike_100 : decode cX11_boundingStrike 100 = .ok (.iload 11, 2) := by decide +kernel
theorem dX11_boundingStrike_102 : decode cX11_boundingStrike 102 = .ok (.ifCond .eq 7, 3) := by decide +kernel
theorem dX11_boundingStrike_105 : decode cX11_boundingStrike 105 = .ok (.iload 10, 2) := by decide +kernel
theorem dX11_boundingStrike_107 : decode cX11_boundingStrike 107 = .ok (.istore 6, 2) := by decide +kernel
theorem dX11_boundingStrike_109 : decode cX11_boundingStrike 109 = .ok (.iload 11, 2) := by decide +kernel
theorem dX11_boundingStrike_111 : decode cX11_boundingStrike 111 = .ok (.iload 5, 2) := by decide +kernel
theorem dX11_boundingStrike_113 : decode cX11_boundingStrike 113 = .ok (.if_icmp .ne 12, 3) := by decide +kernel
theorem dX11_boundingStrike_116 : decode cX11_boundingStrike 116 = .ok (.iload 10, 2) := by decide +kernel
theorem dX11_boundingStrike_118 : decode cX11_boundingStrike 118 = .ok (.iconst 1, 1) := by decide +kernel
theorem dX11_boundingStrike_119 : decode cX11_boundingStrike 119 = .ok (.iadd, 1) := by decide +kernel
theorem dX11_boundingStrike_120 : decode cX11_boundingStrike 120 = .ok (.istore 7, 2) := by decide +kernel
theorem dX11_boundingStrike_122 : decode cX11_boundingStrike 122 = .ok (.goto 9, 3) := by decide +kernel
theorem dX11_boundingStrike_125 : decode cX11_boundingStrike 125 = .ok (.iload 10, 2) := by decide +kernel
theorem dX11_boundingStrike_127 : decode cX11_boundingStrike 127 = .ok (.iconst 1, 1) := by decide +kernel
theorem dX11_boundingStrike_128 : decode cX11_boundingStrike 128 = .ok (.isub, 1) := by decide +kernel
theorem dX11_boundingStrike_129 : decode cX11_boundingStrike 129 = .ok (.istore 8, 2) := by decide +kernel
theorem dX11_boundingStrike_131 : decode cX11_boundingStrike 131 = .ok (.iinc 9 1, 3) := by decide +kernel
theorem dX11_boundingStrike_134 : decode cX11_boundingStrike 134 = .ok (.goto (-84), 3) := by decide +kernel
theorem dX11_boundingStrike_137 : decode cX11_boundingStrike 137 = .ok (.iload 6, 2) := by decide +kernel
theorem dX11_boundingStrike_139 : decode cX11_boundingStrike 139 = .ok (.ireturn, 1) := by decide +kernel
theorem dX11_early_0 : decode cX11_early 0 = .ok (.aload_n 0, 1) := by decide +kernel
theorem dX11_early_1 : decode cX11_early 1 = .ok (.iload_n 1, 1) := by decide +kernel
theorem dX11_early_2 : decode cX11_early 2 = .ok (.invokevirtual 134, 3) := by decide +kernel
theorem dX11_early_5 : decode cX11_early 5 = .ok (.ifCond .eq 14, 3) := by decide +kernel
theorem dX11_early_8 : decode cX11_early 8 = .ok (.iload_n 2, 1) := by decide +kernel
theorem dX11_early_9 : decode cX11_early 9 = .ok (.invokestatic 196, 3) := by decide +kernel
theorem dX11_early_12 : decode cX11_early 12 = .ok (.ifCond .eq 7, 3) := by decide +kernel
theorem dX11_early_15 : decode cX11_early 15 = .ok (.iconst 1, 1) := by decide +kernel
theorem dX11_early_16 : decode cX11_early 16 = .ok (.goto 4, 3) := by decide +kernel
theorem dX11_early_19 : decode cX11_early 19 = .ok (.iconst 0, 1) := by decide +kernel
theorem dX11_early_20 : decode cX11_early 20 = .ok (.invokestatic 199, 3) := by decide +kernel
theorem dX11_early_23 : decode cX11_early 23 = .ok (.aload_n 0, 1) := by decide +kernel
theorem dX11_early_24 : decode cX11_early 24 = .ok (.getfield 23, 3) := by decide +kernel
theorem dX11_early_27 : decode cX11_early 27 = .ok (.getfield 138, 3) := by decide +kernel
theorem dX11_early_30 : decode cX11_early 30 = .ok (.iload_n 1, 1) := by decide +kernel
theorem dX11_early_31 : decode cX11_early 31 = .ok (.aaload, 1) := by decide +kernel
theorem dX11_early_32 : decode cX11_early 32 = .ok (.astore_n 3, 1) := by decide +kernel
theorem dX11_early_33 : decode cX11_early 33 = .ok (.aload_n 0, 1) := by decide +kernel
theorem dX11_early_34 : decode cX11_early 34 = .ok (.iload_n 1, 1) := by decide +kernel
theorem dX11_early_35 : decode cX11_early 35 = .ok (.invokevirtual 203, 3) := by decide +kernel
theorem dX11_early_38 : decode cX11_early 38 = .ok (.getfield 221, 3) := by decide +kernel
theorem dX11_early_41 : decode cX11_early 41 = .ok (.getfield 225, 3) := by decide +kernel
theorem dX11_early_44 : decode cX11_early 44 = .ok (.iconst 0, 1) := by decide +kernel
theorem dX11_early_45 : decode cX11_early 45 = .ok (.laload, 1) := by decide +kernel
theorem dX11_early_46 : decode cX11_early 46 = .ok (.lstore 4, 2) := by decide +kernel
theorem dX11_early_48 : decode cX11_early 48 = .ok (.lload 4, 2) := by decide +kernel
theorem dX11_early_50 : decode cX11_early 50 = .ok (.aload_n 0, 1) := by decide +kernel
theorem dX11_early_51 : decode cX11_early 51 = .ok (.getfield 56, 3) := by decide +kernel
theorem dX11_early_54 : decode cX11_early 54 = .ok (.aload_n 3, 1) := by decide +kernel
theorem dX11_early_55 : decode cX11_early 55 = .ok (.aload_n 3, 1) := by decide +kernel
theorem dX11_early_56 : decode cX11_early 56 = .ok (.getfield 147, 3) := by decide +kernel
theorem dX11_early_59 : decode cX11_early 59 = .ok (.bipush 13, 2) := by decide +kernel
theorem dX11_early_61 : decode cX11_early 61 = .ok (.invokevirtual 282, 3) := by decide +kernel
theorem dX11_early_64 : decode cX11_early 64 = .ok (.lsub, 1) := by decide +kernel
theorem dX11_early_65 : decode cX11_early 65 = .ok (.aload_n 0, 1) := by decide +kernel
theorem dX11_early_66 : decode cX11_early 66 = .ok (.getfield 56, 3) := by decide +kernel
theorem dX11_early_69 : decode cX11_early 69 = .ok (.iconst 0, 1) := by decide +kernel
theorem dX11_early_70 : decode cX11_early 70 = .ok (.invokevirtual 213, 3) := by decide +kernel
theorem dX11_early_73 : decode cX11_early 73 = .ok (.iload_n 2, 1) := by decide +kernel
theorem dX11_early_74 : decode cX11_early 74 = .ok (.invokestatic 217, 3) := by decide +kernel
theorem dX11_early_77 : decode cX11_early 77 = .ok (.lreturn, 1) := by decide +kernel
theorem dX11_worthBy_0 : decode cX11_worthBy 0 = .ok (.aload_n 0, 1) := by decide +kernel
theorem dX11_worthBy_1 : decode cX11_worthBy 1 = .ok (.iload_n 1, 1) := by decide +kernel
theorem dX11_worthBy_2 : decode cX11_worthBy 2 = .ok (.invokevirtual 134, 3) := by decide +kernel
theorem dX11_worthBy_5 : decode cX11_worthBy 5 = .ok (.ifCond .eq 29, 3) := by decide +kernel
theorem dX11_worthBy_8 : decode cX11_worthBy 8 = .ok (.iload_n 2, 1) := by decide +kernel
theorem dX11_worthBy_9 : decode cX11_worthBy 9 = .ok (.invokestatic 286, 3) := by decide +kernel
theorem dX11_worthBy_12 : decode cX11_worthBy 12 = .ok (.ifCond .eq 22, 3) := by decide +kernel
theorem dX11_worthBy_15 : decode cX11_worthBy 15 = .ok (.iload_n 3, 1) := by decide +kernel
theorem dX11_worthBy_16 : decode cX11_worthBy 16 = .ok (.invokestatic 196, 3) := by decide +kernel
theorem dX11_worthBy_19 : decode cX11_worthBy 19 = .ok (.ifCond .eq 15, 3) := by decide +kernel
theorem dX11_worthBy_22 : decode cX11_worthBy 22 = .ok (.iload 4, 2) := by decide +kernel
theorem dX11_worthBy_24 : decode cX11_worthBy 24 = .ok (.invokestatic 196, 3) := by decide +kernel
theorem dX11_worthBy_27 : decode cX11_worthBy 27 = .ok (.ifCond .eq 7, 3) := by decide +kernel
theorem dX11_worthBy_30 : decode cX11_worthBy 30 = .ok (.iconst 1, 1) := by decide +kernel
theorem dX11_worthBy_31 : decode cX11_worthBy 31 = .ok (.goto 4, 3) := by decide +kernel
theorem dX11_worthBy_34 : decode cX11_worthBy 34 = .ok (.iconst 0, 1) := by decide +kernel
theorem dX11_worthBy_35 : decode cX11_worthBy 35 = .ok (.invokestatic 199, 3) := by decide +kernel
theorem dX11_worthBy_38 : decode cX11_worthBy 38 = .ok (.aload_n 0, 1) := by decide +kernel
theorem dX11_worthBy_39 : decode cX11_worthBy 39 = .ok (.getfield 79, 3) := by decide +kernel
theorem dX11_worthBy_42 : decode cX11_worthBy 42 = .ok (.aload_n 0, 1) := by decide +kernel
theorem dX11_worthBy_43 : decode cX11_worthBy 43 = .ok (.iload_n 1, 1) := by decide +kernel
theorem dX11_worthBy_44 : decode cX11_worthBy 44 = .ok (.invokevirtual 203, 3) := by decide +kernel
theorem dX11_worthBy_47 : decode cX11_worthBy 47 = .ok (.aload_n 0, 1) := by decide +kernel
theorem dX11_worthBy_48 : decode cX11_worthBy 48 = .ok (.getfield 23, 3) := by decide +kernel
theorem dX11_worthBy_51 : decode cX11_worthBy 51 = .ok (.getfield 138, 3) := by decide +kernel
theorem dX11_worthBy_54 : decode cX11_worthBy 54 = .ok (.iload_n 1, 1) := by decide +kernel
theorem dX11_worthBy_55 : decode cX11_worthBy 55 = .ok (.aaload, 1) := by decide +kernel
theorem dX11_worthBy_56 : decode cX11_worthBy 56 = .ok (.iload_n 2, 1) := by decide +kernel
theorem dX11_worthBy_57 : decode cX11_worthBy 57 = .ok (.iload_n 3, 1) := by decide +kernel
theorem dX11_worthBy_58 : decode cX11_worthBy 58 = .ok (.invokevirtual 289, 3) := by decide +kernel
theorem dX11_worthBy_61 : decode cX11_worthBy 61 = .ok (.aload_n 0, 1) := by decide +kernel
theorem dX11_worthBy_62 : decode cX11_worthBy 62 = .ok (.getfield 56, 3) := by decide +kernel
theorem dX11_worthBy_65 : decode cX11_worthBy 65 = .ok (.iconst 0, 1) := by decide +kernel
theorem dX11_worthBy_66 : decode cX11_worthBy 66 = .ok (.invokevirtual 213, 3) := by decide +kernel
theorem dX11_worthBy_69 : decode cX11_worthBy 69 = .ok (.iload 4, 2) := by decide +kernel
theorem dX11_worthBy_71 : decode cX11_worthBy 71 = .ok (.invokestatic 217, 3) := by decide +kernel
theorem dX11_worthBy_74 : decode cX11_worthBy 74 = .ok (.lreturn, 1) := by decide +kernel
theorem dX11_bestBy_0 : decode cX11_bestBy 0 = .ok (.aload_n 0, 1) := by decide +kernel
theorem dX11_bestBy_1 : decode cX11_bestBy 1 = .ok (.iload_n 1, 1) := by decide +kernel
theorem dX11_bestBy_2 : decode cX11_bestBy 2 = .ok (.invokevirtual 134, 3) := by decide +kernel
theorem dX11_bestBy_5 : decode cX11_bestBy 5 = .ok (.ifCond .eq 10, 3) := by decide +kernel
theorem dX11_bestBy_8 : decode cX11_bestBy 8 = .ok (.iload_n 2, 1) := by decide +kernel
theorem dX11_bestBy_9 : decode cX11_bestBy 9 = .ok (.invokestatic 196, 3) := by decide +kernel
theorem dX11_bestBy_12 : decode cX11_bestBy 12 = .ok (.ifCond .ne 5, 3) := by decide +kernel
theorem dX11_bestBy_15 : decode cX11_bestBy 15 = .ok (.iconst (-1), 1) := by decide +kernel
theorem dX11_bestBy_16 : decode cX11_bestBy 16 = .ok (.ireturn, 1) := by decide +kernel
theorem dX11_bestBy_17 : decode cX11_bestBy 17 = .ok (.aload_n 0, 1) := by decide +kernel
theorem dX11_bestBy_18 : decode cX11_bestBy 18 = .ok (.getfield 79, 3) := by decide +kernel
theorem dX11_bestBy_21 : decode cX11_bestBy 21 = .ok (.aload_n 0, 1) := by decide +kernel
theorem dX11_bestBy_22 : decode cX11_bestBy 22 = .ok (.iload_n 1, 1) := by decide +kernel
theorem dX11_bestBy_23 : decode cX11_bestBy 23 = .ok (.invokevirtual 203, 3) := by decide +kernel
theorem dX11_bestBy_26 : decode cX11_bestBy 26 = .ok (.aload_n 0, 1) := by decide +kernel
theorem dX11_bestBy_27 : decode cX11_bestBy 27 = .ok (.getfield 23, 3) := by decide +kernel
theorem dX11_bestBy_30 : decode cX11_bestBy 30 = .ok (.getfield 138, 3) := by decide +kernel
theorem dX11_bestBy_33 : decode cX11_bestBy 33 = .ok (.iload_n 1, 1) := by decide +kernel
theorem dX11_bestBy_34 : decode cX11_bestBy 34 = .ok (.aaload, 1) := by decide +kernel
theorem dX11_bestBy_35 : decode cX11_bestBy 35 = .ok (.iload_n 2, 1) := by decide +kernel
theorem dX11_bestBy_36 : decode cX11_bestBy 36 = .ok (.invokevirtual 292, 3) := by decide +kernel
theorem dX11_bestBy_39 : decode cX11_bestBy 39 = .ok (.ireturn, 1) := by decide +kernel
theorem dX11_reach_0 : decode cX11_reach 0 = .ok (.iload_n 1, 1) := by decide +kernel
theorem dX11_reach_1 : decode cX11_reach 1 = .ok (.invokestatic 286, 3) := by decide +kernel
theorem dX11_reach_4 : decode cX11_reach 4 = .ok (.ifCond .eq 21, 3) := by decide +kernel
theorem dX11_reach_7 : decode cX11_reach 7 = .ok (.iload_n 2, 1) := by decide +kernel
theorem dX11_reach_8 : decode cX11_reach 8 = .ok (.invokestatic 196, 3) := by decide +kernel
theorem dX11_reach_11 : decode cX11_reach 11 = .ok (.ifCond .eq 14, 3) := by decide +kernel
theorem dX11_reach_14 : decode cX11_reach 14 = .ok (.iload_n 3, 1) := by decide +kernel
theorem dX11_reach_15 : decode cX11_reach 15 = .ok (.invokestatic 196, 3) := by decide +kernel
theorem dX11_reach_18 : decode cX11_reach 18 = .ok (.ifCond .eq 7, 3) := by decide +kernel
theorem dX11_reach_21 : decode cX11_reach 21 = .ok (.iconst 1, 1) := by decide +kernel
theorem dX11_reach_22 : decode cX11_reach 22 = .ok (.goto 4, 3) := by decide +kernel
theorem dX11_reach_25 : decode cX11_reach 25 = .ok (.iconst 0, 1) := by decide +kernel
theorem dX11_reach_26 : decode cX11_reach 26 = .ok (.invokestatic 199, 3) := by decide +kernel
theorem dX11_reach_29 : decode cX11_reach 29 = .ok (.aload_n 0, 1) := by decide +kernel
theorem dX11_reach_30 : decode cX11_reach 30 = .ok (.getfield 56, 3) := by decide +kernel
theorem dX11_reach_33 : decode cX11_reach 33 = .ok (.invokevirtual 184, 3) := by decide +kernel
theorem dX11_reach_36 : decode cX11_reach 36 = .ok (.aload_n 0, 1) := by decide +kernel
theorem dX11_reach_37 : decode cX11_reach 37 = .ok (.getfield 79, 3) := by decide +kernel
theorem dX11_reach_40 : decode cX11_reach 40 = .ok (.iload_n 1, 1) := by decide +kernel
theorem dX11_reach_41 : decode cX11_reach 41 = .ok (.iload_n 2, 1) := by decide +kernel
theorem dX11_reach_42 : decode cX11_reach 42 = .ok (.invokevirtual 295, 3) := by decide +kernel
theorem dX11_reach_45 : decode cX11_reach 45 = .ok (.aload_n 0, 1) := by decide +kernel
theorem dX11_reach_46 : decode cX11_reach 46 = .ok (.getfield 56, 3) := by decide +kernel
theorem dX11_reach_49 : decode cX11_reach 49 = .ok (.iconst 0, 1) := by decide +kernel
theorem dX11_reach_50 : decode cX11_reach 50 = .ok (.invokevirtual 213, 3) := by decide +kernel
theorem dX11_reach_53 : decode cX11_reach 53 = .ok (.iload_n 3, 1) := by decide +kernel
theorem dX11_reach_54 : decode cX11_reach 54 = .ok (.invokestatic 217, 3) := by decide +kernel
theorem dX11_reach_57 : decode cX11_reach 57 = .ok (.lreturn, 1) := by decide +kernel
theorem dX11_own_0 : decode cX11_own 0 = .ok (.aload_n 0, 1) := by decide +kernel
theorem dX11_own_1 : decode cX11_own 1 = .ok (.iload_n 1, 1) := by decide +kernel
theorem dX11_own_2 : decode cX11_own 2 = .ok (.invokevirtual 134, 3) := by decide +kernel
theorem dX11_own_5 : decode cX11_own 5 = .ok (.ifCond .eq 15, 3) := by decide +kernel
theorem dX11_own_8 : decode cX11_own 8 = .ok (.iload_n 2, 1) := by decide +kernel
theorem dX11_own_9 : decode cX11_own 9 = .ok (.bipush (-9), 2) := by decide +kernel
theorem dX11_own_11 : decode cX11_own 11 = .ok (.if_icmp .lt 9, 3) := by decide +kernel
theorem dX11_own_14 : decode cX11_own 14 = .ok (.iload_n 2, 1) := by decide +kernel
theorem dX11_own_15 : decode cX11_own 15 = .ok (.bipush 9, 2) := by decide +kernel
theorem dX11_own_17 : decode cX11_own 17 = .ok (.if_icmp .le 6, 3) := by decide +kernel
theorem dX11_own_20 : decode cX11_own 20 = .ok (.ldc 137, 2) := by decide +kernel
theorem dX11_own_22 : decode cX11_own 22 = .ok (.ireturn, 1) := by decide +kernel
theorem dX11_own_23 : decode cX11_own 23 = .ok (.aload_n 0, 1) := by decide +kernel
theorem dX11_own_24 : decode cX11_own 24 = .ok (.getfield 23, 3) := by decide +kernel
theorem dX11_own_27 : decode cX11_own 27 = .ok (.getfield 138, 3) := by decide +kernel
theorem dX11_own_30 : decode cX11_own 30 = .ok (.iload_n 1, 1) := by decide +kernel
theorem dX11_own_31 : decode cX11_own 31 = .ok (.aaload, 1) := by decide +kernel
theorem dX11_own_32 : decode cX11_own 32 = .ok (.getfield 174, 3) := by decide +kernel
theorem dX11_own_35 : decode cX11_own 35 = .ok (.istore_n 3, 1) := by decide +kernel
theorem dX11_own_36 : decode cX11_own 36 = .ok (.aload_n 0, 1) := by decide +kernel
theorem dX11_own_37 : decode cX11_own 37 = .ok (.iconst 0, 1) := by decide +kernel
theorem dX11_own_38 : decode cX11_own 38 = .ok (.iload_n 1, 1) := by decide +kernel
theorem dX11_own_39 : decode cX11_own 39 = .ok (.iload_n 2, 1) := by decide +kernel
theorem dX11_own_40 : decode cX11_own 40 = .ok (.invokevirtual 299, 3) := by decide +kernel
theorem dX11_own_43 : decode cX11_own 43 = .ok (.iload_n 3, 1) := by decide +kernel
theorem dX11_own_44 : decode cX11_own 44 = .ok (.ireturn, 1) := by decide +kernel
theorem dX11_book_0 : decode cX11_book 0 = .ok (.aload_n 0, 1) := by decide +kernel
theorem dX11_book_1 : decode cX11_book 1 = .ok (.iload_n 1, 1) := by decide +kernel
theorem dX11_book_2 : decode cX11_book 2 = .ok (.iload_n 2, 1) := by decide +kernel
theorem dX11_book_3 : decode cX11_book 3 = .ok (.invokevirtual 180, 3) := by decide +kernel
theorem dX11_book_6 : decode cX11_book 6 = .ok (.ifCond .eq 14, 3) := by decide +kernel
theorem dX11_book_9 : decode cX11_book 9 = .ok (.iload_n 3, 1) := by decide +kernel
theorem dX11_book_10 : decode cX11_book 10 = .ok (.invokestatic 196, 3) := by decide +kernel
theorem dX11_book_13 : decode cX11_book 13 = .ok (.ifCond .eq 7, 3) := by decide +kernel
theorem dX11_book_16 : decode cX11_book 16 = .ok (.iconst 1, 1) := by decide +kernel
theorem dX11_book_17 : decode cX11_book 17 = .ok (.goto 4, 3) := by decide +kernel
theorem dX11_book_20 : decode cX11_book 20 = .ok (.iconst 0, 1) := by decide +kernel
theorem dX11_book_21 : decode cX11_book 21 = .ok (.invokestatic 199, 3) := by decide +kernel
theorem dX11_book_24 : decode cX11_book 24 = .ok (.aload_n 0, 1) := by decide +kernel
theorem dX11_book_25 : decode cX11_book 25 = .ok (.getfield 56, 3) := by decide +kernel
theorem dX11_book_28 : decode cX11_book 28 = .ok (.invokevirtual 184, 3) := by decide +kernel
theorem dX11_book_31 : decode cX11_book 31 = .ok (.aload_n 0, 1) := by decide +kernel
theorem dX11_book_32 : decode cX11_book 32 = .ok (.iload_n 1, 1) := by decide +kernel
theorem dX11_book_33 : decode cX11_book 33 = .ok (.iload_n 2, 1) := by decide +kernel
theorem dX11_book_34 : decode cX11_book 34 = .ok (.invokestatic 187, 3) := by decide +kernel
theorem dX11_book_37 : decode cX11_book 37 = .ok (.invokevirtual 303, 3) := by decide +kernel
theorem dX11_book_40 : decode cX11_book 40 = .ok (.aload_n 0, 1) := by decide +kernel
theorem dX11_book_41 : decode cX11_book 41 = .ok (.getfield 56, 3) := by decide +kernel
theorem dX11_book_44 : decode cX11_book 44 = .ok (.iload_n 1, 1) := by decide +kernel
theorem dX11_book_45 : decode cX11_book 45 = .ok (.invokevirtual 213, 3) := by decide +kernel
theorem dX11_book_48 : decode cX11_book 48 = .ok (.iload_n 3, 1) := by decide +kernel
theorem dX11_book_49 : decode cX11_book 49 = .ok (.invokestatic 217, 3) := by decide +kernel
theorem dX11_book_52 : decode cX11_book 52 = .ok (.lreturn, 1) := by decide +kernel
theorem dX11_bookWorth_0 : decode cX11_bookWorth 0 = .ok (.lconst 0, 1) := by decide +kernel
theorem dX11_bookWorth_1 : decode cX11_bookWorth 1 = .ok (.lstore_n 2, 1) := by decide +kernel
theorem dX11_bookWorth_2 : decode cX11_bookWorth 2 = .ok (.iconst 0, 1) := by decide +kernel
theorem dX11_bookWorth_3 : decode cX11_bookWorth 3 = .ok (.istore 4, 2) := by decide +kernel
theorem dX11_bookWorth_5 : decode cX11_bookWorth 5 = .ok (.iload 4, 2) := by decide +kernel
theorem dX11_bookWorth_7 : decode cX11_bookWorth 7 = .ok (.aload_n 0, 1) := by decide +kernel
