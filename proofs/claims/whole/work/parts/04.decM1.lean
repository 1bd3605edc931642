theorem dX12_option_1 : decode cX12_option 1 = .ok (.iconst 0, 1) := by decide +kernel
theorem dX12_option_2 : decode cX12_option 2 = .ok (.putfield 1, 3) := by decide +kernel
theorem dX12_option_5 : decode cX12_option 5 = .ok (.aload_n 0, 1) := by decide +kernel
theorem dX12_option_6 : decode cX12_option 6 = .ok (.iload_n 1, 1) := by decide +kernel
theorem dX12_option_7 : decode cX12_option 7 = .ok (.invokevirtual 194, 3) := by decide +kernel
theorem dX12_option_10 : decode cX12_option 10 = .ok (.ifCond .eq 13, 3) := by decide +kernel
theorem dX12_option_13 : decode cX12_option 13 = .ok (.iload_n 2, 1) := by decide +kernel
theorem dX12_option_14 : decode cX12_option 14 = .ok (.iconst 0, 1) := by decide +kernel
theorem dX12_option_15 : decode cX12_option 15 = .ok (.bipush 9, 2) := by decide +kernel
theorem dX12_option_17 : decode cX12_option 17 = .ok (.invokestatic 88, 3) := by decide +kernel
theorem dX12_option_20 : decode cX12_option 20 = .ok (.ifCond .ne 6, 3) := by decide +kernel
theorem dX12_option_23 : decode cX12_option 23 = .ok (.ldc 197, 2) := by decide +kernel
theorem dX12_option_25 : decode cX12_option 25 = .ok (.ireturn, 1) := by decide +kernel
theorem dX12_option_26 : decode cX12_option 26 = .ok (.iload_n 2, 1) := by decide +kernel
theorem dX12_option_27 : decode cX12_option 27 = .ok (.iconst 3, 1) := by decide +kernel
theorem dX12_option_28 : decode cX12_option 28 = .ok (.if_icmp .ne 11, 3) := by decide +kernel
theorem dX12_option_31 : decode cX12_option 31 = .ok (.aload_n 0, 1) := by decide +kernel
theorem dX12_option_32 : decode cX12_option 32 = .ok (.iload_n 1, 1) := by decide +kernel
theorem dX12_option_33 : decode cX12_option 33 = .ok (.invokevirtual 198, 3) := by decide +kernel
theorem dX12_option_36 : decode cX12_option 36 = .ok (.goto 41, 3) := by decide +kernel
theorem dX12_option_39 : decode cX12_option 39 = .ok (.iload_n 2, 1) := by decide +kernel
theorem dX12_option_40 : decode cX12_option 40 = .ok (.bipush 8, 2) := by decide +kernel
theorem dX12_option_42 : decode cX12_option 42 = .ok (.if_icmp .ne 13, 3) := by decide +kernel
theorem dX12_option_45 : decode cX12_option 45 = .ok (.aload_n 0, 1) := by decide +kernel
theorem dX12_option_46 : decode cX12_option 46 = .ok (.iload_n 1, 1) := by decide +kernel
theorem dX12_option_47 : decode cX12_option 47 = .ok (.bipush 9, 2) := by decide +kernel
theorem dX12_option_49 : decode cX12_option 49 = .ok (.invokevirtual 191, 3) := by decide +kernel
theorem dX12_option_52 : decode cX12_option 52 = .ok (.goto 25, 3) := by decide +kernel
theorem dX12_option_55 : decode cX12_option 55 = .ok (.iload_n 2, 1) := by decide +kernel
theorem dX12_option_56 : decode cX12_option 56 = .ok (.bipush 9, 2) := by decide +kernel
theorem dX12_option_58 : decode cX12_option 58 = .ok (.if_icmp .ne 13, 3) := by decide +kernel
theorem dX12_option_61 : decode cX12_option 61 = .ok (.aload_n 0, 1) := by decide +kernel
theorem dX12_option_62 : decode cX12_option 62 = .ok (.iload_n 1, 1) := by decide +kernel
theorem dX12_option_63 : decode cX12_option 63 = .ok (.bipush 8, 2) := by decide +kernel
theorem dX12_option_65 : decode cX12_option 65 = .ok (.invokevirtual 191, 3) := by decide +kernel
theorem dX12_option_68 : decode cX12_option 68 = .ok (.goto 9, 3) := by decide +kernel
theorem dX12_option_71 : decode cX12_option 71 = .ok (.aload_n 0, 1) := by decide +kernel
theorem dX12_option_72 : decode cX12_option 72 = .ok (.iload_n 1, 1) := by decide +kernel
theorem dX12_option_73 : decode cX12_option 73 = .ok (.iload_n 2, 1) := by decide +kernel
theorem dX12_option_74 : decode cX12_option 74 = .ok (.invokevirtual 191, 3) := by decide +kernel
theorem dX12_option_77 : decode cX12_option 77 = .ok (.ireturn, 1) := by decide +kernel
theorem dX12_price_0 : decode cX12_price 0 = .ok (.aload_n 0, 1) := by decide +kernel
theorem dX12_price_1 : decode cX12_price 1 = .ok (.iconst 0, 1) := by decide +kernel
theorem dX12_price_2 : decode cX12_price 2 = .ok (.putfield 1, 3) := by decide +kernel
theorem dX12_price_5 : decode cX12_price 5 = .ok (.aload_n 0, 1) := by decide +kernel
theorem dX12_price_6 : decode cX12_price 6 = .ok (.iload_n 1, 1) := by decide +kernel
theorem dX12_price_7 : decode cX12_price 7 = .ok (.iload_n 2, 1) := by decide +kernel
theorem dX12_price_8 : decode cX12_price 8 = .ok (.invokevirtual 201, 3) := by decide +kernel
theorem dX12_price_11 : decode cX12_price 11 = .ok (.ifCond .eq 12, 3) := by decide +kernel
theorem dX12_price_14 : decode cX12_price 14 = .ok (.iload_n 3, 1) := by decide +kernel
theorem dX12_price_15 : decode cX12_price 15 = .ok (.iconst 0, 1) := by decide +kernel
theorem dX12_price_16 : decode cX12_price 16 = .ok (.iconst 2, 1) := by decide +kernel
theorem dX12_price_17 : decode cX12_price 17 = .ok (.invokestatic 88, 3) := by decide +kernel
theorem dX12_price_20 : decode cX12_price 20 = .ok (.ifCond .ne 5, 3) := by decide +kernel
theorem dX12_price_23 : decode cX12_price 23 = .ok (.iconst (-1), 1) := by decide +kernel
theorem dX12_price_24 : decode cX12_price 24 = .ok (.ireturn, 1) := by decide +kernel
theorem dX12_price_25 : decode cX12_price 25 = .ok (.iload_n 3, 1) := by decide +kernel
theorem dX12_price_26 : decode cX12_price 26 = .ok (.ifCond .ne 12, 3) := by decide +kernel
theorem dX12_price_29 : decode cX12_price 29 = .ok (.aload_n 0, 1) := by decide +kernel
theorem dX12_price_30 : decode cX12_price 30 = .ok (.iload_n 1, 1) := by decide +kernel
theorem dX12_price_31 : decode cX12_price 31 = .ok (.iload_n 2, 1) := by decide +kernel
theorem dX12_price_32 : decode cX12_price 32 = .ok (.invokevirtual 204, 3) := by decide +kernel
theorem dX12_price_35 : decode cX12_price 35 = .ok (.goto 31, 3) := by decide +kernel
theorem dX12_price_38 : decode cX12_price 38 = .ok (.iload_n 3, 1) := by decide +kernel
theorem dX12_price_39 : decode cX12_price 39 = .ok (.iconst 1, 1) := by decide +kernel
theorem dX12_price_40 : decode cX12_price 40 = .ok (.if_icmp .ne 20, 3) := by decide +kernel
theorem dX12_price_43 : decode cX12_price 43 = .ok (.aload_n 0, 1) := by decide +kernel
theorem dX12_price_44 : decode cX12_price 44 = .ok (.iload_n 1, 1) := by decide +kernel
theorem dX12_price_45 : decode cX12_price 45 = .ok (.iload_n 2, 1) := by decide +kernel
theorem dX12_price_46 : decode cX12_price 46 = .ok (.invokevirtual 184, 3) := by decide +kernel
theorem dX12_price_49 : decode cX12_price 49 = .ok (.aload_n 0, 1) := by decide +kernel
theorem dX12_price_50 : decode cX12_price 50 = .ok (.iload_n 1, 1) := by decide +kernel
theorem dX12_price_51 : decode cX12_price 51 = .ok (.iconst 1, 1) := by decide +kernel
theorem dX12_price_52 : decode cX12_price 52 = .ok (.iadd, 1) := by decide +kernel
theorem dX12_price_53 : decode cX12_price 53 = .ok (.invokevirtual 188, 3) := by decide +kernel
theorem dX12_price_56 : decode cX12_price 56 = .ok (.iadd, 1) := by decide +kernel
theorem dX12_price_57 : decode cX12_price 57 = .ok (.goto 9, 3) := by decide +kernel
theorem dX12_price_60 : decode cX12_price 60 = .ok (.aload_n 0, 1) := by decide +kernel
theorem dX12_price_61 : decode cX12_price 61 = .ok (.iload_n 1, 1) := by decide +kernel
theorem dX12_price_62 : decode cX12_price 62 = .ok (.iload_n 2, 1) := by decide +kernel
theorem dX12_price_63 : decode cX12_price 63 = .ok (.invokevirtual 184, 3) := by decide +kernel
theorem dX12_price_66 : decode cX12_price 66 = .ok (.ireturn, 1) := by decide +kernel
theorem dX12_cell_0 : decode cX12_cell 0 = .ok (.sipush 169, 3) := by decide +kernel
theorem dX12_cell_3 : decode cX12_cell 3 = .ok (.iload_n 0, 1) := by decide +kernel
theorem dX12_cell_4 : decode cX12_cell 4 = .ok (.imul, 1) := by decide +kernel
theorem dX12_cell_5 : decode cX12_cell 5 = .ok (.bipush 13, 2) := by decide +kernel
theorem dX12_cell_7 : decode cX12_cell 7 = .ok (.iload_n 1, 1) := by decide +kernel
theorem dX12_cell_8 : decode cX12_cell 8 = .ok (.imul, 1) := by decide +kernel
theorem dX12_cell_9 : decode cX12_cell 9 = .ok (.iadd, 1) := by decide +kernel
theorem dX12_cell_10 : decode cX12_cell 10 = .ok (.iload_n 2, 1) := by decide +kernel
theorem dX12_cell_11 : decode cX12_cell 11 = .ok (.iadd, 1) := by decide +kernel
theorem dX12_cell_12 : decode cX12_cell 12 = .ok (.ireturn, 1) := by decide +kernel
theorem dX12_may_0 : decode cX12_may 0 = .ok (.iload_n 2, 1) := by decide +kernel
theorem dX12_may_1 : decode cX12_may 1 = .ok (.aload_n 0, 1) := by decide +kernel
theorem dX12_may_2 : decode cX12_may 2 = .ok (.iload_n 1, 1) := by decide +kernel
theorem dX12_may_3 : decode cX12_may 3 = .ok (.invokevirtual 198, 3) := by decide +kernel
theorem dX12_may_6 : decode cX12_may 6 = .ok (.if_icmp .lt 7, 3) := by decide +kernel
theorem dX12_may_9 : decode cX12_may 9 = .ok (.iconst 1, 1) := by decide +kernel
theorem dX12_may_10 : decode cX12_may 10 = .ok (.goto 4, 3) := by decide +kernel
theorem dX12_may_13 : decode cX12_may 13 = .ok (.iconst 0, 1) := by decide +kernel
theorem dX12_may_14 : decode cX12_may 14 = .ok (.ireturn, 1) := by decide +kernel
theorem dX12_isTouched_0 : decode cX12_isTouched 0 = .ok (.aload_n 0, 1) := by decide +kernel
theorem dX12_isTouched_1 : decode cX12_isTouched 1 = .ok (.iload_n 1, 1) := by decide +kernel
theorem dX12_isTouched_2 : decode cX12_isTouched 2 = .ok (.iconst 5, 1) := by decide +kernel
theorem dX12_isTouched_3 : decode cX12_isTouched 3 = .ok (.invokevirtual 191, 3) := by decide +kernel
theorem dX12_isTouched_6 : decode cX12_isTouched 6 = .ok (.iconst 1, 1) := by decide +kernel
theorem dX12_isTouched_7 : decode cX12_isTouched 7 = .ok (.if_icmp .ne 27, 3) := by decide +kernel
theorem dX12_isTouched_10 : decode cX12_isTouched 10 = .ok (.aload_n 0, 1) := by decide +kernel
theorem dX12_isTouched_11 : decode cX12_isTouched 11 = .ok (.iload_n 2, 1) := by decide +kernel
theorem dX12_isTouched_12 : decode cX12_isTouched 12 = .ok (.iload_n 3, 1) := by decide +kernel
theorem dX12_isTouched_13 : decode cX12_isTouched 13 = .ok (.invokevirtual 204, 3) := by decide +kernel
theorem dX12_isTouched_16 : decode cX12_isTouched 16 = .ok (.aload_n 0, 1) := by decide +kernel
theorem dX12_isTouched_17 : decode cX12_isTouched 17 = .ok (.iload_n 1, 1) := by decide +kernel
theorem dX12_isTouched_18 : decode cX12_isTouched 18 = .ok (.bipush 6, 2) := by decide +kernel
theorem dX12_isTouched_20 : decode cX12_isTouched 20 = .ok (.invokevirtual 191, 3) := by decide +kernel
theorem dX12_isTouched_23 : decode cX12_isTouched 23 = .ok (.if_icmp .lt 7, 3) := by decide +kernel
theorem dX12_isTouched_26 : decode cX12_isTouched 26 = .ok (.iconst 1, 1) := by decide +kernel
theorem dX12_isTouched_27 : decode cX12_isTouched 27 = .ok (.goto 28, 3) := by decide +kernel
theorem dX12_isTouched_30 : decode cX12_isTouched 30 = .ok (.iconst 0, 1) := by decide +kernel
theorem dX12_isTouched_31 : decode cX12_isTouched 31 = .ok (.goto 24, 3) := by decide +kernel
theorem dX12_isTouched_34 : decode cX12_isTouched 34 = .ok (.aload_n 0, 1) := by decide +kernel
theorem dX12_isTouched_35 : decode cX12_isTouched 35 = .ok (.iload_n 2, 1) := by decide +kernel
theorem dX12_isTouched_36 : decode cX12_isTouched 36 = .ok (.iload_n 3, 1) := by decide +kernel
theorem dX12_isTouched_37 : decode cX12_isTouched 37 = .ok (.invokevirtual 204, 3) := by decide +kernel
theorem dX12_isTouched_40 : decode cX12_isTouched 40 = .ok (.aload_n 0, 1) := by decide +kernel
theorem dX12_isTouched_41 : decode cX12_isTouched 41 = .ok (.iload_n 1, 1) := by decide +kernel
theorem dX12_isTouched_42 : decode cX12_isTouched 42 = .ok (.bipush 6, 2) := by decide +kernel
theorem dX12_isTouched_44 : decode cX12_isTouched 44 = .ok (.invokevirtual 191, 3) := by decide +kernel
theorem dX12_isTouched_47 : decode cX12_isTouched 47 = .ok (.if_icmp .gt 7, 3) := by decide +kernel
theorem dX12_isTouched_50 : decode cX12_isTouched 50 = .ok (.iconst 1, 1) := by decide +kernel
theorem dX12_isTouched_51 : decode cX12_isTouched 51 = .ok (.goto 4, 3) := by decide +kernel
theorem dX12_isTouched_54 : decode cX12_isTouched 54 = .ok (.iconst 0, 1) := by decide +kernel
theorem dX12_isTouched_55 : decode cX12_isTouched 55 = .ok (.ireturn, 1) := by decide +kernel
theorem dX12_powerAt_0 : decode cX12_powerAt 0 = .ok (.aload_n 0, 1) := by decide +kernel
theorem dX12_powerAt_1 : decode cX12_powerAt 1 = .ok (.getfield 47, 3) := by decide +kernel
theorem dX12_powerAt_4 : decode cX12_powerAt 4 = .ok (.aload_n 0, 1) := by decide +kernel
theorem dX12_powerAt_5 : decode cX12_powerAt 5 = .ok (.getfield 13, 3) := by decide +kernel
theorem dX12_powerAt_8 : decode cX12_powerAt 8 = .ok (.iconst 2, 1) := by decide +kernel
theorem dX12_powerAt_9 : decode cX12_powerAt 9 = .ok (.iaload, 1) := by decide +kernel
theorem dX12_powerAt_10 : decode cX12_powerAt 10 = .ok (.iload_n 1, 1) := by decide +kernel
theorem dX12_powerAt_11 : decode cX12_powerAt 11 = .ok (.isub, 1) := by decide +kernel
theorem dX12_powerAt_12 : decode cX12_powerAt 12 = .ok (.laload, 1) := by decide +kernel
theorem dX12_powerAt_13 : decode cX12_powerAt 13 = .ok (.lreturn, 1) := by decide +kernel
theorem dX12_above0_0 : decode cX12_above0 0 = .ok (.lload_n 0, 1) := by decide +kernel
theorem dX12_above0_1 : decode cX12_above0 1 = .ok (.lconst 0, 1) := by decide +kernel
theorem dX12_above0_2 : decode cX12_above0 2 = .ok (.lcmp, 1) := by decide +kernel
theorem dX12_above0_3 : decode cX12_above0 3 = .ok (.ifCond .le 7, 3) := by decide +kernel
theorem dX12_above0_6 : decode cX12_above0 6 = .ok (.lload_n 0, 1) := by decide +kernel
theorem dX12_above0_7 : decode cX12_above0 7 = .ok (.goto 4, 3) := by decide +kernel
theorem dX12_above0_10 : decode cX12_above0 10 = .ok (.lconst 0, 1) := by decide +kernel
theorem dX12_above0_11 : decode cX12_above0 11 = .ok (.lreturn, 1) := by decide +kernel
theorem dX12_paysAt_0 : decode cX12_paysAt 0 = .ok (.aload_n 0, 1) := by decide +kernel
theorem dX12_paysAt_1 : decode cX12_paysAt 1 = .ok (.iload_n 1, 1) := by decide +kernel
theorem dX12_paysAt_2 : decode cX12_paysAt 2 = .ok (.iconst 1, 1) := by decide +kernel
theorem dX12_paysAt_3 : decode cX12_paysAt 3 = .ok (.invokevirtual 191, 3) := by decide +kernel
theorem dX12_paysAt_6 : decode cX12_paysAt 6 = .ok (.istore 4, 2) := by decide +kernel
theorem dX12_paysAt_8 : decode cX12_paysAt 8 = .ok (.aload_n 0, 1) := by decide +kernel
theorem dX12_paysAt_9 : decode cX12_paysAt 9 = .ok (.iload_n 2, 1) := by decide +kernel
theorem dX12_paysAt_10 : decode cX12_paysAt 10 = .ok (.iload_n 3, 1) := by decide +kernel
theorem dX12_paysAt_11 : decode cX12_paysAt 11 = .ok (.invokevirtual 204, 3) := by decide +kernel
theorem dX12_paysAt_14 : decode cX12_paysAt 14 = .ok (.iload 4, 2) := by decide +kernel
theorem dX12_paysAt_16 : decode cX12_paysAt 16 = .ok (.isub, 1) := by decide +kernel
theorem dX12_paysAt_17 : decode cX12_paysAt 17 = .ok (.istore 5, 2) := by decide +kernel
theorem dX12_paysAt_19 : decode cX12_paysAt 19 = .ok (.aload_n 0, 1) := by decide +kernel
theorem dX12_paysAt_20 : decode cX12_paysAt 20 = .ok (.iload_n 1, 1) := by decide +kernel
theorem dX12_paysAt_21 : decode cX12_paysAt 21 = .ok (.iconst 2, 1) := by decide +kernel
theorem dX12_paysAt_22 : decode cX12_paysAt 22 = .ok (.invokevirtual 191, 3) := by decide +kernel
theorem dX12_paysAt_25 : decode cX12_paysAt 25 = .ok (.istore 6, 2) := by decide +kernel
theorem dX12_paysAt_27 : decode cX12_paysAt 27 = .ok (.aload_n 0, 1) := by decide +kernel
theorem dX12_paysAt_28 : decode cX12_paysAt 28 = .ok (.iload_n 1, 1) := by decide +kernel
theorem dX12_paysAt_29 : decode cX12_paysAt 29 = .ok (.iconst 0, 1) := by decide +kernel
theorem dX12_paysAt_30 : decode cX12_paysAt 30 = .ok (.invokevirtual 191, 3) := by decide +kernel
theorem dX12_paysAt_33 : decode cX12_paysAt 33 = .ok (.tableswitch 139 0 4 #[35, 48, 62, 81, 118], 35) := by decide +kernel
theorem dX12_paysAt_68 : decode cX12_paysAt 68 = .ok (.iload 5, 2) := by decide +kernel
theorem dX12_paysAt_70 : decode cX12_paysAt 70 = .ok (.i2l, 1) := by decide +kernel
theorem dX12_paysAt_71 : decode cX12_paysAt 71 = .ok (.invokestatic 207, 3) := by decide +kernel
theorem dX12_paysAt_74 : decode cX12_paysAt 74 = .ok (.aload_n 0, 1) := by decide +kernel
theorem dX12_paysAt_75 : decode cX12_paysAt 75 = .ok (.iload_n 2, 1) := by decide +kernel
theorem dX12_paysAt_76 : decode cX12_paysAt 76 = .ok (.invokevirtual 211, 3) := by decide +kernel
theorem dX12_paysAt_79 : decode cX12_paysAt 79 = .ok (.lmul, 1) := by decide +kernel
theorem dX12_paysAt_80 : decode cX12_paysAt 80 = .ok (.lreturn, 1) := by decide +kernel
theorem dX12_paysAt_81 : decode cX12_paysAt 81 = .ok (.iload 5, 2) := by decide +kernel
theorem dX12_paysAt_83 : decode cX12_paysAt 83 = .ok (.ineg, 1) := by decide +kernel
theorem dX12_paysAt_84 : decode cX12_paysAt 84 = .ok (.i2l, 1) := by decide +kernel
theorem dX12_paysAt_85 : decode cX12_paysAt 85 = .ok (.invokestatic 207, 3) := by decide +kernel
theorem dX12_paysAt_88 : decode cX12_paysAt 88 = .ok (.aload_n 0, 1) := by decide +kernel
theorem dX12_paysAt_89 : decode cX12_paysAt 89 = .ok (.iload_n 2, 1) := by decide +kernel
theorem dX12_paysAt_90 : decode cX12_paysAt 90 = .ok (.invokevirtual 211, 3) := by decide +kernel
theorem dX12_paysAt_93 : decode cX12_paysAt 93 = .ok (.lmul, 1) := by decide +kernel
theorem dX12_paysAt_94 : decode cX12_paysAt 94 = .ok (.lreturn, 1) := by decide +kernel
theorem dX12_paysAt_95 : decode cX12_paysAt 95 = .ok (.iload 5, 2) := by decide +kernel
theorem dX12_paysAt_97 : decode cX12_paysAt 97 = .ok (.ifCond .lt 15, 3) := by decide +kernel
theorem dX12_paysAt_100 : decode cX12_paysAt 100 = .ok (.iload 6, 2) := by decide +kernel
theorem dX12_paysAt_102 : decode cX12_paysAt 102 = .ok (.i2l, 1) := by decide +kernel
theorem dX12_paysAt_103 : decode cX12_paysAt 103 = .ok (.aload_n 0, 1) := by decide +kernel
theorem dX12_paysAt_104 : decode cX12_paysAt 104 = .ok (.iload_n 2, 1) := by decide +kernel
theorem dX12_paysAt_105 : decode cX12_paysAt 105 = .ok (.invokevirtual 211, 3) := by decide +kernel
theorem dX12_paysAt_108 : decode cX12_paysAt 108 = .ok (.lmul, 1) := by decide +kernel
theorem dX12_paysAt_109 : decode cX12_paysAt 109 = .ok (.goto 4, 3) := by decide +kernel
theorem dX12_paysAt_112 : decode cX12_paysAt 112 = .ok (.lconst 0, 1) := by decide +kernel
theorem dX12_paysAt_113 : decode cX12_paysAt 113 = .ok (.lreturn, 1) := by decide +kernel
theorem dX12_paysAt_114 : decode cX12_paysAt 114 = .ok (.iload 5, 2) := by decide +kernel
theorem dX12_paysAt_116 : decode cX12_paysAt 116 = .ok (.ifCond .ge 7, 3) := by decide +kernel
theorem dX12_paysAt_119 : decode cX12_paysAt 119 = .ok (.iconst 0, 1) := by decide +kernel
theorem dX12_paysAt_120 : decode cX12_paysAt 120 = .ok (.goto 23, 3) := by decide +kernel
theorem dX12_paysAt_123 : decode cX12_paysAt 123 = .ok (.iload 5, 2) := by decide +kernel
theorem dX12_paysAt_125 : decode cX12_paysAt 125 = .ok (.iload 6, 2) := by decide +kernel
theorem dX12_paysAt_127 : decode cX12_paysAt 127 = .ok (.iload 4, 2) := by decide +kernel
theorem dX12_paysAt_129 : decode cX12_paysAt 129 = .ok (.isub, 1) := by decide +kernel
theorem dX12_paysAt_130 : decode cX12_paysAt 130 = .ok (.if_icmp .ge 8, 3) := by decide +kernel
theorem dX12_paysAt_133 : decode cX12_paysAt 133 = .ok (.iload 5, 2) := by decide +kernel
theorem dX12_paysAt_135 : decode cX12_paysAt 135 = .ok (.goto 8, 3) := by decide +kernel
theorem dX12_paysAt_138 : decode cX12_paysAt 138 = .ok (.iload 6, 2) := by decide +kernel
theorem dX12_paysAt_140 : decode cX12_paysAt 140 = .ok (.iload 4, 2) := by decide +kernel
theorem dX12_paysAt_142 : decode cX12_paysAt 142 = .ok (.isub, 1) := by decide +kernel
theorem dX12_paysAt_143 : decode cX12_paysAt 143 = .ok (.i2l, 1) := by decide +kernel
theorem dX12_paysAt_144 : decode cX12_paysAt 144 = .ok (.aload_n 0, 1) := by decide +kernel
theorem dX12_paysAt_145 : decode cX12_paysAt 145 = .ok (.iload_n 2, 1) := by decide +kernel
theorem dX12_paysAt_146 : decode cX12_paysAt 146 = .ok (.invokevirtual 211, 3) := by decide +kernel
theorem dX12_paysAt_149 : decode cX12_paysAt 149 = .ok (.lmul, 1) := by decide +kernel
theorem dX12_paysAt_150 : decode cX12_paysAt 150 = .ok (.lreturn, 1) := by decide +kernel
theorem dX12_paysAt_151 : decode cX12_paysAt 151 = .ok (.iload 5, 2) := by decide +kernel
theorem dX12_paysAt_153 : decode cX12_paysAt 153 = .ok (.ifCond .ge 9, 3) := by decide +kernel
theorem dX12_paysAt_156 : decode cX12_paysAt 156 = .ok (.iload 5, 2) := by decide +kernel
theorem dX12_paysAt_158 : decode cX12_paysAt 158 = .ok (.ineg, 1) := by decide +kernel
theorem dX12_paysAt_159 : decode cX12_paysAt 159 = .ok (.goto 5, 3) := by decide +kernel
theorem dX12_paysAt_162 : decode cX12_paysAt 162 = .ok (.iload 5, 2) := by decide +kernel
theorem dX12_paysAt_164 : decode cX12_paysAt 164 = .ok (.i2l, 1) := by decide +kernel
theorem dX12_paysAt_165 : decode cX12_paysAt 165 = .ok (.aload_n 0, 1) := by decide +kernel
theorem dX12_paysAt_166 : decode cX12_paysAt 166 = .ok (.iload_n 2, 1) := by decide +kernel
theorem dX12_paysAt_167 : decode cX12_paysAt 167 = .ok (.invokevirtual 211, 3) := by decide +kernel
theorem dX12_paysAt_170 : decode cX12_paysAt 170 = .ok (.lmul, 1) := by decide +kernel
theorem dX12_paysAt_171 : decode cX12_paysAt 171 = .ok (.lreturn, 1) := by decide +kernel
theorem dX12_paysAt_172 : decode cX12_paysAt 172 = .ok (.aload_n 0, 1) := by decide +kernel
theorem dX12_paysAt_173 : decode cX12_paysAt 173 = .ok (.getfield 40, 3) := by decide +kernel
theorem dX12_paysAt_176 : decode cX12_paysAt 176 = .ok (.iload 6, 2) := by decide +kernel
theorem dX12_paysAt_178 : decode cX12_paysAt 178 = .ok (.iload_n 2, 1) := by decide +kernel
theorem dX12_paysAt_179 : decode cX12_paysAt 179 = .ok (.iload_n 3, 1) := by decide +kernel
theorem dX12_paysAt_180 : decode cX12_paysAt 180 = .ok (.invokestatic 215, 3) := by decide +kernel
theorem dX12_paysAt_183 : decode cX12_paysAt 183 = .ok (.laload, 1) := by decide +kernel
theorem dX12_paysAt_184 : decode cX12_paysAt 184 = .ok (.iload 4, 2) := by decide +kernel
theorem dX12_paysAt_186 : decode cX12_paysAt 186 = .ok (.i2l, 1) := by decide +kernel
theorem dX12_paysAt_187 : decode cX12_paysAt 187 = .ok (.aload_n 0, 1) := by decide +kernel
theorem dX12_paysAt_188 : decode cX12_paysAt 188 = .ok (.iload_n 2, 1) := by decide +kernel
theorem dX12_paysAt_189 : decode cX12_paysAt 189 = .ok (.invokevirtual 211, 3) := by decide +kernel
theorem dX12_paysAt_192 : decode cX12_paysAt 192 = .ok (.lmul, 1) := by decide +kernel
theorem dX12_paysAt_193 : decode cX12_paysAt 193 = .ok (.lsub, 1) := by decide +kernel
theorem dX12_paysAt_194 : decode cX12_paysAt 194 = .ok (.invokestatic 207, 3) := by decide +kernel
theorem dX12_paysAt_197 : decode cX12_paysAt 197 = .ok (.lreturn, 1) := by decide +kernel
theorem dX12_heldOf_0 : decode cX12_heldOf 0 = .ok (.iload_n 3, 1) := by decide +kernel
theorem dX12_heldOf_1 : decode cX12_heldOf 1 = .ok (.aload_n 0, 1) := by decide +kernel
theorem dX12_heldOf_2 : decode cX12_heldOf 2 = .ok (.getfield 13, 3) := by decide +kernel
theorem dX12_heldOf_5 : decode cX12_heldOf 5 = .ok (.iconst 2, 1) := by decide +kernel
theorem dX12_heldOf_6 : decode cX12_heldOf 6 = .ok (.iaload, 1) := by decide +kernel
theorem dX12_heldOf_7 : decode cX12_heldOf 7 = .ok (.if_icmp .ne 5, 3) := by decide +kernel
theorem dX12_heldOf_10 : decode cX12_heldOf 10 = .ok (.lconst 0, 1) := by decide +kernel
theorem dX12_heldOf_11 : decode cX12_heldOf 11 = .ok (.lreturn, 1) := by decide +kernel
theorem dX12_heldOf_12 : decode cX12_heldOf 12 = .ok (.aload_n 0, 1) := by decide +kernel
theorem dX12_heldOf_13 : decode cX12_heldOf 13 = .ok (.getfield 13, 3) := by decide +kernel
theorem dX12_heldOf_16 : decode cX12_heldOf 16 = .ok (.iconst 3, 1) := by decide +kernel
theorem dX12_heldOf_17 : decode cX12_heldOf 17 = .ok (.iload_n 3, 1) := by decide +kernel
theorem dX12_heldOf_18 : decode cX12_heldOf 18 = .ok (.iadd, 1) := by decide +kernel
theorem dX12_heldOf_19 : decode cX12_heldOf 19 = .ok (.iconst 1, 1) := by decide +kernel
theorem dX12_heldOf_20 : decode cX12_heldOf 20 = .ok (.iadd, 1) := by decide +kernel
theorem dX12_heldOf_21 : decode cX12_heldOf 21 = .ok (.iaload, 1) := by decide +kernel
theorem dX12_heldOf_22 : decode cX12_heldOf 22 = .ok (.istore 5, 2) := by decide +kernel
theorem dX12_heldOf_24 : decode cX12_heldOf 24 = .ok (.iload 5, 2) := by decide +kernel
theorem dX12_heldOf_26 : decode cX12_heldOf 26 = .ok (.i2l, 1) := by decide +kernel
theorem dX12_heldOf_27 : decode cX12_heldOf 27 = .ok (.aload_n 1, 1) := by decide +kernel
theorem dX12_heldOf_28 : decode cX12_heldOf 28 = .ok (.iload_n 2, 1) := by decide +kernel
theorem dX12_heldOf_29 : decode cX12_heldOf 29 = .ok (.iload_n 3, 1) := by decide +kernel
theorem dX12_heldOf_30 : decode cX12_heldOf 30 = .ok (.iconst 1, 1) := by decide +kernel
theorem dX12_heldOf_31 : decode cX12_heldOf 31 = .ok (.iadd, 1) := by decide +kernel
theorem dX12_heldOf_32 : decode cX12_heldOf 32 = .ok (.iload 4, 2) := by decide +kernel
theorem dX12_heldOf_34 : decode cX12_heldOf 34 = .ok (.iconst 1, 1) := by decide +kernel
theorem dX12_heldOf_35 : decode cX12_heldOf 35 = .ok (.iadd, 1) := by decide +kernel
theorem dX12_heldOf_36 : decode cX12_heldOf 36 = .ok (.invokestatic 215, 3) := by decide +kernel
theorem dX12_heldOf_39 : decode cX12_heldOf 39 = .ok (.laload, 1) := by decide +kernel
theorem dX12_heldOf_40 : decode cX12_heldOf 40 = .ok (.lmul, 1) := by decide +kernel
theorem dX12_heldOf_41 : decode cX12_heldOf 41 = .ok (.aload_n 0, 1) := by decide +kernel
theorem dX12_heldOf_42 : decode cX12_heldOf 42 = .ok (.getfield 13, 3) := by decide +kernel
theorem dX12_heldOf_45 : decode cX12_heldOf 45 = .ok (.iconst 1, 1) := by decide +kernel
theorem dX12_heldOf_46 : decode cX12_heldOf 46 = .ok (.iaload, 1) := by decide +kernel
theorem dX12_heldOf_47 : decode cX12_heldOf 47 = .ok (.iload 5, 2) := by decide +kernel
theorem dX12_heldOf_49 : decode cX12_heldOf 49 = .ok (.isub, 1) := by decide +kernel
theorem dX12_heldOf_50 : decode cX12_heldOf 50 = .ok (.i2l, 1) := by decide +kernel
theorem dX12_heldOf_51 : decode cX12_heldOf 51 = .ok (.aload_n 1, 1) := by decide +kernel
theorem dX12_heldOf_52 : decode cX12_heldOf 52 = .ok (.iload_n 2, 1) := by decide +kernel
theorem dX12_heldOf_53 : decode cX12_heldOf 53 = .ok (.iload_n 3, 1) := by decide +kernel
theorem dX12_heldOf_54 : decode cX12_heldOf 54 = .ok (.iconst 1, 1) := by decide +kernel
theorem dX12_heldOf_55 : decode cX12_heldOf 55 = .ok (.iadd, 1) := by decide +kernel
theorem dX12_heldOf_56 : decode cX12_heldOf 56 = .ok (.iload 4, 2) := by decide +kernel
theorem dX12_heldOf_58 : decode cX12_heldOf 58 = .ok (.invokestatic 215, 3) := by decide +kernel
theorem dX12_heldOf_61 : decode cX12_heldOf 61 = .ok (.laload, 1) := by decide +kernel
theorem dX12_heldOf_62 : decode cX12_heldOf 62 = .ok (.lmul, 1) := by decide +kernel
theorem dX12_heldOf_63 : decode cX12_heldOf 63 = .ok (.ladd, 1) := by decide +kernel
theorem dX12_heldOf_64 : decode cX12_heldOf 64 = .ok (.lreturn, 1) := by decide +kernel
theorem dX12_decides_0 : decode cX12_decides 0 = .ok (.aload_n 0, 1) := by decide +kernel
theorem dX12_decides_1 : decode cX12_decides 1 = .ok (.aload_n 1, 1) := by decide +kernel
theorem dX12_decides_2 : decode cX12_decides 2 = .ok (.iload_n 3, 1) := by decide +kernel
theorem dX12_decides_3 : decode cX12_decides 3 = .ok (.iload 4, 2) := by decide +kernel
theorem dX12_decides_5 : decode cX12_decides 5 = .ok (.iload 5, 2) := by decide +kernel
theorem dX12_decides_7 : decode cX12_decides 7 = .ok (.invokevirtual 219, 3) := by decide +kernel
theorem dX12_decides_10 : decode cX12_decides 10 = .ok (.lstore 6, 2) := by decide +kernel
theorem dX12_decides_12 : decode cX12_decides 12 = .ok (.aload_n 0, 1) := by decide +kernel
theorem dX12_decides_13 : decode cX12_decides 13 = .ok (.iload_n 3, 1) := by decide +kernel
theorem dX12_decides_14 : decode cX12_decides 14 = .ok (.iload 4, 2) := by decide +kernel
theorem dX12_decides_16 : decode cX12_decides 16 = .ok (.iload 5, 2) := by decide +kernel
theorem dX12_decides_18 : decode cX12_decides 18 = .ok (.invokevirtual 223, 3) := by decide +kernel
theorem dX12_decides_21 : decode cX12_decides 21 = .ok (.lstore 8, 2) := by decide +kernel
theorem dX12_decides_23 : decode cX12_decides 23 = .ok (.lload 6, 2) := by decide +kernel
theorem dX12_decides_25 : decode cX12_decides 25 = .ok (.lstore 10, 2) := by decide +kernel
theorem dX12_decides_27 : decode cX12_decides 27 = .ok (.aload_n 0, 1) := by decide +kernel
theorem dX12_decides_28 : decode cX12_decides 28 = .ok (.iload_n 3, 1) := by decide +kernel
theorem dX12_decides_29 : decode cX12_decides 29 = .ok (.bipush 8, 2) := by decide +kernel
theorem dX12_decides_31 : decode cX12_decides 31 = .ok (.invokevirtual 191, 3) := by decide +kernel
theorem dX12_decides_34 : decode cX12_decides 34 = .ok (.ifCond .lt 47, 3) := by decide +kernel
theorem dX12_decides_37 : decode cX12_decides 37 = .ok (.lload 8, 2) := by decide +kernel
theorem dX12_decides_39 : decode cX12_decides 39 = .ok (.aload_n 0, 1) := by decide +kernel
theorem dX12_decides_40 : decode cX12_decides 40 = .ok (.iload_n 3, 1) := by decide +kernel
theorem dX12_decides_41 : decode cX12_decides 41 = .ok (.bipush 8, 2) := by decide +kernel
theorem dX12_decides_43 : decode cX12_decides 43 = .ok (.invokevirtual 191, 3) := by decide +kernel
theorem dX12_decides_46 : decode cX12_decides 46 = .ok (.i2l, 1) := by decide +kernel
theorem dX12_decides_47 : decode cX12_decides 47 = .ok (.aload_n 0, 1) := by decide +kernel
theorem dX12_decides_48 : decode cX12_decides 48 = .ok (.iload 4, 2) := by decide +kernel
theorem dX12_decides_50 : decode cX12_decides 50 = .ok (.invokevirtual 211, 3) := by decide +kernel
theorem dX12_decides_53 : decode cX12_decides 53 = .ok (.lmul, 1) := by decide +kernel
theorem dX12_decides_54 : decode cX12_decides 54 = .ok (.ladd, 1) := by decide +kernel
theorem dX12_decides_55 : decode cX12_decides 55 = .ok (.lload 6, 2) := by decide +kernel
theorem dX12_decides_57 : decode cX12_decides 57 = .ok (.lcmp, 1) := by decide +kernel
theorem dX12_decides_58 : decode cX12_decides 58 = .ok (.ifCond .ge 23, 3) := by decide +kernel
theorem dX12_decides_61 : decode cX12_decides 61 = .ok (.lload 8, 2) := by decide +kernel
theorem dX12_decides_63 : decode cX12_decides 63 = .ok (.aload_n 0, 1) := by decide +kernel
theorem dX12_decides_64 : decode cX12_decides 64 = .ok (.iload_n 3, 1) := by decide +kernel
theorem dX12_decides_65 : decode cX12_decides 65 = .ok (.bipush 8, 2) := by decide +kernel
theorem dX12_decides_67 : decode cX12_decides 67 = .ok (.invokevirtual 191, 3) := by decide +kernel
theorem dX12_decides_70 : decode cX12_decides 70 = .ok (.i2l, 1) := by decide +kernel
theorem dX12_decides_71 : decode cX12_decides 71 = .ok (.aload_n 0, 1) := by decide +kernel
theorem dX12_decides_72 : decode cX12_decides 72 = .ok (.iload 4, 2) := by decide +kernel
theorem dX12_decides_74 : decode cX12_decides 74 = .ok (.invokevirtual 211, 3) := by decide +kernel
theorem dX12_decides_77 : decode cX12_decides 77 = .ok (.lmul, 1) := by decide +kernel
theorem dX12_decides_78 : decode cX12_decides 78 = .ok (.ladd, 1) := by decide +kernel
theorem dX12_decides_79 : decode cX12_decides 79 = .ok (.lstore 10, 2) := by decide +kernel
theorem dX12_decides_81 : decode cX12_decides 81 = .ok (.lload 8, 2) := by decide +kernel
theorem dX12_decides_83 : decode cX12_decides 83 = .ok (.lload 10, 2) := by decide +kernel
theorem dX12_decides_85 : decode cX12_decides 85 = .ok (.lcmp, 1) := by decide +kernel
theorem dX12_decides_86 : decode cX12_decides 86 = .ok (.ifCond .lt 24, 3) := by decide +kernel
theorem dX12_decides_89 : decode cX12_decides 89 = .ok (.lload 8, 2) := by decide +kernel
theorem dX12_decides_91 : decode cX12_decides 91 = .ok (.lconst 0, 1) := by decide +kernel
theorem dX12_decides_92 : decode cX12_decides 92 = .ok (.lcmp, 1) := by decide +kernel
theorem dX12_decides_93 : decode cX12_decides 93 = .ok (.ifCond .le 17, 3) := by decide +kernel
theorem dX12_decides_96 : decode cX12_decides 96 = .ok (.aload_n 0, 1) := by decide +kernel
theorem dX12_decides_97 : decode cX12_decides 97 = .ok (.iload_n 3, 1) := by decide +kernel
theorem dX12_decides_98 : decode cX12_decides 98 = .ok (.iload 4, 2) := by decide +kernel
theorem dX12_decides_100 : decode cX12_decides 100 = .ok (.invokevirtual 227, 3) := by decide +kernel
theorem dX12_decides_103 : decode cX12_decides 103 = .ok (.ifCond .eq 7, 3) := by decide +kernel
theorem dX12_decides_106 : decode cX12_decides 106 = .ok (.iconst 1, 1) := by decide +kernel
theorem dX12_decides_107 : decode cX12_decides 107 = .ok (.goto 4, 3) := by decide +kernel
theorem dX12_decides_110 : decode cX12_decides 110 = .ok (.iconst 0, 1) := by decide +kernel
theorem dX12_decides_111 : decode cX12_decides 111 = .ok (.istore 12, 2) := by decide +kernel
theorem dX12_decides_113 : decode cX12_decides 113 = .ok (.aload_n 1, 1) := by decide +kernel
theorem dX12_decides_114 : decode cX12_decides 114 = .ok (.iload_n 3, 1) := by decide +kernel
theorem dX12_decides_115 : decode cX12_decides 115 = .ok (.iload 4, 2) := by decide +kernel
theorem dX12_decides_117 : decode cX12_decides 117 = .ok (.iload 5, 2) := by decide +kernel
theorem dX12_decides_119 : decode cX12_decides 119 = .ok (.invokestatic 215, 3) := by decide +kernel
theorem dX12_decides_122 : decode cX12_decides 122 = .ok (.iload 12, 2) := by decide +kernel
theorem dX12_decides_124 : decode cX12_decides 124 = .ok (.ifCond .eq 8, 3) := by decide +kernel
theorem dX12_decides_127 : decode cX12_decides 127 = .ok (.lload 8, 2) := by decide +kernel
theorem dX12_decides_129 : decode cX12_decides 129 = .ok (.goto 5, 3) := by decide +kernel
theorem dX12_decides_132 : decode cX12_decides 132 = .ok (.lload 10, 2) := by decide +kernel
theorem dX12_decides_134 : decode cX12_decides 134 = .ok (.lastore, 1) := by decide +kernel
theorem dX12_decides_135 : decode cX12_decides 135 = .ok (.aload_n 2, 1) := by decide +kernel
theorem dX12_decides_136 : decode cX12_decides 136 = .ok (.iload_n 3, 1) := by decide +kernel
theorem dX12_decides_137 : decode cX12_decides 137 = .ok (.iload 4, 2) := by decide +kernel
theorem dX12_decides_139 : decode cX12_decides 139 = .ok (.iload 5, 2) := by decide +kernel
theorem dX12_decides_141 : decode cX12_decides 141 = .ok (.invokestatic 215, 3) := by decide +kernel
theorem dX12_decides_144 : decode cX12_decides 144 = .ok (.iload 12, 2) := by decide +kernel
theorem dX12_decides_146 : decode cX12_decides 146 = .ok (.ifCond .eq 7, 3) := by decide +kernel
theorem dX12_decides_149 : decode cX12_decides 149 = .ok (.iconst 1, 1) := by decide +kernel
theorem dX12_decides_150 : decode cX12_decides 150 = .ok (.goto 16, 3) := by decide +kernel
theorem dX12_decides_153 : decode cX12_decides 153 = .ok (.lload 10, 2) := by decide +kernel
theorem dX12_decides_155 : decode cX12_decides 155 = .ok (.lload 6, 2) := by decide +kernel
theorem dX12_decides_157 : decode cX12_decides 157 = .ok (.lcmp, 1) := by decide +kernel
theorem dX12_decides_158 : decode cX12_decides 158 = .ok (.ifCond .ge 7, 3) := by decide +kernel
theorem dX12_decides_161 : decode cX12_decides 161 = .ok (.iconst 4, 1) := by decide +kernel
theorem dX12_decides_162 : decode cX12_decides 162 = .ok (.goto 4, 3) := by decide +kernel
theorem dX12_decides_165 : decode cX12_decides 165 = .ok (.iconst 0, 1) := by decide +kernel
theorem dX12_decides_166 : decode cX12_decides 166 = .ok (.i2b, 1) := by decide +kernel
theorem dX12_decides_167 : decode cX12_decides 167 = .ok (.bastore, 1) := by decide +kernel
theorem dX12_decides_168 : decode cX12_decides 168 = .ok (.return_, 1) := by decide +kernel
theorem dX12_laysNode_0 : decode cX12_laysNode 0 = .ok (.aload_n 0, 1) := by decide +kernel
theorem dX12_laysNode_1 : decode cX12_laysNode 1 = .ok (.aload_n 0, 1) := by decide +kernel
theorem dX12_laysNode_2 : decode cX12_laysNode 2 = .ok (.getfield 44, 3) := by decide +kernel
theorem dX12_laysNode_5 : decode cX12_laysNode 5 = .ok (.aload_n 0, 1) := by decide +kernel
theorem dX12_laysNode_6 : decode cX12_laysNode 6 = .ok (.getfield 53, 3) := by decide +kernel
theorem dX12_laysNode_9 : decode cX12_laysNode 9 = .ok (.iload_n 1, 1) := by decide +kernel
theorem dX12_laysNode_10 : decode cX12_laysNode 10 = .ok (.iload_n 2, 1) := by decide +kernel
theorem dX12_laysNode_11 : decode cX12_laysNode 11 = .ok (.iload_n 3, 1) := by decide +kernel
theorem dX12_laysNode_12 : decode cX12_laysNode 12 = .ok (.invokevirtual 230, 3) := by decide +kernel
theorem dX12_laysNode_15 : decode cX12_laysNode 15 = .ok (.iload_n 1, 1) := by decide +kernel
theorem dX12_laysNode_16 : decode cX12_laysNode 16 = .ok (.iload_n 2, 1) := by decide +kernel
theorem dX12_laysNode_17 : decode cX12_laysNode 17 = .ok (.iload_n 3, 1) := by decide +kernel
theorem dX12_laysNode_18 : decode cX12_laysNode 18 = .ok (.invokestatic 215, 3) := by decide +kernel
theorem dX12_laysNode_21 : decode cX12_laysNode 21 = .ok (.istore 4, 2) := by decide +kernel
theorem dX12_laysNode_23 : decode cX12_laysNode 23 = .ok (.aload_n 0, 1) := by decide +kernel
theorem dX12_laysNode_24 : decode cX12_laysNode 24 = .ok (.iload_n 1, 1) := by decide +kernel
theorem dX12_laysNode_25 : decode cX12_laysNode 25 = .ok (.iconst 4, 1) := by decide +kernel
theorem dX12_laysNode_26 : decode cX12_laysNode 26 = .ok (.invokevirtual 191, 3) := by decide +kernel
theorem dX12_laysNode_29 : decode cX12_laysNode 29 = .ok (.istore 5, 2) := by decide +kernel
theorem dX12_laysNode_31 : decode cX12_laysNode 31 = .ok (.iload 5, 2) := by decide +kernel
theorem dX12_laysNode_33 : decode cX12_laysNode 33 = .ok (.ifCond .le 17, 3) := by decide +kernel
theorem dX12_laysNode_36 : decode cX12_laysNode 36 = .ok (.aload_n 0, 1) := by decide +kernel
theorem dX12_laysNode_37 : decode cX12_laysNode 37 = .ok (.iload_n 1, 1) := by decide +kernel
theorem dX12_laysNode_38 : decode cX12_laysNode 38 = .ok (.iload_n 2, 1) := by decide +kernel
theorem dX12_laysNode_39 : decode cX12_laysNode 39 = .ok (.iload_n 3, 1) := by decide +kernel
theorem dX12_laysNode_40 : decode cX12_laysNode 40 = .ok (.invokevirtual 234, 3) := by decide +kernel
theorem dX12_laysNode_43 : decode cX12_laysNode 43 = .ok (.ifCond .eq 7, 3) := by decide +kernel
theorem dX12_laysNode_46 : decode cX12_laysNode 46 = .ok (.iconst 1, 1) := by decide +kernel
theorem dX12_laysNode_47 : decode cX12_laysNode 47 = .ok (.goto 4, 3) := by decide +kernel
theorem dX12_laysNode_50 : decode cX12_laysNode 50 = .ok (.iconst 0, 1) := by decide +kernel
theorem dX12_laysNode_51 : decode cX12_laysNode 51 = .ok (.istore 6, 2) := by decide +kernel
theorem dX12_laysNode_53 : decode cX12_laysNode 53 = .ok (.iload 5, 2) := by decide +kernel
theorem dX12_laysNode_55 : decode cX12_laysNode 55 = .ok (.iconst 2, 1) := by decide +kernel
theorem dX12_laysNode_56 : decode cX12_laysNode 56 = .ok (.if_icmp .ne 57, 3) := by decide +kernel
theorem dX12_laysNode_59 : decode cX12_laysNode 59 = .ok (.aload_n 0, 1) := by decide +kernel
theorem dX12_laysNode_60 : decode cX12_laysNode 60 = .ok (.getfield 40, 3) := by decide +kernel
theorem dX12_laysNode_63 : decode cX12_laysNode 63 = .ok (.iload 4, 2) := by decide +kernel
theorem dX12_laysNode_65 : decode cX12_laysNode 65 = .ok (.iload 6, 2) := by decide +kernel
theorem dX12_laysNode_67 : decode cX12_laysNode 67 = .ok (.ifCond .eq 13, 3) := by decide +kernel
theorem dX12_laysNode_70 : decode cX12_laysNode 70 = .ok (.aload_n 0, 1) := by decide +kernel
theorem dX12_laysNode_71 : decode cX12_laysNode 71 = .ok (.getfield 44, 3) := by decide +kernel
theorem dX12_laysNode_74 : decode cX12_laysNode 74 = .ok (.iload 4, 2) := by decide +kernel
theorem dX12_laysNode_76 : decode cX12_laysNode 76 = .ok (.laload, 1) := by decide +kernel
theorem dX12_laysNode_77 : decode cX12_laysNode 77 = .ok (.goto 14, 3) := by decide +kernel
theorem dX12_laysNode_80 : decode cX12_laysNode 80 = .ok (.aload_n 0, 1) := by decide +kernel
theorem dX12_laysNode_81 : decode cX12_laysNode 81 = .ok (.aload_n 0, 1) := by decide +kernel
theorem dX12_laysNode_82 : decode cX12_laysNode 82 = .ok (.getfield 40, 3) := by decide +kernel
theorem dX12_laysNode_85 : decode cX12_laysNode 85 = .ok (.iload_n 1, 1) := by decide +kernel
theorem dX12_laysNode_86 : decode cX12_laysNode 86 = .ok (.iload_n 2, 1) := by decide +kernel
theorem dX12_laysNode_87 : decode cX12_laysNode 87 = .ok (.iload_n 3, 1) := by decide +kernel
theorem dX12_laysNode_88 : decode cX12_laysNode 88 = .ok (.invokevirtual 219, 3) := by decide +kernel
theorem dX12_laysNode_91 : decode cX12_laysNode 91 = .ok (.lastore, 1) := by decide +kernel
theorem dX12_laysNode_92 : decode cX12_laysNode 92 = .ok (.aload_n 0, 1) := by decide +kernel
theorem dX12_laysNode_93 : decode cX12_laysNode 93 = .ok (.getfield 50, 3) := by decide +kernel
theorem dX12_laysNode_96 : decode cX12_laysNode 96 = .ok (.iload 4, 2) := by decide +kernel
theorem dX12_laysNode_98 : decode cX12_laysNode 98 = .ok (.iload 6, 2) := by decide +kernel
theorem dX12_laysNode_100 : decode cX12_laysNode 100 = .ok (.ifCond .eq 7, 3) := by decide +kernel
theorem dX12_laysNode_103 : decode cX12_laysNode 103 = .ok (.iconst 3, 1) := by decide +kernel
theorem dX12_laysNode_104 : decode cX12_laysNode 104 = .ok (.goto 4, 3) := by decide +kernel
theorem dX12_laysNode_107 : decode cX12_laysNode 107 = .ok (.iconst 0, 1) := by decide +kernel
theorem dX12_laysNode_108 : decode cX12_laysNode 108 = .ok (.i2b, 1) := by decide +kernel
theorem dX12_laysNode_109 : decode cX12_laysNode 109 = .ok (.bastore, 1) := by decide +kernel
theorem dX12_laysNode_110 : decode cX12_laysNode 110 = .ok (.goto 55, 3) := by decide +kernel
theorem dX12_laysNode_113 : decode cX12_laysNode 113 = .ok (.iload 6, 2) := by decide +kernel
theorem dX12_laysNode_115 : decode cX12_laysNode 115 = .ok (.ifCond .eq 35, 3) := by decide +kernel
theorem dX12_laysNode_118 : decode cX12_laysNode 118 = .ok (.aload_n 0, 1) := by decide +kernel
theorem dX12_laysNode_119 : decode cX12_laysNode 119 = .ok (.getfield 40, 3) := by decide +kernel
theorem dX12_laysNode_122 : decode cX12_laysNode 122 = .ok (.iload 4, 2) := by decide +kernel
theorem dX12_laysNode_124 : decode cX12_laysNode 124 = .ok (.aload_n 0, 1) := by decide +kernel
theorem dX12_laysNode_125 : decode cX12_laysNode 125 = .ok (.iload_n 1, 1) := by decide +kernel
theorem dX12_laysNode_126 : decode cX12_laysNode 126 = .ok (.bipush 7, 2) := by decide +kernel
theorem dX12_laysNode_128 : decode cX12_laysNode 128 = .ok (.invokevirtual 191, 3) := by decide +kernel
theorem dX12_laysNode_131 : decode cX12_laysNode 131 = .ok (.i2l, 1) := by decide +kernel
theorem dX12_laysNode_132 : decode cX12_laysNode 132 = .ok (.aload_n 0, 1) := by decide +kernel
theorem dX12_laysNode_133 : decode cX12_laysNode 133 = .ok (.iload_n 2, 1) := by decide +kernel
theorem dX12_laysNode_134 : decode cX12_laysNode 134 = .ok (.invokevirtual 211, 3) := by decide +kernel
theorem dX12_laysNode_137 : decode cX12_laysNode 137 = .ok (.lmul, 1) := by decide +kernel
theorem dX12_laysNode_138 : decode cX12_laysNode 138 = .ok (.lastore, 1) := by decide +kernel
theorem dX12_laysNode_139 : decode cX12_laysNode 139 = .ok (.aload_n 0, 1) := by decide +kernel
theorem dX12_laysNode_140 : decode cX12_laysNode 140 = .ok (.getfield 50, 3) := by decide +kernel
theorem dX12_laysNode_143 : decode cX12_laysNode 143 = .ok (.iload 4, 2) := by decide +kernel
theorem dX12_laysNode_145 : decode cX12_laysNode 145 = .ok (.iconst 2, 1) := by decide +kernel
theorem dX12_laysNode_146 : decode cX12_laysNode 146 = .ok (.bastore, 1) := by decide +kernel
theorem dX12_laysNode_147 : decode cX12_laysNode 147 = .ok (.goto 18, 3) := by decide +kernel
theorem dX12_laysNode_150 : decode cX12_laysNode 150 = .ok (.aload_n 0, 1) := by decide +kernel
theorem dX12_laysNode_151 : decode cX12_laysNode 151 = .ok (.aload_n 0, 1) := by decide +kernel
theorem dX12_laysNode_152 : decode cX12_laysNode 152 = .ok (.getfield 40, 3) := by decide +kernel
theorem dX12_laysNode_155 : decode cX12_laysNode 155 = .ok (.aload_n 0, 1) := by decide +kernel
theorem dX12_laysNode_156 : decode cX12_laysNode 156 = .ok (.getfield 50, 3) := by decide +kernel
theorem dX12_laysNode_159 : decode cX12_laysNode 159 = .ok (.iload_n 1, 1) := by decide +kernel
theorem dX12_laysNode_160 : decode cX12_laysNode 160 = .ok (.iload_n 2, 1) := by decide +kernel
theorem dX12_laysNode_161 : decode cX12_laysNode 161 = .ok (.iload_n 3, 1) := by decide +kernel
theorem dX12_laysNode_162 : decode cX12_laysNode 162 = .ok (.invokevirtual 230, 3) := by decide +kernel
theorem dX12_laysNode_165 : decode cX12_laysNode 165 = .ok (.return_, 1) := by decide +kernel
theorem dX12_laysOption_0 : decode cX12_laysOption 0 = .ok (.aload_n 0, 1) := by decide +kernel
theorem dX12_laysOption_1 : decode cX12_laysOption 1 = .ok (.getfield 13, 3) := by decide +kernel
theorem dX12_laysOption_4 : decode cX12_laysOption 4 = .ok (.iconst 2, 1) := by decide +kernel
theorem dX12_laysOption_5 : decode cX12_laysOption 5 = .ok (.iaload, 1) := by decide +kernel
theorem dX12_laysOption_6 : decode cX12_laysOption 6 = .ok (.istore_n 2, 1) := by decide +kernel
theorem dX12_laysOption_7 : decode cX12_laysOption 7 = .ok (.iload_n 2, 1) := by decide +kernel
theorem dX12_laysOption_8 : decode cX12_laysOption 8 = .ok (.ifCond .lt 29, 3) := by decide +kernel
theorem dX12_laysOption_11 : decode cX12_laysOption 11 = .ok (.iconst 0, 1) := by decide +kernel
theorem dX12_laysOption_12 : decode cX12_laysOption 12 = .ok (.istore_n 3, 1) := by decide +kernel
theorem dX12_laysOption_13 : decode cX12_laysOption 13 = .ok (.iload_n 3, 1) := by decide +kernel
theorem dX12_laysOption_14 : decode cX12_laysOption 14 = .ok (.iload_n 2, 1) := by decide +kernel
theorem dX12_laysOption_15 : decode cX12_laysOption 15 = .ok (.if_icmp .gt 16, 3) := by decide +kernel
theorem dX12_laysOption_18 : decode cX12_laysOption 18 = .ok (.aload_n 0, 1) := by decide +kernel
theorem dX12_laysOption_19 : decode cX12_laysOption 19 = .ok (.iload_n 1, 1) := by decide +kernel
theorem dX12_laysOption_20 : decode cX12_laysOption 20 = .ok (.iload_n 2, 1) := by decide +kernel
theorem dX12_laysOption_21 : decode cX12_laysOption 21 = .ok (.iload_n 3, 1) := by decide +kernel
theorem dX12_laysOption_22 : decode cX12_laysOption 22 = .ok (.invokevirtual 237, 3) := by decide +kernel
theorem dX12_laysOption_25 : decode cX12_laysOption 25 = .ok (.iinc 3 1, 3) := by decide +kernel
theorem dX12_laysOption_28 : decode cX12_laysOption 28 = .ok (.goto (-15), 3) := by decide +kernel
theorem dX12_laysOption_31 : decode cX12_laysOption 31 = .ok (.iinc 2 (-1), 3) := by decide +kernel
theorem dX12_laysOption_34 : decode cX12_laysOption 34 = .ok (.goto (-27), 3) := by decide +kernel
theorem dX12_laysOption_37 : decode cX12_laysOption 37 = .ok (.return_, 1) := by decide +kernel
theorem dX12_lays_0 : decode cX12_lays 0 = .ok (.aload_n 0, 1) := by decide +kernel
theorem dX12_lays_1 : decode cX12_lays 1 = .ok (.getfield 180, 3) := by decide +kernel
theorem dX12_lays_4 : decode cX12_lays 4 = .ok (.ifCond .eq 4, 3) := by decide +kernel
theorem dX12_lays_7 : decode cX12_lays 7 = .ok (.return_, 1) := by decide +kernel
theorem dX12_lays_8 : decode cX12_lays 8 = .ok (.aload_n 0, 1) := by decide +kernel
theorem dX12_lays_9 : decode cX12_lays 9 = .ok (.iconst 1, 1) := by decide +kernel
theorem dX12_lays_10 : decode cX12_lays 10 = .ok (.putfield 180, 3) := by decide +kernel
theorem dX12_lays_13 : decode cX12_lays 13 = .ok (.aload_n 0, 1) := by decide +kernel
theorem dX12_lays_14 : decode cX12_lays 14 = .ok (.getfield 47, 3) := by decide +kernel
theorem dX12_lays_17 : decode cX12_lays 17 = .ok (.iconst 0, 1) := by decide +kernel
theorem dX12_lays_18 : decode cX12_lays 18 = .ok (.lconst 1, 1) := by decide +kernel
theorem dX12_lays_19 : decode cX12_lays 19 = .ok (.lastore, 1) := by decide +kernel
theorem dX12_lays_20 : decode cX12_lays 20 = .ok (.iconst 1, 1) := by decide +kernel
theorem dX12_lays_21 : decode cX12_lays 21 = .ok (.istore_n 1, 1) := by decide +kernel
theorem dX12_lays_22 : decode cX12_lays 22 = .ok (.iload_n 1, 1) := by decide +kernel
theorem dX12_lays_23 : decode cX12_lays 23 = .ok (.bipush 14, 2) := by decide +kernel
theorem dX12_lays_25 : decode cX12_lays 25 = .ok (.if_icmp .ge 31, 3) := by decide +kernel
theorem dX12_lays_28 : decode cX12_lays 28 = .ok (.aload_n 0, 1) := by decide +kernel
theorem dX12_lays_29 : decode cX12_lays 29 = .ok (.getfield 47, 3) := by decide +kernel
theorem dX12_lays_32 : decode cX12_lays 32 = .ok (.iload_n 1, 1) := by decide +kernel
theorem dX12_lays_33 : decode cX12_lays 33 = .ok (.aload_n 0, 1) := by decide +kernel
theorem dX12_lays_34 : decode cX12_lays 34 = .ok (.getfield 47, 3) := by decide +kernel
theorem dX12_lays_37 : decode cX12_lays 37 = .ok (.iload_n 1, 1) := by decide +kernel
theorem dX12_lays_38 : decode cX12_lays 38 = .ok (.iconst 1, 1) := by decide +kernel
theorem dX12_lays_39 : decode cX12_lays 39 = .ok (.isub, 1) := by decide +kernel
theorem dX12_lays_40 : decode cX12_lays 40 = .ok (.laload, 1) := by decide +kernel
theorem dX12_lays_41 : decode cX12_lays 41 = .ok (.aload_n 0, 1) := by decide +kernel
theorem dX12_lays_42 : decode cX12_lays 42 = .ok (.getfield 13, 3) := by decide +kernel
theorem dX12_lays_45 : decode cX12_lays 45 = .ok (.iconst 1, 1) := by decide +kernel
theorem dX12_lays_46 : decode cX12_lays 46 = .ok (.iaload, 1) := by decide +kernel
theorem dX12_lays_47 : decode cX12_lays 47 = .ok (.i2l, 1) := by decide +kernel
theorem dX12_lays_48 : decode cX12_lays 48 = .ok (.lmul, 1) := by decide +kernel
theorem dX12_lays_49 : decode cX12_lays 49 = .ok (.lastore, 1) := by decide +kernel
theorem dX12_lays_50 : decode cX12_lays 50 = .ok (.iinc 1 1, 3) := by decide +kernel
theorem dX12_lays_53 : decode cX12_lays 53 = .ok (.goto (-31), 3) := by decide +kernel
theorem dX12_lays_56 : decode cX12_lays 56 = .ok (.iconst 0, 1) := by decide +kernel
theorem dX12_lays_57 : decode cX12_lays 57 = .ok (.istore_n 1, 1) := by decide +kernel
theorem dX12_lays_58 : decode cX12_lays 58 = .ok (.iload_n 1, 1) := by decide +kernel
theorem dX12_lays_59 : decode cX12_lays 59 = .ok (.aload_n 0, 1) := by decide +kernel
theorem dX12_lays_60 : decode cX12_lays 60 = .ok (.getfield 13, 3) := by decide +kernel
theorem dX12_lays_63 : decode cX12_lays 63 = .ok (.bipush 29, 2) := by decide +kernel
theorem dX12_lays_65 : decode cX12_lays 65 = .ok (.iaload, 1) := by decide +kernel
theorem dX12_lays_66 : decode cX12_lays 66 = .ok (.if_icmp .ge 14, 3) := by decide +kernel
theorem dX12_lays_69 : decode cX12_lays 69 = .ok (.aload_n 0, 1) := by decide +kernel
theorem dX12_lays_70 : decode cX12_lays 70 = .ok (.iload_n 1, 1) := by decide +kernel
theorem dX12_lays_71 : decode cX12_lays 71 = .ok (.invokevirtual 241, 3) := by decide +kernel
theorem dX12_lays_74 : decode cX12_lays 74 = .ok (.iinc 1 1, 3) := by decide +kernel
theorem dX12_lays_77 : decode cX12_lays 77 = .ok (.goto (-19), 3) := by decide +kernel
theorem dX12_lays_80 : decode cX12_lays 80 = .ok (.return_, 1) := by decide +kernel
theorem dX12_divisor_0 : decode cX12_divisor 0 = .ok (.lload_n 0, 1) := by decide +kernel
theorem dX12_divisor_1 : decode cX12_divisor 1 = .ok (.lconst 0, 1) := by decide +kernel
theorem dX12_divisor_2 : decode cX12_divisor 2 = .ok (.lcmp, 1) := by decide +kernel
theorem dX12_divisor_3 : decode cX12_divisor 3 = .ok (.ifCond .ge 8, 3) := by decide +kernel
theorem dX12_divisor_6 : decode cX12_divisor 6 = .ok (.lload_n 0, 1) := by decide +kernel
theorem dX12_divisor_7 : decode cX12_divisor 7 = .ok (.lneg, 1) := by decide +kernel
theorem dX12_divisor_8 : decode cX12_divisor 8 = .ok (.goto 4, 3) := by decide +kernel
theorem dX12_divisor_11 : decode cX12_divisor 11 = .ok (.lload_n 0, 1) := by decide +kernel
theorem dX12_divisor_12 : decode cX12_divisor 12 = .ok (.lstore 4, 2) := by decide +kernel
theorem dX12_divisor_14 : decode cX12_divisor 14 = .ok (.lload_n 2, 1) := by decide +kernel
theorem dX12_divisor_15 : decode cX12_divisor 15 = .ok (.lstore 6, 2) := by decide +kernel
theorem dX12_divisor_17 : decode cX12_divisor 17 = .ok (.lload 6, 2) := by decide +kernel
theorem dX12_divisor_19 : decode cX12_divisor 19 = .ok (.lconst 0, 1) := by decide +kernel
theorem dX12_divisor_20 : decode cX12_divisor 20 = .ok (.lcmp, 1) := by decide +kernel
theorem dX12_divisor_21 : decode cX12_divisor 21 = .ok (.ifCond .eq 21, 3) := by decide +kernel
theorem dX12_divisor_24 : decode cX12_divisor 24 = .ok (.lload 4, 2) := by decide +kernel
theorem dX12_divisor_26 : decode cX12_divisor 26 = .ok (.lload 6, 2) := by decide +kernel
theorem dX12_divisor_28 : decode cX12_divisor 28 = .ok (.lrem, 1) := by decide +kernel
theorem dX12_divisor_29 : decode cX12_divisor 29 = .ok (.lstore 8, 2) := by decide +kernel
theorem dX12_divisor_31 : decode cX12_divisor 31 = .ok (.lload 6, 2) := by decide +kernel
theorem dX12_divisor_33 : decode cX12_divisor 33 = .ok (.lstore 4, 2) := by decide +kernel
theorem dX12_divisor_35 : decode cX12_divisor 35 = .ok (.lload 8, 2) := by decide +kernel
theorem dX12_divisor_37 : decode cX12_divisor 37 = .ok (.lstore 6, 2) := by decide +kernel
theorem dX12_divisor_39 : decode cX12_divisor 39 = .ok (.goto (-22), 3) := by decide +kernel
theorem dX12_divisor_42 : decode cX12_divisor 42 = .ok (.lload 4, 2) := by decide +kernel
theorem dX12_divisor_44 : decode cX12_divisor 44 = .ok (.lreturn, 1) := by decide +kernel
theorem dX12_told_0 : decode cX12_told 0 = .ok (.lload_n 0, 1) := by decide +kernel
theorem dX12_told_1 : decode cX12_told 1 = .ok (.lload_n 2, 1) := by decide +kernel
theorem dX12_told_2 : decode cX12_told 2 = .ok (.invokestatic 244, 3) := by decide +kernel
theorem dX12_told_5 : decode cX12_told 5 = .ok (.lstore 5, 2) := by decide +kernel
theorem dX12_told_7 : decode cX12_told 7 = .ok (.iload 4, 2) := by decide +kernel
theorem dX12_told_9 : decode cX12_told 9 = .ok (.ifCond .ne 10, 3) := by decide +kernel
theorem dX12_told_12 : decode cX12_told 12 = .ok (.lload_n 0, 1) := by decide +kernel
theorem dX12_told_13 : decode cX12_told 13 = .ok (.lload 5, 2) := by decide +kernel
theorem dX12_told_15 : decode cX12_told 15 = .ok (.ldiv, 1) := by decide +kernel
theorem dX12_told_16 : decode cX12_told 16 = .ok (.goto 7, 3) := by decide +kernel
theorem dX12_told_19 : decode cX12_told 19 = .ok (.lload_n 2, 1) := by decide +kernel
theorem dX12_told_20 : decode cX12_told 20 = .ok (.lload 5, 2) := by decide +kernel
theorem dX12_told_22 : decode cX12_told 22 = .ok (.ldiv, 1) := by decide +kernel
theorem dX12_told_23 : decode cX12_told 23 = .ok (.lreturn, 1) := by decide +kernel
theorem dX12_isPart_0 : decode cX12_isPart 0 = .ok (.iload_n 0, 1) := by decide +kernel
theorem dX12_isPart_1 : decode cX12_isPart 1 = .ok (.ifCond .eq 8, 3) := by decide +kernel
theorem dX12_isPart_4 : decode cX12_isPart 4 = .ok (.iload_n 0, 1) := by decide +kernel
theorem dX12_isPart_5 : decode cX12_isPart 5 = .ok (.iconst 1, 1) := by decide +kernel
theorem dX12_isPart_6 : decode cX12_isPart 6 = .ok (.if_icmp .ne 7, 3) := by decide +kernel
theorem dX12_isPart_9 : decode cX12_isPart 9 = .ok (.iconst 1, 1) := by decide +kernel
theorem dX12_isPart_10 : decode cX12_isPart 10 = .ok (.goto 4, 3) := by decide +kernel
theorem dX12_isPart_13 : decode cX12_isPart 13 = .ok (.iconst 0, 1) := by decide +kernel
theorem dX12_isPart_14 : decode cX12_isPart 14 = .ok (.ireturn, 1) := by decide +kernel
theorem dX12_isNone_0 : decode cX12_isNone 0 = .ok (.aload_n 0, 1) := by decide +kernel
theorem dX12_isNone_1 : decode cX12_isNone 1 = .ok (.aload_n 0, 1) := by decide +kernel
theorem dX12_isNone_2 : decode cX12_isNone 2 = .ok (.iload_n 1, 1) := by decide +kernel
theorem dX12_isNone_3 : decode cX12_isNone 3 = .ok (.invokevirtual 194, 3) := by decide +kernel
theorem dX12_isNone_6 : decode cX12_isNone 6 = .ok (.ifCond .eq 20, 3) := by decide +kernel
theorem dX12_isNone_9 : decode cX12_isNone 9 = .ok (.aload_n 0, 1) := by decide +kernel
theorem dX12_isNone_10 : decode cX12_isNone 10 = .ok (.iload_n 2, 1) := by decide +kernel
theorem dX12_isNone_11 : decode cX12_isNone 11 = .ok (.iload_n 3, 1) := by decide +kernel
theorem dX12_isNone_12 : decode cX12_isNone 12 = .ok (.invokevirtual 201, 3) := by decide +kernel
theorem dX12_isNone_15 : decode cX12_isNone 15 = .ok (.ifCond .eq 11, 3) := by decide +kernel
theorem dX12_isNone_18 : decode cX12_isNone 18 = .ok (.iload 4, 2) := by decide +kernel
theorem dX12_isNone_20 : decode cX12_isNone 20 = .ok (.invokestatic 248, 3) := by decide +kernel
theorem dX12_isNone_23 : decode cX12_isNone 23 = .ok (.ifCond .ne 7, 3) := by decide +kernel
theorem dX12_isNone_26 : decode cX12_isNone 26 = .ok (.iconst 1, 1) := by decide +kernel
theorem dX12_isNone_27 : decode cX12_isNone 27 = .ok (.goto 4, 3) := by decide +kernel
theorem dX12_isNone_30 : decode cX12_isNone 30 = .ok (.iconst 0, 1) := by decide +kernel
theorem dX12_isNone_31 : decode cX12_isNone 31 = .ok (.invokevirtual 251, 3) := by decide +kernel
theorem dX12_isNone_34 : decode cX12_isNone 34 = .ok (.ifCond .eq 5, 3) := by decide +kernel
theorem dX12_isNone_37 : decode cX12_isNone 37 = .ok (.iconst 1, 1) := by decide +kernel
theorem dX12_isNone_38 : decode cX12_isNone 38 = .ok (.ireturn, 1) := by decide +kernel
theorem dX12_isNone_39 : decode cX12_isNone 39 = .ok (.aload_n 0, 1) := by decide +kernel
theorem dX12_isNone_40 : decode cX12_isNone 40 = .ok (.invokevirtual 255, 3) := by decide +kernel
theorem dX12_isNone_43 : decode cX12_isNone 43 = .ok (.iconst 0, 1) := by decide +kernel
theorem dX12_isNone_44 : decode cX12_isNone 44 = .ok (.ireturn, 1) := by decide +kernel
theorem dX12_pays_0 : decode cX12_pays 0 = .ok (.aload_n 0, 1) := by decide +kernel
theorem dX12_pays_1 : decode cX12_pays 1 = .ok (.iload_n 1, 1) := by decide +kernel
theorem dX12_pays_2 : decode cX12_pays 2 = .ok (.iload_n 2, 1) := by decide +kernel
theorem dX12_pays_3 : decode cX12_pays 3 = .ok (.iload_n 3, 1) := by decide +kernel
theorem dX12_pays_4 : decode cX12_pays 4 = .ok (.iload 4, 2) := by decide +kernel
theorem dX12_pays_6 : decode cX12_pays 6 = .ok (.invokevirtual 258, 3) := by decide +kernel
theorem dX12_pays_9 : decode cX12_pays 9 = .ok (.ifCond .eq 7, 3) := by decide +kernel
theorem dX12_pays_12 : decode cX12_pays 12 = .ok (.lconst 0, 1) := by decide +kernel
theorem dX12_pays_13 : decode cX12_pays 13 = .ok (.goto 20, 3) := by decide +kernel
theorem dX12_pays_16 : decode cX12_pays 16 = .ok (.aload_n 0, 1) := by decide +kernel
theorem dX12_pays_17 : decode cX12_pays 17 = .ok (.iload_n 1, 1) := by decide +kernel
theorem dX12_pays_18 : decode cX12_pays 18 = .ok (.iload_n 2, 1) := by decide +kernel
theorem dX12_pays_19 : decode cX12_pays 19 = .ok (.iload_n 3, 1) := by decide +kernel
theorem dX12_pays_20 : decode cX12_pays 20 = .ok (.invokevirtual 223, 3) := by decide +kernel
theorem dX12_pays_23 : decode cX12_pays 23 = .ok (.aload_n 0, 1) := by decide +kernel
theorem dX12_pays_24 : decode cX12_pays 24 = .ok (.iload_n 2, 1) := by decide +kernel
theorem dX12_pays_25 : decode cX12_pays 25 = .ok (.invokevirtual 211, 3) := by decide +kernel
theorem dX12_pays_28 : decode cX12_pays 28 = .ok (.iload 4, 2) := by decide +kernel
theorem dX12_pays_30 : decode cX12_pays 30 = .ok (.invokestatic 262, 3) := by decide +kernel
theorem dX12_pays_33 : decode cX12_pays 33 = .ok (.lreturn, 1) := by decide +kernel
theorem dX12_value_0 : decode cX12_value 0 = .ok (.aload_n 0, 1) := by decide +kernel
theorem dX12_value_1 : decode cX12_value 1 = .ok (.iload_n 1, 1) := by decide +kernel
theorem dX12_value_2 : decode cX12_value 2 = .ok (.iload_n 2, 1) := by decide +kernel
theorem dX12_value_3 : decode cX12_value 3 = .ok (.iload_n 3, 1) := by decide +kernel
theorem dX12_value_4 : decode cX12_value 4 = .ok (.iload 4, 2) := by decide +kernel
theorem dX12_value_6 : decode cX12_value 6 = .ok (.invokevirtual 258, 3) := by decide +kernel
theorem dX12_value_9 : decode cX12_value 9 = .ok (.ifCond .eq 7, 3) := by decide +kernel
theorem dX12_value_12 : decode cX12_value 12 = .ok (.lconst 0, 1) := by decide +kernel
theorem dX12_value_13 : decode cX12_value 13 = .ok (.goto 24, 3) := by decide +kernel
theorem dX12_value_16 : decode cX12_value 16 = .ok (.aload_n 0, 1) := by decide +kernel
theorem dX12_value_17 : decode cX12_value 17 = .ok (.getfield 40, 3) := by decide +kernel
theorem dX12_value_20 : decode cX12_value 20 = .ok (.iload_n 1, 1) := by decide +kernel
theorem dX12_value_21 : decode cX12_value 21 = .ok (.iload_n 2, 1) := by decide +kernel
theorem dX12_value_22 : decode cX12_value 22 = .ok (.iload_n 3, 1) := by decide +kernel
theorem dX12_value_23 : decode cX12_value 23 = .ok (.invokestatic 215, 3) := by decide +kernel
theorem dX12_value_26 : decode cX12_value 26 = .ok (.laload, 1) := by decide +kernel
theorem dX12_value_27 : decode cX12_value 27 = .ok (.aload_n 0, 1) := by decide +kernel
theorem dX12_value_28 : decode cX12_value 28 = .ok (.iload_n 2, 1) := by decide +kernel
theorem dX12_value_29 : decode cX12_value 29 = .ok (.invokevirtual 211, 3) := by decide +kernel
theorem dX12_value_32 : decode cX12_value 32 = .ok (.iload 4, 2) := by decide +kernel
theorem dX12_value_34 : decode cX12_value 34 = .ok (.invokestatic 262, 3) := by decide +kernel
theorem dX12_value_37 : decode cX12_value 37 = .ok (.lreturn, 1) := by decide +kernel
theorem dX12_plain_0 : decode cX12_plain 0 = .ok (.aload_n 0, 1) := by decide +kernel
theorem dX12_plain_1 : decode cX12_plain 1 = .ok (.iload_n 1, 1) := by decide +kernel
theorem dX12_plain_2 : decode cX12_plain 2 = .ok (.iload_n 2, 1) := by decide +kernel
theorem dX12_plain_3 : decode cX12_plain 3 = .ok (.iload_n 3, 1) := by decide +kernel
theorem dX12_plain_4 : decode cX12_plain 4 = .ok (.iload 4, 2) := by decide +kernel
theorem dX12_plain_6 : decode cX12_plain 6 = .ok (.invokevirtual 258, 3) := by decide +kernel
theorem dX12_plain_9 : decode cX12_plain 9 = .ok (.ifCond .eq 7, 3) := by decide +kernel
theorem dX12_plain_12 : decode cX12_plain 12 = .ok (.lconst 0, 1) := by decide +kernel
theorem dX12_plain_13 : decode cX12_plain 13 = .ok (.goto 24, 3) := by decide +kernel
theorem dX12_plain_16 : decode cX12_plain 16 = .ok (.aload_n 0, 1) := by decide +kernel
theorem dX12_plain_17 : decode cX12_plain 17 = .ok (.getfield 44, 3) := by decide +kernel
theorem dX12_plain_20 : decode cX12_plain 20 = .ok (.iload_n 1, 1) := by decide +kernel
theorem dX12_plain_21 : decode cX12_plain 21 = .ok (.iload_n 2, 1) := by decide +kernel
theorem dX12_plain_22 : decode cX12_plain 22 = .ok (.iload_n 3, 1) := by decide +kernel
theorem dX12_plain_23 : decode cX12_plain 23 = .ok (.invokestatic 215, 3) := by decide +kernel
theorem dX12_plain_26 : decode cX12_plain 26 = .ok (.laload, 1) := by decide +kernel
theorem dX12_plain_27 : decode cX12_plain 27 = .ok (.aload_n 0, 1) := by decide +kernel
theorem dX12_plain_28 : decode cX12_plain 28 = .ok (.iload_n 2, 1) := by decide +kernel
theorem dX12_plain_29 : decode cX12_plain 29 = .ok (.invokevirtual 211, 3) := by decide +kernel
theorem dX12_plain_32 : decode cX12_plain 32 = .ok (.iload 4, 2) := by decide +kernel
theorem dX12_plain_34 : decode cX12_plain 34 = .ok (.invokestatic 262, 3) := by decide +kernel
theorem dX12_plain_37 : decode cX12_plain 37 = .ok (.lreturn, 1) := by decide +kernel
theorem dX12_held_0 : decode cX12_held 0 = .ok (.aload_n 0, 1) := by decide +kernel
theorem dX12_held_1 : decode cX12_held 1 = .ok (.iload_n 1, 1) := by decide +kernel
theorem dX12_held_2 : decode cX12_held 2 = .ok (.iload_n 2, 1) := by decide +kernel
theorem dX12_held_3 : decode cX12_held 3 = .ok (.iload_n 3, 1) := by decide +kernel
theorem dX12_held_4 : decode cX12_held 4 = .ok (.iload 4, 2) := by decide +kernel
theorem dX12_held_6 : decode cX12_held 6 = .ok (.invokevirtual 258, 3) := by decide +kernel
theorem dX12_held_9 : decode cX12_held 9 = .ok (.ifCond .eq 7, 3) := by decide +kernel
theorem dX12_held_12 : decode cX12_held 12 = .ok (.lconst 0, 1) := by decide +kernel
theorem dX12_held_13 : decode cX12_held 13 = .ok (.goto 24, 3) := by decide +kernel
theorem dX12_held_16 : decode cX12_held 16 = .ok (.aload_n 0, 1) := by decide +kernel
theorem dX12_held_17 : decode cX12_held 17 = .ok (.aload_n 0, 1) := by decide +kernel
theorem dX12_held_18 : decode cX12_held 18 = .ok (.getfield 40, 3) := by decide +kernel
theorem dX12_held_21 : decode cX12_held 21 = .ok (.iload_n 1, 1) := by decide +kernel
theorem dX12_held_22 : decode cX12_held 22 = .ok (.iload_n 2, 1) := by decide +kernel
theorem dX12_held_23 : decode cX12_held 23 = .ok (.iload_n 3, 1) := by decide +kernel
theorem dX12_held_24 : decode cX12_held 24 = .ok (.invokevirtual 219, 3) := by decide +kernel
theorem dX12_held_27 : decode cX12_held 27 = .ok (.aload_n 0, 1) := by decide +kernel
theorem dX12_held_28 : decode cX12_held 28 = .ok (.iload_n 2, 1) := by decide +kernel
theorem dX12_held_29 : decode cX12_held 29 = .ok (.invokevirtual 211, 3) := by decide +kernel
theorem dX12_held_32 : decode cX12_held 32 = .ok (.iload 4, 2) := by decide +kernel
theorem dX12_held_34 : decode cX12_held 34 = .ok (.invokestatic 262, 3) := by decide +kernel
theorem dX12_held_37 : decode cX12_held 37 = .ok (.lreturn, 1) := by decide +kernel
theorem dX12_does_0 : decode cX12_does 0 = .ok (.aload_n 0, 1) := by decide +kernel
theorem dX12_does_1 : decode cX12_does 1 = .ok (.iconst 0, 1) := by decide +kernel
theorem dX12_does_2 : decode cX12_does 2 = .ok (.putfield 1, 3) := by decide +kernel
theorem dX12_does_5 : decode cX12_does 5 = .ok (.aload_n 0, 1) := by decide +kernel
theorem dX12_does_6 : decode cX12_does 6 = .ok (.iload_n 1, 1) := by decide +kernel
theorem dX12_does_7 : decode cX12_does 7 = .ok (.invokevirtual 194, 3) := by decide +kernel
theorem dX12_does_10 : decode cX12_does 10 = .ok (.ifCond .eq 12, 3) := by decide +kernel
theorem dX12_does_13 : decode cX12_does 13 = .ok (.aload_n 0, 1) := by decide +kernel
theorem dX12_does_14 : decode cX12_does 14 = .ok (.iload_n 2, 1) := by decide +kernel
theorem dX12_does_15 : decode cX12_does 15 = .ok (.iload_n 3, 1) := by decide +kernel
theorem dX12_does_16 : decode cX12_does 16 = .ok (.invokevirtual 201, 3) := by decide +kernel
theorem dX12_does_19 : decode cX12_does 19 = .ok (.ifCond .ne 5, 3) := by decide +kernel
theorem dX12_does_22 : decode cX12_does 22 = .ok (.iconst (-1), 1) := by decide +kernel
theorem dX12_does_23 : decode cX12_does 23 = .ok (.ireturn, 1) := by decide +kernel
theorem dX12_does_24 : decode cX12_does 24 = .ok (.aload_n 0, 1) := by decide +kernel
theorem dX12_does_25 : decode cX12_does 25 = .ok (.invokevirtual 255, 3) := by decide +kernel
theorem dX12_does_28 : decode cX12_does 28 = .ok (.aload_n 0, 1) := by decide +kernel
theorem dX12_does_29 : decode cX12_does 29 = .ok (.getfield 50, 3) := by decide +kernel
theorem dX12_does_32 : decode cX12_does 32 = .ok (.iload_n 1, 1) := by decide +kernel
theorem dX12_does_33 : decode cX12_does 33 = .ok (.iload_n 2, 1) := by decide +kernel
theorem dX12_does_34 : decode cX12_does 34 = .ok (.iload_n 3, 1) := by decide +kernel
theorem dX12_does_35 : decode cX12_does 35 = .ok (.invokestatic 215, 3) := by decide +kernel
theorem dX12_does_38 : decode cX12_does 38 = .ok (.baload, 1) := by decide +kernel
theorem dX12_does_39 : decode cX12_does 39 = .ok (.ireturn, 1) := by decide +kernel
theorem dX12_standsBy_0 : decode cX12_standsBy 0 = .ok (.iload_n 3, 1) := by decide +kernel
theorem dX12_standsBy_1 : decode cX12_standsBy 1 = .ok (.aload_n 0, 1) := by decide +kernel
theorem dX12_standsBy_2 : decode cX12_standsBy 2 = .ok (.getfield 13, 3) := by decide +kernel
theorem dX12_standsBy_5 : decode cX12_standsBy 5 = .ok (.iconst 2, 1) := by decide +kernel
theorem dX12_standsBy_6 : decode cX12_standsBy 6 = .ok (.iaload, 1) := by decide +kernel
theorem dX12_standsBy_7 : decode cX12_standsBy 7 = .ok (.if_icmp .ne 7, 3) := by decide +kernel
theorem dX12_standsBy_10 : decode cX12_standsBy 10 = .ok (.lconst 0, 1) := by decide +kernel
theorem dX12_standsBy_11 : decode cX12_standsBy 11 = .ok (.goto 28, 3) := by decide +kernel
theorem dX12_standsBy_14 : decode cX12_standsBy 14 = .ok (.aload_n 1, 1) := by decide +kernel
theorem dX12_standsBy_15 : decode cX12_standsBy 15 = .ok (.iload_n 2, 1) := by decide +kernel
theorem dX12_standsBy_16 : decode cX12_standsBy 16 = .ok (.iload_n 3, 1) := by decide +kernel
theorem dX12_standsBy_17 : decode cX12_standsBy 17 = .ok (.iconst 1, 1) := by decide +kernel
theorem dX12_standsBy_18 : decode cX12_standsBy 18 = .ok (.iadd, 1) := by decide +kernel
theorem dX12_standsBy_19 : decode cX12_standsBy 19 = .ok (.iload 4, 2) := by decide +kernel
theorem dX12_standsBy_21 : decode cX12_standsBy 21 = .ok (.iconst 1, 1) := by decide +kernel
theorem dX12_standsBy_22 : decode cX12_standsBy 22 = .ok (.iadd, 1) := by decide +kernel
theorem dX12_standsBy_23 : decode cX12_standsBy 23 = .ok (.invokestatic 215, 3) := by decide +kernel
theorem dX12_standsBy_26 : decode cX12_standsBy 26 = .ok (.laload, 1) := by decide +kernel
theorem dX12_standsBy_27 : decode cX12_standsBy 27 = .ok (.aload_n 1, 1) := by decide +kernel
theorem dX12_standsBy_28 : decode cX12_standsBy 28 = .ok (.iload_n 2, 1) := by decide +kernel
theorem dX12_standsBy_29 : decode cX12_standsBy 29 = .ok (.iload_n 3, 1) := by decide +kernel
theorem dX12_standsBy_30 : decode cX12_standsBy 30 = .ok (.iconst 1, 1) := by decide +kernel
theorem dX12_standsBy_31 : decode cX12_standsBy 31 = .ok (.iadd, 1) := by decide +kernel
theorem dX12_standsBy_32 : decode cX12_standsBy 32 = .ok (.iload 4, 2) := by decide +kernel
theorem dX12_standsBy_34 : decode cX12_standsBy 34 = .ok (.invokestatic 215, 3) := by decide +kernel
theorem dX12_standsBy_37 : decode cX12_standsBy 37 = .ok (.laload, 1) := by decide +kernel
theorem dX12_standsBy_38 : decode cX12_standsBy 38 = .ok (.lsub, 1) := by decide +kernel
theorem dX12_standsBy_39 : decode cX12_standsBy 39 = .ok (.lreturn, 1) := by decide +kernel
theorem dX12_standsAt_0 : decode cX12_standsAt 0 = .ok (.aload_n 0, 1) := by decide +kernel
theorem dX12_standsAt_1 : decode cX12_standsAt 1 = .ok (.getfield 50, 3) := by decide +kernel
theorem dX12_standsAt_4 : decode cX12_standsAt 4 = .ok (.iload_n 1, 1) := by decide +kernel
theorem dX12_standsAt_5 : decode cX12_standsAt 5 = .ok (.iload_n 2, 1) := by decide +kernel
theorem dX12_standsAt_6 : decode cX12_standsAt 6 = .ok (.iload_n 3, 1) := by decide +kernel
theorem dX12_standsAt_7 : decode cX12_standsAt 7 = .ok (.invokestatic 215, 3) := by decide +kernel
theorem dX12_standsAt_10 : decode cX12_standsAt 10 = .ok (.baload, 1) := by decide +kernel
theorem dX12_standsAt_11 : decode cX12_standsAt 11 = .ok (.istore 4, 2) := by decide +kernel
theorem dX12_standsAt_13 : decode cX12_standsAt 13 = .ok (.iload 4, 2) := by decide +kernel
theorem dX12_standsAt_15 : decode cX12_standsAt 15 = .ok (.iconst 2, 1) := by decide +kernel
theorem dX12_standsAt_16 : decode cX12_standsAt 16 = .ok (.if_icmp .ne 7, 3) := by decide +kernel
theorem dX12_standsAt_19 : decode cX12_standsAt 19 = .ok (.lconst 0, 1) := by decide +kernel
theorem dX12_standsAt_20 : decode cX12_standsAt 20 = .ok (.goto 27, 3) := by decide +kernel
theorem dX12_standsAt_23 : decode cX12_standsAt 23 = .ok (.aload_n 0, 1) := by decide +kernel
theorem dX12_standsAt_24 : decode cX12_standsAt 24 = .ok (.iload 4, 2) := by decide +kernel
theorem dX12_standsAt_26 : decode cX12_standsAt 26 = .ok (.iconst 3, 1) := by decide +kernel
theorem dX12_standsAt_27 : decode cX12_standsAt 27 = .ok (.if_icmp .ne 10, 3) := by decide +kernel
theorem dX12_standsAt_30 : decode cX12_standsAt 30 = .ok (.aload_n 0, 1) := by decide +kernel
theorem dX12_standsAt_31 : decode cX12_standsAt 31 = .ok (.getfield 44, 3) := by decide +kernel
theorem dX12_standsAt_34 : decode cX12_standsAt 34 = .ok (.goto 7, 3) := by decide +kernel
theorem dX12_standsAt_37 : decode cX12_standsAt 37 = .ok (.aload_n 0, 1) := by decide +kernel
theorem dX12_standsAt_38 : decode cX12_standsAt 38 = .ok (.getfield 40, 3) := by decide +kernel
theorem dX12_standsAt_41 : decode cX12_standsAt 41 = .ok (.iload_n 1, 1) := by decide +kernel
theorem dX12_standsAt_42 : decode cX12_standsAt 42 = .ok (.iload_n 2, 1) := by decide +kernel
theorem dX12_standsAt_43 : decode cX12_standsAt 43 = .ok (.iload_n 3, 1) := by decide +kernel
theorem dX12_standsAt_44 : decode cX12_standsAt 44 = .ok (.invokevirtual 266, 3) := by decide +kernel
theorem dX12_standsAt_47 : decode cX12_standsAt 47 = .ok (.lreturn, 1) := by decide +kernel
theorem dX12_stands_0 : decode cX12_stands 0 = .ok (.aload_n 0, 1) := by decide +kernel
theorem dX12_stands_1 : decode cX12_stands 1 = .ok (.iload_n 1, 1) := by decide +kernel
theorem dX12_stands_2 : decode cX12_stands 2 = .ok (.iload_n 2, 1) := by decide +kernel
theorem dX12_stands_3 : decode cX12_stands 3 = .ok (.iload_n 3, 1) := by decide +kernel
theorem dX12_stands_4 : decode cX12_stands 4 = .ok (.iload 4, 2) := by decide +kernel
theorem dX12_stands_6 : decode cX12_stands 6 = .ok (.invokevirtual 258, 3) := by decide +kernel
theorem dX12_stands_9 : decode cX12_stands 9 = .ok (.ifCond .eq 7, 3) := by decide +kernel
theorem dX12_stands_12 : decode cX12_stands 12 = .ok (.lconst 0, 1) := by decide +kernel
theorem dX12_stands_13 : decode cX12_stands 13 = .ok (.goto 20, 3) := by decide +kernel
theorem dX12_stands_16 : decode cX12_stands 16 = .ok (.aload_n 0, 1) := by decide +kernel
theorem dX12_stands_17 : decode cX12_stands 17 = .ok (.iload_n 1, 1) := by decide +kernel
theorem dX12_stands_18 : decode cX12_stands 18 = .ok (.iload_n 2, 1) := by decide +kernel
theorem dX12_stands_19 : decode cX12_stands 19 = .ok (.iload_n 3, 1) := by decide +kernel
theorem dX12_stands_20 : decode cX12_stands 20 = .ok (.invokevirtual 269, 3) := by decide +kernel
theorem dX12_stands_23 : decode cX12_stands 23 = .ok (.aload_n 0, 1) := by decide +kernel
theorem dX12_stands_24 : decode cX12_stands 24 = .ok (.iload_n 2, 1) := by decide +kernel
theorem dX12_stands_25 : decode cX12_stands 25 = .ok (.invokevirtual 211, 3) := by decide +kernel
theorem dX12_stands_28 : decode cX12_stands 28 = .ok (.iload 4, 2) := by decide +kernel
theorem dX12_stands_30 : decode cX12_stands 30 = .ok (.invokestatic 262, 3) := by decide +kernel
theorem dX12_stands_33 : decode cX12_stands 33 = .ok (.lreturn, 1) := by decide +kernel
theorem dX12_frontier_0 : decode cX12_frontier 0 = .ok (.aload_n 0, 1) := by decide +kernel
theorem dX12_frontier_1 : decode cX12_frontier 1 = .ok (.iconst 0, 1) := by decide +kernel
theorem dX12_frontier_2 : decode cX12_frontier 2 = .ok (.putfield 1, 3) := by decide +kernel
theorem dX12_frontier_5 : decode cX12_frontier 5 = .ok (.aload_n 0, 1) := by decide +kernel
theorem dX12_frontier_6 : decode cX12_frontier 6 = .ok (.iload_n 1, 1) := by decide +kernel
theorem dX12_frontier_7 : decode cX12_frontier 7 = .ok (.invokevirtual 194, 3) := by decide +kernel
theorem dX12_frontier_10 : decode cX12_frontier 10 = .ok (.ifCond .eq 17, 3) := by decide +kernel
theorem dX12_frontier_13 : decode cX12_frontier 13 = .ok (.iload_n 2, 1) := by decide +kernel
theorem dX12_frontier_14 : decode cX12_frontier 14 = .ok (.iconst 0, 1) := by decide +kernel
theorem dX12_frontier_15 : decode cX12_frontier 15 = .ok (.aload_n 0, 1) := by decide +kernel
theorem dX12_frontier_16 : decode cX12_frontier 16 = .ok (.getfield 13, 3) := by decide +kernel
theorem dX12_frontier_19 : decode cX12_frontier 19 = .ok (.iconst 2, 1) := by decide +kernel
theorem dX12_frontier_20 : decode cX12_frontier 20 = .ok (.iaload, 1) := by decide +kernel
theorem dX12_frontier_21 : decode cX12_frontier 21 = .ok (.invokestatic 88, 3) := by decide +kernel
theorem dX12_frontier_24 : decode cX12_frontier 24 = .ok (.ifCond .ne 5, 3) := by decide +kernel
theorem dX12_frontier_27 : decode cX12_frontier 27 = .ok (.iconst (-1), 1) := by decide +kernel
theorem dX12_frontier_28 : decode cX12_frontier 28 = .ok (.ireturn, 1) := by decide +kernel
theorem dX12_frontier_29 : decode cX12_frontier 29 = .ok (.aload_n 0, 1) := by decide +kernel
theorem dX12_frontier_30 : decode cX12_frontier 30 = .ok (.invokevirtual 255, 3) := by decide +kernel
theorem dX12_frontier_33 : decode cX12_frontier 33 = .ok (.iconst 0, 1) := by decide +kernel
theorem dX12_frontier_34 : decode cX12_frontier 34 = .ok (.istore_n 3, 1) := by decide +kernel
theorem dX12_frontier_35 : decode cX12_frontier 35 = .ok (.iconst 0, 1) := by decide +kernel
theorem dX12_frontier_36 : decode cX12_frontier 36 = .ok (.istore 4, 2) := by decide +kernel
theorem dX12_frontier_38 : decode cX12_frontier 38 = .ok (.iload 4, 2) := by decide +kernel
theorem dX12_frontier_40 : decode cX12_frontier 40 = .ok (.iload_n 2, 1) := by decide +kernel
theorem dX12_frontier_41 : decode cX12_frontier 41 = .ok (.if_icmp .gt 36, 3) := by decide +kernel
theorem dX12_frontier_44 : decode cX12_frontier 44 = .ok (.iload_n 3, 1) := by decide +kernel
theorem dX12_frontier_45 : decode cX12_frontier 45 = .ok (.aload_n 0, 1) := by decide +kernel
theorem dX12_frontier_46 : decode cX12_frontier 46 = .ok (.getfield 50, 3) := by decide +kernel
theorem dX12_frontier_49 : decode cX12_frontier 49 = .ok (.iload_n 1, 1) := by decide +kernel
theorem dX12_frontier_50 : decode cX12_frontier 50 = .ok (.iload_n 2, 1) := by decide +kernel
theorem dX12_frontier_51 : decode cX12_frontier 51 = .ok (.iload 4, 2) := by decide +kernel
theorem dX12_frontier_53 : decode cX12_frontier 53 = .ok (.invokestatic 215, 3) := by decide +kernel
theorem dX12_frontier_56 : decode cX12_frontier 56 = .ok (.baload, 1) := by decide +kernel
theorem dX12_frontier_57 : decode cX12_frontier 57 = .ok (.iconst 1, 1) := by decide +kernel
theorem dX12_frontier_58 : decode cX12_frontier 58 = .ok (.if_icmp .ne 10, 3) := by decide +kernel
theorem dX12_frontier_61 : decode cX12_frontier 61 = .ok (.iconst 1, 1) := by decide +kernel
theorem dX12_frontier_62 : decode cX12_frontier 62 = .ok (.iload 4, 2) := by decide +kernel
theorem dX12_frontier_64 : decode cX12_frontier 64 = .ok (.ishl, 1) := by decide +kernel
theorem dX12_frontier_65 : decode cX12_frontier 65 = .ok (.goto 4, 3) := by decide +kernel
theorem dX12_frontier_68 : decode cX12_frontier 68 = .ok (.iconst 0, 1) := by decide +kernel
theorem dX12_frontier_69 : decode cX12_frontier 69 = .ok (.ior, 1) := by decide +kernel
theorem dX12_frontier_70 : decode cX12_frontier 70 = .ok (.istore_n 3, 1) := by decide +kernel
theorem dX12_frontier_71 : decode cX12_frontier 71 = .ok (.iinc 4 1, 3) := by decide +kernel
theorem dX12_frontier_74 : decode cX12_frontier 74 = .ok (.goto (-36), 3) := by decide +kernel
theorem dX12_frontier_77 : decode cX12_frontier 77 = .ok (.iload_n 3, 1) := by decide +kernel
theorem dX12_frontier_78 : decode cX12_frontier 78 = .ok (.ireturn, 1) := by decide +kernel
theorem dX12_spot_0 : decode cX12_spot 0 = .ok (.sipush 169, 3) := by decide +kernel
theorem dX12_spot_3 : decode cX12_spot 3 = .ok (.iload_n 0, 1) := by decide +kernel
theorem dX12_spot_4 : decode cX12_spot 4 = .ok (.imul, 1) := by decide +kernel
theorem dX12_spot_5 : decode cX12_spot 5 = .ok (.bipush 13, 2) := by decide +kernel
theorem dX12_spot_7 : decode cX12_spot 7 = .ok (.iload_n 1, 1) := by decide +kernel
theorem dX12_spot_8 : decode cX12_spot 8 = .ok (.imul, 1) := by decide +kernel
theorem dX12_spot_9 : decode cX12_spot 9 = .ok (.iadd, 1) := by decide +kernel
theorem dX12_spot_10 : decode cX12_spot 10 = .ok (.iload_n 2, 1) := by decide +kernel
theorem dX12_spot_11 : decode cX12_spot 11 = .ok (.iadd, 1) := by decide +kernel
theorem dX12_spot_12 : decode cX12_spot 12 = .ok (.ireturn, 1) := by decide +kernel
theorem dX12_comes_0 : decode cX12_comes 0 = .ok (.aload_n 0, 1) := by decide +kernel
theorem dX12_comes_1 : decode cX12_comes 1 = .ok (.getfield 56, 3) := by decide +kernel
theorem dX12_comes_4 : decode cX12_comes 4 = .ok (.iload_n 2, 1) := by decide +kernel
theorem dX12_comes_5 : decode cX12_comes 5 = .ok (.dup2, 1) := by decide +kernel
theorem dX12_comes_6 : decode cX12_comes 6 = .ok (.laload, 1) := by decide +kernel
theorem dX12_comes_7 : decode cX12_comes 7 = .ok (.aload_n 0, 1) := by decide +kernel
theorem dX12_comes_8 : decode cX12_comes 8 = .ok (.getfield 56, 3) := by decide +kernel
theorem dX12_comes_11 : decode cX12_comes 11 = .ok (.iload_n 1, 1) := by decide +kernel
theorem dX12_comes_12 : decode cX12_comes 12 = .ok (.laload, 1) := by decide +kernel
theorem dX12_comes_13 : decode cX12_comes 13 = .ok (.iload_n 3, 1) := by decide +kernel
theorem dX12_comes_14 : decode cX12_comes 14 = .ok (.i2l, 1) := by decide +kernel
theorem dX12_comes_15 : decode cX12_comes 15 = .ok (.lmul, 1) := by decide +kernel
theorem dX12_comes_16 : decode cX12_comes 16 = .ok (.ladd, 1) := by decide +kernel
theorem dX12_comes_17 : decode cX12_comes 17 = .ok (.lastore, 1) := by decide +kernel
theorem dX12_comes_18 : decode cX12_comes 18 = .ok (.aload_n 0, 1) := by decide +kernel
theorem dX12_comes_19 : decode cX12_comes 19 = .ok (.getfield 59, 3) := by decide +kernel
theorem dX12_comes_22 : decode cX12_comes 22 = .ok (.iload_n 2, 1) := by decide +kernel
theorem dX12_comes_23 : decode cX12_comes 23 = .ok (.dup2, 1) := by decide +kernel
theorem dX12_comes_24 : decode cX12_comes 24 = .ok (.laload, 1) := by decide +kernel
theorem dX12_comes_25 : decode cX12_comes 25 = .ok (.aload_n 0, 1) := by decide +kernel
theorem dX12_comes_26 : decode cX12_comes 26 = .ok (.getfield 59, 3) := by decide +kernel
theorem dX12_comes_29 : decode cX12_comes 29 = .ok (.iload_n 1, 1) := by decide +kernel
theorem dX12_comes_30 : decode cX12_comes 30 = .ok (.laload, 1) := by decide +kernel
theorem dX12_comes_31 : decode cX12_comes 31 = .ok (.ladd, 1) := by decide +kernel
theorem dX12_comes_32 : decode cX12_comes 32 = .ok (.lastore, 1) := by decide +kernel
theorem dX12_comes_33 : decode cX12_comes 33 = .ok (.return_, 1) := by decide +kernel
theorem dX12_leaves_0 : decode cX12_leaves 0 = .ok (.iload_n 2, 1) := by decide +kernel
theorem dX12_leaves_1 : decode cX12_leaves 1 = .ok (.iload_n 3, 1) := by decide +kernel
theorem dX12_leaves_2 : decode cX12_leaves 2 = .ok (.iload 4, 2) := by decide +kernel
theorem dX12_leaves_4 : decode cX12_leaves 4 = .ok (.invokestatic 272, 3) := by decide +kernel
theorem dX12_leaves_7 : decode cX12_leaves 7 = .ok (.istore 5, 2) := by decide +kernel
theorem dX12_leaves_9 : decode cX12_leaves 9 = .ok (.aload_n 0, 1) := by decide +kernel
theorem dX12_leaves_10 : decode cX12_leaves 10 = .ok (.getfield 59, 3) := by decide +kernel
theorem dX12_leaves_13 : decode cX12_leaves 13 = .ok (.iload 5, 2) := by decide +kernel
theorem dX12_leaves_15 : decode cX12_leaves 15 = .ok (.laload, 1) := by decide +kernel
theorem dX12_leaves_16 : decode cX12_leaves 16 = .ok (.lconst 0, 1) := by decide +kernel
theorem dX12_leaves_17 : decode cX12_leaves 17 = .ok (.lcmp, 1) := by decide +kernel
theorem dX12_leaves_18 : decode cX12_leaves 18 = .ok (.ifCond .ne 4, 3) := by decide +kernel
theorem dX12_leaves_21 : decode cX12_leaves 21 = .ok (.return_, 1) := by decide +kernel
theorem dX12_leaves_22 : decode cX12_leaves 22 = .ok (.iload_n 2, 1) := by decide +kernel
theorem dX12_leaves_23 : decode cX12_leaves 23 = .ok (.iconst 1, 1) := by decide +kernel
theorem dX12_leaves_24 : decode cX12_leaves 24 = .ok (.if_icmp .ne 18, 3) := by decide +kernel
theorem dX12_leaves_27 : decode cX12_leaves 27 = .ok (.aload_n 0, 1) := by decide +kernel
theorem dX12_leaves_28 : decode cX12_leaves 28 = .ok (.getfield 53, 3) := by decide +kernel
theorem dX12_leaves_31 : decode cX12_leaves 31 = .ok (.iload_n 1, 1) := by decide +kernel
theorem dX12_leaves_32 : decode cX12_leaves 32 = .ok (.iload_n 3, 1) := by decide +kernel
theorem dX12_leaves_33 : decode cX12_leaves 33 = .ok (.iload 4, 2) := by decide +kernel
theorem dX12_leaves_35 : decode cX12_leaves 35 = .ok (.invokestatic 215, 3) := by decide +kernel
theorem dX12_leaves_38 : decode cX12_leaves 38 = .ok (.baload, 1) := by decide +kernel
theorem dX12_leaves_39 : decode cX12_leaves 39 = .ok (.goto 15, 3) := by decide +kernel
theorem dX12_leaves_42 : decode cX12_leaves 42 = .ok (.aload_n 0, 1) := by decide +kernel
theorem dX12_leaves_43 : decode cX12_leaves 43 = .ok (.getfield 50, 3) := by decide +kernel
theorem dX12_leaves_46 : decode cX12_leaves 46 = .ok (.iload_n 1, 1) := by decide +kernel
theorem dX12_leaves_47 : decode cX12_leaves 47 = .ok (.iload_n 3, 1) := by decide +kernel
theorem dX12_leaves_48 : decode cX12_leaves 48 = .ok (.iload 4, 2) := by decide +kernel
theorem dX12_leaves_50 : decode cX12_leaves 50 = .ok (.invokestatic 215, 3) := by decide +kernel
theorem dX12_leaves_53 : decode cX12_leaves 53 = .ok (.baload, 1) := by decide +kernel
theorem dX12_leaves_54 : decode cX12_leaves 54 = .ok (.istore 6, 2) := by decide +kernel
theorem dX12_leaves_56 : decode cX12_leaves 56 = .ok (.iload 6, 2) := by decide +kernel
theorem dX12_leaves_58 : decode cX12_leaves 58 = .ok (.iconst 3, 1) := by decide +kernel
theorem dX12_leaves_59 : decode cX12_leaves 59 = .ok (.if_icmp .ne 18, 3) := by decide +kernel
theorem dX12_leaves_62 : decode cX12_leaves 62 = .ok (.aload_n 0, 1) := by decide +kernel
theorem dX12_leaves_63 : decode cX12_leaves 63 = .ok (.iload 5, 2) := by decide +kernel
theorem dX12_leaves_65 : decode cX12_leaves 65 = .ok (.iconst 1, 1) := by decide +kernel
theorem dX12_leaves_66 : decode cX12_leaves 66 = .ok (.iload_n 3, 1) := by decide +kernel
theorem dX12_leaves_67 : decode cX12_leaves 67 = .ok (.iload 4, 2) := by decide +kernel
theorem dX12_leaves_69 : decode cX12_leaves 69 = .ok (.invokestatic 272, 3) := by decide +kernel
theorem dX12_leaves_72 : decode cX12_leaves 72 = .ok (.iconst 1, 1) := by decide +kernel
theorem dX12_leaves_73 : decode cX12_leaves 73 = .ok (.invokevirtual 275, 3) := by decide +kernel
theorem dX12_leaves_76 : decode cX12_leaves 76 = .ok (.return_, 1) := by decide +kernel
theorem dX12_leaves_77 : decode cX12_leaves 77 = .ok (.iload 6, 2) := by decide +kernel
theorem dX12_leaves_79 : decode cX12_leaves 79 = .ok (.ifCond .gt 13, 3) := by decide +kernel
theorem dX12_leaves_82 : decode cX12_leaves 82 = .ok (.iload_n 3, 1) := by decide +kernel
theorem dX12_leaves_83 : decode cX12_leaves 83 = .ok (.aload_n 0, 1) := by decide +kernel
theorem dX12_leaves_84 : decode cX12_leaves 84 = .ok (.getfield 13, 3) := by decide +kernel
theorem dX12_leaves_87 : decode cX12_leaves 87 = .ok (.iconst 2, 1) := by decide +kernel
theorem dX12_leaves_88 : decode cX12_leaves 88 = .ok (.iaload, 1) := by decide +kernel
theorem dX12_leaves_89 : decode cX12_leaves 89 = .ok (.if_icmp .ne 59, 3) := by decide +kernel
theorem dX12_leaves_92 : decode cX12_leaves 92 = .ok (.iload 6, 2) := by decide +kernel
theorem dX12_leaves_94 : decode cX12_leaves 94 = .ok (.iconst 1, 1) := by decide +kernel
theorem dX12_leaves_95 : decode cX12_leaves 95 = .ok (.if_icmp .ne 7, 3) := by decide +kernel
theorem dX12_leaves_98 : decode cX12_leaves 98 = .ok (.iconst 0, 1) := by decide +kernel
theorem dX12_leaves_99 : decode cX12_leaves 99 = .ok (.goto 24, 3) := by decide +kernel
theorem dX12_leaves_102 : decode cX12_leaves 102 = .ok (.iload 6, 2) := by decide +kernel
theorem dX12_leaves_104 : decode cX12_leaves 104 = .ok (.iconst 2, 1) := by decide +kernel
theorem dX12_leaves_105 : decode cX12_leaves 105 = .ok (.if_icmp .ne 7, 3) := by decide +kernel
theorem dX12_leaves_108 : decode cX12_leaves 108 = .ok (.iconst 1, 1) := by decide +kernel
theorem dX12_leaves_109 : decode cX12_leaves 109 = .ok (.goto 14, 3) := by decide +kernel
theorem dX12_leaves_112 : decode cX12_leaves 112 = .ok (.iload 6, 2) := by decide +kernel
theorem dX12_leaves_114 : decode cX12_leaves 114 = .ok (.iconst 4, 1) := by decide +kernel
theorem dX12_leaves_115 : decode cX12_leaves 115 = .ok (.if_icmp .ne 7, 3) := by decide +kernel
theorem dX12_leaves_118 : decode cX12_leaves 118 = .ok (.iconst 3, 1) := by decide +kernel
theorem dX12_leaves_119 : decode cX12_leaves 119 = .ok (.goto 4, 3) := by decide +kernel
theorem dX12_leaves_122 : decode cX12_leaves 122 = .ok (.iconst 2, 1) := by decide +kernel
theorem dX12_leaves_123 : decode cX12_leaves 123 = .ok (.istore 7, 2) := by decide +kernel
theorem dX12_leaves_125 : decode cX12_leaves 125 = .ok (.aload_n 0, 1) := by decide +kernel
theorem dX12_leaves_126 : decode cX12_leaves 126 = .ok (.getfield 62, 3) := by decide +kernel
theorem dX12_leaves_129 : decode cX12_leaves 129 = .ok (.bipush 13, 2) := by decide +kernel
theorem dX12_leaves_131 : decode cX12_leaves 131 = .ok (.iload 7, 2) := by decide +kernel
theorem dX12_leaves_133 : decode cX12_leaves 133 = .ok (.imul, 1) := by decide +kernel
theorem dX12_leaves_134 : decode cX12_leaves 134 = .ok (.iload_n 3, 1) := by decide +kernel
theorem dX12_leaves_135 : decode cX12_leaves 135 = .ok (.iadd, 1) := by decide +kernel
theorem dX12_leaves_136 : decode cX12_leaves 136 = .ok (.dup2, 1) := by decide +kernel
theorem dX12_leaves_137 : decode cX12_leaves 137 = .ok (.laload, 1) := by decide +kernel
theorem dX12_leaves_138 : decode cX12_leaves 138 = .ok (.aload_n 0, 1) := by decide +kernel
theorem dX12_leaves_139 : decode cX12_leaves 139 = .ok (.getfield 56, 3) := by decide +kernel
theorem dX12_leaves_142 : decode cX12_leaves 142 = .ok (.iload 5, 2) := by decide +kernel
theorem dX12_leaves_144 : decode cX12_leaves 144 = .ok (.laload, 1) := by decide +kernel
theorem dX12_leaves_145 : decode cX12_leaves 145 = .ok (.ladd, 1) := by decide +kernel
theorem dX12_leaves_146 : decode cX12_leaves 146 = .ok (.lastore, 1) := by decide +kernel
theorem dX12_leaves_147 : decode cX12_leaves 147 = .ok (.return_, 1) := by decide +kernel
theorem dX12_leaves_148 : decode cX12_leaves 148 = .ok (.aload_n 0, 1) := by decide +kernel
theorem dX12_leaves_149 : decode cX12_leaves 149 = .ok (.getfield 13, 3) := by decide +kernel
theorem dX12_leaves_152 : decode cX12_leaves 152 = .ok (.iconst 3, 1) := by decide +kernel
theorem dX12_leaves_153 : decode cX12_leaves 153 = .ok (.iload_n 3, 1) := by decide +kernel
theorem dX12_leaves_154 : decode cX12_leaves 154 = .ok (.iadd, 1) := by decide +kernel
theorem dX12_leaves_155 : decode cX12_leaves 155 = .ok (.iconst 1, 1) := by decide +kernel
theorem dX12_leaves_156 : decode cX12_leaves 156 = .ok (.iadd, 1) := by decide +kernel
theorem dX12_leaves_157 : decode cX12_leaves 157 = .ok (.iaload, 1) := by decide +kernel
theorem dX12_leaves_158 : decode cX12_leaves 158 = .ok (.istore 7, 2) := by decide +kernel
theorem dX12_leaves_160 : decode cX12_leaves 160 = .ok (.aload_n 0, 1) := by decide +kernel
theorem dX12_leaves_161 : decode cX12_leaves 161 = .ok (.iload 5, 2) := by decide +kernel
theorem dX12_leaves_163 : decode cX12_leaves 163 = .ok (.iload_n 2, 1) := by decide +kernel
theorem dX12_leaves_164 : decode cX12_leaves 164 = .ok (.iload_n 3, 1) := by decide +kernel
theorem dX12_leaves_165 : decode cX12_leaves 165 = .ok (.iconst 1, 1) := by decide +kernel
theorem dX12_leaves_166 : decode cX12_leaves 166 = .ok (.iadd, 1) := by decide +kernel
theorem dX12_leaves_167 : decode cX12_leaves 167 = .ok (.iload 4, 2) := by decide +kernel
theorem dX12_leaves_169 : decode cX12_leaves 169 = .ok (.iconst 1, 1) := by decide +kernel
theorem dX12_leaves_170 : decode cX12_leaves 170 = .ok (.iadd, 1) := by decide +kernel
theorem dX12_leaves_171 : decode cX12_leaves 171 = .ok (.invokestatic 272, 3) := by decide +kernel
theorem dX12_leaves_174 : decode cX12_leaves 174 = .ok (.iload 7, 2) := by decide +kernel
theorem dX12_leaves_176 : decode cX12_leaves 176 = .ok (.invokevirtual 275, 3) := by decide +kernel
theorem dX12_leaves_179 : decode cX12_leaves 179 = .ok (.aload_n 0, 1) := by decide +kernel
theorem dX12_leaves_180 : decode cX12_leaves 180 = .ok (.iload 5, 2) := by decide +kernel
theorem dX12_leaves_182 : decode cX12_leaves 182 = .ok (.iload_n 2, 1) := by decide +kernel
theorem dX12_leaves_183 : decode cX12_leaves 183 = .ok (.iload_n 3, 1) := by decide +kernel
theorem dX12_leaves_184 : decode cX12_leaves 184 = .ok (.iconst 1, 1) := by decide +kernel
theorem dX12_leaves_185 : decode cX12_leaves 185 = .ok (.iadd, 1) := by decide +kernel
theorem dX12_leaves_186 : decode cX12_leaves 186 = .ok (.iload 4, 2) := by decide +kernel
theorem dX12_leaves_188 : decode cX12_leaves 188 = .ok (.invokestatic 272, 3) := by decide +kernel
theorem dX12_leaves_191 : decode cX12_leaves 191 = .ok (.aload_n 0, 1) := by decide +kernel
theorem dX12_leaves_192 : decode cX12_leaves 192 = .ok (.getfield 13, 3) := by decide +kernel
theorem dX12_leaves_195 : decode cX12_leaves 195 = .ok (.iconst 1, 1) := by decide +kernel
theorem dX12_leaves_196 : decode cX12_leaves 196 = .ok (.iaload, 1) := by decide +kernel
theorem dX12_leaves_197 : decode cX12_leaves 197 = .ok (.iload 7, 2) := by decide +kernel
theorem dX12_leaves_199 : decode cX12_leaves 199 = .ok (.isub, 1) := by decide +kernel
theorem dX12_leaves_200 : decode cX12_leaves 200 = .ok (.invokevirtual 275, 3) := by decide +kernel
theorem dX12_leaves_203 : decode cX12_leaves 203 = .ok (.return_, 1) := by decide +kernel
theorem dX12_goes_0 : decode cX12_goes 0 = .ok (.aload_n 0, 1) := by decide +kernel
theorem dX12_goes_1 : decode cX12_goes 1 = .ok (.invokevirtual 255, 3) := by decide +kernel
theorem dX12_goes_4 : decode cX12_goes 4 = .ok (.iconst 0, 1) := by decide +kernel
theorem dX12_goes_5 : decode cX12_goes 5 = .ok (.istore_n 2, 1) := by decide +kernel
theorem dX12_goes_6 : decode cX12_goes 6 = .ok (.iload_n 2, 1) := by decide +kernel
theorem dX12_goes_7 : decode cX12_goes 7 = .ok (.sipush 338, 3) := by decide +kernel
theorem dX12_goes_10 : decode cX12_goes 10 = .ok (.if_icmp .ge 23, 3) := by decide +kernel
theorem dX12_goes_13 : decode cX12_goes 13 = .ok (.aload_n 0, 1) := by decide +kernel
theorem dX12_goes_14 : decode cX12_goes 14 = .ok (.getfield 56, 3) := by decide +kernel
theorem dX12_goes_17 : decode cX12_goes 17 = .ok (.iload_n 2, 1) := by decide +kernel
theorem dX12_goes_18 : decode cX12_goes 18 = .ok (.lconst 0, 1) := by decide +kernel
theorem dX12_goes_19 : decode cX12_goes 19 = .ok (.lastore, 1) := by decide +kernel
theorem dX12_goes_20 : decode cX12_goes 20 = .ok (.aload_n 0, 1) := by decide +kernel
theorem dX12_goes_21 : decode cX12_goes 21 = .ok (.getfield 59, 3) := by decide +kernel
theorem dX12_goes_24 : decode cX12_goes 24 = .ok (.iload_n 2, 1) := by decide +kernel
theorem dX12_goes_25 : decode cX12_goes 25 = .ok (.lconst 0, 1) := by decide +kernel
theorem dX12_goes_26 : decode cX12_goes 26 = .ok (.lastore, 1) := by decide +kernel
theorem dX12_goes_27 : decode cX12_goes 27 = .ok (.iinc 2 1, 3) := by decide +kernel
theorem dX12_goes_30 : decode cX12_goes 30 = .ok (.goto (-24), 3) := by decide +kernel
theorem dX12_goes_33 : decode cX12_goes 33 = .ok (.iconst 0, 1) := by decide +kernel
theorem dX12_goes_34 : decode cX12_goes 34 = .ok (.istore_n 2, 1) := by decide +kernel
theorem dX12_goes_35 : decode cX12_goes 35 = .ok (.iload_n 2, 1) := by decide +kernel
theorem dX12_goes_36 : decode cX12_goes 36 = .ok (.bipush 52, 2) := by decide +kernel
theorem dX12_goes_38 : decode cX12_goes 38 = .ok (.if_icmp .ge 16, 3) := by decide +kernel
theorem dX12_goes_41 : decode cX12_goes 41 = .ok (.aload_n 0, 1) := by decide +kernel
theorem dX12_goes_42 : decode cX12_goes 42 = .ok (.getfield 62, 3) := by decide +kernel
theorem dX12_goes_45 : decode cX12_goes 45 = .ok (.iload_n 2, 1) := by decide +kernel
theorem dX12_goes_46 : decode cX12_goes 46 = .ok (.lconst 0, 1) := by decide +kernel
theorem dX12_goes_47 : decode cX12_goes 47 = .ok (.lastore, 1) := by decide +kernel
theorem dX12_goes_48 : decode cX12_goes 48 = .ok (.iinc 2 1, 3) := by decide +kernel
theorem dX12_goes_51 : decode cX12_goes 51 = .ok (.goto (-16), 3) := by decide +kernel
theorem dX12_goes_54 : decode cX12_goes 54 = .ok (.aload_n 0, 1) := by decide +kernel
theorem dX12_goes_55 : decode cX12_goes 55 = .ok (.getfield 56, 3) := by decide +kernel
theorem dX12_goes_58 : decode cX12_goes 58 = .ok (.iconst 0, 1) := by decide +kernel
theorem dX12_goes_59 : decode cX12_goes 59 = .ok (.lconst 1, 1) := by decide +kernel
theorem dX12_goes_60 : decode cX12_goes 60 = .ok (.lastore, 1) := by decide +kernel
theorem dX12_goes_61 : decode cX12_goes 61 = .ok (.aload_n 0, 1) := by decide +kernel
theorem dX12_goes_62 : decode cX12_goes 62 = .ok (.getfield 59, 3) := by decide +kernel
theorem dX12_goes_65 : decode cX12_goes 65 = .ok (.iconst 0, 1) := by decide +kernel
theorem dX12_goes_66 : decode cX12_goes 66 = .ok (.lconst 1, 1) := by decide +kernel
theorem dX12_goes_67 : decode cX12_goes 67 = .ok (.lastore, 1) := by decide +kernel
theorem dX12_goes_68 : decode cX12_goes 68 = .ok (.iconst 0, 1) := by decide +kernel
theorem dX12_goes_69 : decode cX12_goes 69 = .ok (.istore_n 2, 1) := by decide +kernel
theorem dX12_goes_70 : decode cX12_goes 70 = .ok (.iload_n 2, 1) := by decide +kernel
theorem dX12_goes_71 : decode cX12_goes 71 = .ok (.aload_n 0, 1) := by decide +kernel
theorem dX12_goes_72 : decode cX12_goes 72 = .ok (.getfield 13, 3) := by decide +kernel
theorem dX12_goes_75 : decode cX12_goes 75 = .ok (.iconst 2, 1) := by decide +kernel
theorem dX12_goes_76 : decode cX12_goes 76 = .ok (.iaload, 1) := by decide +kernel
theorem dX12_goes_77 : decode cX12_goes 77 = .ok (.if_icmp .gt 38, 3) := by decide +kernel
theorem dX12_goes_80 : decode cX12_goes 80 = .ok (.iconst 0, 1) := by decide +kernel
theorem dX12_goes_81 : decode cX12_goes 81 = .ok (.istore_n 3, 1) := by decide +kernel
theorem dX12_goes_82 : decode cX12_goes 82 = .ok (.iload_n 3, 1) := by decide +kernel
theorem dX12_goes_83 : decode cX12_goes 83 = .ok (.iload_n 2, 1) := by decide +kernel
theorem dX12_goes_84 : decode cX12_goes 84 = .ok (.if_icmp .gt 25, 3) := by decide +kernel
theorem dX12_goes_87 : decode cX12_goes 87 = .ok (.aload_n 0, 1) := by decide +kernel
theorem dX12_goes_88 : decode cX12_goes 88 = .ok (.iload_n 1, 1) := by decide +kernel
theorem dX12_goes_89 : decode cX12_goes 89 = .ok (.iconst 0, 1) := by decide +kernel
theorem dX12_goes_90 : decode cX12_goes 90 = .ok (.iload_n 2, 1) := by decide +kernel
theorem dX12_goes_91 : decode cX12_goes 91 = .ok (.iload_n 3, 1) := by decide +kernel
theorem dX12_goes_92 : decode cX12_goes 92 = .ok (.invokevirtual 278, 3) := by decide +kernel
theorem dX12_goes_95 : decode cX12_goes 95 = .ok (.aload_n 0, 1) := by decide +kernel
theorem dX12_goes_96 : decode cX12_goes 96 = .ok (.iload_n 1, 1) := by decide +kernel
theorem dX12_goes_97 : decode cX12_goes 97 = .ok (.iconst 1, 1) := by decide +kernel
theorem dX12_goes_98 : decode cX12_goes 98 = .ok (.iload_n 2, 1) := by decide +kernel
theorem dX12_goes_99 : decode cX12_goes 99 = .ok (.iload_n 3, 1) := by decide +kernel
theorem dX12_goes_100 : decode cX12_goes 100 = .ok (.invokevirtual 278, 3) := by decide +kernel
theorem dX12_goes_103 : decode cX12_goes 103 = .ok (.iinc 3 1, 3) := by decide +kernel
theorem dX12_goes_106 : decode cX12_goes 106 = .ok (.goto (-24), 3) := by decide +kernel
theorem dX12_goes_109 : decode cX12_goes 109 = .ok (.iinc 2 1, 3) := by decide +kernel
theorem dX12_goes_112 : decode cX12_goes 112 = .ok (.goto (-42), 3) := by decide +kernel
theorem dX12_goes_115 : decode cX12_goes 115 = .ok (.return_, 1) := by decide +kernel
theorem dX12_ways_0 : decode cX12_ways 0 = .ok (.aload_n 0, 1) := by decide +kernel
theorem dX12_ways_1 : decode cX12_ways 1 = .ok (.iconst 0, 1) := by decide +kernel
theorem dX12_ways_2 : decode cX12_ways 2 = .ok (.putfield 1, 3) := by decide +kernel
theorem dX12_ways_5 : decode cX12_ways 5 = .ok (.aload_n 0, 1) := by decide +kernel
theorem dX12_ways_6 : decode cX12_ways 6 = .ok (.iload_n 1, 1) := by decide +kernel
theorem dX12_ways_7 : decode cX12_ways 7 = .ok (.invokevirtual 194, 3) := by decide +kernel
theorem dX12_ways_10 : decode cX12_ways 10 = .ok (.ifCond .eq 12, 3) := by decide +kernel
theorem dX12_ways_13 : decode cX12_ways 13 = .ok (.aload_n 0, 1) := by decide +kernel
theorem dX12_ways_14 : decode cX12_ways 14 = .ok (.iload_n 2, 1) := by decide +kernel
theorem dX12_ways_15 : decode cX12_ways 15 = .ok (.iload_n 3, 1) := by decide +kernel
theorem dX12_ways_16 : decode cX12_ways 16 = .ok (.invokevirtual 201, 3) := by decide +kernel
theorem dX12_ways_19 : decode cX12_ways 19 = .ok (.ifCond .ne 5, 3) := by decide +kernel
theorem dX12_ways_22 : decode cX12_ways 22 = .ok (.iconst (-1), 1) := by decide +kernel
theorem dX12_ways_23 : decode cX12_ways 23 = .ok (.ireturn, 1) := by decide +kernel
theorem dX12_ways_24 : decode cX12_ways 24 = .ok (.aload_n 0, 1) := by decide +kernel
theorem dX12_ways_25 : decode cX12_ways 25 = .ok (.iload_n 1, 1) := by decide +kernel
theorem dX12_ways_26 : decode cX12_ways 26 = .ok (.invokevirtual 282, 3) := by decide +kernel
theorem dX12_ways_29 : decode cX12_ways 29 = .ok (.aload_n 0, 1) := by decide +kernel
theorem dX12_ways_30 : decode cX12_ways 30 = .ok (.getfield 59, 3) := by decide +kernel
theorem dX12_ways_33 : decode cX12_ways 33 = .ok (.iconst 0, 1) := by decide +kernel
theorem dX12_ways_34 : decode cX12_ways 34 = .ok (.iload_n 2, 1) := by decide +kernel
theorem dX12_ways_35 : decode cX12_ways 35 = .ok (.iload_n 3, 1) := by decide +kernel
theorem dX12_ways_36 : decode cX12_ways 36 = .ok (.invokestatic 272, 3) := by decide +kernel
theorem dX12_ways_39 : decode cX12_ways 39 = .ok (.laload, 1) := by decide +kernel
theorem dX12_ways_40 : decode cX12_ways 40 = .ok (.aload_n 0, 1) := by decide +kernel
theorem dX12_ways_41 : decode cX12_ways 41 = .ok (.getfield 59, 3) := by decide +kernel
theorem dX12_ways_44 : decode cX12_ways 44 = .ok (.iconst 1, 1) := by decide +kernel
theorem dX12_ways_45 : decode cX12_ways 45 = .ok (.iload_n 2, 1) := by decide +kernel
theorem dX12_ways_46 : decode cX12_ways 46 = .ok (.iload_n 3, 1) := by decide +kernel
theorem dX12_ways_47 : decode cX12_ways 47 = .ok (.invokestatic 272, 3) := by decide +kernel
theorem dX12_ways_50 : decode cX12_ways 50 = .ok (.laload, 1) := by decide +kernel
theorem dX12_ways_51 : decode cX12_ways 51 = .ok (.ladd, 1) := by decide +kernel
theorem dX12_ways_52 : decode cX12_ways 52 = .ok (.lstore 4, 2) := by decide +kernel
theorem dX12_ways_54 : decode cX12_ways 54 = .ok (.aload_n 0, 1) := by decide +kernel
theorem dX12_ways_55 : decode cX12_ways 55 = .ok (.getfield 50, 3) := by decide +kernel
theorem dX12_ways_58 : decode cX12_ways 58 = .ok (.iload_n 1, 1) := by decide +kernel
theorem dX12_ways_59 : decode cX12_ways 59 = .ok (.iload_n 2, 1) := by decide +kernel
theorem dX12_ways_60 : decode cX12_ways 60 = .ok (.iload_n 3, 1) := by decide +kernel
theorem dX12_ways_61 : decode cX12_ways 61 = .ok (.invokestatic 215, 3) := by decide +kernel
theorem dX12_ways_64 : decode cX12_ways 64 = .ok (.baload, 1) := by decide +kernel
theorem dX12_ways_65 : decode cX12_ways 65 = .ok (.iconst 3, 1) := by decide +kernel
theorem dX12_ways_66 : decode cX12_ways 66 = .ok (.if_icmp .ne 20, 3) := by decide +kernel
theorem dX12_ways_69 : decode cX12_ways 69 = .ok (.lload 4, 2) := by decide +kernel
theorem dX12_ways_71 : decode cX12_ways 71 = .ok (.aload_n 0, 1) := by decide +kernel
theorem dX12_ways_72 : decode cX12_ways 72 = .ok (.getfield 59, 3) := by decide +kernel
theorem dX12_ways_75 : decode cX12_ways 75 = .ok (.iconst 0, 1) := by decide +kernel
theorem dX12_ways_76 : decode cX12_ways 76 = .ok (.iload_n 2, 1) := by decide +kernel
theorem dX12_ways_77 : decode cX12_ways 77 = .ok (.iload_n 3, 1) := by decide +kernel
theorem dX12_ways_78 : decode cX12_ways 78 = .ok (.invokestatic 272, 3) := by decide +kernel
theorem dX12_ways_81 : decode cX12_ways 81 = .ok (.laload, 1) := by decide +kernel
theorem dX12_ways_82 : decode cX12_ways 82 = .ok (.lsub, 1) := by decide +kernel
theorem dX12_ways_83 : decode cX12_ways 83 = .ok (.goto 5, 3) := by decide +kernel
theorem dX12_ways_86 : decode cX12_ways 86 = .ok (.lload 4, 2) := by decide +kernel
theorem dX12_ways_88 : decode cX12_ways 88 = .ok (.l2i, 1) := by decide +kernel
theorem dX12_ways_89 : decode cX12_ways 89 = .ok (.ireturn, 1) := by decide +kernel
theorem dX12_ending_0 : decode cX12_ending 0 = .ok (.aload_n 0, 1) := by decide +kernel
theorem dX12_ending_1 : decode cX12_ending 1 = .ok (.aload_n 0, 1) := by decide +kernel
theorem dX12_ending_2 : decode cX12_ending 2 = .ok (.iload_n 1, 1) := by decide +kernel
theorem dX12_ending_3 : decode cX12_ending 3 = .ok (.invokevirtual 194, 3) := by decide +kernel
theorem dX12_ending_6 : decode cX12_ending 6 = .ok (.ifCond .eq 34, 3) := by decide +kernel
theorem dX12_ending_9 : decode cX12_ending 9 = .ok (.iload_n 2, 1) := by decide +kernel
theorem dX12_ending_10 : decode cX12_ending 10 = .ok (.iconst 0, 1) := by decide +kernel
theorem dX12_ending_11 : decode cX12_ending 11 = .ok (.aload_n 0, 1) := by decide +kernel
theorem dX12_ending_12 : decode cX12_ending 12 = .ok (.getfield 13, 3) := by decide +kernel
theorem dX12_ending_15 : decode cX12_ending 15 = .ok (.iconst 2, 1) := by decide +kernel
theorem dX12_ending_16 : decode cX12_ending 16 = .ok (.iaload, 1) := by decide +kernel
theorem dX12_ending_17 : decode cX12_ending 17 = .ok (.invokestatic 88, 3) := by decide +kernel
theorem dX12_ending_20 : decode cX12_ending 20 = .ok (.ifCond .eq 20, 3) := by decide +kernel
theorem dX12_ending_23 : decode cX12_ending 23 = .ok (.iload_n 3, 1) := by decide +kernel
theorem dX12_ending_24 : decode cX12_ending 24 = .ok (.iconst 0, 1) := by decide +kernel
theorem dX12_ending_25 : decode cX12_ending 25 = .ok (.iconst 3, 1) := by decide +kernel
theorem dX12_ending_26 : decode cX12_ending 26 = .ok (.invokestatic 88, 3) := by decide +kernel
theorem dX12_ending_29 : decode cX12_ending 29 = .ok (.ifCond .eq 11, 3) := by decide +kernel
theorem dX12_ending_32 : decode cX12_ending 32 = .ok (.iload 4, 2) := by decide +kernel
theorem dX12_ending_34 : decode cX12_ending 34 = .ok (.invokestatic 248, 3) := by decide +kernel
theorem dX12_ending_37 : decode cX12_ending 37 = .ok (.ifCond .ne 7, 3) := by decide +kernel
theorem dX12_ending_40 : decode cX12_ending 40 = .ok (.iconst 1, 1) := by decide +kernel
theorem dX12_ending_41 : decode cX12_ending 41 = .ok (.goto 4, 3) := by decide +kernel
theorem dX12_ending_44 : decode cX12_ending 44 = .ok (.iconst 0, 1) := by decide +kernel
theorem dX12_ending_45 : decode cX12_ending 45 = .ok (.invokevirtual 251, 3) := by decide +kernel
theorem dX12_ending_48 : decode cX12_ending 48 = .ok (.ifCond .eq 5, 3) := by decide +kernel
theorem dX12_ending_51 : decode cX12_ending 51 = .ok (.lconst 0, 1) := by decide +kernel
theorem dX12_ending_52 : decode cX12_ending 52 = .ok (.lreturn, 1) := by decide +kernel
theorem dX12_ending_53 : decode cX12_ending 53 = .ok (.aload_n 0, 1) := by decide +kernel
theorem dX12_ending_54 : decode cX12_ending 54 = .ok (.iload_n 1, 1) := by decide +kernel
theorem dX12_ending_55 : decode cX12_ending 55 = .ok (.invokevirtual 282, 3) := by decide +kernel
theorem dX12_ending_58 : decode cX12_ending 58 = .ok (.aload_n 0, 1) := by decide +kernel
theorem dX12_ending_59 : decode cX12_ending 59 = .ok (.getfield 62, 3) := by decide +kernel
theorem dX12_ending_62 : decode cX12_ending 62 = .ok (.bipush 13, 2) := by decide +kernel
theorem dX12_ending_64 : decode cX12_ending 64 = .ok (.iload_n 3, 1) := by decide +kernel
theorem dX12_ending_65 : decode cX12_ending 65 = .ok (.imul, 1) := by decide +kernel
theorem dX12_ending_66 : decode cX12_ending 66 = .ok (.iload_n 2, 1) := by decide +kernel
theorem dX12_ending_67 : decode cX12_ending 67 = .ok (.iadd, 1) := by decide +kernel
theorem dX12_ending_68 : decode cX12_ending 68 = .ok (.laload, 1) := by decide +kernel
theorem dX12_ending_69 : decode cX12_ending 69 = .ok (.aload_n 0, 1) := by decide +kernel
theorem dX12_ending_70 : decode cX12_ending 70 = .ok (.getfield 47, 3) := by decide +kernel
theorem dX12_ending_73 : decode cX12_ending 73 = .ok (.iload_n 2, 1) := by decide +kernel
theorem dX12_ending_74 : decode cX12_ending 74 = .ok (.laload, 1) := by decide +kernel
theorem dX12_ending_75 : decode cX12_ending 75 = .ok (.iload 4, 2) := by decide +kernel
theorem dX12_ending_77 : decode cX12_ending 77 = .ok (.invokestatic 262, 3) := by decide +kernel
theorem dX12_ending_80 : decode cX12_ending 80 = .ok (.lreturn, 1) := by decide +kernel
theorem dX12_life_0 : decode cX12_life 0 = .ok (.aload_n 0, 1) := by decide +kernel
theorem dX12_life_1 : decode cX12_life 1 = .ok (.aload_n 0, 1) := by decide +kernel
theorem dX12_life_2 : decode cX12_life 2 = .ok (.iload_n 1, 1) := by decide +kernel
theorem dX12_life_3 : decode cX12_life 3 = .ok (.invokevirtual 194, 3) := by decide +kernel
theorem dX12_life_6 : decode cX12_life 6 = .ok (.ifCond .eq 10, 3) := by decide +kernel
theorem dX12_life_9 : decode cX12_life 9 = .ok (.iload_n 2, 1) := by decide +kernel
theorem dX12_life_10 : decode cX12_life 10 = .ok (.invokestatic 248, 3) := by decide +kernel
theorem dX12_life_13 : decode cX12_life 13 = .ok (.ifCond .ne 7, 3) := by decide +kernel
theorem dX12_life_16 : decode cX12_life 16 = .ok (.iconst 1, 1) := by decide +kernel
theorem dX12_life_17 : decode cX12_life 17 = .ok (.goto 4, 3) := by decide +kernel
theorem dX12_life_20 : decode cX12_life 20 = .ok (.iconst 0, 1) := by decide +kernel
theorem dX12_life_21 : decode cX12_life 21 = .ok (.invokevirtual 251, 3) := by decide +kernel
theorem dX12_life_24 : decode cX12_life 24 = .ok (.ifCond .eq 5, 3) := by decide +kernel
theorem dX12_life_27 : decode cX12_life 27 = .ok (.lconst 0, 1) := by decide +kernel
theorem dX12_life_28 : decode cX12_life 28 = .ok (.lreturn, 1) := by decide +kernel
theorem dX12_life_29 : decode cX12_life 29 = .ok (.aload_n 0, 1) := by decide +kernel
theorem dX12_life_30 : decode cX12_life 30 = .ok (.iload_n 1, 1) := by decide +kernel
theorem dX12_life_31 : decode cX12_life 31 = .ok (.invokevirtual 282, 3) := by decide +kernel
theorem dX12_life_34 : decode cX12_life 34 = .ok (.lconst 0, 1) := by decide +kernel
theorem dX12_life_35 : decode cX12_life 35 = .ok (.lstore_n 3, 1) := by decide +kernel
theorem dX12_life_36 : decode cX12_life 36 = .ok (.iconst 0, 1) := by decide +kernel
theorem dX12_life_37 : decode cX12_life 37 = .ok (.istore 5, 2) := by decide +kernel
theorem dX12_life_39 : decode cX12_life 39 = .ok (.iload 5, 2) := by decide +kernel
theorem dX12_life_41 : decode cX12_life 41 = .ok (.iconst 4, 1) := by decide +kernel
theorem dX12_life_42 : decode cX12_life 42 = .ok (.if_icmp .ge 56, 3) := by decide +kernel
theorem dX12_life_45 : decode cX12_life 45 = .ok (.iconst 0, 1) := by decide +kernel
theorem dX12_life_46 : decode cX12_life 46 = .ok (.istore 6, 2) := by decide +kernel
theorem dX12_life_48 : decode cX12_life 48 = .ok (.iload 6, 2) := by decide +kernel
theorem dX12_life_50 : decode cX12_life 50 = .ok (.aload_n 0, 1) := by decide +kernel
theorem dX12_life_51 : decode cX12_life 51 = .ok (.getfield 13, 3) := by decide +kernel
theorem dX12_life_54 : decode cX12_life 54 = .ok (.iconst 2, 1) := by decide +kernel
theorem dX12_life_55 : decode cX12_life 55 = .ok (.iaload, 1) := by decide +kernel
theorem dX12_life_56 : decode cX12_life 56 = .ok (.if_icmp .gt 36, 3) := by decide +kernel
theorem dX12_life_59 : decode cX12_life 59 = .ok (.lload_n 3, 1) := by decide +kernel
theorem dX12_life_60 : decode cX12_life 60 = .ok (.iload 6, 2) := by decide +kernel
theorem dX12_life_62 : decode cX12_life 62 = .ok (.i2l, 1) := by decide +kernel
theorem dX12_life_63 : decode cX12_life 63 = .ok (.aload_n 0, 1) := by decide +kernel
theorem dX12_life_64 : decode cX12_life 64 = .ok (.getfield 62, 3) := by decide +kernel
theorem dX12_life_67 : decode cX12_life 67 = .ok (.bipush 13, 2) := by decide +kernel
theorem dX12_life_69 : decode cX12_life 69 = .ok (.iload 5, 2) := by decide +kernel
theorem dX12_life_71 : decode cX12_life 71 = .ok (.imul, 1) := by decide +kernel
theorem dX12_life_72 : decode cX12_life 72 = .ok (.iload 6, 2) := by decide +kernel
theorem dX12_life_74 : decode cX12_life 74 = .ok (.iadd, 1) := by decide +kernel
theorem dX12_life_75 : decode cX12_life 75 = .ok (.laload, 1) := by decide +kernel
theorem dX12_life_76 : decode cX12_life 76 = .ok (.lmul, 1) := by decide +kernel
theorem dX12_life_77 : decode cX12_life 77 = .ok (.aload_n 0, 1) := by decide +kernel
theorem dX12_life_78 : decode cX12_life 78 = .ok (.iload 6, 2) := by decide +kernel
theorem dX12_life_80 : decode cX12_life 80 = .ok (.invokevirtual 211, 3) := by decide +kernel
theorem dX12_life_83 : decode cX12_life 83 = .ok (.lmul, 1) := by decide +kernel
theorem dX12_life_84 : decode cX12_life 84 = .ok (.ladd, 1) := by decide +kernel
theorem dX12_life_85 : decode cX12_life 85 = .ok (.lstore_n 3, 1) := by decide +kernel
theorem dX12_life_86 : decode cX12_life 86 = .ok (.iinc 6 1, 3) := by decide +kernel
theorem dX12_life_89 : decode cX12_life 89 = .ok (.goto (-41), 3) := by decide +kernel
theorem dX12_life_92 : decode cX12_life 92 = .ok (.iinc 5 1, 3) := by decide +kernel
theorem dX12_life_95 : decode cX12_life 95 = .ok (.goto (-56), 3) := by decide +kernel
theorem dX12_life_98 : decode cX12_life 98 = .ok (.lload_n 3, 1) := by decide +kernel
theorem dX12_life_99 : decode cX12_life 99 = .ok (.aload_n 0, 1) := by decide +kernel
theorem dX12_life_100 : decode cX12_life 100 = .ok (.getfield 47, 3) := by decide +kernel
theorem dX12_life_103 : decode cX12_life 103 = .ok (.aload_n 0, 1) := by decide +kernel
theorem dX12_life_104 : decode cX12_life 104 = .ok (.getfield 13, 3) := by decide +kernel
theorem dX12_life_107 : decode cX12_life 107 = .ok (.iconst 2, 1) := by decide +kernel
theorem dX12_life_108 : decode cX12_life 108 = .ok (.iaload, 1) := by decide +kernel
theorem dX12_life_109 : decode cX12_life 109 = .ok (.laload, 1) := by decide +kernel
theorem dX12_life_110 : decode cX12_life 110 = .ok (.iload_n 2, 1) := by decide +kernel
theorem dX12_life_111 : decode cX12_life 111 = .ok (.invokestatic 262, 3) := by decide +kernel
theorem dX12_life_114 : decode cX12_life 114 = .ok (.lreturn, 1) := by decide +kernel
theorem dX12_gains_0 : decode cX12_gains 0 = .ok (.aload_n 0, 1) := by decide +kernel
theorem dX12_gains_1 : decode cX12_gains 1 = .ok (.getfield 40, 3) := by decide +kernel
theorem dX12_gains_4 : decode cX12_gains 4 = .ok (.iload_n 1, 1) := by decide +kernel
theorem dX12_gains_5 : decode cX12_gains 5 = .ok (.iconst 0, 1) := by decide +kernel
theorem dX12_gains_6 : decode cX12_gains 6 = .ok (.iconst 0, 1) := by decide +kernel
theorem dX12_gains_7 : decode cX12_gains 7 = .ok (.invokestatic 215, 3) := by decide +kernel
theorem dX12_gains_10 : decode cX12_gains 10 = .ok (.laload, 1) := by decide +kernel
theorem dX12_gains_11 : decode cX12_gains 11 = .ok (.lstore 4, 2) := by decide +kernel
theorem dX12_gains_13 : decode cX12_gains 13 = .ok (.iconst 0, 1) := by decide +kernel
theorem dX12_gains_14 : decode cX12_gains 14 = .ok (.istore 6, 2) := by decide +kernel
theorem dX12_gains_16 : decode cX12_gains 16 = .ok (.iconst 0, 1) := by decide +kernel
theorem dX12_gains_17 : decode cX12_gains 17 = .ok (.istore 7, 2) := by decide +kernel
theorem dX12_gains_19 : decode cX12_gains 19 = .ok (.iconst 0, 1) := by decide +kernel
theorem dX12_gains_20 : decode cX12_gains 20 = .ok (.istore 8, 2) := by decide +kernel
theorem dX12_gains_22 : decode cX12_gains 22 = .ok (.iload 8, 2) := by decide +kernel
theorem dX12_gains_24 : decode cX12_gains 24 = .ok (.aload_n 0, 1) := by decide +kernel
theorem dX12_gains_25 : decode cX12_gains 25 = .ok (.getfield 13, 3) := by decide +kernel
theorem dX12_gains_28 : decode cX12_gains 28 = .ok (.iconst 2, 1) := by decide +kernel
theorem dX12_gains_29 : decode cX12_gains 29 = .ok (.iaload, 1) := by decide +kernel
theorem dX12_gains_30 : decode cX12_gains 30 = .ok (.if_icmp .gt 308, 3) := by decide +kernel
theorem dX12_gains_33 : decode cX12_gains 33 = .ok (.iload_n 1, 1) := by decide +kernel
theorem dX12_gains_34 : decode cX12_gains 34 = .ok (.iload 8, 2) := by decide +kernel
theorem dX12_gains_36 : decode cX12_gains 36 = .ok (.iload 7, 2) := by decide +kernel
theorem dX12_gains_38 : decode cX12_gains 38 = .ok (.invokestatic 215, 3) := by decide +kernel
theorem dX12_gains_41 : decode cX12_gains 41 = .ok (.istore 9, 2) := by decide +kernel
theorem dX12_gains_43 : decode cX12_gains 43 = .ok (.iload 6, 2) := by decide +kernel
theorem dX12_gains_45 : decode cX12_gains 45 = .ok (.ifCond .ne 14, 3) := by decide +kernel
theorem dX12_gains_48 : decode cX12_gains 48 = .ok (.aload_n 0, 1) := by decide +kernel
theorem dX12_gains_49 : decode cX12_gains 49 = .ok (.getfield 50, 3) := by decide +kernel
theorem dX12_gains_52 : decode cX12_gains 52 = .ok (.iload 9, 2) := by decide +kernel
theorem dX12_gains_54 : decode cX12_gains 54 = .ok (.baload, 1) := by decide +kernel
theorem dX12_gains_55 : decode cX12_gains 55 = .ok (.iconst 3, 1) := by decide +kernel
theorem dX12_gains_56 : decode cX12_gains 56 = .ok (.if_icmp .ne 7, 3) := by decide +kernel
theorem dX12_gains_59 : decode cX12_gains 59 = .ok (.iconst 1, 1) := by decide +kernel
theorem dX12_gains_60 : decode cX12_gains 60 = .ok (.goto 4, 3) := by decide +kernel
theorem dX12_gains_63 : decode cX12_gains 63 = .ok (.iconst 0, 1) := by decide +kernel
theorem dX12_gains_64 : decode cX12_gains 64 = .ok (.istore 6, 2) := by decide +kernel
theorem dX12_gains_66 : decode cX12_gains 66 = .ok (.iload 6, 2) := by decide +kernel
theorem dX12_gains_68 : decode cX12_gains 68 = .ok (.ifCond .eq 13, 3) := by decide +kernel
theorem dX12_gains_71 : decode cX12_gains 71 = .ok (.aload_n 0, 1) := by decide +kernel
theorem dX12_gains_72 : decode cX12_gains 72 = .ok (.getfield 53, 3) := by decide +kernel
theorem dX12_gains_75 : decode cX12_gains 75 = .ok (.iload 9, 2) := by decide +kernel
theorem dX12_gains_77 : decode cX12_gains 77 = .ok (.baload, 1) := by decide +kernel
theorem dX12_gains_78 : decode cX12_gains 78 = .ok (.goto 10, 3) := by decide +kernel
theorem dX12_gains_81 : decode cX12_gains 81 = .ok (.aload_n 0, 1) := by decide +kernel
theorem dX12_gains_82 : decode cX12_gains 82 = .ok (.getfield 50, 3) := by decide +kernel
theorem dX12_gains_85 : decode cX12_gains 85 = .ok (.iload 9, 2) := by decide +kernel
theorem dX12_gains_87 : decode cX12_gains 87 = .ok (.baload, 1) := by decide +kernel
theorem dX12_gains_88 : decode cX12_gains 88 = .ok (.istore 10, 2) := by decide +kernel
theorem dX12_gains_90 : decode cX12_gains 90 = .ok (.iload 10, 2) := by decide +kernel
theorem dX12_gains_92 : decode cX12_gains 92 = .ok (.iconst 2, 1) := by decide +kernel
theorem dX12_gains_93 : decode cX12_gains 93 = .ok (.if_icmp .ne 27, 3) := by decide +kernel
theorem dX12_gains_96 : decode cX12_gains 96 = .ok (.lload 4, 2) := by decide +kernel
theorem dX12_gains_98 : decode cX12_gains 98 = .ok (.aload_n 0, 1) := by decide +kernel
theorem dX12_gains_99 : decode cX12_gains 99 = .ok (.iload_n 1, 1) := by decide +kernel
theorem dX12_gains_100 : decode cX12_gains 100 = .ok (.bipush 7, 2) := by decide +kernel
theorem dX12_gains_102 : decode cX12_gains 102 = .ok (.invokevirtual 191, 3) := by decide +kernel
theorem dX12_gains_105 : decode cX12_gains 105 = .ok (.i2l, 1) := by decide +kernel
theorem dX12_gains_106 : decode cX12_gains 106 = .ok (.aload_n 0, 1) := by decide +kernel
theorem dX12_gains_107 : decode cX12_gains 107 = .ok (.getfield 47, 3) := by decide +kernel
theorem dX12_gains_110 : decode cX12_gains 110 = .ok (.aload_n 0, 1) := by decide +kernel
theorem dX12_gains_111 : decode cX12_gains 111 = .ok (.getfield 13, 3) := by decide +kernel
theorem dX12_gains_114 : decode cX12_gains 114 = .ok (.iconst 2, 1) := by decide +kernel
theorem dX12_gains_115 : decode cX12_gains 115 = .ok (.iaload, 1) := by decide +kernel
theorem dX12_gains_116 : decode cX12_gains 116 = .ok (.laload, 1) := by decide +kernel
theorem dX12_gains_117 : decode cX12_gains 117 = .ok (.lmul, 1) := by decide +kernel
theorem dX12_gains_118 : decode cX12_gains 118 = .ok (.lsub, 1) := by decide +kernel
theorem dX12_gains_119 : decode cX12_gains 119 = .ok (.lreturn, 1) := by decide +kernel
theorem dX12_gains_120 : decode cX12_gains 120 = .ok (.aload_n 0, 1) := by decide +kernel
theorem dX12_gains_121 : decode cX12_gains 121 = .ok (.iload_n 1, 1) := by decide +kernel
theorem dX12_gains_122 : decode cX12_gains 122 = .ok (.iload 8, 2) := by decide +kernel
theorem dX12_gains_124 : decode cX12_gains 124 = .ok (.iload 7, 2) := by decide +kernel
theorem dX12_gains_126 : decode cX12_gains 126 = .ok (.invokevirtual 223, 3) := by decide +kernel
theorem dX12_gains_129 : decode cX12_gains 129 = .ok (.lstore 11, 2) := by decide +kernel
theorem dX12_gains_131 : decode cX12_gains 131 = .ok (.iload 8, 2) := by decide +kernel
theorem dX12_gains_133 : decode cX12_gains 133 = .ok (.iload_n 3, 1) := by decide +kernel
theorem dX12_gains_134 : decode cX12_gains 134 = .ok (.if_icmp .ne 49, 3) := by decide +kernel
theorem dX12_gains_137 : decode cX12_gains 137 = .ok (.iload 6, 2) := by decide +kernel
theorem dX12_gains_139 : decode cX12_gains 139 = .ok (.ifCond .ne 13, 3) := by decide +kernel
theorem dX12_gains_142 : decode cX12_gains 142 = .ok (.aload_n 0, 1) := by decide +kernel
theorem dX12_gains_143 : decode cX12_gains 143 = .ok (.iload_n 1, 1) := by decide +kernel
theorem dX12_gains_144 : decode cX12_gains 144 = .ok (.iconst 4, 1) := by decide +kernel
theorem dX12_gains_145 : decode cX12_gains 145 = .ok (.invokevirtual 191, 3) := by decide +kernel
theorem dX12_gains_148 : decode cX12_gains 148 = .ok (.iconst 2, 1) := by decide +kernel
theorem dX12_gains_149 : decode cX12_gains 149 = .ok (.if_icmp .eq 34, 3) := by decide +kernel
theorem dX12_gains_152 : decode cX12_gains 152 = .ok (.aload_n 0, 1) := by decide +kernel
theorem dX12_gains_153 : decode cX12_gains 153 = .ok (.iload_n 1, 1) := by decide +kernel
theorem dX12_gains_154 : decode cX12_gains 154 = .ok (.iload 8, 2) := by decide +kernel
theorem dX12_gains_156 : decode cX12_gains 156 = .ok (.invokevirtual 227, 3) := by decide +kernel
theorem dX12_gains_159 : decode cX12_gains 159 = .ok (.ifCond .eq 24, 3) := by decide +kernel
theorem dX12_gains_162 : decode cX12_gains 162 = .ok (.lload 11, 2) := by decide +kernel
theorem dX12_gains_164 : decode cX12_gains 164 = .ok (.lconst 0, 1) := by decide +kernel
theorem dX12_gains_165 : decode cX12_gains 165 = .ok (.lcmp, 1) := by decide +kernel
theorem dX12_gains_166 : decode cX12_gains 166 = .ok (.ifCond .le 17, 3) := by decide +kernel
theorem dX12_gains_169 : decode cX12_gains 169 = .ok (.lload 4, 2) := by decide +kernel
theorem dX12_gains_171 : decode cX12_gains 171 = .ok (.lload 11, 2) := by decide +kernel
theorem dX12_gains_173 : decode cX12_gains 173 = .ok (.aload_n 0, 1) := by decide +kernel
theorem dX12_gains_174 : decode cX12_gains 174 = .ok (.getfield 47, 3) := by decide +kernel
theorem dX12_gains_177 : decode cX12_gains 177 = .ok (.iload 8, 2) := by decide +kernel
theorem dX12_gains_179 : decode cX12_gains 179 = .ok (.laload, 1) := by decide +kernel
theorem dX12_gains_180 : decode cX12_gains 180 = .ok (.lmul, 1) := by decide +kernel
theorem dX12_gains_181 : decode cX12_gains 181 = .ok (.lsub, 1) := by decide +kernel
theorem dX12_gains_182 : decode cX12_gains 182 = .ok (.lreturn, 1) := by decide +kernel
theorem dX12_gains_183 : decode cX12_gains 183 = .ok (.iload 10, 2) := by decide +kernel
theorem dX12_gains_185 : decode cX12_gains 185 = .ok (.iconst 4, 1) := by decide +kernel
theorem dX12_gains_186 : decode cX12_gains 186 = .ok (.if_icmp .ne 38, 3) := by decide +kernel
theorem dX12_gains_189 : decode cX12_gains 189 = .ok (.lload 4, 2) := by decide +kernel
theorem dX12_gains_191 : decode cX12_gains 191 = .ok (.lload 11, 2) := by decide +kernel
theorem dX12_gains_193 : decode cX12_gains 193 = .ok (.aload_n 0, 1) := by decide +kernel
theorem dX12_gains_194 : decode cX12_gains 194 = .ok (.getfield 47, 3) := by decide +kernel
theorem dX12_gains_197 : decode cX12_gains 197 = .ok (.iload 8, 2) := by decide +kernel
theorem dX12_gains_199 : decode cX12_gains 199 = .ok (.laload, 1) := by decide +kernel
theorem dX12_gains_200 : decode cX12_gains 200 = .ok (.lmul, 1) := by decide +kernel
theorem dX12_gains_201 : decode cX12_gains 201 = .ok (.lsub, 1) := by decide +kernel
theorem dX12_gains_202 : decode cX12_gains 202 = .ok (.aload_n 0, 1) := by decide +kernel
theorem dX12_gains_203 : decode cX12_gains 203 = .ok (.iload_n 1, 1) := by decide +kernel
theorem dX12_gains_204 : decode cX12_gains 204 = .ok (.bipush 8, 2) := by decide +kernel
theorem dX12_gains_206 : decode cX12_gains 206 = .ok (.invokevirtual 191, 3) := by decide +kernel
theorem dX12_gains_209 : decode cX12_gains 209 = .ok (.i2l, 1) := by decide +kernel
theorem dX12_gains_210 : decode cX12_gains 210 = .ok (.aload_n 0, 1) := by decide +kernel
theorem dX12_gains_211 : decode cX12_gains 211 = .ok (.getfield 47, 3) := by decide +kernel
theorem dX12_gains_214 : decode cX12_gains 214 = .ok (.aload_n 0, 1) := by decide +kernel
theorem dX12_gains_215 : decode cX12_gains 215 = .ok (.getfield 13, 3) := by decide +kernel
theorem dX12_gains_218 : decode cX12_gains 218 = .ok (.iconst 2, 1) := by decide +kernel
theorem dX12_gains_219 : decode cX12_gains 219 = .ok (.iaload, 1) := by decide +kernel
theorem dX12_gains_220 : decode cX12_gains 220 = .ok (.laload, 1) := by decide +kernel
theorem dX12_gains_221 : decode cX12_gains 221 = .ok (.lmul, 1) := by decide +kernel
theorem dX12_gains_222 : decode cX12_gains 222 = .ok (.lsub, 1) := by decide +kernel
theorem dX12_gains_223 : decode cX12_gains 223 = .ok (.lreturn, 1) := by decide +kernel
theorem dX12_gains_224 : decode cX12_gains 224 = .ok (.iload 8, 2) := by decide +kernel
theorem dX12_gains_226 : decode cX12_gains 226 = .ok (.aload_n 0, 1) := by decide +kernel
theorem dX12_gains_227 : decode cX12_gains 227 = .ok (.getfield 13, 3) := by decide +kernel
theorem dX12_gains_230 : decode cX12_gains 230 = .ok (.iconst 2, 1) := by decide +kernel
theorem dX12_gains_231 : decode cX12_gains 231 = .ok (.iaload, 1) := by decide +kernel
theorem dX12_gains_232 : decode cX12_gains 232 = .ok (.if_icmp .ne 6, 3) := by decide +kernel
theorem dX12_gains_235 : decode cX12_gains 235 = .ok (.lload 4, 2) := by decide +kernel
theorem dX12_gains_237 : decode cX12_gains 237 = .ok (.lreturn, 1) := by decide +kernel
theorem dX12_gains_238 : decode cX12_gains 238 = .ok (.iload_n 2, 1) := by decide +kernel
theorem dX12_gains_239 : decode cX12_gains 239 = .ok (.iload 8, 2) := by decide +kernel
theorem dX12_gains_241 : decode cX12_gains 241 = .ok (.invokestatic 285, 3) := by decide +kernel
theorem dX12_gains_244 : decode cX12_gains 244 = .ok (.istore 13, 2) := by decide +kernel
theorem dX12_gains_246 : decode cX12_gains 246 = .ok (.iload 13, 2) := by decide +kernel
theorem dX12_gains_248 : decode cX12_gains 248 = .ok (.ifCond .eq 12, 3) := by decide +kernel
theorem dX12_gains_251 : decode cX12_gains 251 = .ok (.aload_n 0, 1) := by decide +kernel
