theorem dX5_cashFrom_27 : decode cX5_cashFrom 27 = .ok (.iload_n 2, 1) := by decide +kernel
theorem dX5_cashFrom_28 : decode cX5_cashFrom 28 = .ok (.ireturn, 1) := by decide +kernel
theorem dX5_current_0 : decode cX5_current 0 = .ok (.iload_n 1, 1) := by decide +kernel
theorem dX5_current_1 : decode cX5_current 1 = .ok (.tableswitch 60 0 3 #[31, 41, 46, 53], 31) := by decide +kernel
theorem dX5_current_32 : decode cX5_current 32 = .ok (.aload_n 0, 1) := by decide +kernel
theorem dX5_current_33 : decode cX5_current 33 = .ok (.getfield 20, 3) := by decide +kernel
theorem dX5_current_36 : decode cX5_current 36 = .ok (.iload_n 2, 1) := by decide +kernel
theorem dX5_current_37 : decode cX5_current 37 = .ok (.aaload, 1) := by decide +kernel
theorem dX5_current_38 : decode cX5_current 38 = .ok (.getfield 42, 3) := by decide +kernel
theorem dX5_current_41 : decode cX5_current 41 = .ok (.ireturn, 1) := by decide +kernel
theorem dX5_current_42 : decode cX5_current 42 = .ok (.aload_n 0, 1) := by decide +kernel
theorem dX5_current_43 : decode cX5_current 43 = .ok (.getfield 24, 3) := by decide +kernel
theorem dX5_current_46 : decode cX5_current 46 = .ok (.ireturn, 1) := by decide +kernel
theorem dX5_current_47 : decode cX5_current 47 = .ok (.aload_n 0, 1) := by decide +kernel
theorem dX5_current_48 : decode cX5_current 48 = .ok (.getfield 9, 3) := by decide +kernel
theorem dX5_current_51 : decode cX5_current 51 = .ok (.iload_n 2, 1) := by decide +kernel
theorem dX5_current_52 : decode cX5_current 52 = .ok (.iaload, 1) := by decide +kernel
theorem dX5_current_53 : decode cX5_current 53 = .ok (.ireturn, 1) := by decide +kernel
theorem dX5_current_54 : decode cX5_current 54 = .ok (.aload_n 0, 1) := by decide +kernel
theorem dX5_current_55 : decode cX5_current 55 = .ok (.getfield 15, 3) := by decide +kernel
theorem dX5_current_58 : decode cX5_current 58 = .ok (.iload_n 2, 1) := by decide +kernel
theorem dX5_current_59 : decode cX5_current 59 = .ok (.iaload, 1) := by decide +kernel
theorem dX5_current_60 : decode cX5_current 60 = .ok (.ireturn, 1) := by decide +kernel
theorem dX5_current_61 : decode cX5_current 61 = .ok (.aload_n 0, 1) := by decide +kernel
theorem dX5_current_62 : decode cX5_current 62 = .ok (.getfield 20, 3) := by decide +kernel
theorem dX5_current_65 : decode cX5_current 65 = .ok (.iload_n 2, 1) := by decide +kernel
theorem dX5_current_66 : decode cX5_current 66 = .ok (.aaload, 1) := by decide +kernel
theorem dX5_current_67 : decode cX5_current 67 = .ok (.getfield 45, 3) := by decide +kernel
theorem dX5_current_70 : decode cX5_current 70 = .ok (.ireturn, 1) := by decide +kernel
theorem dX5_tell_0 : decode cX5_tell 0 = .ok (.iload_n 1, 1) := by decide +kernel
theorem dX5_tell_1 : decode cX5_tell 1 = .ok (.tableswitch 72 0 3 #[31, 44, 52, 62], 31) := by decide +kernel
theorem dX5_tell_32 : decode cX5_tell 32 = .ok (.aload_n 0, 1) := by decide +kernel
theorem dX5_tell_33 : decode cX5_tell 33 = .ok (.getfield 20, 3) := by decide +kernel
theorem dX5_tell_36 : decode cX5_tell 36 = .ok (.iload_n 2, 1) := by decide +kernel
theorem dX5_tell_37 : decode cX5_tell 37 = .ok (.aaload, 1) := by decide +kernel
theorem dX5_tell_38 : decode cX5_tell 38 = .ok (.iload_n 3, 1) := by decide +kernel
theorem dX5_tell_39 : decode cX5_tell 39 = .ok (.putfield 42, 3) := by decide +kernel
theorem dX5_tell_42 : decode cX5_tell 42 = .ok (.goto 41, 3) := by decide +kernel
theorem dX5_tell_45 : decode cX5_tell 45 = .ok (.aload_n 0, 1) := by decide +kernel
theorem dX5_tell_46 : decode cX5_tell 46 = .ok (.iload_n 3, 1) := by decide +kernel
theorem dX5_tell_47 : decode cX5_tell 47 = .ok (.putfield 24, 3) := by decide +kernel
theorem dX5_tell_50 : decode cX5_tell 50 = .ok (.goto 33, 3) := by decide +kernel
theorem dX5_tell_53 : decode cX5_tell 53 = .ok (.aload_n 0, 1) := by decide +kernel
theorem dX5_tell_54 : decode cX5_tell 54 = .ok (.getfield 9, 3) := by decide +kernel
theorem dX5_tell_57 : decode cX5_tell 57 = .ok (.iload_n 2, 1) := by decide +kernel
theorem dX5_tell_58 : decode cX5_tell 58 = .ok (.iload_n 3, 1) := by decide +kernel
theorem dX5_tell_59 : decode cX5_tell 59 = .ok (.iastore, 1) := by decide +kernel
theorem dX5_tell_60 : decode cX5_tell 60 = .ok (.goto 23, 3) := by decide +kernel
theorem dX5_tell_63 : decode cX5_tell 63 = .ok (.aload_n 0, 1) := by decide +kernel
theorem dX5_tell_64 : decode cX5_tell 64 = .ok (.getfield 15, 3) := by decide +kernel
theorem dX5_tell_67 : decode cX5_tell 67 = .ok (.iload_n 2, 1) := by decide +kernel
theorem dX5_tell_68 : decode cX5_tell 68 = .ok (.iload_n 3, 1) := by decide +kernel
theorem dX5_tell_69 : decode cX5_tell 69 = .ok (.iastore, 1) := by decide +kernel
theorem dX5_tell_70 : decode cX5_tell 70 = .ok (.goto 13, 3) := by decide +kernel
theorem dX5_tell_73 : decode cX5_tell 73 = .ok (.aload_n 0, 1) := by decide +kernel
theorem dX5_tell_74 : decode cX5_tell 74 = .ok (.getfield 20, 3) := by decide +kernel
theorem dX5_tell_77 : decode cX5_tell 77 = .ok (.iload_n 2, 1) := by decide +kernel
theorem dX5_tell_78 : decode cX5_tell 78 = .ok (.aaload, 1) := by decide +kernel
theorem dX5_tell_79 : decode cX5_tell 79 = .ok (.iload_n 3, 1) := by decide +kernel
theorem dX5_tell_80 : decode cX5_tell 80 = .ok (.putfield 45, 3) := by decide +kernel
theorem dX5_tell_83 : decode cX5_tell 83 = .ok (.return_, 1) := by decide +kernel
theorem dX6_init_0 : decode cX6_init 0 = .ok (.aload_n 0, 1) := by decide +kernel
theorem dX6_init_1 : decode cX6_init 1 = .ok (.invokespecial 3, 3) := by decide +kernel
theorem dX6_init_4 : decode cX6_init 4 = .ok (.aload_n 0, 1) := by decide +kernel
theorem dX6_init_5 : decode cX6_init 5 = .ok (.bipush 91, 2) := by decide +kernel
theorem dX6_init_7 : decode cX6_init 7 = .ok (.newarray .long, 2) := by decide +kernel
theorem dX6_init_9 : decode cX6_init 9 = .ok (.putfield 9, 3) := by decide +kernel
theorem dX6_init_12 : decode cX6_init 12 = .ok (.aload_n 0, 1) := by decide +kernel
theorem dX6_init_13 : decode cX6_init 13 = .ok (.bipush 91, 2) := by decide +kernel
theorem dX6_init_15 : decode cX6_init 15 = .ok (.newarray .long, 2) := by decide +kernel
theorem dX6_init_17 : decode cX6_init 17 = .ok (.putfield 15, 3) := by decide +kernel
theorem dX6_init_20 : decode cX6_init 20 = .ok (.aload_n 0, 1) := by decide +kernel
theorem dX6_init_21 : decode cX6_init 21 = .ok (.aload_n 1, 1) := by decide +kernel
theorem dX6_init_22 : decode cX6_init 22 = .ok (.putfield 18, 3) := by decide +kernel
theorem dX6_init_25 : decode cX6_init 25 = .ok (.return_, 1) := by decide +kernel
theorem dX6_comingTo_0 : decode cX6_comingTo 0 = .ok (.aload_n 0, 1) := by decide +kernel
theorem dX6_comingTo_1 : decode cX6_comingTo 1 = .ok (.getfield 9, 3) := by decide +kernel
theorem dX6_comingTo_4 : decode cX6_comingTo 4 = .ok (.iload_n 1, 1) := by decide +kernel
theorem dX6_comingTo_5 : decode cX6_comingTo 5 = .ok (.laload, 1) := by decide +kernel
theorem dX6_comingTo_6 : decode cX6_comingTo 6 = .ok (.aload_n 0, 1) := by decide +kernel
theorem dX6_comingTo_7 : decode cX6_comingTo 7 = .ok (.getfield 15, 3) := by decide +kernel
theorem dX6_comingTo_10 : decode cX6_comingTo 10 = .ok (.iload_n 1, 1) := by decide +kernel
theorem dX6_comingTo_11 : decode cX6_comingTo 11 = .ok (.laload, 1) := by decide +kernel
theorem dX6_comingTo_12 : decode cX6_comingTo 12 = .ok (.ladd, 1) := by decide +kernel
theorem dX6_comingTo_13 : decode cX6_comingTo 13 = .ok (.lreturn, 1) := by decide +kernel
theorem dX6_follow_0 : decode cX6_follow 0 = .ok (.iconst 0, 1) := by decide +kernel
theorem dX6_follow_1 : decode cX6_follow 1 = .ok (.istore_n 3, 1) := by decide +kernel
theorem dX6_follow_2 : decode cX6_follow 2 = .ok (.iload_n 3, 1) := by decide +kernel
theorem dX6_follow_3 : decode cX6_follow 3 = .ok (.bipush 91, 2) := by decide +kernel
theorem dX6_follow_5 : decode cX6_follow 5 = .ok (.if_icmp .ge 23, 3) := by decide +kernel
theorem dX6_follow_8 : decode cX6_follow 8 = .ok (.aload_n 0, 1) := by decide +kernel
theorem dX6_follow_9 : decode cX6_follow 9 = .ok (.getfield 9, 3) := by decide +kernel
theorem dX6_follow_12 : decode cX6_follow 12 = .ok (.iload_n 3, 1) := by decide +kernel
theorem dX6_follow_13 : decode cX6_follow 13 = .ok (.lconst 0, 1) := by decide +kernel
theorem dX6_follow_14 : decode cX6_follow 14 = .ok (.lastore, 1) := by decide +kernel
theorem dX6_follow_15 : decode cX6_follow 15 = .ok (.aload_n 0, 1) := by decide +kernel
theorem dX6_follow_16 : decode cX6_follow 16 = .ok (.getfield 15, 3) := by decide +kernel
theorem dX6_follow_19 : decode cX6_follow 19 = .ok (.iload_n 3, 1) := by decide +kernel
theorem dX6_follow_20 : decode cX6_follow 20 = .ok (.lconst 0, 1) := by decide +kernel
theorem dX6_follow_21 : decode cX6_follow 21 = .ok (.lastore, 1) := by decide +kernel
theorem dX6_follow_22 : decode cX6_follow 22 = .ok (.iinc 3 1, 3) := by decide +kernel
theorem dX6_follow_25 : decode cX6_follow 25 = .ok (.goto (-23), 3) := by decide +kernel
theorem dX6_follow_28 : decode cX6_follow 28 = .ok (.aload_n 0, 1) := by decide +kernel
theorem dX6_follow_29 : decode cX6_follow 29 = .ok (.getfield 9, 3) := by decide +kernel
theorem dX6_follow_32 : decode cX6_follow 32 = .ok (.iconst 0, 1) := by decide +kernel
theorem dX6_follow_33 : decode cX6_follow 33 = .ok (.lconst 1, 1) := by decide +kernel
theorem dX6_follow_34 : decode cX6_follow 34 = .ok (.lastore, 1) := by decide +kernel
theorem dX6_follow_35 : decode cX6_follow 35 = .ok (.iconst 0, 1) := by decide +kernel
theorem dX6_follow_36 : decode cX6_follow 36 = .ok (.istore_n 3, 1) := by decide +kernel
theorem dX6_follow_37 : decode cX6_follow 37 = .ok (.iload_n 3, 1) := by decide +kernel
theorem dX6_follow_38 : decode cX6_follow 38 = .ok (.aload_n 0, 1) := by decide +kernel
theorem dX6_follow_39 : decode cX6_follow 39 = .ok (.getfield 18, 3) := by decide +kernel
theorem dX6_follow_42 : decode cX6_follow 42 = .ok (.getfield 22, 3) := by decide +kernel
theorem dX6_follow_45 : decode cX6_follow 45 = .ok (.getfield 28, 3) := by decide +kernel
theorem dX6_follow_48 : decode cX6_follow 48 = .ok (.if_icmp .gt 37, 3) := by decide +kernel
theorem dX6_follow_51 : decode cX6_follow 51 = .ok (.iconst 0, 1) := by decide +kernel
theorem dX6_follow_52 : decode cX6_follow 52 = .ok (.istore 4, 2) := by decide +kernel
theorem dX6_follow_54 : decode cX6_follow 54 = .ok (.iload 4, 2) := by decide +kernel
theorem dX6_follow_56 : decode cX6_follow 56 = .ok (.iload_n 3, 1) := by decide +kernel
theorem dX6_follow_57 : decode cX6_follow 57 = .ok (.if_icmp .gt 22, 3) := by decide +kernel
theorem dX6_follow_60 : decode cX6_follow 60 = .ok (.aload_n 0, 1) := by decide +kernel
theorem dX6_follow_61 : decode cX6_follow 61 = .ok (.aload_n 1, 1) := by decide +kernel
theorem dX6_follow_62 : decode cX6_follow 62 = .ok (.iload_n 3, 1) := by decide +kernel
theorem dX6_follow_63 : decode cX6_follow 63 = .ok (.iload_n 3, 1) := by decide +kernel
theorem dX6_follow_64 : decode cX6_follow 64 = .ok (.iload 4, 2) := by decide +kernel
theorem dX6_follow_66 : decode cX6_follow 66 = .ok (.invokestatic 34, 3) := by decide +kernel
theorem dX6_follow_69 : decode cX6_follow 69 = .ok (.iload_n 2, 1) := by decide +kernel
theorem dX6_follow_70 : decode cX6_follow 70 = .ok (.invokevirtual 38, 3) := by decide +kernel
theorem dX6_follow_73 : decode cX6_follow 73 = .ok (.iinc 4 1, 3) := by decide +kernel
theorem dX6_follow_76 : decode cX6_follow 76 = .ok (.goto (-22), 3) := by decide +kernel
theorem dX6_follow_79 : decode cX6_follow 79 = .ok (.iinc 3 1, 3) := by decide +kernel
theorem dX6_follow_82 : decode cX6_follow 82 = .ok (.goto (-45), 3) := by decide +kernel
theorem dX6_follow_85 : decode cX6_follow 85 = .ok (.return_, 1) := by decide +kernel
theorem dX6_pass_0 : decode cX6_pass 0 = .ok (.aload_n 1, 1) := by decide +kernel
theorem dX6_pass_1 : decode cX6_pass 1 = .ok (.getfield 42, 3) := by decide +kernel
theorem dX6_pass_4 : decode cX6_pass 4 = .ok (.getfield 48, 3) := by decide +kernel
theorem dX6_pass_7 : decode cX6_pass 7 = .ok (.iload_n 3, 1) := by decide +kernel
theorem dX6_pass_8 : decode cX6_pass 8 = .ok (.iaload, 1) := by decide +kernel
theorem dX6_pass_9 : decode cX6_pass 9 = .ok (.iconst 3, 1) := by decide +kernel
theorem dX6_pass_10 : decode cX6_pass 10 = .ok (.if_icmp .ne 25, 3) := by decide +kernel
theorem dX6_pass_13 : decode cX6_pass 13 = .ok (.aload_n 0, 1) := by decide +kernel
theorem dX6_pass_14 : decode cX6_pass 14 = .ok (.getfield 15, 3) := by decide +kernel
theorem dX6_pass_17 : decode cX6_pass 17 = .ok (.iload_n 3, 1) := by decide +kernel
theorem dX6_pass_18 : decode cX6_pass 18 = .ok (.dup2, 1) := by decide +kernel
theorem dX6_pass_19 : decode cX6_pass 19 = .ok (.laload, 1) := by decide +kernel
theorem dX6_pass_20 : decode cX6_pass 20 = .ok (.aload_n 0, 1) := by decide +kernel
theorem dX6_pass_21 : decode cX6_pass 21 = .ok (.getfield 9, 3) := by decide +kernel
theorem dX6_pass_24 : decode cX6_pass 24 = .ok (.iload_n 3, 1) := by decide +kernel
theorem dX6_pass_25 : decode cX6_pass 25 = .ok (.laload, 1) := by decide +kernel
theorem dX6_pass_26 : decode cX6_pass 26 = .ok (.ladd, 1) := by decide +kernel
theorem dX6_pass_27 : decode cX6_pass 27 = .ok (.lastore, 1) := by decide +kernel
theorem dX6_pass_28 : decode cX6_pass 28 = .ok (.aload_n 0, 1) := by decide +kernel
theorem dX6_pass_29 : decode cX6_pass 29 = .ok (.getfield 9, 3) := by decide +kernel
theorem dX6_pass_32 : decode cX6_pass 32 = .ok (.iload_n 3, 1) := by decide +kernel
theorem dX6_pass_33 : decode cX6_pass 33 = .ok (.lconst 0, 1) := by decide +kernel
theorem dX6_pass_34 : decode cX6_pass 34 = .ok (.lastore, 1) := by decide +kernel
theorem dX6_pass_35 : decode cX6_pass 35 = .ok (.iload_n 2, 1) := by decide +kernel
theorem dX6_pass_36 : decode cX6_pass 36 = .ok (.aload_n 0, 1) := by decide +kernel
theorem dX6_pass_37 : decode cX6_pass 37 = .ok (.getfield 18, 3) := by decide +kernel
theorem dX6_pass_40 : decode cX6_pass 40 = .ok (.getfield 22, 3) := by decide +kernel
theorem dX6_pass_43 : decode cX6_pass 43 = .ok (.getfield 28, 3) := by decide +kernel
theorem dX6_pass_46 : decode cX6_pass 46 = .ok (.if_icmp .lt 4, 3) := by decide +kernel
theorem dX6_pass_49 : decode cX6_pass 49 = .ok (.return_, 1) := by decide +kernel
theorem dX6_pass_50 : decode cX6_pass 50 = .ok (.iload 4, 2) := by decide +kernel
theorem dX6_pass_52 : decode cX6_pass 52 = .ok (.ifCond .eq 7, 3) := by decide +kernel
theorem dX6_pass_55 : decode cX6_pass 55 = .ok (.iconst 1, 1) := by decide +kernel
theorem dX6_pass_56 : decode cX6_pass 56 = .ok (.goto 17, 3) := by decide +kernel
theorem dX6_pass_59 : decode cX6_pass 59 = .ok (.aload_n 0, 1) := by decide +kernel
theorem dX6_pass_60 : decode cX6_pass 60 = .ok (.getfield 18, 3) := by decide +kernel
theorem dX6_pass_63 : decode cX6_pass 63 = .ok (.getfield 22, 3) := by decide +kernel
theorem dX6_pass_66 : decode cX6_pass 66 = .ok (.getfield 54, 3) := by decide +kernel
theorem dX6_pass_69 : decode cX6_pass 69 = .ok (.iload_n 2, 1) := by decide +kernel
theorem dX6_pass_70 : decode cX6_pass 70 = .ok (.iconst 1, 1) := by decide +kernel
theorem dX6_pass_71 : decode cX6_pass 71 = .ok (.iadd, 1) := by decide +kernel
theorem dX6_pass_72 : decode cX6_pass 72 = .ok (.iaload, 1) := by decide +kernel
theorem dX6_pass_73 : decode cX6_pass 73 = .ok (.istore 5, 2) := by decide +kernel
theorem dX6_pass_75 : decode cX6_pass 75 = .ok (.iload 4, 2) := by decide +kernel
theorem dX6_pass_77 : decode cX6_pass 77 = .ok (.ifCond .eq 7, 3) := by decide +kernel
theorem dX6_pass_80 : decode cX6_pass 80 = .ok (.iconst 1, 1) := by decide +kernel
theorem dX6_pass_81 : decode cX6_pass 81 = .ok (.goto 16, 3) := by decide +kernel
theorem dX6_pass_84 : decode cX6_pass 84 = .ok (.aload_n 0, 1) := by decide +kernel
theorem dX6_pass_85 : decode cX6_pass 85 = .ok (.getfield 18, 3) := by decide +kernel
theorem dX6_pass_88 : decode cX6_pass 88 = .ok (.getfield 22, 3) := by decide +kernel
theorem dX6_pass_91 : decode cX6_pass 91 = .ok (.getfield 57, 3) := by decide +kernel
theorem dX6_pass_94 : decode cX6_pass 94 = .ok (.iload 5, 2) := by decide +kernel
theorem dX6_pass_96 : decode cX6_pass 96 = .ok (.isub, 1) := by decide +kernel
theorem dX6_pass_97 : decode cX6_pass 97 = .ok (.istore 6, 2) := by decide +kernel
theorem dX6_pass_99 : decode cX6_pass 99 = .ok (.aload_n 0, 1) := by decide +kernel
theorem dX6_pass_100 : decode cX6_pass 100 = .ok (.aload_n 1, 1) := by decide +kernel
theorem dX6_pass_101 : decode cX6_pass 101 = .ok (.getfield 42, 3) := by decide +kernel
theorem dX6_pass_104 : decode cX6_pass 104 = .ok (.getfield 48, 3) := by decide +kernel
theorem dX6_pass_107 : decode cX6_pass 107 = .ok (.iload_n 3, 1) := by decide +kernel
theorem dX6_pass_108 : decode cX6_pass 108 = .ok (.iaload, 1) := by decide +kernel
theorem dX6_pass_109 : decode cX6_pass 109 = .ok (.iload_n 2, 1) := by decide +kernel
theorem dX6_pass_110 : decode cX6_pass 110 = .ok (.invokevirtual 60, 3) := by decide +kernel
theorem dX6_pass_113 : decode cX6_pass 113 = .ok (.iconst (-1), 1) := by decide +kernel
theorem dX6_pass_114 : decode cX6_pass 114 = .ok (.if_icmp .ne 57, 3) := by decide +kernel
theorem dX6_pass_117 : decode cX6_pass 117 = .ok (.aload_n 0, 1) := by decide +kernel
theorem dX6_pass_118 : decode cX6_pass 118 = .ok (.getfield 9, 3) := by decide +kernel
theorem dX6_pass_121 : decode cX6_pass 121 = .ok (.aload_n 0, 1) := by decide +kernel
theorem dX6_pass_122 : decode cX6_pass 122 = .ok (.getfield 18, 3) := by decide +kernel
theorem dX6_pass_125 : decode cX6_pass 125 = .ok (.iload_n 2, 1) := by decide +kernel
theorem dX6_pass_126 : decode cX6_pass 126 = .ok (.iload_n 3, 1) := by decide +kernel
theorem dX6_pass_127 : decode cX6_pass 127 = .ok (.invokevirtual 63, 3) := by decide +kernel
theorem dX6_pass_130 : decode cX6_pass 130 = .ok (.dup2, 1) := by decide +kernel
theorem dX6_pass_131 : decode cX6_pass 131 = .ok (.laload, 1) := by decide +kernel
theorem dX6_pass_132 : decode cX6_pass 132 = .ok (.aload_n 0, 1) := by decide +kernel
theorem dX6_pass_133 : decode cX6_pass 133 = .ok (.getfield 9, 3) := by decide +kernel
theorem dX6_pass_136 : decode cX6_pass 136 = .ok (.iload_n 3, 1) := by decide +kernel
theorem dX6_pass_137 : decode cX6_pass 137 = .ok (.laload, 1) := by decide +kernel
theorem dX6_pass_138 : decode cX6_pass 138 = .ok (.iload 5, 2) := by decide +kernel
theorem dX6_pass_140 : decode cX6_pass 140 = .ok (.i2l, 1) := by decide +kernel
theorem dX6_pass_141 : decode cX6_pass 141 = .ok (.lmul, 1) := by decide +kernel
theorem dX6_pass_142 : decode cX6_pass 142 = .ok (.ladd, 1) := by decide +kernel
theorem dX6_pass_143 : decode cX6_pass 143 = .ok (.lastore, 1) := by decide +kernel
theorem dX6_pass_144 : decode cX6_pass 144 = .ok (.aload_n 0, 1) := by decide +kernel
theorem dX6_pass_145 : decode cX6_pass 145 = .ok (.getfield 9, 3) := by decide +kernel
theorem dX6_pass_148 : decode cX6_pass 148 = .ok (.aload_n 0, 1) := by decide +kernel
theorem dX6_pass_149 : decode cX6_pass 149 = .ok (.getfield 18, 3) := by decide +kernel
theorem dX6_pass_152 : decode cX6_pass 152 = .ok (.iload_n 2, 1) := by decide +kernel
theorem dX6_pass_153 : decode cX6_pass 153 = .ok (.iload_n 3, 1) := by decide +kernel
theorem dX6_pass_154 : decode cX6_pass 154 = .ok (.invokevirtual 66, 3) := by decide +kernel
theorem dX6_pass_157 : decode cX6_pass 157 = .ok (.dup2, 1) := by decide +kernel
theorem dX6_pass_158 : decode cX6_pass 158 = .ok (.laload, 1) := by decide +kernel
theorem dX6_pass_159 : decode cX6_pass 159 = .ok (.aload_n 0, 1) := by decide +kernel
theorem dX6_pass_160 : decode cX6_pass 160 = .ok (.getfield 9, 3) := by decide +kernel
theorem dX6_pass_163 : decode cX6_pass 163 = .ok (.iload_n 3, 1) := by decide +kernel
theorem dX6_pass_164 : decode cX6_pass 164 = .ok (.laload, 1) := by decide +kernel
theorem dX6_pass_165 : decode cX6_pass 165 = .ok (.iload 6, 2) := by decide +kernel
theorem dX6_pass_167 : decode cX6_pass 167 = .ok (.i2l, 1) := by decide +kernel
theorem dX6_pass_168 : decode cX6_pass 168 = .ok (.lmul, 1) := by decide +kernel
theorem dX6_pass_169 : decode cX6_pass 169 = .ok (.ladd, 1) := by decide +kernel
theorem dX6_pass_170 : decode cX6_pass 170 = .ok (.lastore, 1) := by decide +kernel
theorem dX6_pass_171 : decode cX6_pass 171 = .ok (.aload_n 0, 1) := by decide +kernel
theorem dX6_pass_172 : decode cX6_pass 172 = .ok (.aload_n 1, 1) := by decide +kernel
theorem dX6_pass_173 : decode cX6_pass 173 = .ok (.getfield 69, 3) := by decide +kernel
theorem dX6_pass_176 : decode cX6_pass 176 = .ok (.getfield 48, 3) := by decide +kernel
theorem dX6_pass_179 : decode cX6_pass 179 = .ok (.iload_n 3, 1) := by decide +kernel
theorem dX6_pass_180 : decode cX6_pass 180 = .ok (.iaload, 1) := by decide +kernel
theorem dX6_pass_181 : decode cX6_pass 181 = .ok (.iload_n 2, 1) := by decide +kernel
theorem dX6_pass_182 : decode cX6_pass 182 = .ok (.invokevirtual 60, 3) := by decide +kernel
theorem dX6_pass_185 : decode cX6_pass 185 = .ok (.iconst (-1), 1) := by decide +kernel
theorem dX6_pass_186 : decode cX6_pass 186 = .ok (.if_icmp .ne 57, 3) := by decide +kernel
theorem dX6_pass_189 : decode cX6_pass 189 = .ok (.aload_n 0, 1) := by decide +kernel
theorem dX6_pass_190 : decode cX6_pass 190 = .ok (.getfield 15, 3) := by decide +kernel
theorem dX6_pass_193 : decode cX6_pass 193 = .ok (.aload_n 0, 1) := by decide +kernel
theorem dX6_pass_194 : decode cX6_pass 194 = .ok (.getfield 18, 3) := by decide +kernel
theorem dX6_pass_197 : decode cX6_pass 197 = .ok (.iload_n 2, 1) := by decide +kernel
theorem dX6_pass_198 : decode cX6_pass 198 = .ok (.iload_n 3, 1) := by decide +kernel
theorem dX6_pass_199 : decode cX6_pass 199 = .ok (.invokevirtual 63, 3) := by decide +kernel
theorem dX6_pass_202 : decode cX6_pass 202 = .ok (.dup2, 1) := by decide +kernel
theorem dX6_pass_203 : decode cX6_pass 203 = .ok (.laload, 1) := by decide +kernel
theorem dX6_pass_204 : decode cX6_pass 204 = .ok (.aload_n 0, 1) := by decide +kernel
theorem dX6_pass_205 : decode cX6_pass 205 = .ok (.getfield 15, 3) := by decide +kernel
theorem dX6_pass_208 : decode cX6_pass 208 = .ok (.iload_n 3, 1) := by decide +kernel
theorem dX6_pass_209 : decode cX6_pass 209 = .ok (.laload, 1) := by decide +kernel
theorem dX6_pass_210 : decode cX6_pass 210 = .ok (.iload 5, 2) := by decide +kernel
theorem dX6_pass_212 : decode cX6_pass 212 = .ok (.i2l, 1) := by decide +kernel
theorem dX6_pass_213 : decode cX6_pass 213 = .ok (.lmul, 1) := by decide +kernel
theorem dX6_pass_214 : decode cX6_pass 214 = .ok (.ladd, 1) := by decide +kernel
theorem dX6_pass_215 : decode cX6_pass 215 = .ok (.lastore, 1) := by decide +kernel
theorem dX6_pass_216 : decode cX6_pass 216 = .ok (.aload_n 0, 1) := by decide +kernel
theorem dX6_pass_217 : decode cX6_pass 217 = .ok (.getfield 15, 3) := by decide +kernel
theorem dX6_pass_220 : decode cX6_pass 220 = .ok (.aload_n 0, 1) := by decide +kernel
theorem dX6_pass_221 : decode cX6_pass 221 = .ok (.getfield 18, 3) := by decide +kernel
theorem dX6_pass_224 : decode cX6_pass 224 = .ok (.iload_n 2, 1) := by decide +kernel
theorem dX6_pass_225 : decode cX6_pass 225 = .ok (.iload_n 3, 1) := by decide +kernel
theorem dX6_pass_226 : decode cX6_pass 226 = .ok (.invokevirtual 66, 3) := by decide +kernel
theorem dX6_pass_229 : decode cX6_pass 229 = .ok (.dup2, 1) := by decide +kernel
theorem dX6_pass_230 : decode cX6_pass 230 = .ok (.laload, 1) := by decide +kernel
theorem dX6_pass_231 : decode cX6_pass 231 = .ok (.aload_n 0, 1) := by decide +kernel
theorem dX6_pass_232 : decode cX6_pass 232 = .ok (.getfield 15, 3) := by decide +kernel
theorem dX6_pass_235 : decode cX6_pass 235 = .ok (.iload_n 3, 1) := by decide +kernel
theorem dX6_pass_236 : decode cX6_pass 236 = .ok (.laload, 1) := by decide +kernel
theorem dX6_pass_237 : decode cX6_pass 237 = .ok (.iload 6, 2) := by decide +kernel
theorem dX6_pass_239 : decode cX6_pass 239 = .ok (.i2l, 1) := by decide +kernel
theorem dX6_pass_240 : decode cX6_pass 240 = .ok (.lmul, 1) := by decide +kernel
theorem dX6_pass_241 : decode cX6_pass 241 = .ok (.ladd, 1) := by decide +kernel
theorem dX6_pass_242 : decode cX6_pass 242 = .ok (.lastore, 1) := by decide +kernel
theorem dX6_pass_243 : decode cX6_pass 243 = .ok (.return_, 1) := by decide +kernel
theorem dX6_endOf_0 : decode cX6_endOf 0 = .ok (.iload_n 1, 1) := by decide +kernel
theorem dX6_endOf_1 : decode cX6_endOf 1 = .ok (.tableswitch 37 1 4 #[31, 33, 37, 35], 31) := by decide +kernel
theorem dX6_endOf_32 : decode cX6_endOf 32 = .ok (.iconst 0, 1) := by decide +kernel
theorem dX6_endOf_33 : decode cX6_endOf 33 = .ok (.ireturn, 1) := by decide +kernel
theorem dX6_endOf_34 : decode cX6_endOf 34 = .ok (.iconst 1, 1) := by decide +kernel
theorem dX6_endOf_35 : decode cX6_endOf 35 = .ok (.ireturn, 1) := by decide +kernel
theorem dX6_endOf_36 : decode cX6_endOf 36 = .ok (.iconst 3, 1) := by decide +kernel
theorem dX6_endOf_37 : decode cX6_endOf 37 = .ok (.ireturn, 1) := by decide +kernel
theorem dX6_endOf_38 : decode cX6_endOf 38 = .ok (.iload_n 2, 1) := by decide +kernel
theorem dX6_endOf_39 : decode cX6_endOf 39 = .ok (.aload_n 0, 1) := by decide +kernel
theorem dX6_endOf_40 : decode cX6_endOf 40 = .ok (.getfield 18, 3) := by decide +kernel
theorem dX6_endOf_43 : decode cX6_endOf 43 = .ok (.getfield 22, 3) := by decide +kernel
theorem dX6_endOf_46 : decode cX6_endOf 46 = .ok (.getfield 28, 3) := by decide +kernel
theorem dX6_endOf_49 : decode cX6_endOf 49 = .ok (.if_icmp .ne 7, 3) := by decide +kernel
theorem dX6_endOf_52 : decode cX6_endOf 52 = .ok (.iconst 2, 1) := by decide +kernel
theorem dX6_endOf_53 : decode cX6_endOf 53 = .ok (.goto 4, 3) := by decide +kernel
theorem dX6_endOf_56 : decode cX6_endOf 56 = .ok (.iconst (-1), 1) := by decide +kernel
theorem dX6_endOf_57 : decode cX6_endOf 57 = .ok (.ireturn, 1) := by decide +kernel
theorem dX6_endingAt_0 : decode cX6_endingAt 0 = .ok (.lconst 0, 1) := by decide +kernel
theorem dX6_endingAt_1 : decode cX6_endingAt 1 = .ok (.lstore 4, 2) := by decide +kernel
theorem dX6_endingAt_3 : decode cX6_endingAt 3 = .ok (.iconst 0, 1) := by decide +kernel
theorem dX6_endingAt_4 : decode cX6_endingAt 4 = .ok (.istore 6, 2) := by decide +kernel
theorem dX6_endingAt_6 : decode cX6_endingAt 6 = .ok (.iload 6, 2) := by decide +kernel
theorem dX6_endingAt_8 : decode cX6_endingAt 8 = .ok (.iload_n 2, 1) := by decide +kernel
theorem dX6_endingAt_9 : decode cX6_endingAt 9 = .ok (.if_icmp .gt 79, 3) := by decide +kernel
theorem dX6_endingAt_12 : decode cX6_endingAt 12 = .ok (.iload_n 2, 1) := by decide +kernel
theorem dX6_endingAt_13 : decode cX6_endingAt 13 = .ok (.iload 6, 2) := by decide +kernel
theorem dX6_endingAt_15 : decode cX6_endingAt 15 = .ok (.invokestatic 34, 3) := by decide +kernel
theorem dX6_endingAt_18 : decode cX6_endingAt 18 = .ok (.istore 7, 2) := by decide +kernel
theorem dX6_endingAt_20 : decode cX6_endingAt 20 = .ok (.aload_n 0, 1) := by decide +kernel
theorem dX6_endingAt_21 : decode cX6_endingAt 21 = .ok (.aload_n 1, 1) := by decide +kernel
theorem dX6_endingAt_22 : decode cX6_endingAt 22 = .ok (.getfield 42, 3) := by decide +kernel
theorem dX6_endingAt_25 : decode cX6_endingAt 25 = .ok (.getfield 48, 3) := by decide +kernel
theorem dX6_endingAt_28 : decode cX6_endingAt 28 = .ok (.iload 7, 2) := by decide +kernel
theorem dX6_endingAt_30 : decode cX6_endingAt 30 = .ok (.iaload, 1) := by decide +kernel
theorem dX6_endingAt_31 : decode cX6_endingAt 31 = .ok (.iload_n 2, 1) := by decide +kernel
theorem dX6_endingAt_32 : decode cX6_endingAt 32 = .ok (.invokevirtual 60, 3) := by decide +kernel
theorem dX6_endingAt_35 : decode cX6_endingAt 35 = .ok (.iload_n 3, 1) := by decide +kernel
theorem dX6_endingAt_36 : decode cX6_endingAt 36 = .ok (.if_icmp .ne 15, 3) := by decide +kernel
theorem dX6_endingAt_39 : decode cX6_endingAt 39 = .ok (.lload 4, 2) := by decide +kernel
theorem dX6_endingAt_41 : decode cX6_endingAt 41 = .ok (.aload_n 0, 1) := by decide +kernel
theorem dX6_endingAt_42 : decode cX6_endingAt 42 = .ok (.getfield 9, 3) := by decide +kernel
theorem dX6_endingAt_45 : decode cX6_endingAt 45 = .ok (.iload 7, 2) := by decide +kernel
theorem dX6_endingAt_47 : decode cX6_endingAt 47 = .ok (.laload, 1) := by decide +kernel
theorem dX6_endingAt_48 : decode cX6_endingAt 48 = .ok (.ladd, 1) := by decide +kernel
theorem dX6_endingAt_49 : decode cX6_endingAt 49 = .ok (.lstore 4, 2) := by decide +kernel
theorem dX6_endingAt_51 : decode cX6_endingAt 51 = .ok (.aload_n 0, 1) := by decide +kernel
theorem dX6_endingAt_52 : decode cX6_endingAt 52 = .ok (.aload_n 1, 1) := by decide +kernel
theorem dX6_endingAt_53 : decode cX6_endingAt 53 = .ok (.getfield 69, 3) := by decide +kernel
theorem dX6_endingAt_56 : decode cX6_endingAt 56 = .ok (.getfield 48, 3) := by decide +kernel
theorem dX6_endingAt_59 : decode cX6_endingAt 59 = .ok (.iload 7, 2) := by decide +kernel
theorem dX6_endingAt_61 : decode cX6_endingAt 61 = .ok (.iaload, 1) := by decide +kernel
theorem dX6_endingAt_62 : decode cX6_endingAt 62 = .ok (.iload_n 2, 1) := by decide +kernel
theorem dX6_endingAt_63 : decode cX6_endingAt 63 = .ok (.invokevirtual 60, 3) := by decide +kernel
theorem dX6_endingAt_66 : decode cX6_endingAt 66 = .ok (.iload_n 3, 1) := by decide +kernel
theorem dX6_endingAt_67 : decode cX6_endingAt 67 = .ok (.if_icmp .ne 15, 3) := by decide +kernel
theorem dX6_endingAt_70 : decode cX6_endingAt 70 = .ok (.lload 4, 2) := by decide +kernel
theorem dX6_endingAt_72 : decode cX6_endingAt 72 = .ok (.aload_n 0, 1) := by decide +kernel
theorem dX6_endingAt_73 : decode cX6_endingAt 73 = .ok (.getfield 15, 3) := by decide +kernel
theorem dX6_endingAt_76 : decode cX6_endingAt 76 = .ok (.iload 7, 2) := by decide +kernel
theorem dX6_endingAt_78 : decode cX6_endingAt 78 = .ok (.laload, 1) := by decide +kernel
theorem dX6_endingAt_79 : decode cX6_endingAt 79 = .ok (.ladd, 1) := by decide +kernel
theorem dX6_endingAt_80 : decode cX6_endingAt 80 = .ok (.lstore 4, 2) := by decide +kernel
theorem dX6_endingAt_82 : decode cX6_endingAt 82 = .ok (.iinc 6 1, 3) := by decide +kernel
theorem dX6_endingAt_85 : decode cX6_endingAt 85 = .ok (.goto (-79), 3) := by decide +kernel
theorem dX6_endingAt_88 : decode cX6_endingAt 88 = .ok (.lload 4, 2) := by decide +kernel
theorem dX6_endingAt_90 : decode cX6_endingAt 90 = .ok (.lreturn, 1) := by decide +kernel
theorem dX6_lifeOf_0 : decode cX6_lifeOf 0 = .ok (.lconst 0, 1) := by decide +kernel
theorem dX6_lifeOf_1 : decode cX6_lifeOf 1 = .ok (.lstore_n 2, 1) := by decide +kernel
theorem dX6_lifeOf_2 : decode cX6_lifeOf 2 = .ok (.iconst 1, 1) := by decide +kernel
theorem dX6_lifeOf_3 : decode cX6_lifeOf 3 = .ok (.istore 4, 2) := by decide +kernel
theorem dX6_lifeOf_5 : decode cX6_lifeOf 5 = .ok (.iload 4, 2) := by decide +kernel
theorem dX6_lifeOf_7 : decode cX6_lifeOf 7 = .ok (.aload_n 0, 1) := by decide +kernel
theorem dX6_lifeOf_8 : decode cX6_lifeOf 8 = .ok (.getfield 18, 3) := by decide +kernel
theorem dX6_lifeOf_11 : decode cX6_lifeOf 11 = .ok (.getfield 22, 3) := by decide +kernel
theorem dX6_lifeOf_14 : decode cX6_lifeOf 14 = .ok (.getfield 28, 3) := by decide +kernel
theorem dX6_lifeOf_17 : decode cX6_lifeOf 17 = .ok (.if_icmp .gt 50, 3) := by decide +kernel
theorem dX6_lifeOf_20 : decode cX6_lifeOf 20 = .ok (.iconst 0, 1) := by decide +kernel
theorem dX6_lifeOf_21 : decode cX6_lifeOf 21 = .ok (.istore 5, 2) := by decide +kernel
theorem dX6_lifeOf_23 : decode cX6_lifeOf 23 = .ok (.iload 5, 2) := by decide +kernel
theorem dX6_lifeOf_25 : decode cX6_lifeOf 25 = .ok (.iconst 4, 1) := by decide +kernel
theorem dX6_lifeOf_26 : decode cX6_lifeOf 26 = .ok (.if_icmp .ge 35, 3) := by decide +kernel
theorem dX6_lifeOf_29 : decode cX6_lifeOf 29 = .ok (.lload_n 2, 1) := by decide +kernel
theorem dX6_lifeOf_30 : decode cX6_lifeOf 30 = .ok (.iload 4, 2) := by decide +kernel
theorem dX6_lifeOf_32 : decode cX6_lifeOf 32 = .ok (.i2l, 1) := by decide +kernel
theorem dX6_lifeOf_33 : decode cX6_lifeOf 33 = .ok (.aload_n 0, 1) := by decide +kernel
theorem dX6_lifeOf_34 : decode cX6_lifeOf 34 = .ok (.aload_n 1, 1) := by decide +kernel
theorem dX6_lifeOf_35 : decode cX6_lifeOf 35 = .ok (.iload 4, 2) := by decide +kernel
theorem dX6_lifeOf_37 : decode cX6_lifeOf 37 = .ok (.iload 5, 2) := by decide +kernel
theorem dX6_lifeOf_39 : decode cX6_lifeOf 39 = .ok (.invokevirtual 72, 3) := by decide +kernel
theorem dX6_lifeOf_42 : decode cX6_lifeOf 42 = .ok (.lmul, 1) := by decide +kernel
theorem dX6_lifeOf_43 : decode cX6_lifeOf 43 = .ok (.aload_n 0, 1) := by decide +kernel
theorem dX6_lifeOf_44 : decode cX6_lifeOf 44 = .ok (.getfield 18, 3) := by decide +kernel
theorem dX6_lifeOf_47 : decode cX6_lifeOf 47 = .ok (.iload 4, 2) := by decide +kernel
theorem dX6_lifeOf_49 : decode cX6_lifeOf 49 = .ok (.invokevirtual 76, 3) := by decide +kernel
theorem dX6_lifeOf_52 : decode cX6_lifeOf 52 = .ok (.lmul, 1) := by decide +kernel
theorem dX6_lifeOf_53 : decode cX6_lifeOf 53 = .ok (.ladd, 1) := by decide +kernel
theorem dX6_lifeOf_54 : decode cX6_lifeOf 54 = .ok (.lstore_n 2, 1) := by decide +kernel
theorem dX6_lifeOf_55 : decode cX6_lifeOf 55 = .ok (.iinc 5 1, 3) := by decide +kernel
theorem dX6_lifeOf_58 : decode cX6_lifeOf 58 = .ok (.goto (-35), 3) := by decide +kernel
theorem dX6_lifeOf_61 : decode cX6_lifeOf 61 = .ok (.iinc 4 1, 3) := by decide +kernel
theorem dX6_lifeOf_64 : decode cX6_lifeOf 64 = .ok (.goto (-59), 3) := by decide +kernel
theorem dX6_lifeOf_67 : decode cX6_lifeOf 67 = .ok (.lload_n 2, 1) := by decide +kernel
theorem dX6_lifeOf_68 : decode cX6_lifeOf 68 = .ok (.lreturn, 1) := by decide +kernel
theorem dX7_init_0 : decode cX7_init 0 = .ok (.aload_n 0, 1) := by decide +kernel
theorem dX7_init_1 : decode cX7_init 1 = .ok (.invokespecial 3, 3) := by decide +kernel
theorem dX7_init_4 : decode cX7_init 4 = .ok (.aload_n 0, 1) := by decide +kernel
theorem dX7_init_5 : decode cX7_init 5 = .ok (.new 9, 3) := by decide +kernel
theorem dX7_init_8 : decode cX7_init 8 = .ok (.dup, 1) := by decide +kernel
theorem dX7_init_9 : decode cX7_init 9 = .ok (.invokespecial 11, 3) := by decide +kernel
theorem dX7_init_12 : decode cX7_init 12 = .ok (.putfield 12, 3) := by decide +kernel
theorem dX7_init_15 : decode cX7_init 15 = .ok (.aload_n 0, 1) := by decide +kernel
theorem dX7_init_16 : decode cX7_init 16 = .ok (.iconst 0, 1) := by decide +kernel
theorem dX7_init_17 : decode cX7_init 17 = .ok (.putfield 18, 3) := by decide +kernel
theorem dX7_init_20 : decode cX7_init 20 = .ok (.aload_n 0, 1) := by decide +kernel
theorem dX7_init_21 : decode cX7_init 21 = .ok (.iconst 0, 1) := by decide +kernel
theorem dX7_init_22 : decode cX7_init 22 = .ok (.putfield 22, 3) := by decide +kernel
theorem dX7_init_25 : decode cX7_init 25 = .ok (.aload_n 0, 1) := by decide +kernel
theorem dX7_init_26 : decode cX7_init 26 = .ok (.iconst 4, 1) := by decide +kernel
theorem dX7_init_27 : decode cX7_init 27 = .ok (.newarray .long, 2) := by decide +kernel
theorem dX7_init_29 : decode cX7_init 29 = .ok (.putfield 25, 3) := by decide +kernel
theorem dX7_init_32 : decode cX7_init 32 = .ok (.aload_n 0, 1) := by decide +kernel
theorem dX7_init_33 : decode cX7_init 33 = .ok (.iconst 0, 1) := by decide +kernel
theorem dX7_init_34 : decode cX7_init 34 = .ok (.putfield 29, 3) := by decide +kernel
theorem dX7_init_37 : decode cX7_init 37 = .ok (.aload_n 0, 1) := by decide +kernel
theorem dX7_init_38 : decode cX7_init 38 = .ok (.iconst 0, 1) := by decide +kernel
theorem dX7_init_39 : decode cX7_init 39 = .ok (.putfield 32, 3) := by decide +kernel
theorem dX7_init_42 : decode cX7_init 42 = .ok (.aload_n 0, 1) := by decide +kernel
theorem dX7_init_43 : decode cX7_init 43 = .ok (.iconst 0, 1) := by decide +kernel
theorem dX7_init_44 : decode cX7_init 44 = .ok (.putfield 35, 3) := by decide +kernel
theorem dX7_init_47 : decode cX7_init 47 = .ok (.aload_n 0, 1) := by decide +kernel
theorem dX7_init_48 : decode cX7_init 48 = .ok (.new 38, 3) := by decide +kernel
theorem dX7_init_51 : decode cX7_init 51 = .ok (.dup, 1) := by decide +kernel
theorem dX7_init_52 : decode cX7_init 52 = .ok (.aload_n 1, 1) := by decide +kernel
theorem dX7_init_53 : decode cX7_init 53 = .ok (.invokespecial 40, 3) := by decide +kernel
theorem dX7_init_56 : decode cX7_init 56 = .ok (.putfield 43, 3) := by decide +kernel
theorem dX7_init_59 : decode cX7_init 59 = .ok (.return_, 1) := by decide +kernel
theorem dX7_readText_0 : decode cX7_readText 0 = .ok (.aload_n 0, 1) := by decide +kernel
theorem dX7_readText_1 : decode cX7_readText 1 = .ok (.iconst 0, 1) := by decide +kernel
theorem dX7_readText_2 : decode cX7_readText 2 = .ok (.putfield 18, 3) := by decide +kernel
theorem dX7_readText_5 : decode cX7_readText 5 = .ok (.aload_n 0, 1) := by decide +kernel
theorem dX7_readText_6 : decode cX7_readText 6 = .ok (.iconst 0, 1) := by decide +kernel
theorem dX7_readText_7 : decode cX7_readText 7 = .ok (.putfield 22, 3) := by decide +kernel
theorem dX7_readText_10 : decode cX7_readText 10 = .ok (.aload_n 0, 1) := by decide +kernel
theorem dX7_readText_11 : decode cX7_readText 11 = .ok (.getfield 12, 3) := by decide +kernel
theorem dX7_readText_14 : decode cX7_readText 14 = .ok (.invokevirtual 47, 3) := by decide +kernel
theorem dX7_readText_17 : decode cX7_readText 17 = .ok (.aload_n 0, 1) := by decide +kernel
theorem dX7_readText_18 : decode cX7_readText 18 = .ok (.iconst 0, 1) := by decide +kernel
theorem dX7_readText_19 : decode cX7_readText 19 = .ok (.putfield 29, 3) := by decide +kernel
theorem dX7_readText_22 : decode cX7_readText 22 = .ok (.iload_n 1, 1) := by decide +kernel
theorem dX7_readText_23 : decode cX7_readText 23 = .ok (.sipush 500, 3) := by decide +kernel
theorem dX7_readText_26 : decode cX7_readText 26 = .ok (.if_icmp .le 12, 3) := by decide +kernel
theorem dX7_readText_29 : decode cX7_readText 29 = .ok (.aload_n 0, 1) := by decide +kernel
theorem dX7_readText_30 : decode cX7_readText 30 = .ok (.iconst 1, 1) := by decide +kernel
theorem dX7_readText_31 : decode cX7_readText 31 = .ok (.sipush 500, 3) := by decide +kernel
theorem dX7_readText_34 : decode cX7_readText 34 = .ok (.invokevirtual 50, 3) := by decide +kernel
theorem dX7_readText_37 : decode cX7_readText 37 = .ok (.ireturn, 1) := by decide +kernel
theorem dX7_readText_38 : decode cX7_readText 38 = .ok (.aload_n 0, 1) := by decide +kernel
theorem dX7_readText_39 : decode cX7_readText 39 = .ok (.getfield 43, 3) := by decide +kernel
theorem dX7_readText_42 : decode cX7_readText 42 = .ok (.iload_n 1, 1) := by decide +kernel
theorem dX7_readText_43 : decode cX7_readText 43 = .ok (.invokevirtual 54, 3) := by decide +kernel
theorem dX7_readText_46 : decode cX7_readText 46 = .ok (.iconst 0, 1) := by decide +kernel
theorem dX7_readText_47 : decode cX7_readText 47 = .ok (.istore_n 2, 1) := by decide +kernel
theorem dX7_readText_48 : decode cX7_readText 48 = .ok (.aload_n 0, 1) := by decide +kernel
theorem dX7_readText_49 : decode cX7_readText 49 = .ok (.iconst 0, 1) := by decide +kernel
theorem dX7_readText_50 : decode cX7_readText 50 = .ok (.invokevirtual 58, 3) := by decide +kernel
theorem dX7_readText_53 : decode cX7_readText 53 = .ok (.ifCond .ne 50, 3) := by decide +kernel
theorem dX7_readText_56 : decode cX7_readText 56 = .ok (.iload_n 2, 1) := by decide +kernel
theorem dX7_readText_57 : decode cX7_readText 57 = .ok (.iload_n 1, 1) := by decide +kernel
theorem dX7_readText_58 : decode cX7_readText 58 = .ok (.if_icmp .gt 45, 3) := by decide +kernel
theorem dX7_readText_61 : decode cX7_readText 61 = .ok (.aload_n 0, 1) := by decide +kernel
theorem dX7_readText_62 : decode cX7_readText 62 = .ok (.iload_n 2, 1) := by decide +kernel
theorem dX7_readText_63 : decode cX7_readText 63 = .ok (.ifCond .ne 7, 3) := by decide +kernel
theorem dX7_readText_66 : decode cX7_readText 66 = .ok (.iconst 1, 1) := by decide +kernel
theorem dX7_readText_67 : decode cX7_readText 67 = .ok (.goto 4, 3) := by decide +kernel
theorem dX7_readText_70 : decode cX7_readText 70 = .ok (.iconst 0, 1) := by decide +kernel
theorem dX7_readText_71 : decode cX7_readText 71 = .ok (.invokevirtual 62, 3) := by decide +kernel
theorem dX7_readText_74 : decode cX7_readText 74 = .ok (.ifCond .ne 5, 3) := by decide +kernel
theorem dX7_readText_77 : decode cX7_readText 77 = .ok (.iconst 0, 1) := by decide +kernel
theorem dX7_readText_78 : decode cX7_readText 78 = .ok (.ireturn, 1) := by decide +kernel
theorem dX7_readText_79 : decode cX7_readText 79 = .ok (.aload_n 0, 1) := by decide +kernel
theorem dX7_readText_80 : decode cX7_readText 80 = .ok (.iconst 2, 1) := by decide +kernel
theorem dX7_readText_81 : decode cX7_readText 81 = .ok (.invokevirtual 58, 3) := by decide +kernel
theorem dX7_readText_84 : decode cX7_readText 84 = .ok (.ifCond .ne 9, 3) := by decide +kernel
theorem dX7_readText_87 : decode cX7_readText 87 = .ok (.aload_n 0, 1) := by decide +kernel
theorem dX7_readText_88 : decode cX7_readText 88 = .ok (.iconst 1, 1) := by decide +kernel
theorem dX7_readText_89 : decode cX7_readText 89 = .ok (.invokevirtual 66, 3) := by decide +kernel
theorem dX7_readText_92 : decode cX7_readText 92 = .ok (.ireturn, 1) := by decide +kernel
theorem dX7_readText_93 : decode cX7_readText 93 = .ok (.aload_n 0, 1) := by decide +kernel
theorem dX7_readText_94 : decode cX7_readText 94 = .ok (.invokevirtual 69, 3) := by decide +kernel
theorem dX7_readText_97 : decode cX7_readText 97 = .ok (.iinc 2 1, 3) := by decide +kernel
theorem dX7_readText_100 : decode cX7_readText 100 = .ok (.goto (-52), 3) := by decide +kernel
theorem dX7_readText_103 : decode cX7_readText 103 = .ok (.iconst 1, 1) := by decide +kernel
theorem dX7_readText_104 : decode cX7_readText 104 = .ok (.ireturn, 1) := by decide +kernel
theorem dX7_fails_0 : decode cX7_fails 0 = .ok (.aload_n 0, 1) := by decide +kernel
theorem dX7_fails_1 : decode cX7_fails 1 = .ok (.iload_n 1, 1) := by decide +kernel
theorem dX7_fails_2 : decode cX7_fails 2 = .ok (.aload_n 0, 1) := by decide +kernel
theorem dX7_fails_3 : decode cX7_fails 3 = .ok (.getfield 43, 3) := by decide +kernel
theorem dX7_fails_6 : decode cX7_fails 6 = .ok (.getfield 72, 3) := by decide +kernel
theorem dX7_fails_9 : decode cX7_fails 9 = .ok (.aload_n 0, 1) := by decide +kernel
theorem dX7_fails_10 : decode cX7_fails 10 = .ok (.getfield 29, 3) := by decide +kernel
theorem dX7_fails_13 : decode cX7_fails 13 = .ok (.iaload, 1) := by decide +kernel
theorem dX7_fails_14 : decode cX7_fails 14 = .ok (.invokevirtual 50, 3) := by decide +kernel
theorem dX7_fails_17 : decode cX7_fails 17 = .ok (.ireturn, 1) := by decide +kernel
theorem dX7_failsAt_0 : decode cX7_failsAt 0 = .ok (.aload_n 0, 1) := by decide +kernel
theorem dX7_failsAt_1 : decode cX7_failsAt 1 = .ok (.iload_n 1, 1) := by decide +kernel
theorem dX7_failsAt_2 : decode cX7_failsAt 2 = .ok (.putfield 18, 3) := by decide +kernel
theorem dX7_failsAt_5 : decode cX7_failsAt 5 = .ok (.aload_n 0, 1) := by decide +kernel
theorem dX7_failsAt_6 : decode cX7_failsAt 6 = .ok (.iload_n 2, 1) := by decide +kernel
theorem dX7_failsAt_7 : decode cX7_failsAt 7 = .ok (.putfield 22, 3) := by decide +kernel
theorem dX7_failsAt_10 : decode cX7_failsAt 10 = .ok (.iconst 0, 1) := by decide +kernel
theorem dX7_failsAt_11 : decode cX7_failsAt 11 = .ok (.ireturn, 1) := by decide +kernel
theorem dX7_isNext_0 : decode cX7_isNext 0 = .ok (.aload_n 0, 1) := by decide +kernel
theorem dX7_isNext_1 : decode cX7_isNext 1 = .ok (.getfield 43, 3) := by decide +kernel
theorem dX7_isNext_4 : decode cX7_isNext 4 = .ok (.getfield 76, 3) := by decide +kernel
theorem dX7_isNext_7 : decode cX7_isNext 7 = .ok (.aload_n 0, 1) := by decide +kernel
theorem dX7_isNext_8 : decode cX7_isNext 8 = .ok (.getfield 29, 3) := by decide +kernel
theorem dX7_isNext_11 : decode cX7_isNext 11 = .ok (.iaload, 1) := by decide +kernel
theorem dX7_isNext_12 : decode cX7_isNext 12 = .ok (.iload_n 1, 1) := by decide +kernel
theorem dX7_isNext_13 : decode cX7_isNext 13 = .ok (.if_icmp .ne 7, 3) := by decide +kernel
theorem dX7_isNext_16 : decode cX7_isNext 16 = .ok (.iconst 1, 1) := by decide +kernel
theorem dX7_isNext_17 : decode cX7_isNext 17 = .ok (.goto 4, 3) := by decide +kernel
theorem dX7_isNext_20 : decode cX7_isNext 20 = .ok (.iconst 0, 1) := by decide +kernel
theorem dX7_isNext_21 : decode cX7_isNext 21 = .ok (.ireturn, 1) := by decide +kernel
theorem dX7_isKeyword_0 : decode cX7_isKeyword 0 = .ok (.aload_n 0, 1) := by decide +kernel
theorem dX7_isKeyword_1 : decode cX7_isKeyword 1 = .ok (.iconst 5, 1) := by decide +kernel
theorem dX7_isKeyword_2 : decode cX7_isKeyword 2 = .ok (.invokevirtual 58, 3) := by decide +kernel
theorem dX7_isKeyword_5 : decode cX7_isKeyword 5 = .ok (.ifCond .eq 25, 3) := by decide +kernel
theorem dX7_isKeyword_8 : decode cX7_isKeyword 8 = .ok (.aload_n 0, 1) := by decide +kernel
theorem dX7_isKeyword_9 : decode cX7_isKeyword 9 = .ok (.getfield 43, 3) := by decide +kernel
theorem dX7_isKeyword_12 : decode cX7_isKeyword 12 = .ok (.getfield 79, 3) := by decide +kernel
theorem dX7_isKeyword_15 : decode cX7_isKeyword 15 = .ok (.aload_n 0, 1) := by decide +kernel
theorem dX7_isKeyword_16 : decode cX7_isKeyword 16 = .ok (.getfield 29, 3) := by decide +kernel
theorem dX7_isKeyword_19 : decode cX7_isKeyword 19 = .ok (.laload, 1) := by decide +kernel
theorem dX7_isKeyword_20 : decode cX7_isKeyword 20 = .ok (.iload_n 1, 1) := by decide +kernel
theorem dX7_isKeyword_21 : decode cX7_isKeyword 21 = .ok (.i2l, 1) := by decide +kernel
theorem dX7_isKeyword_22 : decode cX7_isKeyword 22 = .ok (.lcmp, 1) := by decide +kernel
theorem dX7_isKeyword_23 : decode cX7_isKeyword 23 = .ok (.ifCond .ne 7, 3) := by decide +kernel
theorem dX7_isKeyword_26 : decode cX7_isKeyword 26 = .ok (.iconst 1, 1) := by decide +kernel
theorem dX7_isKeyword_27 : decode cX7_isKeyword 27 = .ok (.goto 4, 3) := by decide +kernel
theorem dX7_isKeyword_30 : decode cX7_isKeyword 30 = .ok (.iconst 0, 1) := by decide +kernel
theorem dX7_isKeyword_31 : decode cX7_isKeyword 31 = .ok (.ireturn, 1) := by decide +kernel
theorem dX7_pass_0 : decode cX7_pass 0 = .ok (.aload_n 0, 1) := by decide +kernel
theorem dX7_pass_1 : decode cX7_pass 1 = .ok (.getfield 43, 3) := by decide +kernel
theorem dX7_pass_4 : decode cX7_pass 4 = .ok (.getfield 76, 3) := by decide +kernel
theorem dX7_pass_7 : decode cX7_pass 7 = .ok (.aload_n 0, 1) := by decide +kernel
theorem dX7_pass_8 : decode cX7_pass 8 = .ok (.getfield 29, 3) := by decide +kernel
theorem dX7_pass_11 : decode cX7_pass 11 = .ok (.iaload, 1) := by decide +kernel
theorem dX7_pass_12 : decode cX7_pass 12 = .ok (.ifCond .eq 13, 3) := by decide +kernel
theorem dX7_pass_15 : decode cX7_pass 15 = .ok (.aload_n 0, 1) := by decide +kernel
theorem dX7_pass_16 : decode cX7_pass 16 = .ok (.dup, 1) := by decide +kernel
theorem dX7_pass_17 : decode cX7_pass 17 = .ok (.getfield 29, 3) := by decide +kernel
theorem dX7_pass_20 : decode cX7_pass 20 = .ok (.iconst 1, 1) := by decide +kernel
theorem dX7_pass_21 : decode cX7_pass 21 = .ok (.iadd, 1) := by decide +kernel
theorem dX7_pass_22 : decode cX7_pass 22 = .ok (.putfield 29, 3) := by decide +kernel
theorem dX7_pass_25 : decode cX7_pass 25 = .ok (.return_, 1) := by decide +kernel
theorem dX7_readLine_0 : decode cX7_readLine 0 = .ok (.iload_n 1, 1) := by decide +kernel
theorem dX7_readLine_1 : decode cX7_readLine 1 = .ok (.ifCond .eq 17, 3) := by decide +kernel
theorem dX7_readLine_4 : decode cX7_readLine 4 = .ok (.aload_n 0, 1) := by decide +kernel
theorem dX7_readLine_5 : decode cX7_readLine 5 = .ok (.bipush 6, 2) := by decide +kernel
theorem dX7_readLine_7 : decode cX7_readLine 7 = .ok (.invokevirtual 82, 3) := by decide +kernel
theorem dX7_readLine_10 : decode cX7_readLine 10 = .ok (.ifCond .eq 8, 3) := by decide +kernel
theorem dX7_readLine_13 : decode cX7_readLine 13 = .ok (.aload_n 0, 1) := by decide +kernel
theorem dX7_readLine_14 : decode cX7_readLine 14 = .ok (.invokevirtual 85, 3) := by decide +kernel
theorem dX7_readLine_17 : decode cX7_readLine 17 = .ok (.ireturn, 1) := by decide +kernel
theorem dX7_readLine_18 : decode cX7_readLine 18 = .ok (.aload_n 0, 1) := by decide +kernel
theorem dX7_readLine_19 : decode cX7_readLine 19 = .ok (.bipush 7, 2) := by decide +kernel
theorem dX7_readLine_21 : decode cX7_readLine 21 = .ok (.invokevirtual 82, 3) := by decide +kernel
theorem dX7_readLine_24 : decode cX7_readLine 24 = .ok (.ifCond .eq 8, 3) := by decide +kernel
theorem dX7_readLine_27 : decode cX7_readLine 27 = .ok (.aload_n 0, 1) := by decide +kernel
theorem dX7_readLine_28 : decode cX7_readLine 28 = .ok (.invokevirtual 89, 3) := by decide +kernel
theorem dX7_readLine_31 : decode cX7_readLine 31 = .ok (.ireturn, 1) := by decide +kernel
theorem dX7_readLine_32 : decode cX7_readLine 32 = .ok (.aload_n 0, 1) := by decide +kernel
theorem dX7_readLine_33 : decode cX7_readLine 33 = .ok (.bipush 8, 2) := by decide +kernel
theorem dX7_readLine_35 : decode cX7_readLine 35 = .ok (.invokevirtual 82, 3) := by decide +kernel
theorem dX7_readLine_38 : decode cX7_readLine 38 = .ok (.ifCond .eq 8, 3) := by decide +kernel
theorem dX7_readLine_41 : decode cX7_readLine 41 = .ok (.aload_n 0, 1) := by decide +kernel
theorem dX7_readLine_42 : decode cX7_readLine 42 = .ok (.invokevirtual 92, 3) := by decide +kernel
theorem dX7_readLine_45 : decode cX7_readLine 45 = .ok (.ireturn, 1) := by decide +kernel
theorem dX7_readLine_46 : decode cX7_readLine 46 = .ok (.aload_n 0, 1) := by decide +kernel
theorem dX7_readLine_47 : decode cX7_readLine 47 = .ok (.bipush 9, 2) := by decide +kernel
theorem dX7_readLine_49 : decode cX7_readLine 49 = .ok (.invokevirtual 82, 3) := by decide +kernel
theorem dX7_readLine_52 : decode cX7_readLine 52 = .ok (.ifCond .eq 8, 3) := by decide +kernel
theorem dX7_readLine_55 : decode cX7_readLine 55 = .ok (.aload_n 0, 1) := by decide +kernel
theorem dX7_readLine_56 : decode cX7_readLine 56 = .ok (.invokevirtual 95, 3) := by decide +kernel
theorem dX7_readLine_59 : decode cX7_readLine 59 = .ok (.ireturn, 1) := by decide +kernel
theorem dX7_readLine_60 : decode cX7_readLine 60 = .ok (.aload_n 0, 1) := by decide +kernel
theorem dX7_readLine_61 : decode cX7_readLine 61 = .ok (.iconst 1, 1) := by decide +kernel
theorem dX7_readLine_62 : decode cX7_readLine 62 = .ok (.invokevirtual 66, 3) := by decide +kernel
theorem dX7_readLine_65 : decode cX7_readLine 65 = .ok (.ireturn, 1) := by decide +kernel
theorem dX7_readStock_0 : decode cX7_readStock 0 = .ok (.aload_n 0, 1) := by decide +kernel
theorem dX7_readStock_1 : decode cX7_readStock 1 = .ok (.invokevirtual 69, 3) := by decide +kernel
theorem dX7_readStock_4 : decode cX7_readStock 4 = .ok (.aload_n 0, 1) := by decide +kernel
theorem dX7_readStock_5 : decode cX7_readStock 5 = .ok (.iconst 0, 1) := by decide +kernel
theorem dX7_readStock_6 : decode cX7_readStock 6 = .ok (.sipush 999, 3) := by decide +kernel
theorem dX7_readStock_9 : decode cX7_readStock 9 = .ok (.invokevirtual 98, 3) := by decide +kernel
theorem dX7_readStock_12 : decode cX7_readStock 12 = .ok (.ifCond .ne 5, 3) := by decide +kernel
theorem dX7_readStock_15 : decode cX7_readStock 15 = .ok (.iconst 0, 1) := by decide +kernel
theorem dX7_readStock_16 : decode cX7_readStock 16 = .ok (.ireturn, 1) := by decide +kernel
theorem dX7_readStock_17 : decode cX7_readStock 17 = .ok (.aload_n 0, 1) := by decide +kernel
theorem dX7_readStock_18 : decode cX7_readStock 18 = .ok (.getfield 12, 3) := by decide +kernel
theorem dX7_readStock_21 : decode cX7_readStock 21 = .ok (.aload_n 0, 1) := by decide +kernel
theorem dX7_readStock_22 : decode cX7_readStock 22 = .ok (.getfield 32, 3) := by decide +kernel
theorem dX7_readStock_25 : decode cX7_readStock 25 = .ok (.putfield 101, 3) := by decide +kernel
theorem dX7_readStock_28 : decode cX7_readStock 28 = .ok (.aload_n 0, 1) := by decide +kernel
theorem dX7_readStock_29 : decode cX7_readStock 29 = .ok (.iconst 2, 1) := by decide +kernel
theorem dX7_readStock_30 : decode cX7_readStock 30 = .ok (.bipush 9, 2) := by decide +kernel
theorem dX7_readStock_32 : decode cX7_readStock 32 = .ok (.invokevirtual 98, 3) := by decide +kernel
theorem dX7_readStock_35 : decode cX7_readStock 35 = .ok (.ifCond .ne 5, 3) := by decide +kernel
theorem dX7_readStock_38 : decode cX7_readStock 38 = .ok (.iconst 0, 1) := by decide +kernel
theorem dX7_readStock_39 : decode cX7_readStock 39 = .ok (.ireturn, 1) := by decide +kernel
theorem dX7_readStock_40 : decode cX7_readStock 40 = .ok (.aload_n 0, 1) := by decide +kernel
theorem dX7_readStock_41 : decode cX7_readStock 41 = .ok (.getfield 12, 3) := by decide +kernel
theorem dX7_readStock_44 : decode cX7_readStock 44 = .ok (.aload_n 0, 1) := by decide +kernel
theorem dX7_readStock_45 : decode cX7_readStock 45 = .ok (.getfield 32, 3) := by decide +kernel
theorem dX7_readStock_48 : decode cX7_readStock 48 = .ok (.putfield 104, 3) := by decide +kernel
theorem dX7_readStock_51 : decode cX7_readStock 51 = .ok (.iconst 1, 1) := by decide +kernel
theorem dX7_readStock_52 : decode cX7_readStock 52 = .ok (.ireturn, 1) := by decide +kernel
theorem dX7_readStep_0 : decode cX7_readStep 0 = .ok (.aload_n 0, 1) := by decide +kernel
theorem dX7_readStep_1 : decode cX7_readStep 1 = .ok (.getfield 12, 3) := by decide +kernel
theorem dX7_readStep_4 : decode cX7_readStep 4 = .ok (.getfield 107, 3) := by decide +kernel
theorem dX7_readStep_7 : decode cX7_readStep 7 = .ok (.bipush 12, 2) := by decide +kernel
theorem dX7_readStep_9 : decode cX7_readStep 9 = .ok (.if_icmp .lt 9, 3) := by decide +kernel
theorem dX7_readStep_12 : decode cX7_readStep 12 = .ok (.aload_n 0, 1) := by decide +kernel
theorem dX7_readStep_13 : decode cX7_readStep 13 = .ok (.iconst 4, 1) := by decide +kernel
theorem dX7_readStep_14 : decode cX7_readStep 14 = .ok (.invokevirtual 66, 3) := by decide +kernel
theorem dX7_readStep_17 : decode cX7_readStep 17 = .ok (.ireturn, 1) := by decide +kernel
theorem dX7_readStep_18 : decode cX7_readStep 18 = .ok (.aload_n 0, 1) := by decide +kernel
theorem dX7_readStep_19 : decode cX7_readStep 19 = .ok (.invokevirtual 69, 3) := by decide +kernel
theorem dX7_readStep_22 : decode cX7_readStep 22 = .ok (.aload_n 0, 1) := by decide +kernel
theorem dX7_readStep_23 : decode cX7_readStep 23 = .ok (.iconst 1, 1) := by decide +kernel
theorem dX7_readStep_24 : decode cX7_readStep 24 = .ok (.aload_n 0, 1) := by decide +kernel
theorem dX7_readStep_25 : decode cX7_readStep 25 = .ok (.getfield 12, 3) := by decide +kernel
theorem dX7_readStep_28 : decode cX7_readStep 28 = .ok (.getfield 104, 3) := by decide +kernel
theorem dX7_readStep_31 : decode cX7_readStep 31 = .ok (.iconst 1, 1) := by decide +kernel
theorem dX7_readStep_32 : decode cX7_readStep 32 = .ok (.isub, 1) := by decide +kernel
theorem dX7_readStep_33 : decode cX7_readStep 33 = .ok (.invokevirtual 98, 3) := by decide +kernel
theorem dX7_readStep_36 : decode cX7_readStep 36 = .ok (.ifCond .ne 5, 3) := by decide +kernel
theorem dX7_readStep_39 : decode cX7_readStep 39 = .ok (.iconst 0, 1) := by decide +kernel
theorem dX7_readStep_40 : decode cX7_readStep 40 = .ok (.ireturn, 1) := by decide +kernel
theorem dX7_readStep_41 : decode cX7_readStep 41 = .ok (.aload_n 0, 1) := by decide +kernel
theorem dX7_readStep_42 : decode cX7_readStep 42 = .ok (.getfield 32, 3) := by decide +kernel
theorem dX7_readStep_45 : decode cX7_readStep 45 = .ok (.istore_n 1, 1) := by decide +kernel
theorem dX7_readStep_46 : decode cX7_readStep 46 = .ok (.iconst 1, 1) := by decide +kernel
theorem dX7_readStep_47 : decode cX7_readStep 47 = .ok (.istore_n 2, 1) := by decide +kernel
theorem dX7_readStep_48 : decode cX7_readStep 48 = .ok (.aload_n 0, 1) := by decide +kernel
theorem dX7_readStep_49 : decode cX7_readStep 49 = .ok (.bipush 10, 2) := by decide +kernel
theorem dX7_readStep_51 : decode cX7_readStep 51 = .ok (.invokevirtual 82, 3) := by decide +kernel
theorem dX7_readStep_54 : decode cX7_readStep 54 = .ok (.ifCond .eq 32, 3) := by decide +kernel
theorem dX7_readStep_57 : decode cX7_readStep 57 = .ok (.aload_n 0, 1) := by decide +kernel
theorem dX7_readStep_58 : decode cX7_readStep 58 = .ok (.invokevirtual 69, 3) := by decide +kernel
theorem dX7_readStep_61 : decode cX7_readStep 61 = .ok (.aload_n 0, 1) := by decide +kernel
theorem dX7_readStep_62 : decode cX7_readStep 62 = .ok (.iconst 1, 1) := by decide +kernel
theorem dX7_readStep_63 : decode cX7_readStep 63 = .ok (.bipush 12, 2) := by decide +kernel
theorem dX7_readStep_65 : decode cX7_readStep 65 = .ok (.aload_n 0, 1) := by decide +kernel
theorem dX7_readStep_66 : decode cX7_readStep 66 = .ok (.getfield 12, 3) := by decide +kernel
theorem dX7_readStep_69 : decode cX7_readStep 69 = .ok (.getfield 107, 3) := by decide +kernel
theorem dX7_readStep_72 : decode cX7_readStep 72 = .ok (.isub, 1) := by decide +kernel
theorem dX7_readStep_73 : decode cX7_readStep 73 = .ok (.invokevirtual 98, 3) := by decide +kernel
theorem dX7_readStep_76 : decode cX7_readStep 76 = .ok (.ifCond .ne 5, 3) := by decide +kernel
theorem dX7_readStep_79 : decode cX7_readStep 79 = .ok (.iconst 0, 1) := by decide +kernel
theorem dX7_readStep_80 : decode cX7_readStep 80 = .ok (.ireturn, 1) := by decide +kernel
theorem dX7_readStep_81 : decode cX7_readStep 81 = .ok (.aload_n 0, 1) := by decide +kernel
theorem dX7_readStep_82 : decode cX7_readStep 82 = .ok (.getfield 32, 3) := by decide +kernel
theorem dX7_readStep_85 : decode cX7_readStep 85 = .ok (.istore_n 2, 1) := by decide +kernel
theorem dX7_readStep_86 : decode cX7_readStep 86 = .ok (.aload_n 0, 1) := by decide +kernel
theorem dX7_readStep_87 : decode cX7_readStep 87 = .ok (.getfield 12, 3) := by decide +kernel
theorem dX7_readStep_90 : decode cX7_readStep 90 = .ok (.invokevirtual 110, 3) := by decide +kernel
theorem dX7_readStep_93 : decode cX7_readStep 93 = .ok (.iload_n 1, 1) := by decide +kernel
theorem dX7_readStep_94 : decode cX7_readStep 94 = .ok (.iload_n 2, 1) := by decide +kernel
theorem dX7_readStep_95 : decode cX7_readStep 95 = .ok (.imul, 1) := by decide +kernel
theorem dX7_readStep_96 : decode cX7_readStep 96 = .ok (.isub, 1) := by decide +kernel
theorem dX7_readStep_97 : decode cX7_readStep 97 = .ok (.ifCond .ge 13, 3) := by decide +kernel
theorem dX7_readStep_100 : decode cX7_readStep 100 = .ok (.aload_n 0, 1) := by decide +kernel
theorem dX7_readStep_101 : decode cX7_readStep 101 = .ok (.iconst 2, 1) := by decide +kernel
theorem dX7_readStep_102 : decode cX7_readStep 102 = .ok (.aload_n 0, 1) := by decide +kernel
theorem dX7_readStep_103 : decode cX7_readStep 103 = .ok (.getfield 35, 3) := by decide +kernel
theorem dX7_readStep_106 : decode cX7_readStep 106 = .ok (.invokevirtual 50, 3) := by decide +kernel
theorem dX7_readStep_109 : decode cX7_readStep 109 = .ok (.ireturn, 1) := by decide +kernel
theorem dX7_readStep_110 : decode cX7_readStep 110 = .ok (.aload_n 0, 1) := by decide +kernel
theorem dX7_readStep_111 : decode cX7_readStep 111 = .ok (.getfield 12, 3) := by decide +kernel
theorem dX7_readStep_114 : decode cX7_readStep 114 = .ok (.iload_n 1, 1) := by decide +kernel
theorem dX7_readStep_115 : decode cX7_readStep 115 = .ok (.iload_n 2, 1) := by decide +kernel
theorem dX7_readStep_116 : decode cX7_readStep 116 = .ok (.invokevirtual 114, 3) := by decide +kernel
theorem dX7_readStep_119 : decode cX7_readStep 119 = .ok (.iconst 1, 1) := by decide +kernel
theorem dX7_readStep_120 : decode cX7_readStep 120 = .ok (.ireturn, 1) := by decide +kernel
theorem dX7_readCash_0 : decode cX7_readCash 0 = .ok (.aload_n 0, 1) := by decide +kernel
theorem dX7_readCash_1 : decode cX7_readCash 1 = .ok (.getfield 12, 3) := by decide +kernel
theorem dX7_readCash_4 : decode cX7_readCash 4 = .ok (.getfield 118, 3) := by decide +kernel
theorem dX7_readCash_7 : decode cX7_readCash 7 = .ok (.aload_n 0, 1) := by decide +kernel
theorem dX7_readCash_8 : decode cX7_readCash 8 = .ok (.getfield 12, 3) := by decide +kernel
theorem dX7_readCash_11 : decode cX7_readCash 11 = .ok (.getfield 107, 3) := by decide +kernel
theorem dX7_readCash_14 : decode cX7_readCash 14 = .ok (.iaload, 1) := by decide +kernel
theorem dX7_readCash_15 : decode cX7_readCash 15 = .ok (.ifCond .eq 9, 3) := by decide +kernel
theorem dX7_readCash_18 : decode cX7_readCash 18 = .ok (.aload_n 0, 1) := by decide +kernel
theorem dX7_readCash_19 : decode cX7_readCash 19 = .ok (.iconst 3, 1) := by decide +kernel
theorem dX7_readCash_20 : decode cX7_readCash 20 = .ok (.invokevirtual 66, 3) := by decide +kernel
theorem dX7_readCash_23 : decode cX7_readCash 23 = .ok (.ireturn, 1) := by decide +kernel
theorem dX7_readCash_24 : decode cX7_readCash 24 = .ok (.aload_n 0, 1) := by decide +kernel
theorem dX7_readCash_25 : decode cX7_readCash 25 = .ok (.invokevirtual 69, 3) := by decide +kernel
theorem dX7_readCash_28 : decode cX7_readCash 28 = .ok (.aload_n 0, 1) := by decide +kernel
theorem dX7_readCash_29 : decode cX7_readCash 29 = .ok (.iconst 1, 1) := by decide +kernel
theorem dX7_readCash_30 : decode cX7_readCash 30 = .ok (.bipush 99, 2) := by decide +kernel
theorem dX7_readCash_32 : decode cX7_readCash 32 = .ok (.invokevirtual 98, 3) := by decide +kernel
theorem dX7_readCash_35 : decode cX7_readCash 35 = .ok (.ifCond .ne 5, 3) := by decide +kernel
theorem dX7_readCash_38 : decode cX7_readCash 38 = .ok (.iconst 0, 1) := by decide +kernel
theorem dX7_readCash_39 : decode cX7_readCash 39 = .ok (.ireturn, 1) := by decide +kernel
theorem dX7_readCash_40 : decode cX7_readCash 40 = .ok (.aload_n 0, 1) := by decide +kernel
theorem dX7_readCash_41 : decode cX7_readCash 41 = .ok (.getfield 12, 3) := by decide +kernel
theorem dX7_readCash_44 : decode cX7_readCash 44 = .ok (.getfield 118, 3) := by decide +kernel
theorem dX7_readCash_47 : decode cX7_readCash 47 = .ok (.aload_n 0, 1) := by decide +kernel
theorem dX7_readCash_48 : decode cX7_readCash 48 = .ok (.getfield 12, 3) := by decide +kernel
theorem dX7_readCash_51 : decode cX7_readCash 51 = .ok (.getfield 107, 3) := by decide +kernel
theorem dX7_readCash_54 : decode cX7_readCash 54 = .ok (.aload_n 0, 1) := by decide +kernel
theorem dX7_readCash_55 : decode cX7_readCash 55 = .ok (.getfield 32, 3) := by decide +kernel
theorem dX7_readCash_58 : decode cX7_readCash 58 = .ok (.iastore, 1) := by decide +kernel
theorem dX7_readCash_59 : decode cX7_readCash 59 = .ok (.iconst 1, 1) := by decide +kernel
theorem dX7_readCash_60 : decode cX7_readCash 60 = .ok (.ireturn, 1) := by decide +kernel
theorem dX7_readOption_0 : decode cX7_readOption 0 = .ok (.aload_n 0, 1) := by decide +kernel
theorem dX7_readOption_1 : decode cX7_readOption 1 = .ok (.getfield 12, 3) := by decide +kernel
theorem dX7_readOption_4 : decode cX7_readOption 4 = .ok (.getfield 121, 3) := by decide +kernel
theorem dX7_readOption_7 : decode cX7_readOption 7 = .ok (.istore_n 1, 1) := by decide +kernel
theorem dX7_readOption_8 : decode cX7_readOption 8 = .ok (.iload_n 1, 1) := by decide +kernel
theorem dX7_readOption_9 : decode cX7_readOption 9 = .ok (.iconst 4, 1) := by decide +kernel
theorem dX7_readOption_10 : decode cX7_readOption 10 = .ok (.if_icmp .lt 9, 3) := by decide +kernel
theorem dX7_readOption_13 : decode cX7_readOption 13 = .ok (.aload_n 0, 1) := by decide +kernel
theorem dX7_readOption_14 : decode cX7_readOption 14 = .ok (.iconst 4, 1) := by decide +kernel
theorem dX7_readOption_15 : decode cX7_readOption 15 = .ok (.invokevirtual 66, 3) := by decide +kernel
theorem dX7_readOption_18 : decode cX7_readOption 18 = .ok (.ireturn, 1) := by decide +kernel
theorem dX7_readOption_19 : decode cX7_readOption 19 = .ok (.aload_n 0, 1) := by decide +kernel
theorem dX7_readOption_20 : decode cX7_readOption 20 = .ok (.getfield 12, 3) := by decide +kernel
theorem dX7_readOption_23 : decode cX7_readOption 23 = .ok (.getfield 124, 3) := by decide +kernel
theorem dX7_readOption_26 : decode cX7_readOption 26 = .ok (.iload_n 1, 1) := by decide +kernel
theorem dX7_readOption_27 : decode cX7_readOption 27 = .ok (.aaload, 1) := by decide +kernel
theorem dX7_readOption_28 : decode cX7_readOption 28 = .ok (.astore_n 2, 1) := by decide +kernel
theorem dX7_readOption_29 : decode cX7_readOption 29 = .ok (.aload_n 2, 1) := by decide +kernel
theorem dX7_readOption_30 : decode cX7_readOption 30 = .ok (.invokevirtual 128, 3) := by decide +kernel
theorem dX7_readOption_33 : decode cX7_readOption 33 = .ok (.aload_n 0, 1) := by decide +kernel
theorem dX7_readOption_34 : decode cX7_readOption 34 = .ok (.invokevirtual 69, 3) := by decide +kernel
theorem dX7_readOption_37 : decode cX7_readOption 37 = .ok (.aload_n 0, 1) := by decide +kernel
theorem dX7_readOption_38 : decode cX7_readOption 38 = .ok (.iload_n 1, 1) := by decide +kernel
theorem dX7_readOption_39 : decode cX7_readOption 39 = .ok (.invokevirtual 131, 3) := by decide +kernel
theorem dX7_readOption_42 : decode cX7_readOption 42 = .ok (.ifCond .ne 5, 3) := by decide +kernel
theorem dX7_readOption_45 : decode cX7_readOption 45 = .ok (.iconst 0, 1) := by decide +kernel
theorem dX7_readOption_46 : decode cX7_readOption 46 = .ok (.ireturn, 1) := by decide +kernel
theorem dX7_readOption_47 : decode cX7_readOption 47 = .ok (.aload_n 0, 1) := by decide +kernel
theorem dX7_readOption_48 : decode cX7_readOption 48 = .ok (.aload_n 2, 1) := by decide +kernel
theorem dX7_readOption_49 : decode cX7_readOption 49 = .ok (.invokevirtual 134, 3) := by decide +kernel
theorem dX7_readOption_52 : decode cX7_readOption 52 = .ok (.ifCond .eq 35, 3) := by decide +kernel
theorem dX7_readOption_55 : decode cX7_readOption 55 = .ok (.aload_n 0, 1) := by decide +kernel
theorem dX7_readOption_56 : decode cX7_readOption 56 = .ok (.aload_n 2, 1) := by decide +kernel
theorem dX7_readOption_57 : decode cX7_readOption 57 = .ok (.invokevirtual 138, 3) := by decide +kernel
theorem dX7_readOption_60 : decode cX7_readOption 60 = .ok (.ifCond .eq 27, 3) := by decide +kernel
theorem dX7_readOption_63 : decode cX7_readOption 63 = .ok (.aload_n 0, 1) := by decide +kernel
theorem dX7_readOption_64 : decode cX7_readOption 64 = .ok (.aload_n 2, 1) := by decide +kernel
theorem dX7_readOption_65 : decode cX7_readOption 65 = .ok (.invokevirtual 141, 3) := by decide +kernel
theorem dX7_readOption_68 : decode cX7_readOption 68 = .ok (.ifCond .eq 19, 3) := by decide +kernel
theorem dX7_readOption_71 : decode cX7_readOption 71 = .ok (.aload_n 0, 1) := by decide +kernel
theorem dX7_readOption_72 : decode cX7_readOption 72 = .ok (.aload_n 2, 1) := by decide +kernel
theorem dX7_readOption_73 : decode cX7_readOption 73 = .ok (.invokevirtual 144, 3) := by decide +kernel
theorem dX7_readOption_76 : decode cX7_readOption 76 = .ok (.ifCond .eq 11, 3) := by decide +kernel
theorem dX7_readOption_79 : decode cX7_readOption 79 = .ok (.aload_n 0, 1) := by decide +kernel
theorem dX7_readOption_80 : decode cX7_readOption 80 = .ok (.aload_n 2, 1) := by decide +kernel
theorem dX7_readOption_81 : decode cX7_readOption 81 = .ok (.invokevirtual 147, 3) := by decide +kernel
theorem dX7_readOption_84 : decode cX7_readOption 84 = .ok (.ifCond .ne 5, 3) := by decide +kernel
theorem dX7_readOption_87 : decode cX7_readOption 87 = .ok (.iconst 0, 1) := by decide +kernel
theorem dX7_readOption_88 : decode cX7_readOption 88 = .ok (.ireturn, 1) := by decide +kernel
theorem dX7_readOption_89 : decode cX7_readOption 89 = .ok (.aload_n 0, 1) := by decide +kernel
theorem dX7_readOption_90 : decode cX7_readOption 90 = .ok (.getfield 12, 3) := by decide +kernel
theorem dX7_readOption_93 : decode cX7_readOption 93 = .ok (.iload_n 1, 1) := by decide +kernel
theorem dX7_readOption_94 : decode cX7_readOption 94 = .ok (.iconst 1, 1) := by decide +kernel
theorem dX7_readOption_95 : decode cX7_readOption 95 = .ok (.iadd, 1) := by decide +kernel
theorem dX7_readOption_96 : decode cX7_readOption 96 = .ok (.putfield 121, 3) := by decide +kernel
theorem dX7_readOption_99 : decode cX7_readOption 99 = .ok (.iconst 1, 1) := by decide +kernel
theorem dX7_readOption_100 : decode cX7_readOption 100 = .ok (.ireturn, 1) := by decide +kernel
theorem dX7_readNewName_0 : decode cX7_readNewName 0 = .ok (.aload_n 0, 1) := by decide +kernel
theorem dX7_readNewName_1 : decode cX7_readNewName 1 = .ok (.iconst 4, 1) := by decide +kernel
theorem dX7_readNewName_2 : decode cX7_readNewName 2 = .ok (.invokevirtual 58, 3) := by decide +kernel
theorem dX7_readNewName_5 : decode cX7_readNewName 5 = .ok (.ifCond .ne 9, 3) := by decide +kernel
theorem dX7_readNewName_8 : decode cX7_readNewName 8 = .ok (.aload_n 0, 1) := by decide +kernel
theorem dX7_readNewName_9 : decode cX7_readNewName 9 = .ok (.iconst 1, 1) := by decide +kernel
theorem dX7_readNewName_10 : decode cX7_readNewName 10 = .ok (.invokevirtual 66, 3) := by decide +kernel
theorem dX7_readNewName_13 : decode cX7_readNewName 13 = .ok (.ireturn, 1) := by decide +kernel
theorem dX7_readNewName_14 : decode cX7_readNewName 14 = .ok (.aload_n 0, 1) := by decide +kernel
theorem dX7_readNewName_15 : decode cX7_readNewName 15 = .ok (.invokevirtual 150, 3) := by decide +kernel
theorem dX7_readNewName_18 : decode cX7_readNewName 18 = .ok (.iconst (-1), 1) := by decide +kernel
theorem dX7_readNewName_19 : decode cX7_readNewName 19 = .ok (.if_icmp .eq 9, 3) := by decide +kernel
theorem dX7_readNewName_22 : decode cX7_readNewName 22 = .ok (.aload_n 0, 1) := by decide +kernel
theorem dX7_readNewName_23 : decode cX7_readNewName 23 = .ok (.iconst 3, 1) := by decide +kernel
theorem dX7_readNewName_24 : decode cX7_readNewName 24 = .ok (.invokevirtual 66, 3) := by decide +kernel
theorem dX7_readNewName_27 : decode cX7_readNewName 27 = .ok (.ireturn, 1) := by decide +kernel
theorem dX7_readNewName_28 : decode cX7_readNewName 28 = .ok (.aload_n 0, 1) := by decide +kernel
theorem dX7_readNewName_29 : decode cX7_readNewName 29 = .ok (.getfield 25, 3) := by decide +kernel
theorem dX7_readNewName_32 : decode cX7_readNewName 32 = .ok (.iload_n 1, 1) := by decide +kernel
theorem dX7_readNewName_33 : decode cX7_readNewName 33 = .ok (.aload_n 0, 1) := by decide +kernel
theorem dX7_readNewName_34 : decode cX7_readNewName 34 = .ok (.getfield 43, 3) := by decide +kernel
theorem dX7_readNewName_37 : decode cX7_readNewName 37 = .ok (.getfield 79, 3) := by decide +kernel
theorem dX7_readNewName_40 : decode cX7_readNewName 40 = .ok (.aload_n 0, 1) := by decide +kernel
theorem dX7_readNewName_41 : decode cX7_readNewName 41 = .ok (.getfield 29, 3) := by decide +kernel
theorem dX7_readNewName_44 : decode cX7_readNewName 44 = .ok (.laload, 1) := by decide +kernel
theorem dX7_readNewName_45 : decode cX7_readNewName 45 = .ok (.lastore, 1) := by decide +kernel
theorem dX7_readNewName_46 : decode cX7_readNewName 46 = .ok (.aload_n 0, 1) := by decide +kernel
theorem dX7_readNewName_47 : decode cX7_readNewName 47 = .ok (.invokevirtual 69, 3) := by decide +kernel
theorem dX7_readNewName_50 : decode cX7_readNewName 50 = .ok (.iconst 1, 1) := by decide +kernel
theorem dX7_readNewName_51 : decode cX7_readNewName 51 = .ok (.ireturn, 1) := by decide +kernel
theorem dX7_namedOption_0 : decode cX7_namedOption 0 = .ok (.iconst 0, 1) := by decide +kernel
theorem dX7_namedOption_1 : decode cX7_namedOption 1 = .ok (.istore_n 1, 1) := by decide +kernel
theorem dX7_namedOption_2 : decode cX7_namedOption 2 = .ok (.iload_n 1, 1) := by decide +kernel
theorem dX7_namedOption_3 : decode cX7_namedOption 3 = .ok (.aload_n 0, 1) := by decide +kernel
theorem dX7_namedOption_4 : decode cX7_namedOption 4 = .ok (.getfield 12, 3) := by decide +kernel
theorem dX7_namedOption_7 : decode cX7_namedOption 7 = .ok (.getfield 121, 3) := by decide +kernel
theorem dX7_namedOption_10 : decode cX7_namedOption 10 = .ok (.if_icmp .ge 33, 3) := by decide +kernel
theorem dX7_namedOption_13 : decode cX7_namedOption 13 = .ok (.aload_n 0, 1) := by decide +kernel
theorem dX7_namedOption_14 : decode cX7_namedOption 14 = .ok (.getfield 25, 3) := by decide +kernel
theorem dX7_namedOption_17 : decode cX7_namedOption 17 = .ok (.iload_n 1, 1) := by decide +kernel
theorem dX7_namedOption_18 : decode cX7_namedOption 18 = .ok (.laload, 1) := by decide +kernel
theorem dX7_namedOption_19 : decode cX7_namedOption 19 = .ok (.aload_n 0, 1) := by decide +kernel
theorem dX7_namedOption_20 : decode cX7_namedOption 20 = .ok (.getfield 43, 3) := by decide +kernel
theorem dX7_namedOption_23 : decode cX7_namedOption 23 = .ok (.getfield 79, 3) := by decide +kernel
theorem dX7_namedOption_26 : decode cX7_namedOption 26 = .ok (.aload_n 0, 1) := by decide +kernel
theorem dX7_namedOption_27 : decode cX7_namedOption 27 = .ok (.getfield 29, 3) := by decide +kernel
theorem dX7_namedOption_30 : decode cX7_namedOption 30 = .ok (.laload, 1) := by decide +kernel
theorem dX7_namedOption_31 : decode cX7_namedOption 31 = .ok (.lcmp, 1) := by decide +kernel
theorem dX7_namedOption_32 : decode cX7_namedOption 32 = .ok (.ifCond .ne 5, 3) := by decide +kernel
theorem dX7_namedOption_35 : decode cX7_namedOption 35 = .ok (.iload_n 1, 1) := by decide +kernel
theorem dX7_namedOption_36 : decode cX7_namedOption 36 = .ok (.ireturn, 1) := by decide +kernel
theorem dX7_namedOption_37 : decode cX7_namedOption 37 = .ok (.iinc 1 1, 3) := by decide +kernel
theorem dX7_namedOption_40 : decode cX7_namedOption 40 = .ok (.goto (-38), 3) := by decide +kernel
theorem dX7_namedOption_43 : decode cX7_namedOption 43 = .ok (.iconst (-1), 1) := by decide +kernel
theorem dX7_namedOption_44 : decode cX7_namedOption 44 = .ok (.ireturn, 1) := by decide +kernel
theorem dX7_readKind_0 : decode cX7_readKind 0 = .ok (.aload_n 0, 1) := by decide +kernel
theorem dX7_readKind_1 : decode cX7_readKind 1 = .ok (.iconst 5, 1) := by decide +kernel
theorem dX7_readKind_2 : decode cX7_readKind 2 = .ok (.invokevirtual 58, 3) := by decide +kernel
theorem dX7_readKind_5 : decode cX7_readKind 5 = .ok (.ifCond .eq 22, 3) := by decide +kernel
theorem dX7_readKind_8 : decode cX7_readKind 8 = .ok (.aload_n 0, 1) := by decide +kernel
theorem dX7_readKind_9 : decode cX7_readKind 9 = .ok (.getfield 43, 3) := by decide +kernel
theorem dX7_readKind_12 : decode cX7_readKind 12 = .ok (.getfield 79, 3) := by decide +kernel
theorem dX7_readKind_15 : decode cX7_readKind 15 = .ok (.aload_n 0, 1) := by decide +kernel
theorem dX7_readKind_16 : decode cX7_readKind 16 = .ok (.getfield 29, 3) := by decide +kernel
theorem dX7_readKind_19 : decode cX7_readKind 19 = .ok (.laload, 1) := by decide +kernel
theorem dX7_readKind_20 : decode cX7_readKind 20 = .ok (.ldc2_w 153, 3) := by decide +kernel
theorem dX7_readKind_23 : decode cX7_readKind 23 = .ok (.lcmp, 1) := by decide +kernel
theorem dX7_readKind_24 : decode cX7_readKind 24 = .ok (.ifCond .le 9, 3) := by decide +kernel
theorem dX7_readKind_27 : decode cX7_readKind 27 = .ok (.aload_n 0, 1) := by decide +kernel
theorem dX7_readKind_28 : decode cX7_readKind 28 = .ok (.iconst 1, 1) := by decide +kernel
theorem dX7_readKind_29 : decode cX7_readKind 29 = .ok (.invokevirtual 66, 3) := by decide +kernel
theorem dX7_readKind_32 : decode cX7_readKind 32 = .ok (.ireturn, 1) := by decide +kernel
theorem dX7_readKind_33 : decode cX7_readKind 33 = .ok (.aload_n 1, 1) := by decide +kernel
theorem dX7_readKind_34 : decode cX7_readKind 34 = .ok (.aload_n 0, 1) := by decide +kernel
theorem dX7_readKind_35 : decode cX7_readKind 35 = .ok (.getfield 43, 3) := by decide +kernel
theorem dX7_readKind_38 : decode cX7_readKind 38 = .ok (.getfield 79, 3) := by decide +kernel
theorem dX7_readKind_41 : decode cX7_readKind 41 = .ok (.aload_n 0, 1) := by decide +kernel
theorem dX7_readKind_42 : decode cX7_readKind 42 = .ok (.getfield 29, 3) := by decide +kernel
theorem dX7_readKind_45 : decode cX7_readKind 45 = .ok (.laload, 1) := by decide +kernel
theorem dX7_readKind_46 : decode cX7_readKind 46 = .ok (.l2i, 1) := by decide +kernel
theorem dX7_readKind_47 : decode cX7_readKind 47 = .ok (.putfield 155, 3) := by decide +kernel
theorem dX7_readKind_50 : decode cX7_readKind 50 = .ok (.aload_n 0, 1) := by decide +kernel
theorem dX7_readKind_51 : decode cX7_readKind 51 = .ok (.invokevirtual 69, 3) := by decide +kernel
theorem dX7_readKind_54 : decode cX7_readKind 54 = .ok (.aload_n 1, 1) := by decide +kernel
theorem dX7_readKind_55 : decode cX7_readKind 55 = .ok (.getfield 155, 3) := by decide +kernel
theorem dX7_readKind_58 : decode cX7_readKind 58 = .ok (.iconst 5, 1) := by decide +kernel
theorem dX7_readKind_59 : decode cX7_readKind 59 = .ok (.if_icmp .ne 13, 3) := by decide +kernel
theorem dX7_readKind_62 : decode cX7_readKind 62 = .ok (.aload_n 0, 1) := by decide +kernel
theorem dX7_readKind_63 : decode cX7_readKind 63 = .ok (.aload_n 1, 1) := by decide +kernel
theorem dX7_readKind_64 : decode cX7_readKind 64 = .ok (.invokevirtual 158, 3) := by decide +kernel
theorem dX7_readKind_67 : decode cX7_readKind 67 = .ok (.ifCond .ne 5, 3) := by decide +kernel
theorem dX7_readKind_70 : decode cX7_readKind 70 = .ok (.iconst 0, 1) := by decide +kernel
theorem dX7_readKind_71 : decode cX7_readKind 71 = .ok (.ireturn, 1) := by decide +kernel
theorem dX7_readKind_72 : decode cX7_readKind 72 = .ok (.aload_n 0, 1) := by decide +kernel
theorem dX7_readKind_73 : decode cX7_readKind 73 = .ok (.iconst 0, 1) := by decide +kernel
theorem dX7_readKind_74 : decode cX7_readKind 74 = .ok (.sipush 999, 3) := by decide +kernel
theorem dX7_readKind_77 : decode cX7_readKind 77 = .ok (.invokevirtual 98, 3) := by decide +kernel
theorem dX7_readKind_80 : decode cX7_readKind 80 = .ok (.ifCond .ne 5, 3) := by decide +kernel
theorem dX7_readKind_83 : decode cX7_readKind 83 = .ok (.iconst 0, 1) := by decide +kernel
theorem dX7_readKind_84 : decode cX7_readKind 84 = .ok (.ireturn, 1) := by decide +kernel
theorem dX7_readKind_85 : decode cX7_readKind 85 = .ok (.aload_n 1, 1) := by decide +kernel
theorem dX7_readKind_86 : decode cX7_readKind 86 = .ok (.aload_n 0, 1) := by decide +kernel
theorem dX7_readKind_87 : decode cX7_readKind 87 = .ok (.getfield 32, 3) := by decide +kernel
theorem dX7_readKind_90 : decode cX7_readKind 90 = .ok (.putfield 161, 3) := by decide +kernel
theorem dX7_readKind_93 : decode cX7_readKind 93 = .ok (.aload_n 1, 1) := by decide +kernel
theorem dX7_readKind_94 : decode cX7_readKind 94 = .ok (.getfield 155, 3) := by decide +kernel
theorem dX7_readKind_97 : decode cX7_readKind 97 = .ok (.iconst 2, 1) := by decide +kernel
theorem dX7_readKind_98 : decode cX7_readKind 98 = .ok (.if_icmp .eq 13, 3) := by decide +kernel
theorem dX7_readKind_101 : decode cX7_readKind 101 = .ok (.aload_n 1, 1) := by decide +kernel
theorem dX7_readKind_102 : decode cX7_readKind 102 = .ok (.getfield 155, 3) := by decide +kernel
theorem dX7_readKind_105 : decode cX7_readKind 105 = .ok (.iconst 3, 1) := by decide +kernel
theorem dX7_readKind_106 : decode cX7_readKind 106 = .ok (.if_icmp .eq 5, 3) := by decide +kernel
theorem dX7_readKind_109 : decode cX7_readKind 109 = .ok (.iconst 1, 1) := by decide +kernel
theorem dX7_readKind_110 : decode cX7_readKind 110 = .ok (.ireturn, 1) := by decide +kernel
theorem dX7_readKind_111 : decode cX7_readKind 111 = .ok (.aload_n 1, 1) := by decide +kernel
theorem dX7_readKind_112 : decode cX7_readKind 112 = .ok (.getfield 155, 3) := by decide +kernel
theorem dX7_readKind_115 : decode cX7_readKind 115 = .ok (.iconst 2, 1) := by decide +kernel
theorem dX7_readKind_116 : decode cX7_readKind 116 = .ok (.if_icmp .ne 13, 3) := by decide +kernel
theorem dX7_readKind_119 : decode cX7_readKind 119 = .ok (.aload_n 0, 1) := by decide +kernel
theorem dX7_readKind_120 : decode cX7_readKind 120 = .ok (.iconst 1, 1) := by decide +kernel
theorem dX7_readKind_121 : decode cX7_readKind 121 = .ok (.bipush 99, 2) := by decide +kernel
theorem dX7_readKind_123 : decode cX7_readKind 123 = .ok (.invokevirtual 98, 3) := by decide +kernel
theorem dX7_readKind_126 : decode cX7_readKind 126 = .ok (.goto 16, 3) := by decide +kernel
theorem dX7_readKind_129 : decode cX7_readKind 129 = .ok (.aload_n 0, 1) := by decide +kernel
theorem dX7_readKind_130 : decode cX7_readKind 130 = .ok (.aload_n 1, 1) := by decide +kernel
theorem dX7_readKind_131 : decode cX7_readKind 131 = .ok (.getfield 161, 3) := by decide +kernel
theorem dX7_readKind_134 : decode cX7_readKind 134 = .ok (.iconst 1, 1) := by decide +kernel
theorem dX7_readKind_135 : decode cX7_readKind 135 = .ok (.iadd, 1) := by decide +kernel
theorem dX7_readKind_136 : decode cX7_readKind 136 = .ok (.sipush 999, 3) := by decide +kernel
theorem dX7_readKind_139 : decode cX7_readKind 139 = .ok (.invokevirtual 98, 3) := by decide +kernel
theorem dX7_readKind_142 : decode cX7_readKind 142 = .ok (.istore_n 2, 1) := by decide +kernel
theorem dX7_readKind_143 : decode cX7_readKind 143 = .ok (.aload_n 1, 1) := by decide +kernel
theorem dX7_readKind_144 : decode cX7_readKind 144 = .ok (.aload_n 0, 1) := by decide +kernel
theorem dX7_readKind_145 : decode cX7_readKind 145 = .ok (.getfield 32, 3) := by decide +kernel
theorem dX7_readKind_148 : decode cX7_readKind 148 = .ok (.putfield 164, 3) := by decide +kernel
theorem dX7_readKind_151 : decode cX7_readKind 151 = .ok (.iload_n 2, 1) := by decide +kernel
theorem dX7_readKind_152 : decode cX7_readKind 152 = .ok (.ireturn, 1) := by decide +kernel
theorem dX7_readOther_0 : decode cX7_readOther 0 = .ok (.aload_n 0, 1) := by decide +kernel
theorem dX7_readOther_1 : decode cX7_readOther 1 = .ok (.iconst 4, 1) := by decide +kernel
theorem dX7_readOther_2 : decode cX7_readOther 2 = .ok (.invokevirtual 58, 3) := by decide +kernel
theorem dX7_readOther_5 : decode cX7_readOther 5 = .ok (.ifCond .ne 9, 3) := by decide +kernel
theorem dX7_readOther_8 : decode cX7_readOther 8 = .ok (.aload_n 0, 1) := by decide +kernel
theorem dX7_readOther_9 : decode cX7_readOther 9 = .ok (.iconst 1, 1) := by decide +kernel
theorem dX7_readOther_10 : decode cX7_readOther 10 = .ok (.invokevirtual 66, 3) := by decide +kernel
theorem dX7_readOther_13 : decode cX7_readOther 13 = .ok (.ireturn, 1) := by decide +kernel
theorem dX7_readOther_14 : decode cX7_readOther 14 = .ok (.aload_n 1, 1) := by decide +kernel
theorem dX7_readOther_15 : decode cX7_readOther 15 = .ok (.aload_n 0, 1) := by decide +kernel
theorem dX7_readOther_16 : decode cX7_readOther 16 = .ok (.invokevirtual 150, 3) := by decide +kernel
theorem dX7_readOther_19 : decode cX7_readOther 19 = .ok (.putfield 164, 3) := by decide +kernel
theorem dX7_readOther_22 : decode cX7_readOther 22 = .ok (.aload_n 1, 1) := by decide +kernel
theorem dX7_readOther_23 : decode cX7_readOther 23 = .ok (.getfield 164, 3) := by decide +kernel
theorem dX7_readOther_26 : decode cX7_readOther 26 = .ok (.iconst (-1), 1) := by decide +kernel
theorem dX7_readOther_27 : decode cX7_readOther 27 = .ok (.if_icmp .ne 9, 3) := by decide +kernel
theorem dX7_readOther_30 : decode cX7_readOther 30 = .ok (.aload_n 0, 1) := by decide +kernel
theorem dX7_readOther_31 : decode cX7_readOther 31 = .ok (.iconst 3, 1) := by decide +kernel
theorem dX7_readOther_32 : decode cX7_readOther 32 = .ok (.invokevirtual 66, 3) := by decide +kernel
theorem dX7_readOther_35 : decode cX7_readOther 35 = .ok (.ireturn, 1) := by decide +kernel
theorem dX7_readOther_36 : decode cX7_readOther 36 = .ok (.aload_n 0, 1) := by decide +kernel
theorem dX7_readOther_37 : decode cX7_readOther 37 = .ok (.invokevirtual 69, 3) := by decide +kernel
theorem dX7_readOther_40 : decode cX7_readOther 40 = .ok (.iconst 1, 1) := by decide +kernel
theorem dX7_readOther_41 : decode cX7_readOther 41 = .ok (.ireturn, 1) := by decide +kernel
theorem dX7_readWhen_0 : decode cX7_readWhen 0 = .ok (.aload_n 0, 1) := by decide +kernel
theorem dX7_readWhen_1 : decode cX7_readWhen 1 = .ok (.bipush 11, 2) := by decide +kernel
theorem dX7_readWhen_3 : decode cX7_readWhen 3 = .ok (.invokevirtual 82, 3) := by decide +kernel
theorem dX7_readWhen_6 : decode cX7_readWhen 6 = .ok (.ifCond .eq 10, 3) := by decide +kernel
theorem dX7_readWhen_9 : decode cX7_readWhen 9 = .ok (.aload_n 0, 1) := by decide +kernel
theorem dX7_readWhen_10 : decode cX7_readWhen 10 = .ok (.invokevirtual 69, 3) := by decide +kernel
theorem dX7_readWhen_13 : decode cX7_readWhen 13 = .ok (.goto 57, 3) := by decide +kernel
theorem dX7_readWhen_16 : decode cX7_readWhen 16 = .ok (.aload_n 0, 1) := by decide +kernel
theorem dX7_readWhen_17 : decode cX7_readWhen 17 = .ok (.bipush 12, 2) := by decide +kernel
theorem dX7_readWhen_19 : decode cX7_readWhen 19 = .ok (.invokevirtual 82, 3) := by decide +kernel
theorem dX7_readWhen_22 : decode cX7_readWhen 22 = .ok (.ifCond .eq 15, 3) := by decide +kernel
theorem dX7_readWhen_25 : decode cX7_readWhen 25 = .ok (.aload_n 1, 1) := by decide +kernel
theorem dX7_readWhen_26 : decode cX7_readWhen 26 = .ok (.iconst 0, 1) := by decide +kernel
theorem dX7_readWhen_27 : decode cX7_readWhen 27 = .ok (.putfield 167, 3) := by decide +kernel
theorem dX7_readWhen_30 : decode cX7_readWhen 30 = .ok (.aload_n 0, 1) := by decide +kernel
theorem dX7_readWhen_31 : decode cX7_readWhen 31 = .ok (.invokevirtual 69, 3) := by decide +kernel
theorem dX7_readWhen_34 : decode cX7_readWhen 34 = .ok (.goto 36, 3) := by decide +kernel
theorem dX7_readWhen_37 : decode cX7_readWhen 37 = .ok (.aload_n 0, 1) := by decide +kernel
theorem dX7_readWhen_38 : decode cX7_readWhen 38 = .ok (.bipush 13, 2) := by decide +kernel
theorem dX7_readWhen_40 : decode cX7_readWhen 40 = .ok (.invokevirtual 82, 3) := by decide +kernel
theorem dX7_readWhen_43 : decode cX7_readWhen 43 = .ok (.ifCond .eq 27, 3) := by decide +kernel
theorem dX7_readWhen_46 : decode cX7_readWhen 46 = .ok (.aload_n 0, 1) := by decide +kernel
theorem dX7_readWhen_47 : decode cX7_readWhen 47 = .ok (.invokevirtual 69, 3) := by decide +kernel
theorem dX7_readWhen_50 : decode cX7_readWhen 50 = .ok (.aload_n 0, 1) := by decide +kernel
theorem dX7_readWhen_51 : decode cX7_readWhen 51 = .ok (.iconst 0, 1) := by decide +kernel
theorem dX7_readWhen_52 : decode cX7_readWhen 52 = .ok (.bipush 12, 2) := by decide +kernel
theorem dX7_readWhen_54 : decode cX7_readWhen 54 = .ok (.invokevirtual 98, 3) := by decide +kernel
theorem dX7_readWhen_57 : decode cX7_readWhen 57 = .ok (.ifCond .ne 5, 3) := by decide +kernel
theorem dX7_readWhen_60 : decode cX7_readWhen 60 = .ok (.iconst 0, 1) := by decide +kernel
theorem dX7_readWhen_61 : decode cX7_readWhen 61 = .ok (.ireturn, 1) := by decide +kernel
theorem dX7_readWhen_62 : decode cX7_readWhen 62 = .ok (.aload_n 1, 1) := by decide +kernel
theorem dX7_readWhen_63 : decode cX7_readWhen 63 = .ok (.aload_n 0, 1) := by decide +kernel
theorem dX7_readWhen_64 : decode cX7_readWhen 64 = .ok (.getfield 32, 3) := by decide +kernel
theorem dX7_readWhen_67 : decode cX7_readWhen 67 = .ok (.putfield 167, 3) := by decide +kernel
theorem dX7_readWhen_70 : decode cX7_readWhen 70 = .ok (.iconst 1, 1) := by decide +kernel
theorem dX7_readWhen_71 : decode cX7_readWhen 71 = .ok (.ireturn, 1) := by decide +kernel
theorem dX7_readBarrier_0 : decode cX7_readBarrier 0 = .ok (.aload_n 0, 1) := by decide +kernel
theorem dX7_readBarrier_1 : decode cX7_readBarrier 1 = .ok (.bipush 14, 2) := by decide +kernel
theorem dX7_readBarrier_3 : decode cX7_readBarrier 3 = .ok (.invokevirtual 82, 3) := by decide +kernel
theorem dX7_readBarrier_6 : decode cX7_readBarrier 6 = .ok (.istore_n 2, 1) := by decide +kernel
theorem dX7_readBarrier_7 : decode cX7_readBarrier 7 = .ok (.iload_n 2, 1) := by decide +kernel
theorem dX7_readBarrier_8 : decode cX7_readBarrier 8 = .ok (.ifCond .ne 14, 3) := by decide +kernel
theorem dX7_readBarrier_11 : decode cX7_readBarrier 11 = .ok (.aload_n 0, 1) := by decide +kernel
theorem dX7_readBarrier_12 : decode cX7_readBarrier 12 = .ok (.bipush 15, 2) := by decide +kernel
theorem dX7_readBarrier_14 : decode cX7_readBarrier 14 = .ok (.invokevirtual 82, 3) := by decide +kernel
theorem dX7_readBarrier_17 : decode cX7_readBarrier 17 = .ok (.ifCond .ne 5, 3) := by decide +kernel
theorem dX7_readBarrier_20 : decode cX7_readBarrier 20 = .ok (.iconst 1, 1) := by decide +kernel
theorem dX7_readBarrier_21 : decode cX7_readBarrier 21 = .ok (.ireturn, 1) := by decide +kernel
theorem dX7_readBarrier_22 : decode cX7_readBarrier 22 = .ok (.aload_n 1, 1) := by decide +kernel
theorem dX7_readBarrier_23 : decode cX7_readBarrier 23 = .ok (.iload_n 2, 1) := by decide +kernel
theorem dX7_readBarrier_24 : decode cX7_readBarrier 24 = .ok (.ifCond .eq 7, 3) := by decide +kernel
theorem dX7_readBarrier_27 : decode cX7_readBarrier 27 = .ok (.iconst 1, 1) := by decide +kernel
theorem dX7_readBarrier_28 : decode cX7_readBarrier 28 = .ok (.goto 4, 3) := by decide +kernel
theorem dX7_readBarrier_31 : decode cX7_readBarrier 31 = .ok (.iconst 2, 1) := by decide +kernel
theorem dX7_readBarrier_32 : decode cX7_readBarrier 32 = .ok (.putfield 170, 3) := by decide +kernel
theorem dX7_readBarrier_35 : decode cX7_readBarrier 35 = .ok (.aload_n 0, 1) := by decide +kernel
theorem dX7_readBarrier_36 : decode cX7_readBarrier 36 = .ok (.invokevirtual 69, 3) := by decide +kernel
theorem dX7_readBarrier_39 : decode cX7_readBarrier 39 = .ok (.aload_n 0, 1) := by decide +kernel
theorem dX7_readBarrier_40 : decode cX7_readBarrier 40 = .ok (.bipush 16, 2) := by decide +kernel
theorem dX7_readBarrier_42 : decode cX7_readBarrier 42 = .ok (.invokevirtual 82, 3) := by decide +kernel
theorem dX7_readBarrier_45 : decode cX7_readBarrier 45 = .ok (.ifCond .ne 18, 3) := by decide +kernel
theorem dX7_readBarrier_48 : decode cX7_readBarrier 48 = .ok (.aload_n 0, 1) := by decide +kernel
theorem dX7_readBarrier_49 : decode cX7_readBarrier 49 = .ok (.bipush 17, 2) := by decide +kernel
theorem dX7_readBarrier_51 : decode cX7_readBarrier 51 = .ok (.invokevirtual 82, 3) := by decide +kernel
theorem dX7_readBarrier_54 : decode cX7_readBarrier 54 = .ok (.ifCond .ne 9, 3) := by decide +kernel
theorem dX7_readBarrier_57 : decode cX7_readBarrier 57 = .ok (.aload_n 0, 1) := by decide +kernel
theorem dX7_readBarrier_58 : decode cX7_readBarrier 58 = .ok (.iconst 1, 1) := by decide +kernel
theorem dX7_readBarrier_59 : decode cX7_readBarrier 59 = .ok (.invokevirtual 66, 3) := by decide +kernel
theorem dX7_readBarrier_62 : decode cX7_readBarrier 62 = .ok (.ireturn, 1) := by decide +kernel
theorem dX7_readBarrier_63 : decode cX7_readBarrier 63 = .ok (.aload_n 1, 1) := by decide +kernel
theorem dX7_readBarrier_64 : decode cX7_readBarrier 64 = .ok (.aload_n 0, 1) := by decide +kernel
theorem dX7_readBarrier_65 : decode cX7_readBarrier 65 = .ok (.bipush 16, 2) := by decide +kernel
theorem dX7_readBarrier_67 : decode cX7_readBarrier 67 = .ok (.invokevirtual 82, 3) := by decide +kernel
theorem dX7_readBarrier_70 : decode cX7_readBarrier 70 = .ok (.ifCond .eq 7, 3) := by decide +kernel
theorem dX7_readBarrier_73 : decode cX7_readBarrier 73 = .ok (.iconst 1, 1) := by decide +kernel
theorem dX7_readBarrier_74 : decode cX7_readBarrier 74 = .ok (.goto 4, 3) := by decide +kernel
theorem dX7_readBarrier_77 : decode cX7_readBarrier 77 = .ok (.iconst 0, 1) := by decide +kernel
theorem dX7_readBarrier_78 : decode cX7_readBarrier 78 = .ok (.putfield 173, 3) := by decide +kernel
theorem dX7_readBarrier_81 : decode cX7_readBarrier 81 = .ok (.aload_n 0, 1) := by decide +kernel
theorem dX7_readBarrier_82 : decode cX7_readBarrier 82 = .ok (.invokevirtual 69, 3) := by decide +kernel
theorem dX7_readBarrier_85 : decode cX7_readBarrier 85 = .ok (.aload_n 0, 1) := by decide +kernel
theorem dX7_readBarrier_86 : decode cX7_readBarrier 86 = .ok (.iconst 0, 1) := by decide +kernel
theorem dX7_readBarrier_87 : decode cX7_readBarrier 87 = .ok (.sipush 999, 3) := by decide +kernel
theorem dX7_readBarrier_90 : decode cX7_readBarrier 90 = .ok (.invokevirtual 98, 3) := by decide +kernel
theorem dX7_readBarrier_93 : decode cX7_readBarrier 93 = .ok (.ifCond .ne 5, 3) := by decide +kernel
theorem dX7_readBarrier_96 : decode cX7_readBarrier 96 = .ok (.iconst 0, 1) := by decide +kernel
theorem dX7_readBarrier_97 : decode cX7_readBarrier 97 = .ok (.ireturn, 1) := by decide +kernel
theorem dX7_readBarrier_98 : decode cX7_readBarrier 98 = .ok (.aload_n 1, 1) := by decide +kernel
theorem dX7_readBarrier_99 : decode cX7_readBarrier 99 = .ok (.aload_n 0, 1) := by decide +kernel
theorem dX7_readBarrier_100 : decode cX7_readBarrier 100 = .ok (.getfield 32, 3) := by decide +kernel
theorem dX7_readBarrier_103 : decode cX7_readBarrier 103 = .ok (.putfield 176, 3) := by decide +kernel
theorem dX7_readBarrier_106 : decode cX7_readBarrier 106 = .ok (.iconst 1, 1) := by decide +kernel
theorem dX7_readBarrier_107 : decode cX7_readBarrier 107 = .ok (.ireturn, 1) := by decide +kernel
theorem dX7_readRebate_0 : decode cX7_readRebate 0 = .ok (.aload_n 1, 1) := by decide +kernel
theorem dX7_readRebate_1 : decode cX7_readRebate 1 = .ok (.getfield 170, 3) := by decide +kernel
theorem dX7_readRebate_4 : decode cX7_readRebate 4 = .ok (.iconst 1, 1) := by decide +kernel
theorem dX7_readRebate_5 : decode cX7_readRebate 5 = .ok (.if_icmp .ne 36, 3) := by decide +kernel
theorem dX7_readRebate_8 : decode cX7_readRebate 8 = .ok (.aload_n 0, 1) := by decide +kernel
theorem dX7_readRebate_9 : decode cX7_readRebate 9 = .ok (.bipush 18, 2) := by decide +kernel
theorem dX7_readRebate_11 : decode cX7_readRebate 11 = .ok (.invokevirtual 82, 3) := by decide +kernel
theorem dX7_readRebate_14 : decode cX7_readRebate 14 = .ok (.ifCond .eq 27, 3) := by decide +kernel
theorem dX7_readRebate_17 : decode cX7_readRebate 17 = .ok (.aload_n 0, 1) := by decide +kernel
theorem dX7_readRebate_18 : decode cX7_readRebate 18 = .ok (.invokevirtual 69, 3) := by decide +kernel
theorem dX7_readRebate_21 : decode cX7_readRebate 21 = .ok (.aload_n 0, 1) := by decide +kernel
theorem dX7_readRebate_22 : decode cX7_readRebate 22 = .ok (.iconst 0, 1) := by decide +kernel
theorem dX7_readRebate_23 : decode cX7_readRebate 23 = .ok (.bipush 99, 2) := by decide +kernel
theorem dX7_readRebate_25 : decode cX7_readRebate 25 = .ok (.invokevirtual 98, 3) := by decide +kernel
theorem dX7_readRebate_28 : decode cX7_readRebate 28 = .ok (.ifCond .ne 5, 3) := by decide +kernel
theorem dX7_readRebate_31 : decode cX7_readRebate 31 = .ok (.iconst 0, 1) := by decide +kernel
theorem dX7_readRebate_32 : decode cX7_readRebate 32 = .ok (.ireturn, 1) := by decide +kernel
theorem dX7_readRebate_33 : decode cX7_readRebate 33 = .ok (.aload_n 1, 1) := by decide +kernel
theorem dX7_readRebate_34 : decode cX7_readRebate 34 = .ok (.aload_n 0, 1) := by decide +kernel
theorem dX7_readRebate_35 : decode cX7_readRebate 35 = .ok (.getfield 32, 3) := by decide +kernel
theorem dX7_readRebate_38 : decode cX7_readRebate 38 = .ok (.putfield 179, 3) := by decide +kernel
theorem dX7_readRebate_41 : decode cX7_readRebate 41 = .ok (.iconst 1, 1) := by decide +kernel
theorem dX7_readRebate_42 : decode cX7_readRebate 42 = .ok (.ireturn, 1) := by decide +kernel
theorem dX7_readRecall_0 : decode cX7_readRecall 0 = .ok (.aload_n 0, 1) := by decide +kernel
theorem dX7_readRecall_1 : decode cX7_readRecall 1 = .ok (.bipush 19, 2) := by decide +kernel
theorem dX7_readRecall_3 : decode cX7_readRecall 3 = .ok (.invokevirtual 82, 3) := by decide +kernel
theorem dX7_readRecall_6 : decode cX7_readRecall 6 = .ok (.ifCond .eq 27, 3) := by decide +kernel
theorem dX7_readRecall_9 : decode cX7_readRecall 9 = .ok (.aload_n 0, 1) := by decide +kernel
theorem dX7_readRecall_10 : decode cX7_readRecall 10 = .ok (.invokevirtual 69, 3) := by decide +kernel
theorem dX7_readRecall_13 : decode cX7_readRecall 13 = .ok (.aload_n 0, 1) := by decide +kernel
theorem dX7_readRecall_14 : decode cX7_readRecall 14 = .ok (.iconst 1, 1) := by decide +kernel
theorem dX7_readRecall_15 : decode cX7_readRecall 15 = .ok (.bipush 99, 2) := by decide +kernel
theorem dX7_readRecall_17 : decode cX7_readRecall 17 = .ok (.invokevirtual 98, 3) := by decide +kernel
theorem dX7_readRecall_20 : decode cX7_readRecall 20 = .ok (.ifCond .ne 5, 3) := by decide +kernel
theorem dX7_readRecall_23 : decode cX7_readRecall 23 = .ok (.iconst 0, 1) := by decide +kernel
theorem dX7_readRecall_24 : decode cX7_readRecall 24 = .ok (.ireturn, 1) := by decide +kernel
theorem dX7_readRecall_25 : decode cX7_readRecall 25 = .ok (.aload_n 1, 1) := by decide +kernel
theorem dX7_readRecall_26 : decode cX7_readRecall 26 = .ok (.aload_n 0, 1) := by decide +kernel
theorem dX7_readRecall_27 : decode cX7_readRecall 27 = .ok (.getfield 32, 3) := by decide +kernel
theorem dX7_readRecall_30 : decode cX7_readRecall 30 = .ok (.putfield 182, 3) := by decide +kernel
theorem dX7_readRecall_33 : decode cX7_readRecall 33 = .ok (.iconst 1, 1) := by decide +kernel
theorem dX7_readRecall_34 : decode cX7_readRecall 34 = .ok (.ireturn, 1) := by decide +kernel
theorem dX7_readNumber_0 : decode cX7_readNumber 0 = .ok (.aload_n 0, 1) := by decide +kernel
theorem dX7_readNumber_1 : decode cX7_readNumber 1 = .ok (.iconst 3, 1) := by decide +kernel
theorem dX7_readNumber_2 : decode cX7_readNumber 2 = .ok (.invokevirtual 58, 3) := by decide +kernel
theorem dX7_readNumber_5 : decode cX7_readNumber 5 = .ok (.ifCond .ne 9, 3) := by decide +kernel
theorem dX7_readNumber_8 : decode cX7_readNumber 8 = .ok (.aload_n 0, 1) := by decide +kernel
theorem dX7_readNumber_9 : decode cX7_readNumber 9 = .ok (.iconst 1, 1) := by decide +kernel
theorem dX7_readNumber_10 : decode cX7_readNumber 10 = .ok (.invokevirtual 66, 3) := by decide +kernel
theorem dX7_readNumber_13 : decode cX7_readNumber 13 = .ok (.ireturn, 1) := by decide +kernel
theorem dX7_readNumber_14 : decode cX7_readNumber 14 = .ok (.aload_n 0, 1) := by decide +kernel
theorem dX7_readNumber_15 : decode cX7_readNumber 15 = .ok (.getfield 43, 3) := by decide +kernel
theorem dX7_readNumber_18 : decode cX7_readNumber 18 = .ok (.getfield 79, 3) := by decide +kernel
theorem dX7_readNumber_21 : decode cX7_readNumber 21 = .ok (.aload_n 0, 1) := by decide +kernel
theorem dX7_readNumber_22 : decode cX7_readNumber 22 = .ok (.getfield 29, 3) := by decide +kernel
theorem dX7_readNumber_25 : decode cX7_readNumber 25 = .ok (.laload, 1) := by decide +kernel
theorem dX7_readNumber_26 : decode cX7_readNumber 26 = .ok (.iload_n 1, 1) := by decide +kernel
theorem dX7_readNumber_27 : decode cX7_readNumber 27 = .ok (.i2l, 1) := by decide +kernel
theorem dX7_readNumber_28 : decode cX7_readNumber 28 = .ok (.lcmp, 1) := by decide +kernel
theorem dX7_readNumber_29 : decode cX7_readNumber 29 = .ok (.ifCond .lt 21, 3) := by decide +kernel
theorem dX7_readNumber_32 : decode cX7_readNumber 32 = .ok (.aload_n 0, 1) := by decide +kernel
theorem dX7_readNumber_33 : decode cX7_readNumber 33 = .ok (.getfield 43, 3) := by decide +kernel
theorem dX7_readNumber_36 : decode cX7_readNumber 36 = .ok (.getfield 79, 3) := by decide +kernel
theorem dX7_readNumber_39 : decode cX7_readNumber 39 = .ok (.aload_n 0, 1) := by decide +kernel
theorem dX7_readNumber_40 : decode cX7_readNumber 40 = .ok (.getfield 29, 3) := by decide +kernel
theorem dX7_readNumber_43 : decode cX7_readNumber 43 = .ok (.laload, 1) := by decide +kernel
theorem dX7_readNumber_44 : decode cX7_readNumber 44 = .ok (.iload_n 2, 1) := by decide +kernel
theorem dX7_readNumber_45 : decode cX7_readNumber 45 = .ok (.i2l, 1) := by decide +kernel
theorem dX7_readNumber_46 : decode cX7_readNumber 46 = .ok (.lcmp, 1) := by decide +kernel
theorem dX7_readNumber_47 : decode cX7_readNumber 47 = .ok (.ifCond .le 9, 3) := by decide +kernel
theorem dX7_readNumber_50 : decode cX7_readNumber 50 = .ok (.aload_n 0, 1) := by decide +kernel
theorem dX7_readNumber_51 : decode cX7_readNumber 51 = .ok (.iconst 2, 1) := by decide +kernel
theorem dX7_readNumber_52 : decode cX7_readNumber 52 = .ok (.invokevirtual 66, 3) := by decide +kernel
theorem dX7_readNumber_55 : decode cX7_readNumber 55 = .ok (.ireturn, 1) := by decide +kernel
theorem dX7_readNumber_56 : decode cX7_readNumber 56 = .ok (.aload_n 0, 1) := by decide +kernel
theorem dX7_readNumber_57 : decode cX7_readNumber 57 = .ok (.aload_n 0, 1) := by decide +kernel
theorem dX7_readNumber_58 : decode cX7_readNumber 58 = .ok (.getfield 43, 3) := by decide +kernel
theorem dX7_readNumber_61 : decode cX7_readNumber 61 = .ok (.getfield 79, 3) := by decide +kernel
theorem dX7_readNumber_64 : decode cX7_readNumber 64 = .ok (.aload_n 0, 1) := by decide +kernel
theorem dX7_readNumber_65 : decode cX7_readNumber 65 = .ok (.getfield 29, 3) := by decide +kernel
theorem dX7_readNumber_68 : decode cX7_readNumber 68 = .ok (.laload, 1) := by decide +kernel
theorem dX7_readNumber_69 : decode cX7_readNumber 69 = .ok (.l2i, 1) := by decide +kernel
theorem dX7_readNumber_70 : decode cX7_readNumber 70 = .ok (.putfield 32, 3) := by decide +kernel
theorem dX7_readNumber_73 : decode cX7_readNumber 73 = .ok (.aload_n 0, 1) := by decide +kernel
theorem dX7_readNumber_74 : decode cX7_readNumber 74 = .ok (.aload_n 0, 1) := by decide +kernel
theorem dX7_readNumber_75 : decode cX7_readNumber 75 = .ok (.getfield 43, 3) := by decide +kernel
theorem dX7_readNumber_78 : decode cX7_readNumber 78 = .ok (.getfield 72, 3) := by decide +kernel
theorem dX7_readNumber_81 : decode cX7_readNumber 81 = .ok (.aload_n 0, 1) := by decide +kernel
theorem dX7_readNumber_82 : decode cX7_readNumber 82 = .ok (.getfield 29, 3) := by decide +kernel
theorem dX7_readNumber_85 : decode cX7_readNumber 85 = .ok (.iaload, 1) := by decide +kernel
theorem dX7_readNumber_86 : decode cX7_readNumber 86 = .ok (.putfield 35, 3) := by decide +kernel
theorem dX7_readNumber_89 : decode cX7_readNumber 89 = .ok (.aload_n 0, 1) := by decide +kernel
theorem dX7_readNumber_90 : decode cX7_readNumber 90 = .ok (.invokevirtual 69, 3) := by decide +kernel
theorem dX7_readNumber_93 : decode cX7_readNumber 93 = .ok (.iconst 1, 1) := by decide +kernel
theorem dX7_readNumber_94 : decode cX7_readNumber 94 = .ok (.ireturn, 1) := by decide +kernel
theorem dX8_init_0 : decode cX8_init 0 = .ok (.aload_n 0, 1) := by decide +kernel
theorem dX8_init_1 : decode cX8_init 1 = .ok (.invokespecial 3, 3) := by decide +kernel
theorem dX8_init_4 : decode cX8_init 4 = .ok (.aload_n 0, 1) := by decide +kernel
theorem dX8_init_5 : decode cX8_init 5 = .ok (.bipush 91, 2) := by decide +kernel
theorem dX8_init_7 : decode cX8_init 7 = .ok (.newarray .long, 2) := by decide +kernel
theorem dX8_init_9 : decode cX8_init 9 = .ok (.putfield 9, 3) := by decide +kernel
theorem dX8_init_12 : decode cX8_init 12 = .ok (.aload_n 0, 1) := by decide +kernel
theorem dX8_init_13 : decode cX8_init 13 = .ok (.bipush 91, 2) := by decide +kernel
theorem dX8_init_15 : decode cX8_init 15 = .ok (.newarray .long, 2) := by decide +kernel
theorem dX8_init_17 : decode cX8_init 17 = .ok (.putfield 15, 3) := by decide +kernel
theorem dX8_init_20 : decode cX8_init 20 = .ok (.aload_n 0, 1) := by decide +kernel
theorem dX8_init_21 : decode cX8_init 21 = .ok (.bipush 92, 2) := by decide +kernel
theorem dX8_init_23 : decode cX8_init 23 = .ok (.newarray .int, 2) := by decide +kernel
theorem dX8_init_25 : decode cX8_init 25 = .ok (.putfield 18, 3) := by decide +kernel
theorem dX8_init_28 : decode cX8_init 28 = .ok (.aload_n 0, 1) := by decide +kernel
theorem dX8_init_29 : decode cX8_init 29 = .ok (.iconst 0, 1) := by decide +kernel
theorem dX8_init_30 : decode cX8_init 30 = .ok (.putfield 22, 3) := by decide +kernel
theorem dX8_init_33 : decode cX8_init 33 = .ok (.aload_n 0, 1) := by decide +kernel
theorem dX8_init_34 : decode cX8_init 34 = .ok (.aload_n 1, 1) := by decide +kernel
theorem dX8_init_35 : decode cX8_init 35 = .ok (.putfield 26, 3) := by decide +kernel
theorem dX8_init_38 : decode cX8_init 38 = .ok (.return_, 1) := by decide +kernel
theorem dX8_worthOf_0 : decode cX8_worthOf 0 = .ok (.aload_n 0, 1) := by decide +kernel
theorem dX8_worthOf_1 : decode cX8_worthOf 1 = .ok (.getfield 26, 3) := by decide +kernel
theorem dX8_worthOf_4 : decode cX8_worthOf 4 = .ok (.getfield 30, 3) := by decide +kernel
theorem dX8_worthOf_7 : decode cX8_worthOf 7 = .ok (.getfield 36, 3) := by decide +kernel
theorem dX8_worthOf_10 : decode cX8_worthOf 10 = .ok (.istore 5, 2) := by decide +kernel
theorem dX8_worthOf_12 : decode cX8_worthOf 12 = .ok (.iload 5, 2) := by decide +kernel
theorem dX8_worthOf_14 : decode cX8_worthOf 14 = .ok (.ifCond .lt 175, 3) := by decide +kernel
theorem dX8_worthOf_17 : decode cX8_worthOf 17 = .ok (.aload_n 0, 1) := by decide +kernel
theorem dX8_worthOf_18 : decode cX8_worthOf 18 = .ok (.getfield 26, 3) := by decide +kernel
theorem dX8_worthOf_21 : decode cX8_worthOf 21 = .ok (.iload 5, 2) := by decide +kernel
theorem dX8_worthOf_23 : decode cX8_worthOf 23 = .ok (.aload_n 2, 1) := by decide +kernel
theorem dX8_worthOf_24 : decode cX8_worthOf 24 = .ok (.getfield 41, 3) := by decide +kernel
theorem dX8_worthOf_27 : decode cX8_worthOf 27 = .ok (.invokevirtual 46, 3) := by decide +kernel
theorem dX8_worthOf_30 : decode cX8_worthOf 30 = .ok (.istore 6, 2) := by decide +kernel
theorem dX8_worthOf_32 : decode cX8_worthOf 32 = .ok (.iconst 0, 1) := by decide +kernel
theorem dX8_worthOf_33 : decode cX8_worthOf 33 = .ok (.istore 7, 2) := by decide +kernel
theorem dX8_worthOf_35 : decode cX8_worthOf 35 = .ok (.iload 7, 2) := by decide +kernel
theorem dX8_worthOf_37 : decode cX8_worthOf 37 = .ok (.iload 5, 2) := by decide +kernel
theorem dX8_worthOf_39 : decode cX8_worthOf 39 = .ok (.if_icmp .gt 144, 3) := by decide +kernel
theorem dX8_worthOf_42 : decode cX8_worthOf 42 = .ok (.iload 5, 2) := by decide +kernel
theorem dX8_worthOf_44 : decode cX8_worthOf 44 = .ok (.iload 7, 2) := by decide +kernel
theorem dX8_worthOf_46 : decode cX8_worthOf 46 = .ok (.invokestatic 50, 3) := by decide +kernel
theorem dX8_worthOf_49 : decode cX8_worthOf 49 = .ok (.istore 8, 2) := by decide +kernel
theorem dX8_worthOf_51 : decode cX8_worthOf 51 = .ok (.iload 5, 2) := by decide +kernel
theorem dX8_worthOf_53 : decode cX8_worthOf 53 = .ok (.aload_n 0, 1) := by decide +kernel
theorem dX8_worthOf_54 : decode cX8_worthOf 54 = .ok (.getfield 26, 3) := by decide +kernel
theorem dX8_worthOf_57 : decode cX8_worthOf 57 = .ok (.getfield 30, 3) := by decide +kernel
theorem dX8_worthOf_60 : decode cX8_worthOf 60 = .ok (.getfield 36, 3) := by decide +kernel
theorem dX8_worthOf_63 : decode cX8_worthOf 63 = .ok (.if_icmp .eq 22, 3) := by decide +kernel
theorem dX8_worthOf_66 : decode cX8_worthOf 66 = .ok (.aload_n 0, 1) := by decide +kernel
theorem dX8_worthOf_67 : decode cX8_worthOf 67 = .ok (.getfield 26, 3) := by decide +kernel
theorem dX8_worthOf_70 : decode cX8_worthOf 70 = .ok (.getfield 54, 3) := by decide +kernel
theorem dX8_worthOf_73 : decode cX8_worthOf 73 = .ok (.iload 8, 2) := by decide +kernel
theorem dX8_worthOf_75 : decode cX8_worthOf 75 = .ok (.iaload, 1) := by decide +kernel
theorem dX8_worthOf_76 : decode cX8_worthOf 76 = .ok (.iload_n 3, 1) := by decide +kernel
theorem dX8_worthOf_77 : decode cX8_worthOf 77 = .ok (.iload 4, 2) := by decide +kernel
theorem dX8_worthOf_79 : decode cX8_worthOf 79 = .ok (.invokestatic 57, 3) := by decide +kernel
theorem dX8_worthOf_82 : decode cX8_worthOf 82 = .ok (.ifCond .eq 7, 3) := by decide +kernel
theorem dX8_worthOf_85 : decode cX8_worthOf 85 = .ok (.iconst 1, 1) := by decide +kernel
theorem dX8_worthOf_86 : decode cX8_worthOf 86 = .ok (.goto 4, 3) := by decide +kernel
theorem dX8_worthOf_89 : decode cX8_worthOf 89 = .ok (.iconst 0, 1) := by decide +kernel
theorem dX8_worthOf_90 : decode cX8_worthOf 90 = .ok (.istore 9, 2) := by decide +kernel
theorem dX8_worthOf_92 : decode cX8_worthOf 92 = .ok (.iload 6, 2) := by decide +kernel
theorem dX8_worthOf_94 : decode cX8_worthOf 94 = .ok (.ifCond .eq 24, 3) := by decide +kernel
theorem dX8_worthOf_97 : decode cX8_worthOf 97 = .ok (.iload 9, 2) := by decide +kernel
theorem dX8_worthOf_99 : decode cX8_worthOf 99 = .ok (.ifCond .eq 19, 3) := by decide +kernel
theorem dX8_worthOf_102 : decode cX8_worthOf 102 = .ok (.aload_n 1, 1) := by decide +kernel
theorem dX8_worthOf_103 : decode cX8_worthOf 103 = .ok (.getfield 61, 3) := by decide +kernel
theorem dX8_worthOf_106 : decode cX8_worthOf 106 = .ok (.iload 8, 2) := by decide +kernel
theorem dX8_worthOf_108 : decode cX8_worthOf 108 = .ok (.laload, 1) := by decide +kernel
theorem dX8_worthOf_109 : decode cX8_worthOf 109 = .ok (.lconst 0, 1) := by decide +kernel
theorem dX8_worthOf_110 : decode cX8_worthOf 110 = .ok (.lcmp, 1) := by decide +kernel
theorem dX8_worthOf_111 : decode cX8_worthOf 111 = .ok (.ifCond .le 7, 3) := by decide +kernel
theorem dX8_worthOf_114 : decode cX8_worthOf 114 = .ok (.iconst 1, 1) := by decide +kernel
theorem dX8_worthOf_115 : decode cX8_worthOf 115 = .ok (.goto 4, 3) := by decide +kernel
theorem dX8_worthOf_118 : decode cX8_worthOf 118 = .ok (.iconst 0, 1) := by decide +kernel
theorem dX8_worthOf_119 : decode cX8_worthOf 119 = .ok (.istore 10, 2) := by decide +kernel
theorem dX8_worthOf_121 : decode cX8_worthOf 121 = .ok (.aload_n 0, 1) := by decide +kernel
theorem dX8_worthOf_122 : decode cX8_worthOf 122 = .ok (.getfield 9, 3) := by decide +kernel
theorem dX8_worthOf_125 : decode cX8_worthOf 125 = .ok (.iload 8, 2) := by decide +kernel
theorem dX8_worthOf_127 : decode cX8_worthOf 127 = .ok (.iload 10, 2) := by decide +kernel
theorem dX8_worthOf_129 : decode cX8_worthOf 129 = .ok (.ifCond .eq 13, 3) := by decide +kernel
theorem dX8_worthOf_132 : decode cX8_worthOf 132 = .ok (.aload_n 1, 1) := by decide +kernel
theorem dX8_worthOf_133 : decode cX8_worthOf 133 = .ok (.getfield 61, 3) := by decide +kernel
theorem dX8_worthOf_136 : decode cX8_worthOf 136 = .ok (.iload 8, 2) := by decide +kernel
theorem dX8_worthOf_138 : decode cX8_worthOf 138 = .ok (.laload, 1) := by decide +kernel
theorem dX8_worthOf_139 : decode cX8_worthOf 139 = .ok (.goto 18, 3) := by decide +kernel
theorem dX8_worthOf_142 : decode cX8_worthOf 142 = .ok (.aload_n 0, 1) := by decide +kernel
theorem dX8_worthOf_143 : decode cX8_worthOf 143 = .ok (.getfield 26, 3) := by decide +kernel
theorem dX8_worthOf_146 : decode cX8_worthOf 146 = .ok (.aload_n 0, 1) := by decide +kernel
theorem dX8_worthOf_147 : decode cX8_worthOf 147 = .ok (.getfield 9, 3) := by decide +kernel
theorem dX8_worthOf_150 : decode cX8_worthOf 150 = .ok (.iload 5, 2) := by decide +kernel
theorem dX8_worthOf_152 : decode cX8_worthOf 152 = .ok (.iload 8, 2) := by decide +kernel
theorem dX8_worthOf_154 : decode cX8_worthOf 154 = .ok (.invokevirtual 66, 3) := by decide +kernel
theorem dX8_worthOf_157 : decode cX8_worthOf 157 = .ok (.lastore, 1) := by decide +kernel
theorem dX8_worthOf_158 : decode cX8_worthOf 158 = .ok (.aload_n 0, 1) := by decide +kernel
theorem dX8_worthOf_159 : decode cX8_worthOf 159 = .ok (.getfield 15, 3) := by decide +kernel
theorem dX8_worthOf_162 : decode cX8_worthOf 162 = .ok (.iload 8, 2) := by decide +kernel
theorem dX8_worthOf_164 : decode cX8_worthOf 164 = .ok (.aload_n 0, 1) := by decide +kernel
theorem dX8_worthOf_165 : decode cX8_worthOf 165 = .ok (.aload_n 1, 1) := by decide +kernel
theorem dX8_worthOf_166 : decode cX8_worthOf 166 = .ok (.aload_n 2, 1) := by decide +kernel
theorem dX8_worthOf_167 : decode cX8_worthOf 167 = .ok (.iload 5, 2) := by decide +kernel
theorem dX8_worthOf_169 : decode cX8_worthOf 169 = .ok (.iload 8, 2) := by decide +kernel
theorem dX8_worthOf_171 : decode cX8_worthOf 171 = .ok (.iload 10, 2) := by decide +kernel
theorem dX8_worthOf_173 : decode cX8_worthOf 173 = .ok (.invokevirtual 70, 3) := by decide +kernel
theorem dX8_worthOf_176 : decode cX8_worthOf 176 = .ok (.lastore, 1) := by decide +kernel
theorem dX8_worthOf_177 : decode cX8_worthOf 177 = .ok (.iinc 7 1, 3) := by decide +kernel
theorem dX8_worthOf_180 : decode cX8_worthOf 180 = .ok (.goto (-145), 3) := by decide +kernel
theorem dX8_worthOf_183 : decode cX8_worthOf 183 = .ok (.iinc 5 (-1), 3) := by decide +kernel
theorem dX8_worthOf_186 : decode cX8_worthOf 186 = .ok (.goto (-174), 3) := by decide +kernel
theorem dX8_worthOf_189 : decode cX8_worthOf 189 = .ok (.aload_n 0, 1) := by decide +kernel
theorem dX8_worthOf_190 : decode cX8_worthOf 190 = .ok (.getfield 15, 3) := by decide +kernel
theorem dX8_worthOf_193 : decode cX8_worthOf 193 = .ok (.iconst 0, 1) := by decide +kernel
theorem dX8_worthOf_194 : decode cX8_worthOf 194 = .ok (.laload, 1) := by decide +kernel
theorem dX8_worthOf_195 : decode cX8_worthOf 195 = .ok (.lreturn, 1) := by decide +kernel
theorem dX8_barredWorth_0 : decode cX8_barredWorth 0 = .ok (.aload_n 2, 1) := by decide +kernel
theorem dX8_barredWorth_1 : decode cX8_barredWorth 1 = .ok (.getfield 74, 3) := by decide +kernel
theorem dX8_barredWorth_4 : decode cX8_barredWorth 4 = .ok (.ifCond .ne 11, 3) := by decide +kernel
theorem dX8_barredWorth_7 : decode cX8_barredWorth 7 = .ok (.aload_n 0, 1) := by decide +kernel
theorem dX8_barredWorth_8 : decode cX8_barredWorth 8 = .ok (.getfield 9, 3) := by decide +kernel
theorem dX8_barredWorth_11 : decode cX8_barredWorth 11 = .ok (.iload 4, 2) := by decide +kernel
theorem dX8_barredWorth_13 : decode cX8_barredWorth 13 = .ok (.laload, 1) := by decide +kernel
theorem dX8_barredWorth_14 : decode cX8_barredWorth 14 = .ok (.lreturn, 1) := by decide +kernel
theorem dX8_barredWorth_15 : decode cX8_barredWorth 15 = .ok (.aload_n 0, 1) := by decide +kernel
theorem dX8_barredWorth_16 : decode cX8_barredWorth 16 = .ok (.getfield 26, 3) := by decide +kernel
theorem dX8_barredWorth_19 : decode cX8_barredWorth 19 = .ok (.aload_n 2, 1) := by decide +kernel
theorem dX8_barredWorth_20 : decode cX8_barredWorth 20 = .ok (.iload 4, 2) := by decide +kernel
theorem dX8_barredWorth_22 : decode cX8_barredWorth 22 = .ok (.invokevirtual 77, 3) := by decide +kernel
theorem dX8_barredWorth_25 : decode cX8_barredWorth 25 = .ok (.ifCond .eq 36, 3) := by decide +kernel
theorem dX8_barredWorth_28 : decode cX8_barredWorth 28 = .ok (.aload_n 2, 1) := by decide +kernel
theorem dX8_barredWorth_29 : decode cX8_barredWorth 29 = .ok (.getfield 74, 3) := by decide +kernel
theorem dX8_barredWorth_32 : decode cX8_barredWorth 32 = .ok (.iconst 1, 1) := by decide +kernel
theorem dX8_barredWorth_33 : decode cX8_barredWorth 33 = .ok (.if_icmp .ne 20, 3) := by decide +kernel
theorem dX8_barredWorth_36 : decode cX8_barredWorth 36 = .ok (.aload_n 2, 1) := by decide +kernel
theorem dX8_barredWorth_37 : decode cX8_barredWorth 37 = .ok (.getfield 81, 3) := by decide +kernel
theorem dX8_barredWorth_40 : decode cX8_barredWorth 40 = .ok (.i2l, 1) := by decide +kernel
theorem dX8_barredWorth_41 : decode cX8_barredWorth 41 = .ok (.aload_n 0, 1) := by decide +kernel
theorem dX8_barredWorth_42 : decode cX8_barredWorth 42 = .ok (.getfield 26, 3) := by decide +kernel
theorem dX8_barredWorth_45 : decode cX8_barredWorth 45 = .ok (.iload_n 3, 1) := by decide +kernel
theorem dX8_barredWorth_46 : decode cX8_barredWorth 46 = .ok (.invokevirtual 84, 3) := by decide +kernel
theorem dX8_barredWorth_49 : decode cX8_barredWorth 49 = .ok (.lmul, 1) := by decide +kernel
theorem dX8_barredWorth_50 : decode cX8_barredWorth 50 = .ok (.goto 10, 3) := by decide +kernel
theorem dX8_barredWorth_53 : decode cX8_barredWorth 53 = .ok (.aload_n 0, 1) := by decide +kernel
theorem dX8_barredWorth_54 : decode cX8_barredWorth 54 = .ok (.getfield 9, 3) := by decide +kernel
theorem dX8_barredWorth_57 : decode cX8_barredWorth 57 = .ok (.iload 4, 2) := by decide +kernel
theorem dX8_barredWorth_59 : decode cX8_barredWorth 59 = .ok (.laload, 1) := by decide +kernel
theorem dX8_barredWorth_60 : decode cX8_barredWorth 60 = .ok (.lreturn, 1) := by decide +kernel
theorem dX8_barredWorth_61 : decode cX8_barredWorth 61 = .ok (.aload_n 2, 1) := by decide +kernel
theorem dX8_barredWorth_62 : decode cX8_barredWorth 62 = .ok (.getfield 74, 3) := by decide +kernel
theorem dX8_barredWorth_65 : decode cX8_barredWorth 65 = .ok (.iconst 1, 1) := by decide +kernel
theorem dX8_barredWorth_66 : decode cX8_barredWorth 66 = .ok (.if_icmp .ne 16, 3) := by decide +kernel
theorem dX8_barredWorth_69 : decode cX8_barredWorth 69 = .ok (.iload 5, 2) := by decide +kernel
theorem dX8_barredWorth_71 : decode cX8_barredWorth 71 = .ok (.ifCond .eq 11, 3) := by decide +kernel
theorem dX8_barredWorth_74 : decode cX8_barredWorth 74 = .ok (.aload_n 1, 1) := by decide +kernel
theorem dX8_barredWorth_75 : decode cX8_barredWorth 75 = .ok (.getfield 61, 3) := by decide +kernel
theorem dX8_barredWorth_78 : decode cX8_barredWorth 78 = .ok (.iload 4, 2) := by decide +kernel
theorem dX8_barredWorth_80 : decode cX8_barredWorth 80 = .ok (.laload, 1) := by decide +kernel
theorem dX8_barredWorth_81 : decode cX8_barredWorth 81 = .ok (.lreturn, 1) := by decide +kernel
theorem dX8_barredWorth_82 : decode cX8_barredWorth 82 = .ok (.aload_n 0, 1) := by decide +kernel
theorem dX8_barredWorth_83 : decode cX8_barredWorth 83 = .ok (.getfield 26, 3) := by decide +kernel
theorem dX8_barredWorth_86 : decode cX8_barredWorth 86 = .ok (.aload_n 0, 1) := by decide +kernel
theorem dX8_barredWorth_87 : decode cX8_barredWorth 87 = .ok (.getfield 15, 3) := by decide +kernel
theorem dX8_barredWorth_90 : decode cX8_barredWorth 90 = .ok (.iload_n 3, 1) := by decide +kernel
theorem dX8_barredWorth_91 : decode cX8_barredWorth 91 = .ok (.iload 4, 2) := by decide +kernel
theorem dX8_barredWorth_93 : decode cX8_barredWorth 93 = .ok (.invokevirtual 66, 3) := by decide +kernel
theorem dX8_barredWorth_96 : decode cX8_barredWorth 96 = .ok (.lreturn, 1) := by decide +kernel
theorem dX8_bestMark_0 : decode cX8_bestMark 0 = .ok (.aload_n 0, 1) := by decide +kernel
theorem dX8_bestMark_1 : decode cX8_bestMark 1 = .ok (.aload_n 1, 1) := by decide +kernel
theorem dX8_bestMark_2 : decode cX8_bestMark 2 = .ok (.aload_n 2, 1) := by decide +kernel
theorem dX8_bestMark_3 : decode cX8_bestMark 3 = .ok (.iload_n 3, 1) := by decide +kernel
theorem dX8_bestMark_4 : decode cX8_bestMark 4 = .ok (.invokevirtual 88, 3) := by decide +kernel
theorem dX8_bestMark_7 : decode cX8_bestMark 7 = .ok (.iconst 0, 1) := by decide +kernel
theorem dX8_bestMark_8 : decode cX8_bestMark 8 = .ok (.istore 4, 2) := by decide +kernel
theorem dX8_bestMark_10 : decode cX8_bestMark 10 = .ok (.aload_n 0, 1) := by decide +kernel
theorem dX8_bestMark_11 : decode cX8_bestMark 11 = .ok (.aload_n 1, 1) := by decide +kernel
theorem dX8_bestMark_12 : decode cX8_bestMark 12 = .ok (.aload_n 2, 1) := by decide +kernel
theorem dX8_bestMark_13 : decode cX8_bestMark 13 = .ok (.iconst 0, 1) := by decide +kernel
theorem dX8_bestMark_14 : decode cX8_bestMark 14 = .ok (.iload_n 3, 1) := by decide +kernel
theorem dX8_bestMark_15 : decode cX8_bestMark 15 = .ok (.invokevirtual 92, 3) := by decide +kernel
theorem dX8_bestMark_18 : decode cX8_bestMark 18 = .ok (.lstore 5, 2) := by decide +kernel
theorem dX8_bestMark_20 : decode cX8_bestMark 20 = .ok (.iconst 0, 1) := by decide +kernel
theorem dX8_bestMark_21 : decode cX8_bestMark 21 = .ok (.istore 7, 2) := by decide +kernel
theorem dX8_bestMark_23 : decode cX8_bestMark 23 = .ok (.iload 7, 2) := by decide +kernel
theorem dX8_bestMark_25 : decode cX8_bestMark 25 = .ok (.aload_n 0, 1) := by decide +kernel
theorem dX8_bestMark_26 : decode cX8_bestMark 26 = .ok (.getfield 22, 3) := by decide +kernel
theorem dX8_bestMark_29 : decode cX8_bestMark 29 = .ok (.if_icmp .ge 46, 3) := by decide +kernel
theorem dX8_bestMark_32 : decode cX8_bestMark 32 = .ok (.aload_n 0, 1) := by decide +kernel
theorem dX8_bestMark_33 : decode cX8_bestMark 33 = .ok (.aload_n 1, 1) := by decide +kernel
theorem dX8_bestMark_34 : decode cX8_bestMark 34 = .ok (.aload_n 2, 1) := by decide +kernel
theorem dX8_bestMark_35 : decode cX8_bestMark 35 = .ok (.aload_n 0, 1) := by decide +kernel
theorem dX8_bestMark_36 : decode cX8_bestMark 36 = .ok (.getfield 18, 3) := by decide +kernel
theorem dX8_bestMark_39 : decode cX8_bestMark 39 = .ok (.iload 7, 2) := by decide +kernel
theorem dX8_bestMark_41 : decode cX8_bestMark 41 = .ok (.iaload, 1) := by decide +kernel
theorem dX8_bestMark_42 : decode cX8_bestMark 42 = .ok (.iload_n 3, 1) := by decide +kernel
theorem dX8_bestMark_43 : decode cX8_bestMark 43 = .ok (.invokevirtual 92, 3) := by decide +kernel
theorem dX8_bestMark_46 : decode cX8_bestMark 46 = .ok (.lstore 8, 2) := by decide +kernel
theorem dX8_bestMark_48 : decode cX8_bestMark 48 = .ok (.lload 8, 2) := by decide +kernel
theorem dX8_bestMark_50 : decode cX8_bestMark 50 = .ok (.lload 5, 2) := by decide +kernel
theorem dX8_bestMark_52 : decode cX8_bestMark 52 = .ok (.lcmp, 1) := by decide +kernel
theorem dX8_bestMark_53 : decode cX8_bestMark 53 = .ok (.ifCond .le 16, 3) := by decide +kernel
theorem dX8_bestMark_56 : decode cX8_bestMark 56 = .ok (.lload 8, 2) := by decide +kernel
theorem dX8_bestMark_58 : decode cX8_bestMark 58 = .ok (.lstore 5, 2) := by decide +kernel
theorem dX8_bestMark_60 : decode cX8_bestMark 60 = .ok (.aload_n 0, 1) := by decide +kernel
theorem dX8_bestMark_61 : decode cX8_bestMark 61 = .ok (.getfield 18, 3) := by decide +kernel
theorem dX8_bestMark_64 : decode cX8_bestMark 64 = .ok (.iload 7, 2) := by decide +kernel
theorem dX8_bestMark_66 : decode cX8_bestMark 66 = .ok (.iaload, 1) := by decide +kernel
theorem dX8_bestMark_67 : decode cX8_bestMark 67 = .ok (.istore 4, 2) := by decide +kernel
theorem dX8_bestMark_69 : decode cX8_bestMark 69 = .ok (.iinc 7 1, 3) := by decide +kernel
theorem dX8_bestMark_72 : decode cX8_bestMark 72 = .ok (.goto (-49), 3) := by decide +kernel
theorem dX8_bestMark_75 : decode cX8_bestMark 75 = .ok (.iload 4, 2) := by decide +kernel
theorem dX8_bestMark_77 : decode cX8_bestMark 77 = .ok (.ireturn, 1) := by decide +kernel
theorem dX8_collectMarks_0 : decode cX8_collectMarks 0 = .ok (.aload_n 0, 1) := by decide +kernel
theorem dX8_collectMarks_1 : decode cX8_collectMarks 1 = .ok (.iconst 0, 1) := by decide +kernel
theorem dX8_collectMarks_2 : decode cX8_collectMarks 2 = .ok (.putfield 22, 3) := by decide +kernel
theorem dX8_collectMarks_5 : decode cX8_collectMarks 5 = .ok (.iconst 0, 1) := by decide +kernel
theorem dX8_collectMarks_6 : decode cX8_collectMarks 6 = .ok (.istore 4, 2) := by decide +kernel
theorem dX8_collectMarks_8 : decode cX8_collectMarks 8 = .ok (.iload 4, 2) := by decide +kernel
theorem dX8_collectMarks_10 : decode cX8_collectMarks 10 = .ok (.aload_n 0, 1) := by decide +kernel
theorem dX8_collectMarks_11 : decode cX8_collectMarks 11 = .ok (.getfield 26, 3) := by decide +kernel
theorem dX8_collectMarks_14 : decode cX8_collectMarks 14 = .ok (.getfield 30, 3) := by decide +kernel
theorem dX8_collectMarks_17 : decode cX8_collectMarks 17 = .ok (.getfield 36, 3) := by decide +kernel
theorem dX8_collectMarks_20 : decode cX8_collectMarks 20 = .ok (.if_icmp .ge 78, 3) := by decide +kernel
theorem dX8_collectMarks_23 : decode cX8_collectMarks 23 = .ok (.iconst 0, 1) := by decide +kernel
theorem dX8_collectMarks_24 : decode cX8_collectMarks 24 = .ok (.istore 5, 2) := by decide +kernel
theorem dX8_collectMarks_26 : decode cX8_collectMarks 26 = .ok (.iload 5, 2) := by decide +kernel
theorem dX8_collectMarks_28 : decode cX8_collectMarks 28 = .ok (.iload 4, 2) := by decide +kernel
theorem dX8_collectMarks_30 : decode cX8_collectMarks 30 = .ok (.if_icmp .gt 62, 3) := by decide +kernel
theorem dX8_collectMarks_33 : decode cX8_collectMarks 33 = .ok (.aload_n 0, 1) := by decide +kernel
theorem dX8_collectMarks_34 : decode cX8_collectMarks 34 = .ok (.getfield 26, 3) := by decide +kernel
theorem dX8_collectMarks_37 : decode cX8_collectMarks 37 = .ok (.iload 4, 2) := by decide +kernel
theorem dX8_collectMarks_39 : decode cX8_collectMarks 39 = .ok (.aload_n 2, 1) := by decide +kernel
theorem dX8_collectMarks_40 : decode cX8_collectMarks 40 = .ok (.getfield 41, 3) := by decide +kernel
theorem dX8_collectMarks_43 : decode cX8_collectMarks 43 = .ok (.invokevirtual 46, 3) := by decide +kernel
theorem dX8_collectMarks_46 : decode cX8_collectMarks 46 = .ok (.ifCond .eq 46, 3) := by decide +kernel
theorem dX8_collectMarks_49 : decode cX8_collectMarks 49 = .ok (.iload 4, 2) := by decide +kernel
theorem dX8_collectMarks_51 : decode cX8_collectMarks 51 = .ok (.iload 5, 2) := by decide +kernel
theorem dX8_collectMarks_53 : decode cX8_collectMarks 53 = .ok (.invokestatic 50, 3) := by decide +kernel
theorem dX8_collectMarks_56 : decode cX8_collectMarks 56 = .ok (.istore 6, 2) := by decide +kernel
theorem dX8_collectMarks_58 : decode cX8_collectMarks 58 = .ok (.aload_n 1, 1) := by decide +kernel
theorem dX8_collectMarks_59 : decode cX8_collectMarks 59 = .ok (.getfield 61, 3) := by decide +kernel
theorem dX8_collectMarks_62 : decode cX8_collectMarks 62 = .ok (.iload 6, 2) := by decide +kernel
theorem dX8_collectMarks_64 : decode cX8_collectMarks 64 = .ok (.laload, 1) := by decide +kernel
theorem dX8_collectMarks_65 : decode cX8_collectMarks 65 = .ok (.lconst 0, 1) := by decide +kernel
theorem dX8_collectMarks_66 : decode cX8_collectMarks 66 = .ok (.lcmp, 1) := by decide +kernel
theorem dX8_collectMarks_67 : decode cX8_collectMarks 67 = .ok (.ifCond .le 19, 3) := by decide +kernel
theorem dX8_collectMarks_70 : decode cX8_collectMarks 70 = .ok (.aload_n 0, 1) := by decide +kernel
theorem dX8_collectMarks_71 : decode cX8_collectMarks 71 = .ok (.aload_n 0, 1) := by decide +kernel
theorem dX8_collectMarks_72 : decode cX8_collectMarks 72 = .ok (.getfield 26, 3) := by decide +kernel
theorem dX8_collectMarks_75 : decode cX8_collectMarks 75 = .ok (.getfield 54, 3) := by decide +kernel
theorem dX8_collectMarks_78 : decode cX8_collectMarks 78 = .ok (.iload 6, 2) := by decide +kernel
theorem dX8_collectMarks_80 : decode cX8_collectMarks 80 = .ok (.iaload, 1) := by decide +kernel
theorem dX8_collectMarks_81 : decode cX8_collectMarks 81 = .ok (.iload_n 3, 1) := by decide +kernel
theorem dX8_collectMarks_82 : decode cX8_collectMarks 82 = .ok (.iadd, 1) := by decide +kernel
theorem dX8_collectMarks_83 : decode cX8_collectMarks 83 = .ok (.invokevirtual 96, 3) := by decide +kernel
theorem dX8_collectMarks_86 : decode cX8_collectMarks 86 = .ok (.iinc 5 1, 3) := by decide +kernel
theorem dX8_collectMarks_89 : decode cX8_collectMarks 89 = .ok (.goto (-63), 3) := by decide +kernel
theorem dX8_collectMarks_92 : decode cX8_collectMarks 92 = .ok (.iinc 4 1, 3) := by decide +kernel
theorem dX8_collectMarks_95 : decode cX8_collectMarks 95 = .ok (.goto (-87), 3) := by decide +kernel
theorem dX8_collectMarks_98 : decode cX8_collectMarks 98 = .ok (.return_, 1) := by decide +kernel
theorem dX8_insertMark_0 : decode cX8_insertMark 0 = .ok (.aload_n 0, 1) := by decide +kernel
theorem dX8_insertMark_1 : decode cX8_insertMark 1 = .ok (.getfield 22, 3) := by decide +kernel
theorem dX8_insertMark_4 : decode cX8_insertMark 4 = .ok (.istore_n 2, 1) := by decide +kernel
theorem dX8_insertMark_5 : decode cX8_insertMark 5 = .ok (.iload_n 2, 1) := by decide +kernel
theorem dX8_insertMark_6 : decode cX8_insertMark 6 = .ok (.ifCond .le 21, 3) := by decide +kernel
theorem dX8_insertMark_9 : decode cX8_insertMark 9 = .ok (.aload_n 0, 1) := by decide +kernel
theorem dX8_insertMark_10 : decode cX8_insertMark 10 = .ok (.getfield 18, 3) := by decide +kernel
theorem dX8_insertMark_13 : decode cX8_insertMark 13 = .ok (.iload_n 2, 1) := by decide +kernel
theorem dX8_insertMark_14 : decode cX8_insertMark 14 = .ok (.iconst 1, 1) := by decide +kernel
theorem dX8_insertMark_15 : decode cX8_insertMark 15 = .ok (.isub, 1) := by decide +kernel
theorem dX8_insertMark_16 : decode cX8_insertMark 16 = .ok (.iaload, 1) := by decide +kernel
theorem dX8_insertMark_17 : decode cX8_insertMark 17 = .ok (.iload_n 1, 1) := by decide +kernel
theorem dX8_insertMark_18 : decode cX8_insertMark 18 = .ok (.if_icmp .le 9, 3) := by decide +kernel
theorem dX8_insertMark_21 : decode cX8_insertMark 21 = .ok (.iinc 2 (-1), 3) := by decide +kernel
theorem dX8_insertMark_24 : decode cX8_insertMark 24 = .ok (.goto (-19), 3) := by decide +kernel
theorem dX8_insertMark_27 : decode cX8_insertMark 27 = .ok (.iload_n 2, 1) := by decide +kernel
theorem dX8_insertMark_28 : decode cX8_insertMark 28 = .ok (.ifCond .le 15, 3) := by decide +kernel
theorem dX8_insertMark_31 : decode cX8_insertMark 31 = .ok (.aload_n 0, 1) := by decide +kernel
theorem dX8_insertMark_32 : decode cX8_insertMark 32 = .ok (.getfield 18, 3) := by decide +kernel
theorem dX8_insertMark_35 : decode cX8_insertMark 35 = .ok (.iload_n 2, 1) := by decide +kernel
theorem dX8_insertMark_36 : decode cX8_insertMark 36 = .ok (.iconst 1, 1) := by decide +kernel
theorem dX8_insertMark_37 : decode cX8_insertMark 37 = .ok (.isub, 1) := by decide +kernel
theorem dX8_insertMark_38 : decode cX8_insertMark 38 = .ok (.iaload, 1) := by decide +kernel
theorem dX8_insertMark_39 : decode cX8_insertMark 39 = .ok (.iload_n 1, 1) := by decide +kernel
theorem dX8_insertMark_40 : decode cX8_insertMark 40 = .ok (.if_icmp .eq 15, 3) := by decide +kernel
theorem dX8_insertMark_43 : decode cX8_insertMark 43 = .ok (.aload_n 0, 1) := by decide +kernel
theorem dX8_insertMark_44 : decode cX8_insertMark 44 = .ok (.getfield 22, 3) := by decide +kernel
theorem dX8_insertMark_47 : decode cX8_insertMark 47 = .ok (.aload_n 0, 1) := by decide +kernel
theorem dX8_insertMark_48 : decode cX8_insertMark 48 = .ok (.getfield 18, 3) := by decide +kernel
theorem dX8_insertMark_51 : decode cX8_insertMark 51 = .ok (.arraylength, 1) := by decide +kernel
theorem dX8_insertMark_52 : decode cX8_insertMark 52 = .ok (.if_icmp .lt 4, 3) := by decide +kernel
theorem dX8_insertMark_55 : decode cX8_insertMark 55 = .ok (.return_, 1) := by decide +kernel
theorem dX8_insertMark_56 : decode cX8_insertMark 56 = .ok (.aload_n 0, 1) := by decide +kernel
theorem dX8_insertMark_57 : decode cX8_insertMark 57 = .ok (.getfield 22, 3) := by decide +kernel
theorem dX8_insertMark_60 : decode cX8_insertMark 60 = .ok (.istore_n 3, 1) := by decide +kernel
theorem dX8_insertMark_61 : decode cX8_insertMark 61 = .ok (.iload_n 3, 1) := by decide +kernel
