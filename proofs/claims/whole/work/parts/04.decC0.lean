theorem dX0_init_0 : decode cX0_init 0 = .ok (.aload_n 0, 1) := by decide +kernel
theorem dX0_init_1 : decode cX0_init 1 = .ok (.invokespecial 3, 3) := by decide +kernel
theorem dX0_init_4 : decode cX0_init 4 = .ok (.aload_n 0, 1) := by decide +kernel
theorem dX0_init_5 : decode cX0_init 5 = .ok (.bipush 8, 2) := by decide +kernel
theorem dX0_init_7 : decode cX0_init 7 = .ok (.newarray .int, 2) := by decide +kernel
theorem dX0_init_9 : decode cX0_init 9 = .ok (.putfield 9, 3) := by decide +kernel
theorem dX0_init_12 : decode cX0_init 12 = .ok (.aload_n 0, 1) := by decide +kernel
theorem dX0_init_13 : decode cX0_init 13 = .ok (.bipush 8, 2) := by decide +kernel
theorem dX0_init_15 : decode cX0_init 15 = .ok (.newarray .int, 2) := by decide +kernel
theorem dX0_init_17 : decode cX0_init 17 = .ok (.putfield 15, 3) := by decide +kernel
theorem dX0_init_20 : decode cX0_init 20 = .ok (.aload_n 0, 1) := by decide +kernel
theorem dX0_init_21 : decode cX0_init 21 = .ok (.bipush 8, 2) := by decide +kernel
theorem dX0_init_23 : decode cX0_init 23 = .ok (.newarray .int, 2) := by decide +kernel
theorem dX0_init_25 : decode cX0_init 25 = .ok (.putfield 18, 3) := by decide +kernel
theorem dX0_init_28 : decode cX0_init 28 = .ok (.aload_n 0, 1) := by decide +kernel
theorem dX0_init_29 : decode cX0_init 29 = .ok (.iconst 0, 1) := by decide +kernel
theorem dX0_init_30 : decode cX0_init 30 = .ok (.putfield 21, 3) := by decide +kernel
theorem dX0_init_33 : decode cX0_init 33 = .ok (.return_, 1) := by decide +kernel
theorem dX0_keep_0 : decode cX0_keep 0 = .ok (.aload_n 0, 1) := by decide +kernel
theorem dX0_keep_1 : decode cX0_keep 1 = .ok (.getfield 21, 3) := by decide +kernel
theorem dX0_keep_4 : decode cX0_keep 4 = .ok (.bipush 8, 2) := by decide +kernel
theorem dX0_keep_6 : decode cX0_keep 6 = .ok (.if_icmp .ne 7, 3) := by decide +kernel
theorem dX0_keep_9 : decode cX0_keep 9 = .ok (.aload_n 0, 1) := by decide +kernel
theorem dX0_keep_10 : decode cX0_keep 10 = .ok (.invokevirtual 25, 3) := by decide +kernel
theorem dX0_keep_13 : decode cX0_keep 13 = .ok (.aload_n 0, 1) := by decide +kernel
theorem dX0_keep_14 : decode cX0_keep 14 = .ok (.getfield 9, 3) := by decide +kernel
theorem dX0_keep_17 : decode cX0_keep 17 = .ok (.aload_n 0, 1) := by decide +kernel
theorem dX0_keep_18 : decode cX0_keep 18 = .ok (.getfield 21, 3) := by decide +kernel
theorem dX0_keep_21 : decode cX0_keep 21 = .ok (.iload_n 1, 1) := by decide +kernel
theorem dX0_keep_22 : decode cX0_keep 22 = .ok (.iastore, 1) := by decide +kernel
theorem dX0_keep_23 : decode cX0_keep 23 = .ok (.aload_n 0, 1) := by decide +kernel
theorem dX0_keep_24 : decode cX0_keep 24 = .ok (.getfield 15, 3) := by decide +kernel
theorem dX0_keep_27 : decode cX0_keep 27 = .ok (.aload_n 0, 1) := by decide +kernel
theorem dX0_keep_28 : decode cX0_keep 28 = .ok (.getfield 21, 3) := by decide +kernel
theorem dX0_keep_31 : decode cX0_keep 31 = .ok (.iload_n 2, 1) := by decide +kernel
theorem dX0_keep_32 : decode cX0_keep 32 = .ok (.iastore, 1) := by decide +kernel
theorem dX0_keep_33 : decode cX0_keep 33 = .ok (.aload_n 0, 1) := by decide +kernel
theorem dX0_keep_34 : decode cX0_keep 34 = .ok (.getfield 18, 3) := by decide +kernel
theorem dX0_keep_37 : decode cX0_keep 37 = .ok (.aload_n 0, 1) := by decide +kernel
theorem dX0_keep_38 : decode cX0_keep 38 = .ok (.getfield 21, 3) := by decide +kernel
theorem dX0_keep_41 : decode cX0_keep 41 = .ok (.iload_n 3, 1) := by decide +kernel
theorem dX0_keep_42 : decode cX0_keep 42 = .ok (.iastore, 1) := by decide +kernel
theorem dX0_keep_43 : decode cX0_keep 43 = .ok (.aload_n 0, 1) := by decide +kernel
theorem dX0_keep_44 : decode cX0_keep 44 = .ok (.dup, 1) := by decide +kernel
theorem dX0_keep_45 : decode cX0_keep 45 = .ok (.getfield 21, 3) := by decide +kernel
theorem dX0_keep_48 : decode cX0_keep 48 = .ok (.iconst 1, 1) := by decide +kernel
theorem dX0_keep_49 : decode cX0_keep 49 = .ok (.iadd, 1) := by decide +kernel
theorem dX0_keep_50 : decode cX0_keep 50 = .ok (.putfield 21, 3) := by decide +kernel
theorem dX0_keep_53 : decode cX0_keep 53 = .ok (.return_, 1) := by decide +kernel
theorem dX0_dropFirst_0 : decode cX0_dropFirst 0 = .ok (.iconst 1, 1) := by decide +kernel
theorem dX0_dropFirst_1 : decode cX0_dropFirst 1 = .ok (.istore_n 1, 1) := by decide +kernel
theorem dX0_dropFirst_2 : decode cX0_dropFirst 2 = .ok (.iload_n 1, 1) := by decide +kernel
theorem dX0_dropFirst_3 : decode cX0_dropFirst 3 = .ok (.aload_n 0, 1) := by decide +kernel
theorem dX0_dropFirst_4 : decode cX0_dropFirst 4 = .ok (.getfield 21, 3) := by decide +kernel
theorem dX0_dropFirst_7 : decode cX0_dropFirst 7 = .ok (.if_icmp .ge 51, 3) := by decide +kernel
theorem dX0_dropFirst_10 : decode cX0_dropFirst 10 = .ok (.aload_n 0, 1) := by decide +kernel
theorem dX0_dropFirst_11 : decode cX0_dropFirst 11 = .ok (.getfield 9, 3) := by decide +kernel
theorem dX0_dropFirst_14 : decode cX0_dropFirst 14 = .ok (.iload_n 1, 1) := by decide +kernel
theorem dX0_dropFirst_15 : decode cX0_dropFirst 15 = .ok (.iconst 1, 1) := by decide +kernel
theorem dX0_dropFirst_16 : decode cX0_dropFirst 16 = .ok (.isub, 1) := by decide +kernel
theorem dX0_dropFirst_17 : decode cX0_dropFirst 17 = .ok (.aload_n 0, 1) := by decide +kernel
theorem dX0_dropFirst_18 : decode cX0_dropFirst 18 = .ok (.getfield 9, 3) := by decide +kernel
theorem dX0_dropFirst_21 : decode cX0_dropFirst 21 = .ok (.iload_n 1, 1) := by decide +kernel
theorem dX0_dropFirst_22 : decode cX0_dropFirst 22 = .ok (.iaload, 1) := by decide +kernel
theorem dX0_dropFirst_23 : decode cX0_dropFirst 23 = .ok (.iastore, 1) := by decide +kernel
theorem dX0_dropFirst_24 : decode cX0_dropFirst 24 = .ok (.aload_n 0, 1) := by decide +kernel
theorem dX0_dropFirst_25 : decode cX0_dropFirst 25 = .ok (.getfield 15, 3) := by decide +kernel
theorem dX0_dropFirst_28 : decode cX0_dropFirst 28 = .ok (.iload_n 1, 1) := by decide +kernel
theorem dX0_dropFirst_29 : decode cX0_dropFirst 29 = .ok (.iconst 1, 1) := by decide +kernel
theorem dX0_dropFirst_30 : decode cX0_dropFirst 30 = .ok (.isub, 1) := by decide +kernel
theorem dX0_dropFirst_31 : decode cX0_dropFirst 31 = .ok (.aload_n 0, 1) := by decide +kernel
theorem dX0_dropFirst_32 : decode cX0_dropFirst 32 = .ok (.getfield 15, 3) := by decide +kernel
theorem dX0_dropFirst_35 : decode cX0_dropFirst 35 = .ok (.iload_n 1, 1) := by decide +kernel
theorem dX0_dropFirst_36 : decode cX0_dropFirst 36 = .ok (.iaload, 1) := by decide +kernel
theorem dX0_dropFirst_37 : decode cX0_dropFirst 37 = .ok (.iastore, 1) := by decide +kernel
theorem dX0_dropFirst_38 : decode cX0_dropFirst 38 = .ok (.aload_n 0, 1) := by decide +kernel
theorem dX0_dropFirst_39 : decode cX0_dropFirst 39 = .ok (.getfield 18, 3) := by decide +kernel
theorem dX0_dropFirst_42 : decode cX0_dropFirst 42 = .ok (.iload_n 1, 1) := by decide +kernel
theorem dX0_dropFirst_43 : decode cX0_dropFirst 43 = .ok (.iconst 1, 1) := by decide +kernel
theorem dX0_dropFirst_44 : decode cX0_dropFirst 44 = .ok (.isub, 1) := by decide +kernel
theorem dX0_dropFirst_45 : decode cX0_dropFirst 45 = .ok (.aload_n 0, 1) := by decide +kernel
theorem dX0_dropFirst_46 : decode cX0_dropFirst 46 = .ok (.getfield 18, 3) := by decide +kernel
theorem dX0_dropFirst_49 : decode cX0_dropFirst 49 = .ok (.iload_n 1, 1) := by decide +kernel
theorem dX0_dropFirst_50 : decode cX0_dropFirst 50 = .ok (.iaload, 1) := by decide +kernel
theorem dX0_dropFirst_51 : decode cX0_dropFirst 51 = .ok (.iastore, 1) := by decide +kernel
theorem dX0_dropFirst_52 : decode cX0_dropFirst 52 = .ok (.iinc 1 1, 3) := by decide +kernel
theorem dX0_dropFirst_55 : decode cX0_dropFirst 55 = .ok (.goto (-53), 3) := by decide +kernel
theorem dX0_dropFirst_58 : decode cX0_dropFirst 58 = .ok (.aload_n 0, 1) := by decide +kernel
theorem dX0_dropFirst_59 : decode cX0_dropFirst 59 = .ok (.dup, 1) := by decide +kernel
theorem dX0_dropFirst_60 : decode cX0_dropFirst 60 = .ok (.getfield 21, 3) := by decide +kernel
theorem dX0_dropFirst_63 : decode cX0_dropFirst 63 = .ok (.iconst 1, 1) := by decide +kernel
theorem dX0_dropFirst_64 : decode cX0_dropFirst 64 = .ok (.isub, 1) := by decide +kernel
theorem dX0_dropFirst_65 : decode cX0_dropFirst 65 = .ok (.putfield 21, 3) := by decide +kernel
theorem dX0_dropFirst_68 : decode cX0_dropFirst 68 = .ok (.return_, 1) := by decide +kernel
theorem dX1_init_0 : decode cX1_init 0 = .ok (.aload_n 0, 1) := by decide +kernel
theorem dX1_init_1 : decode cX1_init 1 = .ok (.invokespecial 3, 3) := by decide +kernel
theorem dX1_init_4 : decode cX1_init 4 = .ok (.return_, 1) := by decide +kernel
theorem dX1_clear_0 : decode cX1_clear 0 = .ok (.aload_n 0, 1) := by decide +kernel
theorem dX1_clear_1 : decode cX1_clear 1 = .ok (.iconst 0, 1) := by decide +kernel
theorem dX1_clear_2 : decode cX1_clear 2 = .ok (.putfield 9, 3) := by decide +kernel
theorem dX1_clear_5 : decode cX1_clear 5 = .ok (.aload_n 0, 1) := by decide +kernel
theorem dX1_clear_6 : decode cX1_clear 6 = .ok (.iconst 0, 1) := by decide +kernel
theorem dX1_clear_7 : decode cX1_clear 7 = .ok (.putfield 15, 3) := by decide +kernel
theorem dX1_clear_10 : decode cX1_clear 10 = .ok (.aload_n 0, 1) := by decide +kernel
theorem dX1_clear_11 : decode cX1_clear 11 = .ok (.iconst (-1), 1) := by decide +kernel
theorem dX1_clear_12 : decode cX1_clear 12 = .ok (.putfield 18, 3) := by decide +kernel
theorem dX1_clear_15 : decode cX1_clear 15 = .ok (.aload_n 0, 1) := by decide +kernel
theorem dX1_clear_16 : decode cX1_clear 16 = .ok (.bipush 13, 2) := by decide +kernel
theorem dX1_clear_18 : decode cX1_clear 18 = .ok (.putfield 21, 3) := by decide +kernel
theorem dX1_clear_21 : decode cX1_clear 21 = .ok (.aload_n 0, 1) := by decide +kernel
theorem dX1_clear_22 : decode cX1_clear 22 = .ok (.iconst 0, 1) := by decide +kernel
theorem dX1_clear_23 : decode cX1_clear 23 = .ok (.putfield 24, 3) := by decide +kernel
theorem dX1_clear_26 : decode cX1_clear 26 = .ok (.aload_n 0, 1) := by decide +kernel
theorem dX1_clear_27 : decode cX1_clear 27 = .ok (.iconst (-1), 1) := by decide +kernel
theorem dX1_clear_28 : decode cX1_clear 28 = .ok (.putfield 27, 3) := by decide +kernel
theorem dX1_clear_31 : decode cX1_clear 31 = .ok (.aload_n 0, 1) := by decide +kernel
theorem dX1_clear_32 : decode cX1_clear 32 = .ok (.iconst (-1), 1) := by decide +kernel
theorem dX1_clear_33 : decode cX1_clear 33 = .ok (.putfield 30, 3) := by decide +kernel
theorem dX1_clear_36 : decode cX1_clear 36 = .ok (.aload_n 0, 1) := by decide +kernel
theorem dX1_clear_37 : decode cX1_clear 37 = .ok (.iconst 0, 1) := by decide +kernel
theorem dX1_clear_38 : decode cX1_clear 38 = .ok (.putfield 33, 3) := by decide +kernel
theorem dX1_clear_41 : decode cX1_clear 41 = .ok (.aload_n 0, 1) := by decide +kernel
theorem dX1_clear_42 : decode cX1_clear 42 = .ok (.iconst (-1), 1) := by decide +kernel
theorem dX1_clear_43 : decode cX1_clear 43 = .ok (.putfield 36, 3) := by decide +kernel
theorem dX1_clear_46 : decode cX1_clear 46 = .ok (.aload_n 0, 1) := by decide +kernel
theorem dX1_clear_47 : decode cX1_clear 47 = .ok (.iconst 0, 1) := by decide +kernel
theorem dX1_clear_48 : decode cX1_clear 48 = .ok (.putfield 39, 3) := by decide +kernel
theorem dX1_clear_51 : decode cX1_clear 51 = .ok (.return_, 1) := by decide +kernel
theorem dX1_copyFrom_0 : decode cX1_copyFrom 0 = .ok (.aload_n 0, 1) := by decide +kernel
theorem dX1_copyFrom_1 : decode cX1_copyFrom 1 = .ok (.aload_n 1, 1) := by decide +kernel
theorem dX1_copyFrom_2 : decode cX1_copyFrom 2 = .ok (.getfield 9, 3) := by decide +kernel
theorem dX1_copyFrom_5 : decode cX1_copyFrom 5 = .ok (.putfield 9, 3) := by decide +kernel
theorem dX1_copyFrom_8 : decode cX1_copyFrom 8 = .ok (.aload_n 0, 1) := by decide +kernel
theorem dX1_copyFrom_9 : decode cX1_copyFrom 9 = .ok (.aload_n 1, 1) := by decide +kernel
theorem dX1_copyFrom_10 : decode cX1_copyFrom 10 = .ok (.getfield 15, 3) := by decide +kernel
theorem dX1_copyFrom_13 : decode cX1_copyFrom 13 = .ok (.putfield 15, 3) := by decide +kernel
theorem dX1_copyFrom_16 : decode cX1_copyFrom 16 = .ok (.aload_n 0, 1) := by decide +kernel
theorem dX1_copyFrom_17 : decode cX1_copyFrom 17 = .ok (.aload_n 1, 1) := by decide +kernel
theorem dX1_copyFrom_18 : decode cX1_copyFrom 18 = .ok (.getfield 18, 3) := by decide +kernel
theorem dX1_copyFrom_21 : decode cX1_copyFrom 21 = .ok (.putfield 18, 3) := by decide +kernel
theorem dX1_copyFrom_24 : decode cX1_copyFrom 24 = .ok (.aload_n 0, 1) := by decide +kernel
theorem dX1_copyFrom_25 : decode cX1_copyFrom 25 = .ok (.aload_n 1, 1) := by decide +kernel
theorem dX1_copyFrom_26 : decode cX1_copyFrom 26 = .ok (.getfield 21, 3) := by decide +kernel
theorem dX1_copyFrom_29 : decode cX1_copyFrom 29 = .ok (.putfield 21, 3) := by decide +kernel
theorem dX1_copyFrom_32 : decode cX1_copyFrom 32 = .ok (.aload_n 0, 1) := by decide +kernel
theorem dX1_copyFrom_33 : decode cX1_copyFrom 33 = .ok (.aload_n 1, 1) := by decide +kernel
theorem dX1_copyFrom_34 : decode cX1_copyFrom 34 = .ok (.getfield 24, 3) := by decide +kernel
theorem dX1_copyFrom_37 : decode cX1_copyFrom 37 = .ok (.putfield 24, 3) := by decide +kernel
theorem dX1_copyFrom_40 : decode cX1_copyFrom 40 = .ok (.aload_n 0, 1) := by decide +kernel
theorem dX1_copyFrom_41 : decode cX1_copyFrom 41 = .ok (.aload_n 1, 1) := by decide +kernel
theorem dX1_copyFrom_42 : decode cX1_copyFrom 42 = .ok (.getfield 27, 3) := by decide +kernel
theorem dX1_copyFrom_45 : decode cX1_copyFrom 45 = .ok (.putfield 27, 3) := by decide +kernel
theorem dX1_copyFrom_48 : decode cX1_copyFrom 48 = .ok (.aload_n 0, 1) := by decide +kernel
theorem dX1_copyFrom_49 : decode cX1_copyFrom 49 = .ok (.aload_n 1, 1) := by decide +kernel
theorem dX1_copyFrom_50 : decode cX1_copyFrom 50 = .ok (.getfield 30, 3) := by decide +kernel
theorem dX1_copyFrom_53 : decode cX1_copyFrom 53 = .ok (.putfield 30, 3) := by decide +kernel
theorem dX1_copyFrom_56 : decode cX1_copyFrom 56 = .ok (.aload_n 0, 1) := by decide +kernel
theorem dX1_copyFrom_57 : decode cX1_copyFrom 57 = .ok (.aload_n 1, 1) := by decide +kernel
theorem dX1_copyFrom_58 : decode cX1_copyFrom 58 = .ok (.getfield 33, 3) := by decide +kernel
theorem dX1_copyFrom_61 : decode cX1_copyFrom 61 = .ok (.putfield 33, 3) := by decide +kernel
theorem dX1_copyFrom_64 : decode cX1_copyFrom 64 = .ok (.aload_n 0, 1) := by decide +kernel
theorem dX1_copyFrom_65 : decode cX1_copyFrom 65 = .ok (.aload_n 1, 1) := by decide +kernel
theorem dX1_copyFrom_66 : decode cX1_copyFrom 66 = .ok (.getfield 36, 3) := by decide +kernel
theorem dX1_copyFrom_69 : decode cX1_copyFrom 69 = .ok (.putfield 36, 3) := by decide +kernel
theorem dX1_copyFrom_72 : decode cX1_copyFrom 72 = .ok (.aload_n 0, 1) := by decide +kernel
theorem dX1_copyFrom_73 : decode cX1_copyFrom 73 = .ok (.aload_n 1, 1) := by decide +kernel
theorem dX1_copyFrom_74 : decode cX1_copyFrom 74 = .ok (.getfield 39, 3) := by decide +kernel
theorem dX1_copyFrom_77 : decode cX1_copyFrom 77 = .ok (.putfield 39, 3) := by decide +kernel
theorem dX1_copyFrom_80 : decode cX1_copyFrom 80 = .ok (.return_, 1) := by decide +kernel
theorem dX2_init_0 : decode cX2_init 0 = .ok (.aload_n 0, 1) := by decide +kernel
theorem dX2_init_1 : decode cX2_init 1 = .ok (.invokespecial 3, 3) := by decide +kernel
theorem dX2_init_4 : decode cX2_init 4 = .ok (.aload_n 0, 1) := by decide +kernel
theorem dX2_init_5 : decode cX2_init 5 = .ok (.iconst 2, 1) := by decide +kernel
theorem dX2_init_6 : decode cX2_init 6 = .ok (.bipush 91, 2) := by decide +kernel
theorem dX2_init_8 : decode cX2_init 8 = .ok (.multianewarray 9 2, 4) := by decide +kernel
theorem dX2_init_12 : decode cX2_init 12 = .ok (.putfield 11, 3) := by decide +kernel
theorem dX2_init_15 : decode cX2_init 15 = .ok (.aload_n 0, 1) := by decide +kernel
theorem dX2_init_16 : decode cX2_init 16 = .ok (.iconst 2, 1) := by decide +kernel
theorem dX2_init_17 : decode cX2_init 17 = .ok (.bipush 91, 2) := by decide +kernel
theorem dX2_init_19 : decode cX2_init 19 = .ok (.multianewarray 16 2, 4) := by decide +kernel
theorem dX2_init_23 : decode cX2_init 23 = .ok (.putfield 18, 3) := by decide +kernel
theorem dX2_init_26 : decode cX2_init 26 = .ok (.aload_n 0, 1) := by decide +kernel
theorem dX2_init_27 : decode cX2_init 27 = .ok (.aload_n 1, 1) := by decide +kernel
theorem dX2_init_28 : decode cX2_init 28 = .ok (.putfield 21, 3) := by decide +kernel
theorem dX2_init_31 : decode cX2_init 31 = .ok (.return_, 1) := by decide +kernel
theorem dX2_leftAlong_0 : decode cX2_leftAlong 0 = .ok (.aload_n 1, 1) := by decide +kernel
theorem dX2_leftAlong_1 : decode cX2_leftAlong 1 = .ok (.getfield 25, 3) := by decide +kernel
theorem dX2_leftAlong_4 : decode cX2_leftAlong 4 = .ok (.getfield 31, 3) := by decide +kernel
theorem dX2_leftAlong_7 : decode cX2_leftAlong 7 = .ok (.iconst 0, 1) := by decide +kernel
theorem dX2_leftAlong_8 : decode cX2_leftAlong 8 = .ok (.laload, 1) := by decide +kernel
theorem dX2_leftAlong_9 : decode cX2_leftAlong 9 = .ok (.lstore 5, 2) := by decide +kernel
theorem dX2_leftAlong_11 : decode cX2_leftAlong 11 = .ok (.iconst 0, 1) := by decide +kernel
theorem dX2_leftAlong_12 : decode cX2_leftAlong 12 = .ok (.istore 7, 2) := by decide +kernel
theorem dX2_leftAlong_14 : decode cX2_leftAlong 14 = .ok (.iconst 0, 1) := by decide +kernel
theorem dX2_leftAlong_15 : decode cX2_leftAlong 15 = .ok (.istore 8, 2) := by decide +kernel
theorem dX2_leftAlong_17 : decode cX2_leftAlong 17 = .ok (.iconst 0, 1) := by decide +kernel
theorem dX2_leftAlong_18 : decode cX2_leftAlong 18 = .ok (.istore 9, 2) := by decide +kernel
theorem dX2_leftAlong_20 : decode cX2_leftAlong 20 = .ok (.iload 9, 2) := by decide +kernel
theorem dX2_leftAlong_22 : decode cX2_leftAlong 22 = .ok (.aload_n 0, 1) := by decide +kernel
theorem dX2_leftAlong_23 : decode cX2_leftAlong 23 = .ok (.getfield 21, 3) := by decide +kernel
theorem dX2_leftAlong_26 : decode cX2_leftAlong 26 = .ok (.getfield 37, 3) := by decide +kernel
theorem dX2_leftAlong_29 : decode cX2_leftAlong 29 = .ok (.getfield 43, 3) := by decide +kernel
theorem dX2_leftAlong_32 : decode cX2_leftAlong 32 = .ok (.if_icmp .gt 151, 3) := by decide +kernel
theorem dX2_leftAlong_35 : decode cX2_leftAlong 35 = .ok (.iload 7, 2) := by decide +kernel
theorem dX2_leftAlong_37 : decode cX2_leftAlong 37 = .ok (.ifCond .ne 17, 3) := by decide +kernel
theorem dX2_leftAlong_40 : decode cX2_leftAlong 40 = .ok (.aload_n 1, 1) := by decide +kernel
theorem dX2_leftAlong_41 : decode cX2_leftAlong 41 = .ok (.getfield 25, 3) := by decide +kernel
theorem dX2_leftAlong_44 : decode cX2_leftAlong 44 = .ok (.getfield 49, 3) := by decide +kernel
theorem dX2_leftAlong_47 : decode cX2_leftAlong 47 = .ok (.iload 8, 2) := by decide +kernel
theorem dX2_leftAlong_49 : decode cX2_leftAlong 49 = .ok (.iaload, 1) := by decide +kernel
theorem dX2_leftAlong_50 : decode cX2_leftAlong 50 = .ok (.iconst 3, 1) := by decide +kernel
theorem dX2_leftAlong_51 : decode cX2_leftAlong 51 = .ok (.if_icmp .ne 7, 3) := by decide +kernel
theorem dX2_leftAlong_54 : decode cX2_leftAlong 54 = .ok (.iconst 1, 1) := by decide +kernel
theorem dX2_leftAlong_55 : decode cX2_leftAlong 55 = .ok (.goto 4, 3) := by decide +kernel
theorem dX2_leftAlong_58 : decode cX2_leftAlong 58 = .ok (.iconst 0, 1) := by decide +kernel
theorem dX2_leftAlong_59 : decode cX2_leftAlong 59 = .ok (.istore 7, 2) := by decide +kernel
theorem dX2_leftAlong_61 : decode cX2_leftAlong 61 = .ok (.aload_n 0, 1) := by decide +kernel
theorem dX2_leftAlong_62 : decode cX2_leftAlong 62 = .ok (.aload_n 1, 1) := by decide +kernel
theorem dX2_leftAlong_63 : decode cX2_leftAlong 63 = .ok (.aload_n 2, 1) := by decide +kernel
theorem dX2_leftAlong_64 : decode cX2_leftAlong 64 = .ok (.iload 9, 2) := by decide +kernel
theorem dX2_leftAlong_66 : decode cX2_leftAlong 66 = .ok (.iload 8, 2) := by decide +kernel
theorem dX2_leftAlong_68 : decode cX2_leftAlong 68 = .ok (.iload 7, 2) := by decide +kernel
theorem dX2_leftAlong_70 : decode cX2_leftAlong 70 = .ok (.iload 4, 2) := by decide +kernel
theorem dX2_leftAlong_72 : decode cX2_leftAlong 72 = .ok (.invokevirtual 53, 3) := by decide +kernel
theorem dX2_leftAlong_75 : decode cX2_leftAlong 75 = .ok (.lstore 10, 2) := by decide +kernel
theorem dX2_leftAlong_77 : decode cX2_leftAlong 77 = .ok (.lload 10, 2) := by decide +kernel
theorem dX2_leftAlong_79 : decode cX2_leftAlong 79 = .ok (.ldc2_w 57, 3) := by decide +kernel
theorem dX2_leftAlong_82 : decode cX2_leftAlong 82 = .ok (.lcmp, 1) := by decide +kernel
theorem dX2_leftAlong_83 : decode cX2_leftAlong 83 = .ok (.ifCond .eq 20, 3) := by decide +kernel
theorem dX2_leftAlong_86 : decode cX2_leftAlong 86 = .ok (.lload 5, 2) := by decide +kernel
theorem dX2_leftAlong_88 : decode cX2_leftAlong 88 = .ok (.lload 10, 2) := by decide +kernel
theorem dX2_leftAlong_90 : decode cX2_leftAlong 90 = .ok (.aload_n 0, 1) := by decide +kernel
theorem dX2_leftAlong_91 : decode cX2_leftAlong 91 = .ok (.getfield 21, 3) := by decide +kernel
theorem dX2_leftAlong_94 : decode cX2_leftAlong 94 = .ok (.getfield 59, 3) := by decide +kernel
theorem dX2_leftAlong_97 : decode cX2_leftAlong 97 = .ok (.iload 9, 2) := by decide +kernel
theorem dX2_leftAlong_99 : decode cX2_leftAlong 99 = .ok (.laload, 1) := by decide +kernel
theorem dX2_leftAlong_100 : decode cX2_leftAlong 100 = .ok (.lmul, 1) := by decide +kernel
theorem dX2_leftAlong_101 : decode cX2_leftAlong 101 = .ok (.lsub, 1) := by decide +kernel
theorem dX2_leftAlong_102 : decode cX2_leftAlong 102 = .ok (.lreturn, 1) := by decide +kernel
theorem dX2_leftAlong_103 : decode cX2_leftAlong 103 = .ok (.iload 9, 2) := by decide +kernel
theorem dX2_leftAlong_105 : decode cX2_leftAlong 105 = .ok (.aload_n 0, 1) := by decide +kernel
theorem dX2_leftAlong_106 : decode cX2_leftAlong 106 = .ok (.getfield 21, 3) := by decide +kernel
theorem dX2_leftAlong_109 : decode cX2_leftAlong 109 = .ok (.getfield 37, 3) := by decide +kernel
theorem dX2_leftAlong_112 : decode cX2_leftAlong 112 = .ok (.getfield 43, 3) := by decide +kernel
theorem dX2_leftAlong_115 : decode cX2_leftAlong 115 = .ok (.if_icmp .ge 62, 3) := by decide +kernel
theorem dX2_leftAlong_118 : decode cX2_leftAlong 118 = .ok (.iload_n 3, 1) := by decide +kernel
theorem dX2_leftAlong_119 : decode cX2_leftAlong 119 = .ok (.iload 9, 2) := by decide +kernel
theorem dX2_leftAlong_121 : decode cX2_leftAlong 121 = .ok (.ishr, 1) := by decide +kernel
theorem dX2_leftAlong_122 : decode cX2_leftAlong 122 = .ok (.iconst 1, 1) := by decide +kernel
theorem dX2_leftAlong_123 : decode cX2_leftAlong 123 = .ok (.iand, 1) := by decide +kernel
theorem dX2_leftAlong_124 : decode cX2_leftAlong 124 = .ok (.iconst 1, 1) := by decide +kernel
theorem dX2_leftAlong_125 : decode cX2_leftAlong 125 = .ok (.if_icmp .ne 17, 3) := by decide +kernel
theorem dX2_leftAlong_128 : decode cX2_leftAlong 128 = .ok (.aload_n 0, 1) := by decide +kernel
theorem dX2_leftAlong_129 : decode cX2_leftAlong 129 = .ok (.getfield 21, 3) := by decide +kernel
theorem dX2_leftAlong_132 : decode cX2_leftAlong 132 = .ok (.iload 9, 2) := by decide +kernel
theorem dX2_leftAlong_134 : decode cX2_leftAlong 134 = .ok (.iload 8, 2) := by decide +kernel
theorem dX2_leftAlong_136 : decode cX2_leftAlong 136 = .ok (.invokevirtual 62, 3) := by decide +kernel
theorem dX2_leftAlong_139 : decode cX2_leftAlong 139 = .ok (.goto 14, 3) := by decide +kernel
theorem dX2_leftAlong_142 : decode cX2_leftAlong 142 = .ok (.aload_n 0, 1) := by decide +kernel
theorem dX2_leftAlong_143 : decode cX2_leftAlong 143 = .ok (.getfield 21, 3) := by decide +kernel
theorem dX2_leftAlong_146 : decode cX2_leftAlong 146 = .ok (.iload 9, 2) := by decide +kernel
theorem dX2_leftAlong_148 : decode cX2_leftAlong 148 = .ok (.iload 8, 2) := by decide +kernel
theorem dX2_leftAlong_150 : decode cX2_leftAlong 150 = .ok (.invokevirtual 66, 3) := by decide +kernel
theorem dX2_leftAlong_153 : decode cX2_leftAlong 153 = .ok (.istore 12, 2) := by decide +kernel
theorem dX2_leftAlong_155 : decode cX2_leftAlong 155 = .ok (.lload 5, 2) := by decide +kernel
theorem dX2_leftAlong_157 : decode cX2_leftAlong 157 = .ok (.aload_n 0, 1) := by decide +kernel
theorem dX2_leftAlong_158 : decode cX2_leftAlong 158 = .ok (.aload_n 1, 1) := by decide +kernel
theorem dX2_leftAlong_159 : decode cX2_leftAlong 159 = .ok (.iload 9, 2) := by decide +kernel
theorem dX2_leftAlong_161 : decode cX2_leftAlong 161 = .ok (.iload 8, 2) := by decide +kernel
theorem dX2_leftAlong_163 : decode cX2_leftAlong 163 = .ok (.iload 12, 2) := by decide +kernel
theorem dX2_leftAlong_165 : decode cX2_leftAlong 165 = .ok (.iload 7, 2) := by decide +kernel
theorem dX2_leftAlong_167 : decode cX2_leftAlong 167 = .ok (.invokevirtual 69, 3) := by decide +kernel
theorem dX2_leftAlong_170 : decode cX2_leftAlong 170 = .ok (.ladd, 1) := by decide +kernel
theorem dX2_leftAlong_171 : decode cX2_leftAlong 171 = .ok (.lstore 5, 2) := by decide +kernel
theorem dX2_leftAlong_173 : decode cX2_leftAlong 173 = .ok (.iload 12, 2) := by decide +kernel
theorem dX2_leftAlong_175 : decode cX2_leftAlong 175 = .ok (.istore 8, 2) := by decide +kernel
theorem dX2_leftAlong_177 : decode cX2_leftAlong 177 = .ok (.iinc 9 1, 3) := by decide +kernel
theorem dX2_leftAlong_180 : decode cX2_leftAlong 180 = .ok (.goto (-160), 3) := by decide +kernel
theorem dX2_leftAlong_183 : decode cX2_leftAlong 183 = .ok (.lload 5, 2) := by decide +kernel
theorem dX2_leftAlong_185 : decode cX2_leftAlong 185 = .ok (.lreturn, 1) := by decide +kernel
theorem dX2_givenAt_0 : decode cX2_givenAt 0 = .ok (.aload_n 0, 1) := by decide +kernel
theorem dX2_givenAt_1 : decode cX2_givenAt 1 = .ok (.getfield 21, 3) := by decide +kernel
theorem dX2_givenAt_4 : decode cX2_givenAt 4 = .ok (.iload_n 3, 1) := by decide +kernel
theorem dX2_givenAt_5 : decode cX2_givenAt 5 = .ok (.invokevirtual 73, 3) := by decide +kernel
theorem dX2_givenAt_8 : decode cX2_givenAt 8 = .ok (.lstore 7, 2) := by decide +kernel
theorem dX2_givenAt_10 : decode cX2_givenAt 10 = .ok (.aload_n 1, 1) := by decide +kernel
theorem dX2_givenAt_11 : decode cX2_givenAt 11 = .ok (.getfield 25, 3) := by decide +kernel
theorem dX2_givenAt_14 : decode cX2_givenAt 14 = .ok (.getfield 49, 3) := by decide +kernel
theorem dX2_givenAt_17 : decode cX2_givenAt 17 = .ok (.iload 4, 2) := by decide +kernel
theorem dX2_givenAt_19 : decode cX2_givenAt 19 = .ok (.iaload, 1) := by decide +kernel
theorem dX2_givenAt_20 : decode cX2_givenAt 20 = .ok (.iconst 2, 1) := by decide +kernel
theorem dX2_givenAt_21 : decode cX2_givenAt 21 = .ok (.if_icmp .ne 12, 3) := by decide +kernel
theorem dX2_givenAt_24 : decode cX2_givenAt 24 = .ok (.aload_n 2, 1) := by decide +kernel
theorem dX2_givenAt_25 : decode cX2_givenAt 25 = .ok (.getfield 77, 3) := by decide +kernel
theorem dX2_givenAt_28 : decode cX2_givenAt 28 = .ok (.i2l, 1) := by decide +kernel
theorem dX2_givenAt_29 : decode cX2_givenAt 29 = .ok (.lload 7, 2) := by decide +kernel
theorem dX2_givenAt_31 : decode cX2_givenAt 31 = .ok (.lmul, 1) := by decide +kernel
theorem dX2_givenAt_32 : decode cX2_givenAt 32 = .ok (.lreturn, 1) := by decide +kernel
theorem dX2_givenAt_33 : decode cX2_givenAt 33 = .ok (.aload_n 2, 1) := by decide +kernel
theorem dX2_givenAt_34 : decode cX2_givenAt 34 = .ok (.getfield 82, 3) := by decide +kernel
theorem dX2_givenAt_37 : decode cX2_givenAt 37 = .ok (.iconst 2, 1) := by decide +kernel
theorem dX2_givenAt_38 : decode cX2_givenAt 38 = .ok (.if_icmp .ne 12, 3) := by decide +kernel
theorem dX2_givenAt_41 : decode cX2_givenAt 41 = .ok (.iload 5, 2) := by decide +kernel
theorem dX2_givenAt_43 : decode cX2_givenAt 43 = .ok (.ifCond .ne 7, 3) := by decide +kernel
theorem dX2_givenAt_46 : decode cX2_givenAt 46 = .ok (.ldc2_w 57, 3) := by decide +kernel
theorem dX2_givenAt_49 : decode cX2_givenAt 49 = .ok (.lreturn, 1) := by decide +kernel
theorem dX2_givenAt_50 : decode cX2_givenAt 50 = .ok (.aload_n 1, 1) := by decide +kernel
theorem dX2_givenAt_51 : decode cX2_givenAt 51 = .ok (.getfield 85, 3) := by decide +kernel
theorem dX2_givenAt_54 : decode cX2_givenAt 54 = .ok (.iload 4, 2) := by decide +kernel
theorem dX2_givenAt_56 : decode cX2_givenAt 56 = .ok (.laload, 1) := by decide +kernel
theorem dX2_givenAt_57 : decode cX2_givenAt 57 = .ok (.lstore 9, 2) := by decide +kernel
theorem dX2_givenAt_59 : decode cX2_givenAt 59 = .ok (.iload_n 3, 1) := by decide +kernel
theorem dX2_givenAt_60 : decode cX2_givenAt 60 = .ok (.iload 6, 2) := by decide +kernel
theorem dX2_givenAt_62 : decode cX2_givenAt 62 = .ok (.if_icmp .ne 28, 3) := by decide +kernel
theorem dX2_givenAt_65 : decode cX2_givenAt 65 = .ok (.lload 9, 2) := by decide +kernel
theorem dX2_givenAt_67 : decode cX2_givenAt 67 = .ok (.lconst 0, 1) := by decide +kernel
theorem dX2_givenAt_68 : decode cX2_givenAt 68 = .ok (.lcmp, 1) := by decide +kernel
theorem dX2_givenAt_69 : decode cX2_givenAt 69 = .ok (.ifCond .le 21, 3) := by decide +kernel
theorem dX2_givenAt_72 : decode cX2_givenAt 72 = .ok (.aload_n 0, 1) := by decide +kernel
theorem dX2_givenAt_73 : decode cX2_givenAt 73 = .ok (.getfield 21, 3) := by decide +kernel
theorem dX2_givenAt_76 : decode cX2_givenAt 76 = .ok (.iload_n 3, 1) := by decide +kernel
theorem dX2_givenAt_77 : decode cX2_givenAt 77 = .ok (.aload_n 2, 1) := by decide +kernel
theorem dX2_givenAt_78 : decode cX2_givenAt 78 = .ok (.getfield 88, 3) := by decide +kernel
theorem dX2_givenAt_81 : decode cX2_givenAt 81 = .ok (.invokevirtual 91, 3) := by decide +kernel
theorem dX2_givenAt_84 : decode cX2_givenAt 84 = .ok (.ifCond .eq 6, 3) := by decide +kernel
theorem dX2_givenAt_87 : decode cX2_givenAt 87 = .ok (.lload 9, 2) := by decide +kernel
theorem dX2_givenAt_89 : decode cX2_givenAt 89 = .ok (.lreturn, 1) := by decide +kernel
theorem dX2_givenAt_90 : decode cX2_givenAt 90 = .ok (.iload 5, 2) := by decide +kernel
theorem dX2_givenAt_92 : decode cX2_givenAt 92 = .ok (.ifCond .eq 10, 3) := by decide +kernel
theorem dX2_givenAt_95 : decode cX2_givenAt 95 = .ok (.aload_n 1, 1) := by decide +kernel
theorem dX2_givenAt_96 : decode cX2_givenAt 96 = .ok (.getfield 95, 3) := by decide +kernel
theorem dX2_givenAt_99 : decode cX2_givenAt 99 = .ok (.goto 7, 3) := by decide +kernel
theorem dX2_givenAt_102 : decode cX2_givenAt 102 = .ok (.aload_n 1, 1) := by decide +kernel
theorem dX2_givenAt_103 : decode cX2_givenAt 103 = .ok (.getfield 25, 3) := by decide +kernel
theorem dX2_givenAt_106 : decode cX2_givenAt 106 = .ok (.astore 11, 2) := by decide +kernel
theorem dX2_givenAt_108 : decode cX2_givenAt 108 = .ok (.aload 11, 2) := by decide +kernel
theorem dX2_givenAt_110 : decode cX2_givenAt 110 = .ok (.getfield 49, 3) := by decide +kernel
theorem dX2_givenAt_113 : decode cX2_givenAt 113 = .ok (.iload 4, 2) := by decide +kernel
theorem dX2_givenAt_115 : decode cX2_givenAt 115 = .ok (.iaload, 1) := by decide +kernel
theorem dX2_givenAt_116 : decode cX2_givenAt 116 = .ok (.iconst 4, 1) := by decide +kernel
theorem dX2_givenAt_117 : decode cX2_givenAt 117 = .ok (.if_icmp .ne 17, 3) := by decide +kernel
theorem dX2_givenAt_120 : decode cX2_givenAt 120 = .ok (.lload 9, 2) := by decide +kernel
theorem dX2_givenAt_122 : decode cX2_givenAt 122 = .ok (.aload_n 2, 1) := by decide +kernel
theorem dX2_givenAt_123 : decode cX2_givenAt 123 = .ok (.getfield 98, 3) := by decide +kernel
theorem dX2_givenAt_126 : decode cX2_givenAt 126 = .ok (.i2l, 1) := by decide +kernel
theorem dX2_givenAt_127 : decode cX2_givenAt 127 = .ok (.lload 7, 2) := by decide +kernel
theorem dX2_givenAt_129 : decode cX2_givenAt 129 = .ok (.lmul, 1) := by decide +kernel
theorem dX2_givenAt_130 : decode cX2_givenAt 130 = .ok (.ladd, 1) := by decide +kernel
theorem dX2_givenAt_131 : decode cX2_givenAt 131 = .ok (.goto 6, 3) := by decide +kernel
theorem dX2_givenAt_134 : decode cX2_givenAt 134 = .ok (.ldc2_w 57, 3) := by decide +kernel
theorem dX2_givenAt_137 : decode cX2_givenAt 137 = .ok (.lreturn, 1) := by decide +kernel
theorem dX2_gainTo_0 : decode cX2_gainTo 0 = .ok (.aload_n 0, 1) := by decide +kernel
theorem dX2_gainTo_1 : decode cX2_gainTo 1 = .ok (.getfield 21, 3) := by decide +kernel
theorem dX2_gainTo_4 : decode cX2_gainTo 4 = .ok (.iload 5, 2) := by decide +kernel
theorem dX2_gainTo_6 : decode cX2_gainTo 6 = .ok (.ifCond .eq 10, 3) := by decide +kernel
theorem dX2_gainTo_9 : decode cX2_gainTo 9 = .ok (.aload_n 1, 1) := by decide +kernel
theorem dX2_gainTo_10 : decode cX2_gainTo 10 = .ok (.getfield 95, 3) := by decide +kernel
theorem dX2_gainTo_13 : decode cX2_gainTo 13 = .ok (.goto 7, 3) := by decide +kernel
theorem dX2_gainTo_16 : decode cX2_gainTo 16 = .ok (.aload_n 1, 1) := by decide +kernel
theorem dX2_gainTo_17 : decode cX2_gainTo 17 = .ok (.getfield 25, 3) := by decide +kernel
theorem dX2_gainTo_20 : decode cX2_gainTo 20 = .ok (.iload_n 2, 1) := by decide +kernel
theorem dX2_gainTo_21 : decode cX2_gainTo 21 = .ok (.iload_n 3, 1) := by decide +kernel
theorem dX2_gainTo_22 : decode cX2_gainTo 22 = .ok (.invokevirtual 101, 3) := by decide +kernel
theorem dX2_gainTo_25 : decode cX2_gainTo 25 = .ok (.lstore 6, 2) := by decide +kernel
theorem dX2_gainTo_27 : decode cX2_gainTo 27 = .ok (.lload 6, 2) := by decide +kernel
theorem dX2_gainTo_29 : decode cX2_gainTo 29 = .ok (.aload_n 0, 1) := by decide +kernel
theorem dX2_gainTo_30 : decode cX2_gainTo 30 = .ok (.getfield 21, 3) := by decide +kernel
theorem dX2_gainTo_33 : decode cX2_gainTo 33 = .ok (.getfield 59, 3) := by decide +kernel
theorem dX2_gainTo_36 : decode cX2_gainTo 36 = .ok (.iload_n 2, 1) := by decide +kernel
theorem dX2_gainTo_37 : decode cX2_gainTo 37 = .ok (.laload, 1) := by decide +kernel
theorem dX2_gainTo_38 : decode cX2_gainTo 38 = .ok (.lmul, 1) := by decide +kernel
theorem dX2_gainTo_39 : decode cX2_gainTo 39 = .ok (.aload_n 0, 1) := by decide +kernel
theorem dX2_gainTo_40 : decode cX2_gainTo 40 = .ok (.getfield 21, 3) := by decide +kernel
theorem dX2_gainTo_43 : decode cX2_gainTo 43 = .ok (.getfield 105, 3) := by decide +kernel
theorem dX2_gainTo_46 : decode cX2_gainTo 46 = .ok (.iload 4, 2) := by decide +kernel
theorem dX2_gainTo_48 : decode cX2_gainTo 48 = .ok (.iaload, 1) := by decide +kernel
theorem dX2_gainTo_49 : decode cX2_gainTo 49 = .ok (.aload_n 0, 1) := by decide +kernel
theorem dX2_gainTo_50 : decode cX2_gainTo 50 = .ok (.getfield 21, 3) := by decide +kernel
theorem dX2_gainTo_53 : decode cX2_gainTo 53 = .ok (.getfield 105, 3) := by decide +kernel
theorem dX2_gainTo_56 : decode cX2_gainTo 56 = .ok (.iload_n 3, 1) := by decide +kernel
theorem dX2_gainTo_57 : decode cX2_gainTo 57 = .ok (.iaload, 1) := by decide +kernel
theorem dX2_gainTo_58 : decode cX2_gainTo 58 = .ok (.isub, 1) := by decide +kernel
theorem dX2_gainTo_59 : decode cX2_gainTo 59 = .ok (.i2l, 1) := by decide +kernel
theorem dX2_gainTo_60 : decode cX2_gainTo 60 = .ok (.lmul, 1) := by decide +kernel
theorem dX2_gainTo_61 : decode cX2_gainTo 61 = .ok (.lreturn, 1) := by decide +kernel
theorem dX2_richestPath_0 : decode cX2_richestPath 0 = .ok (.aload_n 2, 1) := by decide +kernel
theorem dX2_richestPath_1 : decode cX2_richestPath 1 = .ok (.getfield 82, 3) := by decide +kernel
theorem dX2_richestPath_4 : decode cX2_richestPath 4 = .ok (.iconst 2, 1) := by decide +kernel
theorem dX2_richestPath_5 : decode cX2_richestPath 5 = .ok (.if_icmp .ne 7, 3) := by decide +kernel
theorem dX2_richestPath_8 : decode cX2_richestPath 8 = .ok (.iconst 2, 1) := by decide +kernel
theorem dX2_richestPath_9 : decode cX2_richestPath 9 = .ok (.goto 4, 3) := by decide +kernel
theorem dX2_richestPath_12 : decode cX2_richestPath 12 = .ok (.iconst 1, 1) := by decide +kernel
theorem dX2_richestPath_13 : decode cX2_richestPath 13 = .ok (.istore 4, 2) := by decide +kernel
theorem dX2_richestPath_15 : decode cX2_richestPath 15 = .ok (.aload_n 0, 1) := by decide +kernel
theorem dX2_richestPath_16 : decode cX2_richestPath 16 = .ok (.getfield 21, 3) := by decide +kernel
theorem dX2_richestPath_19 : decode cX2_richestPath 19 = .ok (.getfield 37, 3) := by decide +kernel
theorem dX2_richestPath_22 : decode cX2_richestPath 22 = .ok (.getfield 43, 3) := by decide +kernel
theorem dX2_richestPath_25 : decode cX2_richestPath 25 = .ok (.istore 5, 2) := by decide +kernel
theorem dX2_richestPath_27 : decode cX2_richestPath 27 = .ok (.iload 5, 2) := by decide +kernel
theorem dX2_richestPath_29 : decode cX2_richestPath 29 = .ok (.ifCond .lt 59, 3) := by decide +kernel
theorem dX2_richestPath_32 : decode cX2_richestPath 32 = .ok (.iconst 0, 1) := by decide +kernel
theorem dX2_richestPath_33 : decode cX2_richestPath 33 = .ok (.istore 6, 2) := by decide +kernel
theorem dX2_richestPath_35 : decode cX2_richestPath 35 = .ok (.iload 6, 2) := by decide +kernel
theorem dX2_richestPath_37 : decode cX2_richestPath 37 = .ok (.iload 5, 2) := by decide +kernel
theorem dX2_richestPath_39 : decode cX2_richestPath 39 = .ok (.if_icmp .gt 43, 3) := by decide +kernel
theorem dX2_richestPath_42 : decode cX2_richestPath 42 = .ok (.iconst 0, 1) := by decide +kernel
theorem dX2_richestPath_43 : decode cX2_richestPath 43 = .ok (.istore 7, 2) := by decide +kernel
theorem dX2_richestPath_45 : decode cX2_richestPath 45 = .ok (.iload 7, 2) := by decide +kernel
theorem dX2_richestPath_47 : decode cX2_richestPath 47 = .ok (.iload 4, 2) := by decide +kernel
theorem dX2_richestPath_49 : decode cX2_richestPath 49 = .ok (.if_icmp .ge 27, 3) := by decide +kernel
theorem dX2_richestPath_52 : decode cX2_richestPath 52 = .ok (.aload_n 0, 1) := by decide +kernel
theorem dX2_richestPath_53 : decode cX2_richestPath 53 = .ok (.aload_n 1, 1) := by decide +kernel
theorem dX2_richestPath_54 : decode cX2_richestPath 54 = .ok (.aload_n 2, 1) := by decide +kernel
theorem dX2_richestPath_55 : decode cX2_richestPath 55 = .ok (.iload 5, 2) := by decide +kernel
theorem dX2_richestPath_57 : decode cX2_richestPath 57 = .ok (.iload 5, 2) := by decide +kernel
theorem dX2_richestPath_59 : decode cX2_richestPath 59 = .ok (.iload 6, 2) := by decide +kernel
theorem dX2_richestPath_61 : decode cX2_richestPath 61 = .ok (.invokestatic 108, 3) := by decide +kernel
theorem dX2_richestPath_64 : decode cX2_richestPath 64 = .ok (.iload 7, 2) := by decide +kernel
theorem dX2_richestPath_66 : decode cX2_richestPath 66 = .ok (.iload_n 3, 1) := by decide +kernel
theorem dX2_richestPath_67 : decode cX2_richestPath 67 = .ok (.invokevirtual 111, 3) := by decide +kernel
theorem dX2_richestPath_70 : decode cX2_richestPath 70 = .ok (.iinc 7 1, 3) := by decide +kernel
theorem dX2_richestPath_73 : decode cX2_richestPath 73 = .ok (.goto (-28), 3) := by decide +kernel
theorem dX2_richestPath_76 : decode cX2_richestPath 76 = .ok (.iinc 6 1, 3) := by decide +kernel
theorem dX2_richestPath_79 : decode cX2_richestPath 79 = .ok (.goto (-44), 3) := by decide +kernel
theorem dX2_richestPath_82 : decode cX2_richestPath 82 = .ok (.iinc 5 (-1), 3) := by decide +kernel
theorem dX2_richestPath_85 : decode cX2_richestPath 85 = .ok (.goto (-58), 3) := by decide +kernel
theorem dX2_richestPath_88 : decode cX2_richestPath 88 = .ok (.aload_n 0, 1) := by decide +kernel
theorem dX2_richestPath_89 : decode cX2_richestPath 89 = .ok (.getfield 18, 3) := by decide +kernel
theorem dX2_richestPath_92 : decode cX2_richestPath 92 = .ok (.iconst 0, 1) := by decide +kernel
theorem dX2_richestPath_93 : decode cX2_richestPath 93 = .ok (.aaload, 1) := by decide +kernel
theorem dX2_richestPath_94 : decode cX2_richestPath 94 = .ok (.iconst 0, 1) := by decide +kernel
theorem dX2_richestPath_95 : decode cX2_richestPath 95 = .ok (.iaload, 1) := by decide +kernel
theorem dX2_richestPath_96 : decode cX2_richestPath 96 = .ok (.ireturn, 1) := by decide +kernel
theorem dX2_judge_0 : decode cX2_judge 0 = .ok (.iload 5, 2) := by decide +kernel
theorem dX2_judge_2 : decode cX2_judge 2 = .ok (.iconst 1, 1) := by decide +kernel
theorem dX2_judge_3 : decode cX2_judge 3 = .ok (.if_icmp .eq 17, 3) := by decide +kernel
theorem dX2_judge_6 : decode cX2_judge 6 = .ok (.aload_n 1, 1) := by decide +kernel
theorem dX2_judge_7 : decode cX2_judge 7 = .ok (.getfield 25, 3) := by decide +kernel
theorem dX2_judge_10 : decode cX2_judge 10 = .ok (.getfield 49, 3) := by decide +kernel
theorem dX2_judge_13 : decode cX2_judge 13 = .ok (.iload 4, 2) := by decide +kernel
theorem dX2_judge_15 : decode cX2_judge 15 = .ok (.iaload, 1) := by decide +kernel
theorem dX2_judge_16 : decode cX2_judge 16 = .ok (.iconst 3, 1) := by decide +kernel
theorem dX2_judge_17 : decode cX2_judge 17 = .ok (.if_icmp .ne 7, 3) := by decide +kernel
theorem dX2_judge_20 : decode cX2_judge 20 = .ok (.iconst 1, 1) := by decide +kernel
theorem dX2_judge_21 : decode cX2_judge 21 = .ok (.goto 4, 3) := by decide +kernel
theorem dX2_judge_24 : decode cX2_judge 24 = .ok (.iconst 0, 1) := by decide +kernel
theorem dX2_judge_25 : decode cX2_judge 25 = .ok (.istore 7, 2) := by decide +kernel
theorem dX2_judge_27 : decode cX2_judge 27 = .ok (.aload_n 0, 1) := by decide +kernel
theorem dX2_judge_28 : decode cX2_judge 28 = .ok (.aload_n 1, 1) := by decide +kernel
theorem dX2_judge_29 : decode cX2_judge 29 = .ok (.aload_n 2, 1) := by decide +kernel
theorem dX2_judge_30 : decode cX2_judge 30 = .ok (.iload_n 3, 1) := by decide +kernel
theorem dX2_judge_31 : decode cX2_judge 31 = .ok (.iload 4, 2) := by decide +kernel
theorem dX2_judge_33 : decode cX2_judge 33 = .ok (.iload 7, 2) := by decide +kernel
theorem dX2_judge_35 : decode cX2_judge 35 = .ok (.iload 6, 2) := by decide +kernel
theorem dX2_judge_37 : decode cX2_judge 37 = .ok (.invokevirtual 53, 3) := by decide +kernel
theorem dX2_judge_40 : decode cX2_judge 40 = .ok (.lstore 8, 2) := by decide +kernel
theorem dX2_judge_42 : decode cX2_judge 42 = .ok (.aload_n 0, 1) := by decide +kernel
theorem dX2_judge_43 : decode cX2_judge 43 = .ok (.getfield 18, 3) := by decide +kernel
theorem dX2_judge_46 : decode cX2_judge 46 = .ok (.iload 5, 2) := by decide +kernel
theorem dX2_judge_48 : decode cX2_judge 48 = .ok (.aaload, 1) := by decide +kernel
theorem dX2_judge_49 : decode cX2_judge 49 = .ok (.iload 4, 2) := by decide +kernel
theorem dX2_judge_51 : decode cX2_judge 51 = .ok (.iconst 0, 1) := by decide +kernel
theorem dX2_judge_52 : decode cX2_judge 52 = .ok (.iastore, 1) := by decide +kernel
theorem dX2_judge_53 : decode cX2_judge 53 = .ok (.lload 8, 2) := by decide +kernel
theorem dX2_judge_55 : decode cX2_judge 55 = .ok (.ldc2_w 57, 3) := by decide +kernel
theorem dX2_judge_58 : decode cX2_judge 58 = .ok (.lcmp, 1) := by decide +kernel
theorem dX2_judge_59 : decode cX2_judge 59 = .ok (.ifCond .ne 17, 3) := by decide +kernel
theorem dX2_judge_62 : decode cX2_judge 62 = .ok (.iload_n 3, 1) := by decide +kernel
theorem dX2_judge_63 : decode cX2_judge 63 = .ok (.aload_n 0, 1) := by decide +kernel
theorem dX2_judge_64 : decode cX2_judge 64 = .ok (.getfield 21, 3) := by decide +kernel
theorem dX2_judge_67 : decode cX2_judge 67 = .ok (.getfield 37, 3) := by decide +kernel
theorem dX2_judge_70 : decode cX2_judge 70 = .ok (.getfield 43, 3) := by decide +kernel
theorem dX2_judge_73 : decode cX2_judge 73 = .ok (.if_icmp .lt 40, 3) := by decide +kernel
theorem dX2_judge_76 : decode cX2_judge 76 = .ok (.aload_n 0, 1) := by decide +kernel
theorem dX2_judge_77 : decode cX2_judge 77 = .ok (.getfield 11, 3) := by decide +kernel
theorem dX2_judge_80 : decode cX2_judge 80 = .ok (.iload 5, 2) := by decide +kernel
theorem dX2_judge_82 : decode cX2_judge 82 = .ok (.aaload, 1) := by decide +kernel
theorem dX2_judge_83 : decode cX2_judge 83 = .ok (.iload 4, 2) := by decide +kernel
theorem dX2_judge_85 : decode cX2_judge 85 = .ok (.lload 8, 2) := by decide +kernel
theorem dX2_judge_87 : decode cX2_judge 87 = .ok (.ldc2_w 57, 3) := by decide +kernel
theorem dX2_judge_90 : decode cX2_judge 90 = .ok (.lcmp, 1) := by decide +kernel
theorem dX2_judge_91 : decode cX2_judge 91 = .ok (.ifCond .ne 7, 3) := by decide +kernel
theorem dX2_judge_94 : decode cX2_judge 94 = .ok (.lconst 0, 1) := by decide +kernel
theorem dX2_judge_95 : decode cX2_judge 95 = .ok (.goto 16, 3) := by decide +kernel
theorem dX2_judge_98 : decode cX2_judge 98 = .ok (.lload 8, 2) := by decide +kernel
theorem dX2_judge_100 : decode cX2_judge 100 = .ok (.lneg, 1) := by decide +kernel
theorem dX2_judge_101 : decode cX2_judge 101 = .ok (.aload_n 0, 1) := by decide +kernel
theorem dX2_judge_102 : decode cX2_judge 102 = .ok (.getfield 21, 3) := by decide +kernel
theorem dX2_judge_105 : decode cX2_judge 105 = .ok (.getfield 59, 3) := by decide +kernel
theorem dX2_judge_108 : decode cX2_judge 108 = .ok (.iload_n 3, 1) := by decide +kernel
theorem dX2_judge_109 : decode cX2_judge 109 = .ok (.laload, 1) := by decide +kernel
theorem dX2_judge_110 : decode cX2_judge 110 = .ok (.lmul, 1) := by decide +kernel
theorem dX2_judge_111 : decode cX2_judge 111 = .ok (.lastore, 1) := by decide +kernel
theorem dX2_judge_112 : decode cX2_judge 112 = .ok (.return_, 1) := by decide +kernel
theorem dX2_judge_113 : decode cX2_judge 113 = .ok (.iload 7, 2) := by decide +kernel
theorem dX2_judge_115 : decode cX2_judge 115 = .ok (.ifCond .eq 7, 3) := by decide +kernel
theorem dX2_judge_118 : decode cX2_judge 118 = .ok (.iconst 1, 1) := by decide +kernel
theorem dX2_judge_119 : decode cX2_judge 119 = .ok (.goto 4, 3) := by decide +kernel
theorem dX2_judge_122 : decode cX2_judge 122 = .ok (.iconst 0, 1) := by decide +kernel
theorem dX2_judge_123 : decode cX2_judge 123 = .ok (.istore 10, 2) := by decide +kernel
theorem dX2_judge_125 : decode cX2_judge 125 = .ok (.aload_n 0, 1) := by decide +kernel
theorem dX2_judge_126 : decode cX2_judge 126 = .ok (.getfield 21, 3) := by decide +kernel
theorem dX2_judge_129 : decode cX2_judge 129 = .ok (.iload_n 3, 1) := by decide +kernel
theorem dX2_judge_130 : decode cX2_judge 130 = .ok (.iload 4, 2) := by decide +kernel
theorem dX2_judge_132 : decode cX2_judge 132 = .ok (.invokevirtual 62, 3) := by decide +kernel
theorem dX2_judge_135 : decode cX2_judge 135 = .ok (.istore 11, 2) := by decide +kernel
theorem dX2_judge_137 : decode cX2_judge 137 = .ok (.aload_n 0, 1) := by decide +kernel
theorem dX2_judge_138 : decode cX2_judge 138 = .ok (.getfield 21, 3) := by decide +kernel
theorem dX2_judge_141 : decode cX2_judge 141 = .ok (.iload_n 3, 1) := by decide +kernel
theorem dX2_judge_142 : decode cX2_judge 142 = .ok (.iload 4, 2) := by decide +kernel
theorem dX2_judge_144 : decode cX2_judge 144 = .ok (.invokevirtual 66, 3) := by decide +kernel
theorem dX2_judge_147 : decode cX2_judge 147 = .ok (.istore 12, 2) := by decide +kernel
theorem dX2_judge_149 : decode cX2_judge 149 = .ok (.aload_n 0, 1) := by decide +kernel
theorem dX2_judge_150 : decode cX2_judge 150 = .ok (.getfield 11, 3) := by decide +kernel
theorem dX2_judge_153 : decode cX2_judge 153 = .ok (.iload 10, 2) := by decide +kernel
theorem dX2_judge_155 : decode cX2_judge 155 = .ok (.aaload, 1) := by decide +kernel
theorem dX2_judge_156 : decode cX2_judge 156 = .ok (.iload 11, 2) := by decide +kernel
theorem dX2_judge_158 : decode cX2_judge 158 = .ok (.laload, 1) := by decide +kernel
theorem dX2_judge_159 : decode cX2_judge 159 = .ok (.aload_n 0, 1) := by decide +kernel
theorem dX2_judge_160 : decode cX2_judge 160 = .ok (.aload_n 1, 1) := by decide +kernel
theorem dX2_judge_161 : decode cX2_judge 161 = .ok (.iload_n 3, 1) := by decide +kernel
theorem dX2_judge_162 : decode cX2_judge 162 = .ok (.iload 4, 2) := by decide +kernel
theorem dX2_judge_164 : decode cX2_judge 164 = .ok (.iload 11, 2) := by decide +kernel
theorem dX2_judge_166 : decode cX2_judge 166 = .ok (.iload 7, 2) := by decide +kernel
theorem dX2_judge_168 : decode cX2_judge 168 = .ok (.invokevirtual 69, 3) := by decide +kernel
theorem dX2_judge_171 : decode cX2_judge 171 = .ok (.ladd, 1) := by decide +kernel
theorem dX2_judge_172 : decode cX2_judge 172 = .ok (.lstore 13, 2) := by decide +kernel
theorem dX2_judge_174 : decode cX2_judge 174 = .ok (.aload_n 0, 1) := by decide +kernel
theorem dX2_judge_175 : decode cX2_judge 175 = .ok (.getfield 11, 3) := by decide +kernel
theorem dX2_judge_178 : decode cX2_judge 178 = .ok (.iload 10, 2) := by decide +kernel
theorem dX2_judge_180 : decode cX2_judge 180 = .ok (.aaload, 1) := by decide +kernel
theorem dX2_judge_181 : decode cX2_judge 181 = .ok (.iload 12, 2) := by decide +kernel
theorem dX2_judge_183 : decode cX2_judge 183 = .ok (.laload, 1) := by decide +kernel
theorem dX2_judge_184 : decode cX2_judge 184 = .ok (.aload_n 0, 1) := by decide +kernel
theorem dX2_judge_185 : decode cX2_judge 185 = .ok (.aload_n 1, 1) := by decide +kernel
theorem dX2_judge_186 : decode cX2_judge 186 = .ok (.iload_n 3, 1) := by decide +kernel
theorem dX2_judge_187 : decode cX2_judge 187 = .ok (.iload 4, 2) := by decide +kernel
theorem dX2_judge_189 : decode cX2_judge 189 = .ok (.iload 12, 2) := by decide +kernel
theorem dX2_judge_191 : decode cX2_judge 191 = .ok (.iload 7, 2) := by decide +kernel
theorem dX2_judge_193 : decode cX2_judge 193 = .ok (.invokevirtual 69, 3) := by decide +kernel
theorem dX2_judge_196 : decode cX2_judge 196 = .ok (.ladd, 1) := by decide +kernel
theorem dX2_judge_197 : decode cX2_judge 197 = .ok (.lstore 15, 2) := by decide +kernel
theorem dX2_judge_199 : decode cX2_judge 199 = .ok (.aload_n 0, 1) := by decide +kernel
theorem dX2_judge_200 : decode cX2_judge 200 = .ok (.getfield 18, 3) := by decide +kernel
theorem dX2_judge_203 : decode cX2_judge 203 = .ok (.iload 10, 2) := by decide +kernel
theorem dX2_judge_205 : decode cX2_judge 205 = .ok (.aaload, 1) := by decide +kernel
theorem dX2_judge_206 : decode cX2_judge 206 = .ok (.iload 11, 2) := by decide +kernel
theorem dX2_judge_208 : decode cX2_judge 208 = .ok (.iaload, 1) := by decide +kernel
theorem dX2_judge_209 : decode cX2_judge 209 = .ok (.iconst 2, 1) := by decide +kernel
theorem dX2_judge_210 : decode cX2_judge 210 = .ok (.imul, 1) := by decide +kernel
theorem dX2_judge_211 : decode cX2_judge 211 = .ok (.iconst 1, 1) := by decide +kernel
theorem dX2_judge_212 : decode cX2_judge 212 = .ok (.iadd, 1) := by decide +kernel
theorem dX2_judge_213 : decode cX2_judge 213 = .ok (.istore 17, 2) := by decide +kernel
theorem dX2_judge_215 : decode cX2_judge 215 = .ok (.aload_n 0, 1) := by decide +kernel
theorem dX2_judge_216 : decode cX2_judge 216 = .ok (.getfield 18, 3) := by decide +kernel
theorem dX2_judge_219 : decode cX2_judge 219 = .ok (.iload 10, 2) := by decide +kernel
theorem dX2_judge_221 : decode cX2_judge 221 = .ok (.aaload, 1) := by decide +kernel
theorem dX2_judge_222 : decode cX2_judge 222 = .ok (.iload 12, 2) := by decide +kernel
theorem dX2_judge_224 : decode cX2_judge 224 = .ok (.iaload, 1) := by decide +kernel
theorem dX2_judge_225 : decode cX2_judge 225 = .ok (.iconst 2, 1) := by decide +kernel
theorem dX2_judge_226 : decode cX2_judge 226 = .ok (.imul, 1) := by decide +kernel
theorem dX2_judge_227 : decode cX2_judge 227 = .ok (.istore 18, 2) := by decide +kernel
theorem dX2_judge_229 : decode cX2_judge 229 = .ok (.lload 13, 2) := by decide +kernel
theorem dX2_judge_231 : decode cX2_judge 231 = .ok (.lload 15, 2) := by decide +kernel
theorem dX2_judge_233 : decode cX2_judge 233 = .ok (.lcmp, 1) := by decide +kernel
theorem dX2_judge_234 : decode cX2_judge 234 = .ok (.ifCond .gt 18, 3) := by decide +kernel
theorem dX2_judge_237 : decode cX2_judge 237 = .ok (.lload 13, 2) := by decide +kernel
theorem dX2_judge_239 : decode cX2_judge 239 = .ok (.lload 15, 2) := by decide +kernel
theorem dX2_judge_241 : decode cX2_judge 241 = .ok (.lcmp, 1) := by decide +kernel
theorem dX2_judge_242 : decode cX2_judge 242 = .ok (.ifCond .ne 14, 3) := by decide +kernel
theorem dX2_judge_245 : decode cX2_judge 245 = .ok (.iload 17, 2) := by decide +kernel
theorem dX2_judge_247 : decode cX2_judge 247 = .ok (.iload 18, 2) := by decide +kernel
theorem dX2_judge_249 : decode cX2_judge 249 = .ok (.if_icmp .ge 7, 3) := by decide +kernel
theorem dX2_judge_252 : decode cX2_judge 252 = .ok (.iconst 1, 1) := by decide +kernel
theorem dX2_judge_253 : decode cX2_judge 253 = .ok (.goto 4, 3) := by decide +kernel
theorem dX2_judge_256 : decode cX2_judge 256 = .ok (.iconst 0, 1) := by decide +kernel
theorem dX2_judge_257 : decode cX2_judge 257 = .ok (.istore 19, 2) := by decide +kernel
theorem dX2_judge_259 : decode cX2_judge 259 = .ok (.aload_n 0, 1) := by decide +kernel
theorem dX2_judge_260 : decode cX2_judge 260 = .ok (.getfield 11, 3) := by decide +kernel
theorem dX2_judge_263 : decode cX2_judge 263 = .ok (.iload 5, 2) := by decide +kernel
theorem dX2_judge_265 : decode cX2_judge 265 = .ok (.aaload, 1) := by decide +kernel
theorem dX2_judge_266 : decode cX2_judge 266 = .ok (.iload 4, 2) := by decide +kernel
theorem dX2_judge_268 : decode cX2_judge 268 = .ok (.iload 19, 2) := by decide +kernel
theorem dX2_judge_270 : decode cX2_judge 270 = .ok (.ifCond .eq 8, 3) := by decide +kernel
theorem dX2_judge_273 : decode cX2_judge 273 = .ok (.lload 13, 2) := by decide +kernel
theorem dX2_judge_275 : decode cX2_judge 275 = .ok (.goto 5, 3) := by decide +kernel
theorem dX2_judge_278 : decode cX2_judge 278 = .ok (.lload 15, 2) := by decide +kernel
theorem dX2_judge_280 : decode cX2_judge 280 = .ok (.lastore, 1) := by decide +kernel
theorem dX2_judge_281 : decode cX2_judge 281 = .ok (.aload_n 0, 1) := by decide +kernel
theorem dX2_judge_282 : decode cX2_judge 282 = .ok (.getfield 18, 3) := by decide +kernel
theorem dX2_judge_285 : decode cX2_judge 285 = .ok (.iload 5, 2) := by decide +kernel
theorem dX2_judge_287 : decode cX2_judge 287 = .ok (.aaload, 1) := by decide +kernel
theorem dX2_judge_288 : decode cX2_judge 288 = .ok (.iload 4, 2) := by decide +kernel
theorem dX2_judge_290 : decode cX2_judge 290 = .ok (.iload 19, 2) := by decide +kernel
theorem dX2_judge_292 : decode cX2_judge 292 = .ok (.ifCond .eq 8, 3) := by decide +kernel
theorem dX2_judge_295 : decode cX2_judge 295 = .ok (.iload 17, 2) := by decide +kernel
theorem dX2_judge_297 : decode cX2_judge 297 = .ok (.goto 5, 3) := by decide +kernel
theorem dX2_judge_300 : decode cX2_judge 300 = .ok (.iload 18, 2) := by decide +kernel
theorem dX2_judge_302 : decode cX2_judge 302 = .ok (.iastore, 1) := by decide +kernel
theorem dX2_judge_303 : decode cX2_judge 303 = .ok (.return_, 1) := by decide +kernel
theorem dX3_init_0 : decode cX3_init 0 = .ok (.aload_n 0, 1) := by decide +kernel
theorem dX3_init_1 : decode cX3_init 1 = .ok (.invokespecial 3, 3) := by decide +kernel
theorem dX3_init_4 : decode cX3_init 4 = .ok (.aload_n 0, 1) := by decide +kernel
theorem dX3_init_5 : decode cX3_init 5 = .ok (.bipush 91, 2) := by decide +kernel
theorem dX3_init_7 : decode cX3_init 7 = .ok (.newarray .int, 2) := by decide +kernel
theorem dX3_init_9 : decode cX3_init 9 = .ok (.putfield 9, 3) := by decide +kernel
theorem dX3_init_12 : decode cX3_init 12 = .ok (.aload_n 0, 1) := by decide +kernel
theorem dX3_init_13 : decode cX3_init 13 = .ok (.bipush 91, 2) := by decide +kernel
theorem dX3_init_15 : decode cX3_init 15 = .ok (.newarray .int, 2) := by decide +kernel
theorem dX3_init_17 : decode cX3_init 17 = .ok (.putfield 15, 3) := by decide +kernel
theorem dX3_init_20 : decode cX3_init 20 = .ok (.aload_n 0, 1) := by decide +kernel
theorem dX3_init_21 : decode cX3_init 21 = .ok (.bipush 13, 2) := by decide +kernel
theorem dX3_init_23 : decode cX3_init 23 = .ok (.newarray .long, 2) := by decide +kernel
theorem dX3_init_25 : decode cX3_init 25 = .ok (.putfield 18, 3) := by decide +kernel
theorem dX3_init_28 : decode cX3_init 28 = .ok (.aload_n 0, 1) := by decide +kernel
theorem dX3_init_29 : decode cX3_init 29 = .ok (.iconst 4, 1) := by decide +kernel
theorem dX3_init_30 : decode cX3_init 30 = .ok (.anewarray 22, 3) := by decide +kernel
theorem dX3_init_33 : decode cX3_init 33 = .ok (.putfield 24, 3) := by decide +kernel
theorem dX3_init_36 : decode cX3_init 36 = .ok (.aload_n 0, 1) := by decide +kernel
theorem dX3_init_37 : decode cX3_init 37 = .ok (.new 22, 3) := by decide +kernel
theorem dX3_init_40 : decode cX3_init 40 = .ok (.dup, 1) := by decide +kernel
theorem dX3_init_41 : decode cX3_init 41 = .ok (.invokespecial 28, 3) := by decide +kernel
theorem dX3_init_44 : decode cX3_init 44 = .ok (.putfield 29, 3) := by decide +kernel
theorem dX3_init_47 : decode cX3_init 47 = .ok (.aload_n 0, 1) := by decide +kernel
theorem dX3_init_48 : decode cX3_init 48 = .ok (.iconst 1, 1) := by decide +kernel
theorem dX3_init_49 : decode cX3_init 49 = .ok (.putfield 33, 3) := by decide +kernel
theorem dX3_init_52 : decode cX3_init 52 = .ok (.aload_n 0, 1) := by decide +kernel
theorem dX3_init_53 : decode cX3_init 53 = .ok (.aload_n 1, 1) := by decide +kernel
theorem dX3_init_54 : decode cX3_init 54 = .ok (.putfield 37, 3) := by decide +kernel
theorem dX3_init_57 : decode cX3_init 57 = .ok (.iconst 0, 1) := by decide +kernel
theorem dX3_init_58 : decode cX3_init 58 = .ok (.istore_n 2, 1) := by decide +kernel
theorem dX3_init_59 : decode cX3_init 59 = .ok (.iload_n 2, 1) := by decide +kernel
theorem dX3_init_60 : decode cX3_init 60 = .ok (.iconst 4, 1) := by decide +kernel
theorem dX3_init_61 : decode cX3_init 61 = .ok (.if_icmp .ge 22, 3) := by decide +kernel
theorem dX3_init_64 : decode cX3_init 64 = .ok (.aload_n 0, 1) := by decide +kernel
theorem dX3_init_65 : decode cX3_init 65 = .ok (.getfield 24, 3) := by decide +kernel
theorem dX3_init_68 : decode cX3_init 68 = .ok (.iload_n 2, 1) := by decide +kernel
theorem dX3_init_69 : decode cX3_init 69 = .ok (.new 22, 3) := by decide +kernel
theorem dX3_init_72 : decode cX3_init 72 = .ok (.dup, 1) := by decide +kernel
theorem dX3_init_73 : decode cX3_init 73 = .ok (.invokespecial 28, 3) := by decide +kernel
theorem dX3_init_76 : decode cX3_init 76 = .ok (.aastore, 1) := by decide +kernel
theorem dX3_init_77 : decode cX3_init 77 = .ok (.iinc 2 1, 3) := by decide +kernel
theorem dX3_init_80 : decode cX3_init 80 = .ok (.goto (-21), 3) := by decide +kernel
theorem dX3_init_83 : decode cX3_init 83 = .ok (.return_, 1) := by decide +kernel
theorem dX3_scaleAt_0 : decode cX3_scaleAt 0 = .ok (.aload_n 0, 1) := by decide +kernel
theorem dX3_scaleAt_1 : decode cX3_scaleAt 1 = .ok (.getfield 18, 3) := by decide +kernel
theorem dX3_scaleAt_4 : decode cX3_scaleAt 4 = .ok (.aload_n 0, 1) := by decide +kernel
theorem dX3_scaleAt_5 : decode cX3_scaleAt 5 = .ok (.getfield 37, 3) := by decide +kernel
theorem dX3_scaleAt_8 : decode cX3_scaleAt 8 = .ok (.getfield 41, 3) := by decide +kernel
theorem dX3_scaleAt_11 : decode cX3_scaleAt 11 = .ok (.iload_n 1, 1) := by decide +kernel
theorem dX3_scaleAt_12 : decode cX3_scaleAt 12 = .ok (.isub, 1) := by decide +kernel
theorem dX3_scaleAt_13 : decode cX3_scaleAt 13 = .ok (.laload, 1) := by decide +kernel
theorem dX3_scaleAt_14 : decode cX3_scaleAt 14 = .ok (.lreturn, 1) := by decide +kernel
theorem dX3_refresh_0 : decode cX3_refresh 0 = .ok (.aload_n 0, 1) := by decide +kernel
theorem dX3_refresh_1 : decode cX3_refresh 1 = .ok (.getfield 33, 3) := by decide +kernel
theorem dX3_refresh_4 : decode cX3_refresh 4 = .ok (.ifCond .ne 4, 3) := by decide +kernel
theorem dX3_refresh_7 : decode cX3_refresh 7 = .ok (.return_, 1) := by decide +kernel
theorem dX3_refresh_8 : decode cX3_refresh 8 = .ok (.aload_n 0, 1) := by decide +kernel
theorem dX3_refresh_9 : decode cX3_refresh 9 = .ok (.iconst 0, 1) := by decide +kernel
theorem dX3_refresh_10 : decode cX3_refresh 10 = .ok (.putfield 33, 3) := by decide +kernel
theorem dX3_refresh_13 : decode cX3_refresh 13 = .ok (.aload_n 0, 1) := by decide +kernel
theorem dX3_refresh_14 : decode cX3_refresh 14 = .ok (.invokevirtual 47, 3) := by decide +kernel
theorem dX3_refresh_17 : decode cX3_refresh 17 = .ok (.aload_n 0, 1) := by decide +kernel
theorem dX3_refresh_18 : decode cX3_refresh 18 = .ok (.invokevirtual 50, 3) := by decide +kernel
theorem dX3_refresh_21 : decode cX3_refresh 21 = .ok (.iconst 0, 1) := by decide +kernel
theorem dX3_refresh_22 : decode cX3_refresh 22 = .ok (.istore_n 1, 1) := by decide +kernel
theorem dX3_refresh_23 : decode cX3_refresh 23 = .ok (.iload_n 1, 1) := by decide +kernel
theorem dX3_refresh_24 : decode cX3_refresh 24 = .ok (.aload_n 0, 1) := by decide +kernel
theorem dX3_refresh_25 : decode cX3_refresh 25 = .ok (.getfield 37, 3) := by decide +kernel
theorem dX3_refresh_28 : decode cX3_refresh 28 = .ok (.getfield 53, 3) := by decide +kernel
theorem dX3_refresh_31 : decode cX3_refresh 31 = .ok (.if_icmp .ge 38, 3) := by decide +kernel
theorem dX3_refresh_34 : decode cX3_refresh 34 = .ok (.aload_n 0, 1) := by decide +kernel
theorem dX3_refresh_35 : decode cX3_refresh 35 = .ok (.getfield 37, 3) := by decide +kernel
theorem dX3_refresh_38 : decode cX3_refresh 38 = .ok (.getfield 56, 3) := by decide +kernel
theorem dX3_refresh_41 : decode cX3_refresh 41 = .ok (.iload_n 1, 1) := by decide +kernel
theorem dX3_refresh_42 : decode cX3_refresh 42 = .ok (.aaload, 1) := by decide +kernel
theorem dX3_refresh_43 : decode cX3_refresh 43 = .ok (.astore_n 2, 1) := by decide +kernel
theorem dX3_refresh_44 : decode cX3_refresh 44 = .ok (.aload_n 0, 1) := by decide +kernel
theorem dX3_refresh_45 : decode cX3_refresh 45 = .ok (.aload_n 0, 1) := by decide +kernel
theorem dX3_refresh_46 : decode cX3_refresh 46 = .ok (.getfield 24, 3) := by decide +kernel
theorem dX3_refresh_49 : decode cX3_refresh 49 = .ok (.iload_n 1, 1) := by decide +kernel
theorem dX3_refresh_50 : decode cX3_refresh 50 = .ok (.aaload, 1) := by decide +kernel
theorem dX3_refresh_51 : decode cX3_refresh 51 = .ok (.aload_n 2, 1) := by decide +kernel
theorem dX3_refresh_52 : decode cX3_refresh 52 = .ok (.aload_n 2, 1) := by decide +kernel
theorem dX3_refresh_53 : decode cX3_refresh 53 = .ok (.getfield 60, 3) := by decide +kernel
theorem dX3_refresh_56 : decode cX3_refresh 56 = .ok (.aload_n 2, 1) := by decide +kernel
theorem dX3_refresh_57 : decode cX3_refresh 57 = .ok (.getfield 65, 3) := by decide +kernel
theorem dX3_refresh_60 : decode cX3_refresh 60 = .ok (.invokevirtual 68, 3) := by decide +kernel
theorem dX3_refresh_63 : decode cX3_refresh 63 = .ok (.iinc 1 1, 3) := by decide +kernel
theorem dX3_refresh_66 : decode cX3_refresh 66 = .ok (.goto (-43), 3) := by decide +kernel
theorem dX3_refresh_69 : decode cX3_refresh 69 = .ok (.return_, 1) := by decide +kernel
theorem dX3_fillPowers_0 : decode cX3_fillPowers 0 = .ok (.aload_n 0, 1) := by decide +kernel
theorem dX3_fillPowers_1 : decode cX3_fillPowers 1 = .ok (.getfield 18, 3) := by decide +kernel
theorem dX3_fillPowers_4 : decode cX3_fillPowers 4 = .ok (.iconst 0, 1) := by decide +kernel
theorem dX3_fillPowers_5 : decode cX3_fillPowers 5 = .ok (.lconst 1, 1) := by decide +kernel
theorem dX3_fillPowers_6 : decode cX3_fillPowers 6 = .ok (.lastore, 1) := by decide +kernel
theorem dX3_fillPowers_7 : decode cX3_fillPowers 7 = .ok (.iconst 1, 1) := by decide +kernel
theorem dX3_fillPowers_8 : decode cX3_fillPowers 8 = .ok (.istore_n 1, 1) := by decide +kernel
theorem dX3_fillPowers_9 : decode cX3_fillPowers 9 = .ok (.iload_n 1, 1) := by decide +kernel
theorem dX3_fillPowers_10 : decode cX3_fillPowers 10 = .ok (.bipush 12, 2) := by decide +kernel
theorem dX3_fillPowers_12 : decode cX3_fillPowers 12 = .ok (.if_icmp .gt 32, 3) := by decide +kernel
theorem dX3_fillPowers_15 : decode cX3_fillPowers 15 = .ok (.aload_n 0, 1) := by decide +kernel
theorem dX3_fillPowers_16 : decode cX3_fillPowers 16 = .ok (.getfield 18, 3) := by decide +kernel
theorem dX3_fillPowers_19 : decode cX3_fillPowers 19 = .ok (.iload_n 1, 1) := by decide +kernel
theorem dX3_fillPowers_20 : decode cX3_fillPowers 20 = .ok (.aload_n 0, 1) := by decide +kernel
theorem dX3_fillPowers_21 : decode cX3_fillPowers 21 = .ok (.getfield 18, 3) := by decide +kernel
theorem dX3_fillPowers_24 : decode cX3_fillPowers 24 = .ok (.iload_n 1, 1) := by decide +kernel
theorem dX3_fillPowers_25 : decode cX3_fillPowers 25 = .ok (.iconst 1, 1) := by decide +kernel
theorem dX3_fillPowers_26 : decode cX3_fillPowers 26 = .ok (.isub, 1) := by decide +kernel
theorem dX3_fillPowers_27 : decode cX3_fillPowers 27 = .ok (.laload, 1) := by decide +kernel
theorem dX3_fillPowers_28 : decode cX3_fillPowers 28 = .ok (.aload_n 0, 1) := by decide +kernel
theorem dX3_fillPowers_29 : decode cX3_fillPowers 29 = .ok (.getfield 37, 3) := by decide +kernel
theorem dX3_fillPowers_32 : decode cX3_fillPowers 32 = .ok (.getfield 72, 3) := by decide +kernel
theorem dX3_fillPowers_35 : decode cX3_fillPowers 35 = .ok (.i2l, 1) := by decide +kernel
theorem dX3_fillPowers_36 : decode cX3_fillPowers 36 = .ok (.lmul, 1) := by decide +kernel
theorem dX3_fillPowers_37 : decode cX3_fillPowers 37 = .ok (.lastore, 1) := by decide +kernel
theorem dX3_fillPowers_38 : decode cX3_fillPowers 38 = .ok (.iinc 1 1, 3) := by decide +kernel
theorem dX3_fillPowers_41 : decode cX3_fillPowers 41 = .ok (.goto (-32), 3) := by decide +kernel
theorem dX3_fillPowers_44 : decode cX3_fillPowers 44 = .ok (.return_, 1) := by decide +kernel
theorem dX3_fillPrices_0 : decode cX3_fillPrices 0 = .ok (.aload_n 0, 1) := by decide +kernel
theorem dX3_fillPrices_1 : decode cX3_fillPrices 1 = .ok (.getfield 37, 3) := by decide +kernel
theorem dX3_fillPrices_4 : decode cX3_fillPrices 4 = .ok (.getfield 75, 3) := by decide +kernel
theorem dX3_fillPrices_7 : decode cX3_fillPrices 7 = .ok (.istore_n 1, 1) := by decide +kernel
theorem dX3_fillPrices_8 : decode cX3_fillPrices 8 = .ok (.iconst 0, 1) := by decide +kernel
theorem dX3_fillPrices_9 : decode cX3_fillPrices 9 = .ok (.istore_n 2, 1) := by decide +kernel
theorem dX3_fillPrices_10 : decode cX3_fillPrices 10 = .ok (.iload_n 2, 1) := by decide +kernel
theorem dX3_fillPrices_11 : decode cX3_fillPrices 11 = .ok (.aload_n 0, 1) := by decide +kernel
theorem dX3_fillPrices_12 : decode cX3_fillPrices 12 = .ok (.getfield 37, 3) := by decide +kernel
theorem dX3_fillPrices_15 : decode cX3_fillPrices 15 = .ok (.getfield 41, 3) := by decide +kernel
theorem dX3_fillPrices_18 : decode cX3_fillPrices 18 = .ok (.if_icmp .gt 88, 3) := by decide +kernel
theorem dX3_fillPrices_21 : decode cX3_fillPrices 21 = .ok (.iload_n 1, 1) := by decide +kernel
theorem dX3_fillPrices_22 : decode cX3_fillPrices 22 = .ok (.aload_n 0, 1) := by decide +kernel
theorem dX3_fillPrices_23 : decode cX3_fillPrices 23 = .ok (.getfield 37, 3) := by decide +kernel
theorem dX3_fillPrices_26 : decode cX3_fillPrices 26 = .ok (.getfield 78, 3) := by decide +kernel
theorem dX3_fillPrices_29 : decode cX3_fillPrices 29 = .ok (.iload_n 2, 1) := by decide +kernel
theorem dX3_fillPrices_30 : decode cX3_fillPrices 30 = .ok (.iaload, 1) := by decide +kernel
theorem dX3_fillPrices_31 : decode cX3_fillPrices 31 = .ok (.isub, 1) := by decide +kernel
theorem dX3_fillPrices_32 : decode cX3_fillPrices 32 = .ok (.istore_n 1, 1) := by decide +kernel
theorem dX3_fillPrices_33 : decode cX3_fillPrices 33 = .ok (.aload_n 0, 1) := by decide +kernel
theorem dX3_fillPrices_34 : decode cX3_fillPrices 34 = .ok (.getfield 37, 3) := by decide +kernel
theorem dX3_fillPrices_37 : decode cX3_fillPrices 37 = .ok (.iload_n 2, 1) := by decide +kernel
theorem dX3_fillPrices_38 : decode cX3_fillPrices 38 = .ok (.invokevirtual 81, 3) := by decide +kernel
theorem dX3_fillPrices_41 : decode cX3_fillPrices 41 = .ok (.istore_n 3, 1) := by decide +kernel
theorem dX3_fillPrices_42 : decode cX3_fillPrices 42 = .ok (.iconst 0, 1) := by decide +kernel
theorem dX3_fillPrices_43 : decode cX3_fillPrices 43 = .ok (.istore 4, 2) := by decide +kernel
theorem dX3_fillPrices_45 : decode cX3_fillPrices 45 = .ok (.iload 4, 2) := by decide +kernel
theorem dX3_fillPrices_47 : decode cX3_fillPrices 47 = .ok (.iload_n 2, 1) := by decide +kernel
theorem dX3_fillPrices_48 : decode cX3_fillPrices 48 = .ok (.if_icmp .gt 52, 3) := by decide +kernel
theorem dX3_fillPrices_51 : decode cX3_fillPrices 51 = .ok (.iload_n 2, 1) := by decide +kernel
theorem dX3_fillPrices_52 : decode cX3_fillPrices 52 = .ok (.iload 4, 2) := by decide +kernel
theorem dX3_fillPrices_54 : decode cX3_fillPrices 54 = .ok (.invokestatic 85, 3) := by decide +kernel
theorem dX3_fillPrices_57 : decode cX3_fillPrices 57 = .ok (.istore 5, 2) := by decide +kernel
theorem dX3_fillPrices_59 : decode cX3_fillPrices 59 = .ok (.aload_n 0, 1) := by decide +kernel
theorem dX3_fillPrices_60 : decode cX3_fillPrices 60 = .ok (.getfield 9, 3) := by decide +kernel
theorem dX3_fillPrices_63 : decode cX3_fillPrices 63 = .ok (.iload 5, 2) := by decide +kernel
theorem dX3_fillPrices_65 : decode cX3_fillPrices 65 = .ok (.iload_n 1, 1) := by decide +kernel
theorem dX3_fillPrices_66 : decode cX3_fillPrices 66 = .ok (.iload 4, 2) := by decide +kernel
theorem dX3_fillPrices_68 : decode cX3_fillPrices 68 = .ok (.aload_n 0, 1) := by decide +kernel
theorem dX3_fillPrices_69 : decode cX3_fillPrices 69 = .ok (.getfield 37, 3) := by decide +kernel
theorem dX3_fillPrices_72 : decode cX3_fillPrices 72 = .ok (.getfield 72, 3) := by decide +kernel
theorem dX3_fillPrices_75 : decode cX3_fillPrices 75 = .ok (.imul, 1) := by decide +kernel
theorem dX3_fillPrices_76 : decode cX3_fillPrices 76 = .ok (.iadd, 1) := by decide +kernel
theorem dX3_fillPrices_77 : decode cX3_fillPrices 77 = .ok (.iastore, 1) := by decide +kernel
theorem dX3_fillPrices_78 : decode cX3_fillPrices 78 = .ok (.aload_n 0, 1) := by decide +kernel
theorem dX3_fillPrices_79 : decode cX3_fillPrices 79 = .ok (.getfield 15, 3) := by decide +kernel
theorem dX3_fillPrices_82 : decode cX3_fillPrices 82 = .ok (.iload 5, 2) := by decide +kernel
theorem dX3_fillPrices_84 : decode cX3_fillPrices 84 = .ok (.aload_n 0, 1) := by decide +kernel
theorem dX3_fillPrices_85 : decode cX3_fillPrices 85 = .ok (.getfield 9, 3) := by decide +kernel
theorem dX3_fillPrices_88 : decode cX3_fillPrices 88 = .ok (.iload 5, 2) := by decide +kernel
theorem dX3_fillPrices_90 : decode cX3_fillPrices 90 = .ok (.iaload, 1) := by decide +kernel
theorem dX3_fillPrices_91 : decode cX3_fillPrices 91 = .ok (.iload_n 3, 1) := by decide +kernel
theorem dX3_fillPrices_92 : decode cX3_fillPrices 92 = .ok (.iadd, 1) := by decide +kernel
theorem dX3_fillPrices_93 : decode cX3_fillPrices 93 = .ok (.iastore, 1) := by decide +kernel
theorem dX3_fillPrices_94 : decode cX3_fillPrices 94 = .ok (.iinc 4 1, 3) := by decide +kernel
theorem dX3_fillPrices_97 : decode cX3_fillPrices 97 = .ok (.goto (-52), 3) := by decide +kernel
theorem dX3_fillPrices_100 : decode cX3_fillPrices 100 = .ok (.iinc 2 1, 3) := by decide +kernel
theorem dX3_fillPrices_103 : decode cX3_fillPrices 103 = .ok (.goto (-93), 3) := by decide +kernel
theorem dX3_fillPrices_106 : decode cX3_fillPrices 106 = .ok (.return_, 1) := by decide +kernel
theorem dX3_startWorth_0 : decode cX3_startWorth 0 = .ok (.aload_n 0, 1) := by decide +kernel
theorem dX3_startWorth_1 : decode cX3_startWorth 1 = .ok (.aload_n 0, 1) := by decide +kernel
theorem dX3_startWorth_2 : decode cX3_startWorth 2 = .ok (.getfield 29, 3) := by decide +kernel
theorem dX3_startWorth_5 : decode cX3_startWorth 5 = .ok (.aload_n 1, 1) := by decide +kernel
theorem dX3_startWorth_6 : decode cX3_startWorth 6 = .ok (.iload_n 2, 1) := by decide +kernel
theorem dX3_startWorth_7 : decode cX3_startWorth 7 = .ok (.iload_n 3, 1) := by decide +kernel
theorem dX3_startWorth_8 : decode cX3_startWorth 8 = .ok (.invokevirtual 68, 3) := by decide +kernel
theorem dX3_startWorth_11 : decode cX3_startWorth 11 = .ok (.aload_n 0, 1) := by decide +kernel
theorem dX3_startWorth_12 : decode cX3_startWorth 12 = .ok (.getfield 29, 3) := by decide +kernel
theorem dX3_startWorth_15 : decode cX3_startWorth 15 = .ok (.getfield 89, 3) := by decide +kernel
theorem dX3_startWorth_18 : decode cX3_startWorth 18 = .ok (.getfield 93, 3) := by decide +kernel
theorem dX3_startWorth_21 : decode cX3_startWorth 21 = .ok (.iconst 0, 1) := by decide +kernel
theorem dX3_startWorth_22 : decode cX3_startWorth 22 = .ok (.laload, 1) := by decide +kernel
theorem dX3_startWorth_23 : decode cX3_startWorth 23 = .ok (.lreturn, 1) := by decide +kernel
theorem dX3_fill_0 : decode cX3_fill 0 = .ok (.aload_n 0, 1) := by decide +kernel
theorem dX3_fill_1 : decode cX3_fill 1 = .ok (.getfield 37, 3) := by decide +kernel
theorem dX3_fill_4 : decode cX3_fill 4 = .ok (.getfield 41, 3) := by decide +kernel
theorem dX3_fill_7 : decode cX3_fill 7 = .ok (.istore 5, 2) := by decide +kernel
theorem dX3_fill_9 : decode cX3_fill 9 = .ok (.iload 5, 2) := by decide +kernel
theorem dX3_fill_11 : decode cX3_fill 11 = .ok (.ifCond .lt 99, 3) := by decide +kernel
theorem dX3_fill_14 : decode cX3_fill 14 = .ok (.aload_n 0, 1) := by decide +kernel
theorem dX3_fill_15 : decode cX3_fill 15 = .ok (.iload 5, 2) := by decide +kernel
theorem dX3_fill_17 : decode cX3_fill 17 = .ok (.iload 4, 2) := by decide +kernel
theorem dX3_fill_19 : decode cX3_fill 19 = .ok (.invokevirtual 98, 3) := by decide +kernel
theorem dX3_fill_22 : decode cX3_fill 22 = .ok (.istore 6, 2) := by decide +kernel
theorem dX3_fill_24 : decode cX3_fill 24 = .ok (.iconst 0, 1) := by decide +kernel
theorem dX3_fill_25 : decode cX3_fill 25 = .ok (.istore 7, 2) := by decide +kernel
theorem dX3_fill_27 : decode cX3_fill 27 = .ok (.iload 7, 2) := by decide +kernel
theorem dX3_fill_29 : decode cX3_fill 29 = .ok (.iload 5, 2) := by decide +kernel
theorem dX3_fill_31 : decode cX3_fill 31 = .ok (.if_icmp .gt 73, 3) := by decide +kernel
theorem dX3_fill_34 : decode cX3_fill 34 = .ok (.iload 5, 2) := by decide +kernel
theorem dX3_fill_36 : decode cX3_fill 36 = .ok (.iload 7, 2) := by decide +kernel
theorem dX3_fill_38 : decode cX3_fill 38 = .ok (.invokestatic 85, 3) := by decide +kernel
theorem dX3_fill_41 : decode cX3_fill 41 = .ok (.istore 8, 2) := by decide +kernel
theorem dX3_fill_43 : decode cX3_fill 43 = .ok (.aload_n 1, 1) := by decide +kernel
theorem dX3_fill_44 : decode cX3_fill 44 = .ok (.getfield 102, 3) := by decide +kernel
theorem dX3_fill_47 : decode cX3_fill 47 = .ok (.iload 8, 2) := by decide +kernel
theorem dX3_fill_49 : decode cX3_fill 49 = .ok (.aload_n 0, 1) := by decide +kernel
theorem dX3_fill_50 : decode cX3_fill 50 = .ok (.aload_n 2, 1) := by decide +kernel
theorem dX3_fill_51 : decode cX3_fill 51 = .ok (.iload_n 3, 1) := by decide +kernel
theorem dX3_fill_52 : decode cX3_fill 52 = .ok (.iload 8, 2) := by decide +kernel
theorem dX3_fill_54 : decode cX3_fill 54 = .ok (.aload_n 0, 1) := by decide +kernel
theorem dX3_fill_55 : decode cX3_fill 55 = .ok (.iload 5, 2) := by decide +kernel
theorem dX3_fill_57 : decode cX3_fill 57 = .ok (.invokevirtual 105, 3) := by decide +kernel
theorem dX3_fill_60 : decode cX3_fill 60 = .ok (.invokevirtual 109, 3) := by decide +kernel
theorem dX3_fill_63 : decode cX3_fill 63 = .ok (.lastore, 1) := by decide +kernel
theorem dX3_fill_64 : decode cX3_fill 64 = .ok (.aload_n 0, 1) := by decide +kernel
theorem dX3_fill_65 : decode cX3_fill 65 = .ok (.aload_n 1, 1) := by decide +kernel
theorem dX3_fill_66 : decode cX3_fill 66 = .ok (.getfield 113, 3) := by decide +kernel
theorem dX3_fill_69 : decode cX3_fill 69 = .ok (.aload_n 1, 1) := by decide +kernel
theorem dX3_fill_70 : decode cX3_fill 70 = .ok (.getfield 102, 3) := by decide +kernel
theorem dX3_fill_73 : decode cX3_fill 73 = .ok (.iload 8, 2) := by decide +kernel
theorem dX3_fill_75 : decode cX3_fill 75 = .ok (.laload, 1) := by decide +kernel
theorem dX3_fill_76 : decode cX3_fill 76 = .ok (.aload_n 2, 1) := by decide +kernel
theorem dX3_fill_77 : decode cX3_fill 77 = .ok (.iload 5, 2) := by decide +kernel
theorem dX3_fill_79 : decode cX3_fill 79 = .ok (.iload 8, 2) := by decide +kernel
theorem dX3_fill_81 : decode cX3_fill 81 = .ok (.iload 6, 2) := by decide +kernel
theorem dX3_fill_83 : decode cX3_fill 83 = .ok (.invokevirtual 116, 3) := by decide +kernel
theorem dX3_fill_86 : decode cX3_fill 86 = .ok (.aload_n 0, 1) := by decide +kernel
theorem dX3_fill_87 : decode cX3_fill 87 = .ok (.aload_n 1, 1) := by decide +kernel
theorem dX3_fill_88 : decode cX3_fill 88 = .ok (.aload_n 2, 1) := by decide +kernel
theorem dX3_fill_89 : decode cX3_fill 89 = .ok (.iload 5, 2) := by decide +kernel
theorem dX3_fill_91 : decode cX3_fill 91 = .ok (.iload 8, 2) := by decide +kernel
theorem dX3_fill_93 : decode cX3_fill 93 = .ok (.iload 6, 2) := by decide +kernel
theorem dX3_fill_95 : decode cX3_fill 95 = .ok (.invokevirtual 120, 3) := by decide +kernel
theorem dX3_fill_98 : decode cX3_fill 98 = .ok (.iinc 7 1, 3) := by decide +kernel
theorem dX3_fill_101 : decode cX3_fill 101 = .ok (.goto (-74), 3) := by decide +kernel
theorem dX3_fill_104 : decode cX3_fill 104 = .ok (.iinc 5 (-1), 3) := by decide +kernel
theorem dX3_fill_107 : decode cX3_fill 107 = .ok (.goto (-98), 3) := by decide +kernel
theorem dX3_fill_110 : decode cX3_fill 110 = .ok (.return_, 1) := by decide +kernel
theorem dX3_may_0 : decode cX3_may 0 = .ok (.iload_n 1, 1) := by decide +kernel
theorem dX3_may_1 : decode cX3_may 1 = .ok (.iload_n 2, 1) := by decide +kernel
theorem dX3_may_2 : decode cX3_may 2 = .ok (.if_icmp .ge 14, 3) := by decide +kernel
theorem dX3_may_5 : decode cX3_may 5 = .ok (.iload_n 1, 1) := by decide +kernel
theorem dX3_may_6 : decode cX3_may 6 = .ok (.aload_n 0, 1) := by decide +kernel
theorem dX3_may_7 : decode cX3_may 7 = .ok (.getfield 37, 3) := by decide +kernel
theorem dX3_may_10 : decode cX3_may 10 = .ok (.getfield 41, 3) := by decide +kernel
theorem dX3_may_13 : decode cX3_may 13 = .ok (.if_icmp .ne 7, 3) := by decide +kernel
theorem dX3_may_16 : decode cX3_may 16 = .ok (.iconst 1, 1) := by decide +kernel
theorem dX3_may_17 : decode cX3_may 17 = .ok (.goto 4, 3) := by decide +kernel
theorem dX3_may_20 : decode cX3_may 20 = .ok (.iconst 0, 1) := by decide +kernel
theorem dX3_may_21 : decode cX3_may 21 = .ok (.ireturn, 1) := by decide +kernel
theorem dX3_payOf_0 : decode cX3_payOf 0 = .ok (.aload_n 1, 1) := by decide +kernel
theorem dX3_payOf_1 : decode cX3_payOf 1 = .ok (.getfield 124, 3) := by decide +kernel
theorem dX3_payOf_4 : decode cX3_payOf 4 = .ok (.iconst 5, 1) := by decide +kernel
theorem dX3_payOf_5 : decode cX3_payOf 5 = .ok (.if_icmp .ne 31, 3) := by decide +kernel
theorem dX3_payOf_8 : decode cX3_payOf 8 = .ok (.lconst 0, 1) := by decide +kernel
theorem dX3_payOf_9 : decode cX3_payOf 9 = .ok (.aload_n 0, 1) := by decide +kernel
theorem dX3_payOf_10 : decode cX3_payOf 10 = .ok (.getfield 24, 3) := by decide +kernel
theorem dX3_payOf_13 : decode cX3_payOf 13 = .ok (.aload_n 1, 1) := by decide +kernel
theorem dX3_payOf_14 : decode cX3_payOf 14 = .ok (.getfield 127, 3) := by decide +kernel
theorem dX3_payOf_17 : decode cX3_payOf 17 = .ok (.aaload, 1) := by decide +kernel
theorem dX3_payOf_18 : decode cX3_payOf 18 = .ok (.getfield 89, 3) := by decide +kernel
theorem dX3_payOf_21 : decode cX3_payOf 21 = .ok (.getfield 93, 3) := by decide +kernel
theorem dX3_payOf_24 : decode cX3_payOf 24 = .ok (.iload_n 3, 1) := by decide +kernel
theorem dX3_payOf_25 : decode cX3_payOf 25 = .ok (.laload, 1) := by decide +kernel
theorem dX3_payOf_26 : decode cX3_payOf 26 = .ok (.iload_n 2, 1) := by decide +kernel
theorem dX3_payOf_27 : decode cX3_payOf 27 = .ok (.i2l, 1) := by decide +kernel
theorem dX3_payOf_28 : decode cX3_payOf 28 = .ok (.lload 4, 2) := by decide +kernel
theorem dX3_payOf_30 : decode cX3_payOf 30 = .ok (.lmul, 1) := by decide +kernel
theorem dX3_payOf_31 : decode cX3_payOf 31 = .ok (.lsub, 1) := by decide +kernel
theorem dX3_payOf_32 : decode cX3_payOf 32 = .ok (.invokestatic 130, 3) := by decide +kernel
theorem dX3_payOf_35 : decode cX3_payOf 35 = .ok (.lreturn, 1) := by decide +kernel
theorem dX3_payOf_36 : decode cX3_payOf 36 = .ok (.iconst 0, 1) := by decide +kernel
theorem dX3_payOf_37 : decode cX3_payOf 37 = .ok (.aload_n 1, 1) := by decide +kernel
theorem dX3_payOf_38 : decode cX3_payOf 38 = .ok (.iload_n 2, 1) := by decide +kernel
theorem dX3_payOf_39 : decode cX3_payOf 39 = .ok (.aload_n 0, 1) := by decide +kernel
theorem dX3_payOf_40 : decode cX3_payOf 40 = .ok (.getfield 15, 3) := by decide +kernel
theorem dX3_payOf_43 : decode cX3_payOf 43 = .ok (.iload_n 3, 1) := by decide +kernel
theorem dX3_payOf_44 : decode cX3_payOf 44 = .ok (.iaload, 1) := by decide +kernel
theorem dX3_payOf_45 : decode cX3_payOf 45 = .ok (.invokestatic 136, 3) := by decide +kernel
theorem dX3_payOf_48 : decode cX3_payOf 48 = .ok (.invokestatic 140, 3) := by decide +kernel
theorem dX3_payOf_51 : decode cX3_payOf 51 = .ok (.i2l, 1) := by decide +kernel
theorem dX3_payOf_52 : decode cX3_payOf 52 = .ok (.lload 4, 2) := by decide +kernel
theorem dX3_payOf_54 : decode cX3_payOf 54 = .ok (.lmul, 1) := by decide +kernel
theorem dX3_payOf_55 : decode cX3_payOf 55 = .ok (.lreturn, 1) := by decide +kernel
theorem dX3_wholePay_0 : decode cX3_wholePay 0 = .ok (.aload_n 0, 1) := by decide +kernel
theorem dX3_wholePay_1 : decode cX3_wholePay 1 = .ok (.getfield 124, 3) := by decide +kernel
theorem dX3_wholePay_4 : decode cX3_wholePay 4 = .ok (.tableswitch 76 0 4 #[36, 40, 44, 58, 69], 36) := by decide +kernel
theorem dX3_wholePay_40 : decode cX3_wholePay 40 = .ok (.iload_n 2, 1) := by decide +kernel
theorem dX3_wholePay_41 : decode cX3_wholePay 41 = .ok (.iload_n 1, 1) := by decide +kernel
theorem dX3_wholePay_42 : decode cX3_wholePay 42 = .ok (.isub, 1) := by decide +kernel
theorem dX3_wholePay_43 : decode cX3_wholePay 43 = .ok (.ireturn, 1) := by decide +kernel
theorem dX3_wholePay_44 : decode cX3_wholePay 44 = .ok (.iload_n 1, 1) := by decide +kernel
theorem dX3_wholePay_45 : decode cX3_wholePay 45 = .ok (.iload_n 2, 1) := by decide +kernel
theorem dX3_wholePay_46 : decode cX3_wholePay 46 = .ok (.isub, 1) := by decide +kernel
theorem dX3_wholePay_47 : decode cX3_wholePay 47 = .ok (.ireturn, 1) := by decide +kernel
theorem dX3_wholePay_48 : decode cX3_wholePay 48 = .ok (.iload_n 2, 1) := by decide +kernel
theorem dX3_wholePay_49 : decode cX3_wholePay 49 = .ok (.iload_n 1, 1) := by decide +kernel
theorem dX3_wholePay_50 : decode cX3_wholePay 50 = .ok (.if_icmp .lt 10, 3) := by decide +kernel
theorem dX3_wholePay_53 : decode cX3_wholePay 53 = .ok (.aload_n 0, 1) := by decide +kernel
theorem dX3_wholePay_54 : decode cX3_wholePay 54 = .ok (.getfield 127, 3) := by decide +kernel
theorem dX3_wholePay_57 : decode cX3_wholePay 57 = .ok (.goto 4, 3) := by decide +kernel
theorem dX3_wholePay_60 : decode cX3_wholePay 60 = .ok (.iconst 0, 1) := by decide +kernel
theorem dX3_wholePay_61 : decode cX3_wholePay 61 = .ok (.ireturn, 1) := by decide +kernel
theorem dX3_wholePay_62 : decode cX3_wholePay 62 = .ok (.iload_n 2, 1) := by decide +kernel
theorem dX3_wholePay_63 : decode cX3_wholePay 63 = .ok (.aload_n 0, 1) := by decide +kernel
theorem dX3_wholePay_64 : decode cX3_wholePay 64 = .ok (.getfield 127, 3) := by decide +kernel
theorem dX3_wholePay_67 : decode cX3_wholePay 67 = .ok (.invokestatic 142, 3) := by decide +kernel
theorem dX3_wholePay_70 : decode cX3_wholePay 70 = .ok (.iload_n 1, 1) := by decide +kernel
theorem dX3_wholePay_71 : decode cX3_wholePay 71 = .ok (.isub, 1) := by decide +kernel
theorem dX3_wholePay_72 : decode cX3_wholePay 72 = .ok (.ireturn, 1) := by decide +kernel
theorem dX3_wholePay_73 : decode cX3_wholePay 73 = .ok (.iload_n 2, 1) := by decide +kernel
theorem dX3_wholePay_74 : decode cX3_wholePay 74 = .ok (.iload_n 1, 1) := by decide +kernel
theorem dX3_wholePay_75 : decode cX3_wholePay 75 = .ok (.isub, 1) := by decide +kernel
theorem dX3_wholePay_76 : decode cX3_wholePay 76 = .ok (.invokestatic 145, 3) := by decide +kernel
theorem dX3_wholePay_79 : decode cX3_wholePay 79 = .ok (.ireturn, 1) := by decide +kernel
theorem dX3_wholePay_80 : decode cX3_wholePay 80 = .ok (.iconst 0, 1) := by decide +kernel
theorem dX3_wholePay_81 : decode cX3_wholePay 81 = .ok (.ireturn, 1) := by decide +kernel
theorem dX3_decide_0 : decode cX3_decide 0 = .ok (.aload_n 0, 1) := by decide +kernel
theorem dX3_decide_1 : decode cX3_decide 1 = .ok (.aload_n 1, 1) := by decide +kernel
theorem dX3_decide_2 : decode cX3_decide 2 = .ok (.getfield 93, 3) := by decide +kernel
theorem dX3_decide_5 : decode cX3_decide 5 = .ok (.iload 5, 2) := by decide +kernel
theorem dX3_decide_7 : decode cX3_decide 7 = .ok (.iload 6, 2) := by decide +kernel
theorem dX3_decide_9 : decode cX3_decide 9 = .ok (.invokevirtual 148, 3) := by decide +kernel
theorem dX3_decide_12 : decode cX3_decide 12 = .ok (.lstore 8, 2) := by decide +kernel
theorem dX3_decide_14 : decode cX3_decide 14 = .ok (.lload 8, 2) := by decide +kernel
theorem dX3_decide_16 : decode cX3_decide 16 = .ok (.lstore 10, 2) := by decide +kernel
theorem dX3_decide_18 : decode cX3_decide 18 = .ok (.aload 4, 2) := by decide +kernel
theorem dX3_decide_20 : decode cX3_decide 20 = .ok (.getfield 152, 3) := by decide +kernel
theorem dX3_decide_23 : decode cX3_decide 23 = .ok (.iconst (-1), 1) := by decide +kernel
theorem dX3_decide_24 : decode cX3_decide 24 = .ok (.if_icmp .eq 25, 3) := by decide +kernel
theorem dX3_decide_27 : decode cX3_decide 27 = .ok (.lload 8, 2) := by decide +kernel
theorem dX3_decide_29 : decode cX3_decide 29 = .ok (.lload_n 2, 1) := by decide +kernel
theorem dX3_decide_30 : decode cX3_decide 30 = .ok (.aload 4, 2) := by decide +kernel
theorem dX3_decide_32 : decode cX3_decide 32 = .ok (.getfield 152, 3) := by decide +kernel
theorem dX3_decide_35 : decode cX3_decide 35 = .ok (.i2l, 1) := by decide +kernel
theorem dX3_decide_36 : decode cX3_decide 36 = .ok (.aload_n 0, 1) := by decide +kernel
theorem dX3_decide_37 : decode cX3_decide 37 = .ok (.iload 5, 2) := by decide +kernel
theorem dX3_decide_39 : decode cX3_decide 39 = .ok (.invokevirtual 105, 3) := by decide +kernel
theorem dX3_decide_42 : decode cX3_decide 42 = .ok (.lmul, 1) := by decide +kernel
theorem dX3_decide_43 : decode cX3_decide 43 = .ok (.ladd, 1) := by decide +kernel
theorem dX3_decide_44 : decode cX3_decide 44 = .ok (.invokestatic 155, 3) := by decide +kernel
theorem dX3_decide_47 : decode cX3_decide 47 = .ok (.lstore 10, 2) := by decide +kernel
theorem dX3_decide_49 : decode cX3_decide 49 = .ok (.iload 7, 2) := by decide +kernel
theorem dX3_decide_51 : decode cX3_decide 51 = .ok (.ifCond .eq 20, 3) := by decide +kernel
theorem dX3_decide_54 : decode cX3_decide 54 = .ok (.lload_n 2, 1) := by decide +kernel
theorem dX3_decide_55 : decode cX3_decide 55 = .ok (.lconst 0, 1) := by decide +kernel
theorem dX3_decide_56 : decode cX3_decide 56 = .ok (.lcmp, 1) := by decide +kernel
theorem dX3_decide_57 : decode cX3_decide 57 = .ok (.ifCond .le 14, 3) := by decide +kernel
theorem dX3_decide_60 : decode cX3_decide 60 = .ok (.lload_n 2, 1) := by decide +kernel
theorem dX3_decide_61 : decode cX3_decide 61 = .ok (.lload 10, 2) := by decide +kernel
theorem dX3_decide_63 : decode cX3_decide 63 = .ok (.lcmp, 1) := by decide +kernel
theorem dX3_decide_64 : decode cX3_decide 64 = .ok (.ifCond .lt 7, 3) := by decide +kernel
theorem dX3_decide_67 : decode cX3_decide 67 = .ok (.iconst 1, 1) := by decide +kernel
theorem dX3_decide_68 : decode cX3_decide 68 = .ok (.goto 4, 3) := by decide +kernel
theorem dX3_decide_71 : decode cX3_decide 71 = .ok (.iconst 0, 1) := by decide +kernel
theorem dX3_decide_72 : decode cX3_decide 72 = .ok (.istore 12, 2) := by decide +kernel
theorem dX3_decide_74 : decode cX3_decide 74 = .ok (.aload_n 1, 1) := by decide +kernel
theorem dX3_decide_75 : decode cX3_decide 75 = .ok (.getfield 93, 3) := by decide +kernel
theorem dX3_decide_78 : decode cX3_decide 78 = .ok (.iload 6, 2) := by decide +kernel
theorem dX3_decide_80 : decode cX3_decide 80 = .ok (.iload 12, 2) := by decide +kernel
theorem dX3_decide_82 : decode cX3_decide 82 = .ok (.ifCond .eq 7, 3) := by decide +kernel
theorem dX3_decide_85 : decode cX3_decide 85 = .ok (.lload_n 2, 1) := by decide +kernel
theorem dX3_decide_86 : decode cX3_decide 86 = .ok (.goto 5, 3) := by decide +kernel
theorem dX3_decide_89 : decode cX3_decide 89 = .ok (.lload 10, 2) := by decide +kernel
theorem dX3_decide_91 : decode cX3_decide 91 = .ok (.lastore, 1) := by decide +kernel
theorem dX3_decide_92 : decode cX3_decide 92 = .ok (.aload_n 1, 1) := by decide +kernel
theorem dX3_decide_93 : decode cX3_decide 93 = .ok (.getfield 157, 3) := by decide +kernel
theorem dX3_decide_96 : decode cX3_decide 96 = .ok (.iload 6, 2) := by decide +kernel
theorem dX3_decide_98 : decode cX3_decide 98 = .ok (.iload 12, 2) := by decide +kernel
theorem dX3_decide_100 : decode cX3_decide 100 = .ok (.ifCond .eq 7, 3) := by decide +kernel
theorem dX3_decide_103 : decode cX3_decide 103 = .ok (.iconst 1, 1) := by decide +kernel
theorem dX3_decide_104 : decode cX3_decide 104 = .ok (.goto 16, 3) := by decide +kernel
theorem dX3_decide_107 : decode cX3_decide 107 = .ok (.lload 10, 2) := by decide +kernel
theorem dX3_decide_109 : decode cX3_decide 109 = .ok (.lload 8, 2) := by decide +kernel
theorem dX3_decide_111 : decode cX3_decide 111 = .ok (.lcmp, 1) := by decide +kernel
theorem dX3_decide_112 : decode cX3_decide 112 = .ok (.ifCond .ge 7, 3) := by decide +kernel
theorem dX3_decide_115 : decode cX3_decide 115 = .ok (.iconst 4, 1) := by decide +kernel
theorem dX3_decide_116 : decode cX3_decide 116 = .ok (.goto 4, 3) := by decide +kernel
theorem dX3_decide_119 : decode cX3_decide 119 = .ok (.iconst 0, 1) := by decide +kernel
theorem dX3_decide_120 : decode cX3_decide 120 = .ok (.iastore, 1) := by decide +kernel
theorem dX3_decide_121 : decode cX3_decide 121 = .ok (.return_, 1) := by decide +kernel
theorem dX3_bar_0 : decode cX3_bar 0 = .ok (.aload_n 1, 1) := by decide +kernel
theorem dX3_bar_1 : decode cX3_bar 1 = .ok (.getfield 89, 3) := by decide +kernel
theorem dX3_bar_4 : decode cX3_bar 4 = .ok (.astore 6, 2) := by decide +kernel
theorem dX3_bar_6 : decode cX3_bar 6 = .ok (.aload_n 2, 1) := by decide +kernel
theorem dX3_bar_7 : decode cX3_bar 7 = .ok (.getfield 160, 3) := by decide +kernel
theorem dX3_bar_10 : decode cX3_bar 10 = .ok (.ifCond .ne 42, 3) := by decide +kernel
theorem dX3_bar_13 : decode cX3_bar 13 = .ok (.aload 6, 2) := by decide +kernel
theorem dX3_bar_15 : decode cX3_bar 15 = .ok (.getfield 93, 3) := by decide +kernel
theorem dX3_bar_18 : decode cX3_bar 18 = .ok (.iload 4, 2) := by decide +kernel
theorem dX3_bar_20 : decode cX3_bar 20 = .ok (.aload_n 1, 1) := by decide +kernel
theorem dX3_bar_21 : decode cX3_bar 21 = .ok (.getfield 113, 3) := by decide +kernel
theorem dX3_bar_24 : decode cX3_bar 24 = .ok (.getfield 93, 3) := by decide +kernel
theorem dX3_bar_27 : decode cX3_bar 27 = .ok (.iload 4, 2) := by decide +kernel
theorem dX3_bar_29 : decode cX3_bar 29 = .ok (.laload, 1) := by decide +kernel
theorem dX3_bar_30 : decode cX3_bar 30 = .ok (.lastore, 1) := by decide +kernel
theorem dX3_bar_31 : decode cX3_bar 31 = .ok (.aload 6, 2) := by decide +kernel
theorem dX3_bar_33 : decode cX3_bar 33 = .ok (.getfield 157, 3) := by decide +kernel
theorem dX3_bar_36 : decode cX3_bar 36 = .ok (.iload 4, 2) := by decide +kernel
theorem dX3_bar_38 : decode cX3_bar 38 = .ok (.aload_n 1, 1) := by decide +kernel
theorem dX3_bar_39 : decode cX3_bar 39 = .ok (.getfield 113, 3) := by decide +kernel
theorem dX3_bar_42 : decode cX3_bar 42 = .ok (.getfield 157, 3) := by decide +kernel
theorem dX3_bar_45 : decode cX3_bar 45 = .ok (.iload 4, 2) := by decide +kernel
theorem dX3_bar_47 : decode cX3_bar 47 = .ok (.iaload, 1) := by decide +kernel
theorem dX3_bar_48 : decode cX3_bar 48 = .ok (.iastore, 1) := by decide +kernel
theorem dX3_bar_49 : decode cX3_bar 49 = .ok (.goto 136, 3) := by decide +kernel
theorem dX3_bar_52 : decode cX3_bar 52 = .ok (.aload_n 0, 1) := by decide +kernel
theorem dX3_bar_53 : decode cX3_bar 53 = .ok (.aload_n 2, 1) := by decide +kernel
theorem dX3_bar_54 : decode cX3_bar 54 = .ok (.iload 4, 2) := by decide +kernel
theorem dX3_bar_56 : decode cX3_bar 56 = .ok (.invokevirtual 163, 3) := by decide +kernel
theorem dX3_bar_59 : decode cX3_bar 59 = .ok (.ifCond .eq 67, 3) := by decide +kernel
theorem dX3_bar_62 : decode cX3_bar 62 = .ok (.aload 6, 2) := by decide +kernel
theorem dX3_bar_64 : decode cX3_bar 64 = .ok (.getfield 93, 3) := by decide +kernel
theorem dX3_bar_67 : decode cX3_bar 67 = .ok (.iload 4, 2) := by decide +kernel
theorem dX3_bar_69 : decode cX3_bar 69 = .ok (.aload_n 2, 1) := by decide +kernel
theorem dX3_bar_70 : decode cX3_bar 70 = .ok (.getfield 160, 3) := by decide +kernel
theorem dX3_bar_73 : decode cX3_bar 73 = .ok (.iconst 1, 1) := by decide +kernel
theorem dX3_bar_74 : decode cX3_bar 74 = .ok (.if_icmp .ne 17, 3) := by decide +kernel
theorem dX3_bar_77 : decode cX3_bar 77 = .ok (.aload_n 2, 1) := by decide +kernel
theorem dX3_bar_78 : decode cX3_bar 78 = .ok (.getfield 167, 3) := by decide +kernel
theorem dX3_bar_81 : decode cX3_bar 81 = .ok (.i2l, 1) := by decide +kernel
theorem dX3_bar_82 : decode cX3_bar 82 = .ok (.aload_n 0, 1) := by decide +kernel
theorem dX3_bar_83 : decode cX3_bar 83 = .ok (.iload_n 3, 1) := by decide +kernel
theorem dX3_bar_84 : decode cX3_bar 84 = .ok (.invokevirtual 105, 3) := by decide +kernel
theorem dX3_bar_87 : decode cX3_bar 87 = .ok (.lmul, 1) := by decide +kernel
theorem dX3_bar_88 : decode cX3_bar 88 = .ok (.goto 13, 3) := by decide +kernel
theorem dX3_bar_91 : decode cX3_bar 91 = .ok (.aload_n 1, 1) := by decide +kernel
theorem dX3_bar_92 : decode cX3_bar 92 = .ok (.getfield 113, 3) := by decide +kernel
theorem dX3_bar_95 : decode cX3_bar 95 = .ok (.getfield 93, 3) := by decide +kernel
theorem dX3_bar_98 : decode cX3_bar 98 = .ok (.iload 4, 2) := by decide +kernel
theorem dX3_bar_100 : decode cX3_bar 100 = .ok (.laload, 1) := by decide +kernel
theorem dX3_bar_101 : decode cX3_bar 101 = .ok (.lastore, 1) := by decide +kernel
theorem dX3_bar_102 : decode cX3_bar 102 = .ok (.aload 6, 2) := by decide +kernel
theorem dX3_bar_104 : decode cX3_bar 104 = .ok (.getfield 157, 3) := by decide +kernel
theorem dX3_bar_107 : decode cX3_bar 107 = .ok (.iload 4, 2) := by decide +kernel
theorem dX3_bar_109 : decode cX3_bar 109 = .ok (.aload_n 2, 1) := by decide +kernel
theorem dX3_bar_110 : decode cX3_bar 110 = .ok (.getfield 160, 3) := by decide +kernel
theorem dX3_bar_113 : decode cX3_bar 113 = .ok (.iconst 1, 1) := by decide +kernel
theorem dX3_bar_114 : decode cX3_bar 114 = .ok (.if_icmp .ne 7, 3) := by decide +kernel
theorem dX3_bar_117 : decode cX3_bar 117 = .ok (.iconst 2, 1) := by decide +kernel
theorem dX3_bar_118 : decode cX3_bar 118 = .ok (.goto 4, 3) := by decide +kernel
theorem dX3_bar_121 : decode cX3_bar 121 = .ok (.iconst 3, 1) := by decide +kernel
theorem dX3_bar_122 : decode cX3_bar 122 = .ok (.iastore, 1) := by decide +kernel
theorem dX3_bar_123 : decode cX3_bar 123 = .ok (.goto 62, 3) := by decide +kernel
theorem dX3_bar_126 : decode cX3_bar 126 = .ok (.aload_n 2, 1) := by decide +kernel
theorem dX3_bar_127 : decode cX3_bar 127 = .ok (.getfield 160, 3) := by decide +kernel
theorem dX3_bar_130 : decode cX3_bar 130 = .ok (.iconst 2, 1) := by decide +kernel
theorem dX3_bar_131 : decode cX3_bar 131 = .ok (.if_icmp .ne 35, 3) := by decide +kernel
theorem dX3_bar_134 : decode cX3_bar 134 = .ok (.aload 6, 2) := by decide +kernel
theorem dX3_bar_136 : decode cX3_bar 136 = .ok (.getfield 93, 3) := by decide +kernel
theorem dX3_bar_139 : decode cX3_bar 139 = .ok (.iload 4, 2) := by decide +kernel
theorem dX3_bar_141 : decode cX3_bar 141 = .ok (.aload_n 0, 1) := by decide +kernel
theorem dX3_bar_142 : decode cX3_bar 142 = .ok (.aload 6, 2) := by decide +kernel
theorem dX3_bar_144 : decode cX3_bar 144 = .ok (.getfield 93, 3) := by decide +kernel
theorem dX3_bar_147 : decode cX3_bar 147 = .ok (.iload_n 3, 1) := by decide +kernel
theorem dX3_bar_148 : decode cX3_bar 148 = .ok (.iload 4, 2) := by decide +kernel
theorem dX3_bar_150 : decode cX3_bar 150 = .ok (.invokevirtual 148, 3) := by decide +kernel
theorem dX3_bar_153 : decode cX3_bar 153 = .ok (.lastore, 1) := by decide +kernel
theorem dX3_bar_154 : decode cX3_bar 154 = .ok (.aload 6, 2) := by decide +kernel
theorem dX3_bar_156 : decode cX3_bar 156 = .ok (.getfield 157, 3) := by decide +kernel
theorem dX3_bar_159 : decode cX3_bar 159 = .ok (.iload 4, 2) := by decide +kernel
theorem dX3_bar_161 : decode cX3_bar 161 = .ok (.iconst 0, 1) := by decide +kernel
theorem dX3_bar_162 : decode cX3_bar 162 = .ok (.iastore, 1) := by decide +kernel
theorem dX3_bar_163 : decode cX3_bar 163 = .ok (.goto 22, 3) := by decide +kernel
theorem dX3_bar_166 : decode cX3_bar 166 = .ok (.aload_n 0, 1) := by decide +kernel
theorem dX3_bar_167 : decode cX3_bar 167 = .ok (.aload 6, 2) := by decide +kernel
theorem dX3_bar_169 : decode cX3_bar 169 = .ok (.aload_n 1, 1) := by decide +kernel
theorem dX3_bar_170 : decode cX3_bar 170 = .ok (.getfield 102, 3) := by decide +kernel
theorem dX3_bar_173 : decode cX3_bar 173 = .ok (.iload 4, 2) := by decide +kernel
theorem dX3_bar_175 : decode cX3_bar 175 = .ok (.laload, 1) := by decide +kernel
theorem dX3_bar_176 : decode cX3_bar 176 = .ok (.aload_n 2, 1) := by decide +kernel
theorem dX3_bar_177 : decode cX3_bar 177 = .ok (.iload_n 3, 1) := by decide +kernel
theorem dX3_bar_178 : decode cX3_bar 178 = .ok (.iload 4, 2) := by decide +kernel
theorem dX3_bar_180 : decode cX3_bar 180 = .ok (.iload 5, 2) := by decide +kernel
theorem dX3_bar_182 : decode cX3_bar 182 = .ok (.invokevirtual 116, 3) := by decide +kernel
theorem dX3_bar_185 : decode cX3_bar 185 = .ok (.return_, 1) := by decide +kernel
theorem dX3_isTouched_0 : decode cX3_isTouched 0 = .ok (.aload_n 1, 1) := by decide +kernel
theorem dX3_isTouched_1 : decode cX3_isTouched 1 = .ok (.getfield 160, 3) := by decide +kernel
theorem dX3_isTouched_4 : decode cX3_isTouched 4 = .ok (.ifCond .eq 27, 3) := by decide +kernel
theorem dX3_isTouched_7 : decode cX3_isTouched 7 = .ok (.aload_n 0, 1) := by decide +kernel
theorem dX3_isTouched_8 : decode cX3_isTouched 8 = .ok (.getfield 15, 3) := by decide +kernel
theorem dX3_isTouched_11 : decode cX3_isTouched 11 = .ok (.iload_n 2, 1) := by decide +kernel
theorem dX3_isTouched_12 : decode cX3_isTouched 12 = .ok (.iaload, 1) := by decide +kernel
theorem dX3_isTouched_13 : decode cX3_isTouched 13 = .ok (.aload_n 1, 1) := by decide +kernel
theorem dX3_isTouched_14 : decode cX3_isTouched 14 = .ok (.getfield 170, 3) := by decide +kernel
theorem dX3_isTouched_17 : decode cX3_isTouched 17 = .ok (.aload_n 1, 1) := by decide +kernel
theorem dX3_isTouched_18 : decode cX3_isTouched 18 = .ok (.getfield 173, 3) := by decide +kernel
theorem dX3_isTouched_21 : decode cX3_isTouched 21 = .ok (.invokestatic 176, 3) := by decide +kernel
theorem dX3_isTouched_24 : decode cX3_isTouched 24 = .ok (.ifCond .eq 7, 3) := by decide +kernel
theorem dX3_isTouched_27 : decode cX3_isTouched 27 = .ok (.iconst 1, 1) := by decide +kernel
theorem dX3_isTouched_28 : decode cX3_isTouched 28 = .ok (.goto 4, 3) := by decide +kernel
theorem dX3_isTouched_31 : decode cX3_isTouched 31 = .ok (.iconst 0, 1) := by decide +kernel
theorem dX3_isTouched_32 : decode cX3_isTouched 32 = .ok (.ireturn, 1) := by decide +kernel
theorem dX3_heldOf_0 : decode cX3_heldOf 0 = .ok (.iload_n 2, 1) := by decide +kernel
theorem dX3_heldOf_1 : decode cX3_heldOf 1 = .ok (.aload_n 0, 1) := by decide +kernel
theorem dX3_heldOf_2 : decode cX3_heldOf 2 = .ok (.getfield 37, 3) := by decide +kernel
theorem dX3_heldOf_5 : decode cX3_heldOf 5 = .ok (.getfield 41, 3) := by decide +kernel
theorem dX3_heldOf_8 : decode cX3_heldOf 8 = .ok (.if_icmp .lt 5, 3) := by decide +kernel
theorem dX3_heldOf_11 : decode cX3_heldOf 11 = .ok (.lconst 0, 1) := by decide +kernel
theorem dX3_heldOf_12 : decode cX3_heldOf 12 = .ok (.lreturn, 1) := by decide +kernel
theorem dX3_heldOf_13 : decode cX3_heldOf 13 = .ok (.aload_n 0, 1) := by decide +kernel
theorem dX3_heldOf_14 : decode cX3_heldOf 14 = .ok (.getfield 37, 3) := by decide +kernel
theorem dX3_heldOf_17 : decode cX3_heldOf 17 = .ok (.getfield 78, 3) := by decide +kernel
theorem dX3_heldOf_20 : decode cX3_heldOf 20 = .ok (.iload_n 2, 1) := by decide +kernel
theorem dX3_heldOf_21 : decode cX3_heldOf 21 = .ok (.iconst 1, 1) := by decide +kernel
theorem dX3_heldOf_22 : decode cX3_heldOf 22 = .ok (.iadd, 1) := by decide +kernel
theorem dX3_heldOf_23 : decode cX3_heldOf 23 = .ok (.iaload, 1) := by decide +kernel
theorem dX3_heldOf_24 : decode cX3_heldOf 24 = .ok (.istore 4, 2) := by decide +kernel
theorem dX3_heldOf_26 : decode cX3_heldOf 26 = .ok (.iload 4, 2) := by decide +kernel
theorem dX3_heldOf_28 : decode cX3_heldOf 28 = .ok (.i2l, 1) := by decide +kernel
theorem dX3_heldOf_29 : decode cX3_heldOf 29 = .ok (.aload_n 1, 1) := by decide +kernel
theorem dX3_heldOf_30 : decode cX3_heldOf 30 = .ok (.aload_n 0, 1) := by decide +kernel
theorem dX3_heldOf_31 : decode cX3_heldOf 31 = .ok (.iload_n 2, 1) := by decide +kernel
theorem dX3_heldOf_32 : decode cX3_heldOf 32 = .ok (.iload_n 3, 1) := by decide +kernel
theorem dX3_heldOf_33 : decode cX3_heldOf 33 = .ok (.invokevirtual 180, 3) := by decide +kernel
theorem dX3_heldOf_36 : decode cX3_heldOf 36 = .ok (.laload, 1) := by decide +kernel
theorem dX3_heldOf_37 : decode cX3_heldOf 37 = .ok (.lmul, 1) := by decide +kernel
theorem dX3_heldOf_38 : decode cX3_heldOf 38 = .ok (.aload_n 0, 1) := by decide +kernel
theorem dX3_heldOf_39 : decode cX3_heldOf 39 = .ok (.getfield 37, 3) := by decide +kernel
theorem dX3_heldOf_42 : decode cX3_heldOf 42 = .ok (.getfield 72, 3) := by decide +kernel
theorem dX3_heldOf_45 : decode cX3_heldOf 45 = .ok (.iload 4, 2) := by decide +kernel
theorem dX3_heldOf_47 : decode cX3_heldOf 47 = .ok (.isub, 1) := by decide +kernel
theorem dX3_heldOf_48 : decode cX3_heldOf 48 = .ok (.i2l, 1) := by decide +kernel
theorem dX3_heldOf_49 : decode cX3_heldOf 49 = .ok (.aload_n 1, 1) := by decide +kernel
theorem dX3_heldOf_50 : decode cX3_heldOf 50 = .ok (.aload_n 0, 1) := by decide +kernel
theorem dX3_heldOf_51 : decode cX3_heldOf 51 = .ok (.iload_n 2, 1) := by decide +kernel
theorem dX3_heldOf_52 : decode cX3_heldOf 52 = .ok (.iload_n 3, 1) := by decide +kernel
theorem dX3_heldOf_53 : decode cX3_heldOf 53 = .ok (.invokevirtual 183, 3) := by decide +kernel
theorem dX3_heldOf_56 : decode cX3_heldOf 56 = .ok (.laload, 1) := by decide +kernel
theorem dX3_heldOf_57 : decode cX3_heldOf 57 = .ok (.lmul, 1) := by decide +kernel
theorem dX3_heldOf_58 : decode cX3_heldOf 58 = .ok (.ladd, 1) := by decide +kernel
theorem dX3_heldOf_59 : decode cX3_heldOf 59 = .ok (.lreturn, 1) := by decide +kernel
theorem dX3_upFrom_0 : decode cX3_upFrom 0 = .ok (.iload_n 2, 1) := by decide +kernel
theorem dX3_upFrom_1 : decode cX3_upFrom 1 = .ok (.iload_n 1, 1) := by decide +kernel
theorem dX3_upFrom_2 : decode cX3_upFrom 2 = .ok (.iadd, 1) := by decide +kernel
theorem dX3_upFrom_3 : decode cX3_upFrom 3 = .ok (.iconst 2, 1) := by decide +kernel
theorem dX3_upFrom_4 : decode cX3_upFrom 4 = .ok (.iadd, 1) := by decide +kernel
theorem dX3_upFrom_5 : decode cX3_upFrom 5 = .ok (.ireturn, 1) := by decide +kernel
theorem dX3_downFrom_0 : decode cX3_downFrom 0 = .ok (.iload_n 2, 1) := by decide +kernel
theorem dX3_downFrom_1 : decode cX3_downFrom 1 = .ok (.iload_n 1, 1) := by decide +kernel
theorem dX3_downFrom_2 : decode cX3_downFrom 2 = .ok (.iadd, 1) := by decide +kernel
theorem dX3_downFrom_3 : decode cX3_downFrom 3 = .ok (.iconst 1, 1) := by decide +kernel
theorem dX3_downFrom_4 : decode cX3_downFrom 4 = .ok (.iadd, 1) := by decide +kernel
theorem dX3_downFrom_5 : decode cX3_downFrom 5 = .ok (.ireturn, 1) := by decide +kernel
theorem dX3_standing_0 : decode cX3_standing 0 = .ok (.aload_n 1, 1) := by decide +kernel
theorem dX3_standing_1 : decode cX3_standing 1 = .ok (.getfield 89, 3) := by decide +kernel
theorem dX3_standing_4 : decode cX3_standing 4 = .ok (.getfield 157, 3) := by decide +kernel
theorem dX3_standing_7 : decode cX3_standing 7 = .ok (.iload_n 3, 1) := by decide +kernel
theorem dX3_standing_8 : decode cX3_standing 8 = .ok (.iaload, 1) := by decide +kernel
theorem dX3_standing_9 : decode cX3_standing 9 = .ok (.istore 4, 2) := by decide +kernel
theorem dX3_standing_11 : decode cX3_standing 11 = .ok (.iload 4, 2) := by decide +kernel
theorem dX3_standing_13 : decode cX3_standing 13 = .ok (.iconst 2, 1) := by decide +kernel
theorem dX3_standing_14 : decode cX3_standing 14 = .ok (.if_icmp .ne 5, 3) := by decide +kernel
theorem dX3_standing_17 : decode cX3_standing 17 = .ok (.lconst 0, 1) := by decide +kernel
theorem dX3_standing_18 : decode cX3_standing 18 = .ok (.lreturn, 1) := by decide +kernel
theorem dX3_standing_19 : decode cX3_standing 19 = .ok (.aload_n 0, 1) := by decide +kernel
theorem dX3_standing_20 : decode cX3_standing 20 = .ok (.iload 4, 2) := by decide +kernel
theorem dX3_standing_22 : decode cX3_standing 22 = .ok (.iconst 3, 1) := by decide +kernel
theorem dX3_standing_23 : decode cX3_standing 23 = .ok (.if_icmp .ne 10, 3) := by decide +kernel
theorem dX3_standing_26 : decode cX3_standing 26 = .ok (.aload_n 1, 1) := by decide +kernel
theorem dX3_standing_27 : decode cX3_standing 27 = .ok (.getfield 113, 3) := by decide +kernel
theorem dX3_standing_30 : decode cX3_standing 30 = .ok (.goto 7, 3) := by decide +kernel
theorem dX3_standing_33 : decode cX3_standing 33 = .ok (.aload_n 1, 1) := by decide +kernel
theorem dX3_standing_34 : decode cX3_standing 34 = .ok (.getfield 89, 3) := by decide +kernel
theorem dX3_standing_37 : decode cX3_standing 37 = .ok (.iload_n 2, 1) := by decide +kernel
theorem dX3_standing_38 : decode cX3_standing 38 = .ok (.iload_n 3, 1) := by decide +kernel
theorem dX3_standing_39 : decode cX3_standing 39 = .ok (.invokevirtual 186, 3) := by decide +kernel
theorem dX3_standing_42 : decode cX3_standing 42 = .ok (.lreturn, 1) := by decide +kernel
theorem dX3_standingBy_0 : decode cX3_standingBy 0 = .ok (.iload_n 2, 1) := by decide +kernel
theorem dX3_standingBy_1 : decode cX3_standingBy 1 = .ok (.aload_n 0, 1) := by decide +kernel
theorem dX3_standingBy_2 : decode cX3_standingBy 2 = .ok (.getfield 37, 3) := by decide +kernel
theorem dX3_standingBy_5 : decode cX3_standingBy 5 = .ok (.getfield 41, 3) := by decide +kernel
theorem dX3_standingBy_8 : decode cX3_standingBy 8 = .ok (.if_icmp .lt 5, 3) := by decide +kernel
theorem dX3_standingBy_11 : decode cX3_standingBy 11 = .ok (.lconst 0, 1) := by decide +kernel
theorem dX3_standingBy_12 : decode cX3_standingBy 12 = .ok (.lreturn, 1) := by decide +kernel
theorem dX3_standingBy_13 : decode cX3_standingBy 13 = .ok (.aload_n 1, 1) := by decide +kernel
theorem dX3_standingBy_14 : decode cX3_standingBy 14 = .ok (.getfield 93, 3) := by decide +kernel
theorem dX3_standingBy_17 : decode cX3_standingBy 17 = .ok (.aload_n 0, 1) := by decide +kernel
theorem dX3_standingBy_18 : decode cX3_standingBy 18 = .ok (.iload_n 2, 1) := by decide +kernel
theorem dX3_standingBy_19 : decode cX3_standingBy 19 = .ok (.iload_n 3, 1) := by decide +kernel
theorem dX3_standingBy_20 : decode cX3_standingBy 20 = .ok (.invokevirtual 180, 3) := by decide +kernel
theorem dX3_standingBy_23 : decode cX3_standingBy 23 = .ok (.laload, 1) := by decide +kernel
theorem dX3_standingBy_24 : decode cX3_standingBy 24 = .ok (.aload_n 1, 1) := by decide +kernel
theorem dX3_standingBy_25 : decode cX3_standingBy 25 = .ok (.getfield 93, 3) := by decide +kernel
theorem dX3_standingBy_28 : decode cX3_standingBy 28 = .ok (.aload_n 0, 1) := by decide +kernel
theorem dX3_standingBy_29 : decode cX3_standingBy 29 = .ok (.iload_n 2, 1) := by decide +kernel
theorem dX3_standingBy_30 : decode cX3_standingBy 30 = .ok (.iload_n 3, 1) := by decide +kernel
theorem dX3_standingBy_31 : decode cX3_standingBy 31 = .ok (.invokevirtual 183, 3) := by decide +kernel
theorem dX3_standingBy_34 : decode cX3_standingBy 34 = .ok (.laload, 1) := by decide +kernel
theorem dX3_standingBy_35 : decode cX3_standingBy 35 = .ok (.lsub, 1) := by decide +kernel
theorem dX3_standingBy_36 : decode cX3_standingBy 36 = .ok (.lreturn, 1) := by decide +kernel
theorem dX4_init_0 : decode cX4_init 0 = .ok (.aload_n 0, 1) := by decide +kernel
theorem dX4_init_1 : decode cX4_init 1 = .ok (.invokespecial 3, 3) := by decide +kernel
theorem dX4_init_4 : decode cX4_init 4 = .ok (.aload_n 0, 1) := by decide +kernel
theorem dX4_init_5 : decode cX4_init 5 = .ok (.bipush 91, 2) := by decide +kernel
theorem dX4_init_7 : decode cX4_init 7 = .ok (.newarray .long, 2) := by decide +kernel
theorem dX4_init_9 : decode cX4_init 9 = .ok (.putfield 9, 3) := by decide +kernel
theorem dX4_init_12 : decode cX4_init 12 = .ok (.aload_n 0, 1) := by decide +kernel
theorem dX4_init_13 : decode cX4_init 13 = .ok (.bipush 91, 2) := by decide +kernel
theorem dX4_init_15 : decode cX4_init 15 = .ok (.newarray .int, 2) := by decide +kernel
theorem dX4_init_17 : decode cX4_init 17 = .ok (.putfield 15, 3) := by decide +kernel
theorem dX4_init_20 : decode cX4_init 20 = .ok (.return_, 1) := by decide +kernel
theorem dX5_init_0 : decode cX5_init 0 = .ok (.aload_n 0, 1) := by decide +kernel
theorem dX5_init_1 : decode cX5_init 1 = .ok (.invokespecial 3, 3) := by decide +kernel
theorem dX5_init_4 : decode cX5_init 4 = .ok (.aload_n 0, 1) := by decide +kernel
theorem dX5_init_5 : decode cX5_init 5 = .ok (.bipush 13, 2) := by decide +kernel
theorem dX5_init_7 : decode cX5_init 7 = .ok (.newarray .int, 2) := by decide +kernel
theorem dX5_init_9 : decode cX5_init 9 = .ok (.putfield 9, 3) := by decide +kernel
theorem dX5_init_12 : decode cX5_init 12 = .ok (.aload_n 0, 1) := by decide +kernel
theorem dX5_init_13 : decode cX5_init 13 = .ok (.bipush 13, 2) := by decide +kernel
theorem dX5_init_15 : decode cX5_init 15 = .ok (.newarray .int, 2) := by decide +kernel
theorem dX5_init_17 : decode cX5_init 17 = .ok (.putfield 15, 3) := by decide +kernel
theorem dX5_init_20 : decode cX5_init 20 = .ok (.aload_n 0, 1) := by decide +kernel
theorem dX5_init_21 : decode cX5_init 21 = .ok (.iconst 4, 1) := by decide +kernel
theorem dX5_init_22 : decode cX5_init 22 = .ok (.anewarray 18, 3) := by decide +kernel
theorem dX5_init_25 : decode cX5_init 25 = .ok (.putfield 20, 3) := by decide +kernel
theorem dX5_init_28 : decode cX5_init 28 = .ok (.aload_n 0, 1) := by decide +kernel
theorem dX5_init_29 : decode cX5_init 29 = .ok (.bipush 100, 2) := by decide +kernel
theorem dX5_init_31 : decode cX5_init 31 = .ok (.putfield 24, 3) := by decide +kernel
theorem dX5_init_34 : decode cX5_init 34 = .ok (.aload_n 0, 1) := by decide +kernel
theorem dX5_init_35 : decode cX5_init 35 = .ok (.iconst 2, 1) := by decide +kernel
theorem dX5_init_36 : decode cX5_init 36 = .ok (.putfield 28, 3) := by decide +kernel
theorem dX5_init_39 : decode cX5_init 39 = .ok (.aload_n 0, 1) := by decide +kernel
theorem dX5_init_40 : decode cX5_init 40 = .ok (.iconst 0, 1) := by decide +kernel
theorem dX5_init_41 : decode cX5_init 41 = .ok (.putfield 31, 3) := by decide +kernel
theorem dX5_init_44 : decode cX5_init 44 = .ok (.aload_n 0, 1) := by decide +kernel
theorem dX5_init_45 : decode cX5_init 45 = .ok (.iconst 0, 1) := by decide +kernel
theorem dX5_init_46 : decode cX5_init 46 = .ok (.putfield 34, 3) := by decide +kernel
theorem dX5_init_49 : decode cX5_init 49 = .ok (.iconst 0, 1) := by decide +kernel
theorem dX5_init_50 : decode cX5_init 50 = .ok (.istore_n 1, 1) := by decide +kernel
theorem dX5_init_51 : decode cX5_init 51 = .ok (.iload_n 1, 1) := by decide +kernel
theorem dX5_init_52 : decode cX5_init 52 = .ok (.iconst 4, 1) := by decide +kernel
theorem dX5_init_53 : decode cX5_init 53 = .ok (.if_icmp .ge 22, 3) := by decide +kernel
theorem dX5_init_56 : decode cX5_init 56 = .ok (.aload_n 0, 1) := by decide +kernel
theorem dX5_init_57 : decode cX5_init 57 = .ok (.getfield 20, 3) := by decide +kernel
theorem dX5_init_60 : decode cX5_init 60 = .ok (.iload_n 1, 1) := by decide +kernel
theorem dX5_init_61 : decode cX5_init 61 = .ok (.new 18, 3) := by decide +kernel
theorem dX5_init_64 : decode cX5_init 64 = .ok (.dup, 1) := by decide +kernel
theorem dX5_init_65 : decode cX5_init 65 = .ok (.invokespecial 37, 3) := by decide +kernel
theorem dX5_init_68 : decode cX5_init 68 = .ok (.aastore, 1) := by decide +kernel
theorem dX5_init_69 : decode cX5_init 69 = .ok (.iinc 1 1, 3) := by decide +kernel
theorem dX5_init_72 : decode cX5_init 72 = .ok (.goto (-21), 3) := by decide +kernel
theorem dX5_init_75 : decode cX5_init 75 = .ok (.return_, 1) := by decide +kernel
theorem dX5_clear_0 : decode cX5_clear 0 = .ok (.aload_n 0, 1) := by decide +kernel
theorem dX5_clear_1 : decode cX5_clear 1 = .ok (.bipush 100, 2) := by decide +kernel
theorem dX5_clear_3 : decode cX5_clear 3 = .ok (.putfield 24, 3) := by decide +kernel
theorem dX5_clear_6 : decode cX5_clear 6 = .ok (.aload_n 0, 1) := by decide +kernel
theorem dX5_clear_7 : decode cX5_clear 7 = .ok (.iconst 2, 1) := by decide +kernel
theorem dX5_clear_8 : decode cX5_clear 8 = .ok (.putfield 28, 3) := by decide +kernel
theorem dX5_clear_11 : decode cX5_clear 11 = .ok (.aload_n 0, 1) := by decide +kernel
theorem dX5_clear_12 : decode cX5_clear 12 = .ok (.iconst 0, 1) := by decide +kernel
theorem dX5_clear_13 : decode cX5_clear 13 = .ok (.putfield 31, 3) := by decide +kernel
theorem dX5_clear_16 : decode cX5_clear 16 = .ok (.aload_n 0, 1) := by decide +kernel
theorem dX5_clear_17 : decode cX5_clear 17 = .ok (.iconst 0, 1) := by decide +kernel
theorem dX5_clear_18 : decode cX5_clear 18 = .ok (.putfield 34, 3) := by decide +kernel
theorem dX5_clear_21 : decode cX5_clear 21 = .ok (.iconst 0, 1) := by decide +kernel
theorem dX5_clear_22 : decode cX5_clear 22 = .ok (.istore_n 1, 1) := by decide +kernel
theorem dX5_clear_23 : decode cX5_clear 23 = .ok (.iload_n 1, 1) := by decide +kernel
theorem dX5_clear_24 : decode cX5_clear 24 = .ok (.bipush 12, 2) := by decide +kernel
theorem dX5_clear_26 : decode cX5_clear 26 = .ok (.if_icmp .gt 23, 3) := by decide +kernel
theorem dX5_clear_29 : decode cX5_clear 29 = .ok (.aload_n 0, 1) := by decide +kernel
theorem dX5_clear_30 : decode cX5_clear 30 = .ok (.getfield 9, 3) := by decide +kernel
theorem dX5_clear_33 : decode cX5_clear 33 = .ok (.iload_n 1, 1) := by decide +kernel
theorem dX5_clear_34 : decode cX5_clear 34 = .ok (.iconst 0, 1) := by decide +kernel
theorem dX5_clear_35 : decode cX5_clear 35 = .ok (.iastore, 1) := by decide +kernel
theorem dX5_clear_36 : decode cX5_clear 36 = .ok (.aload_n 0, 1) := by decide +kernel
theorem dX5_clear_37 : decode cX5_clear 37 = .ok (.getfield 15, 3) := by decide +kernel
theorem dX5_clear_40 : decode cX5_clear 40 = .ok (.iload_n 1, 1) := by decide +kernel
theorem dX5_clear_41 : decode cX5_clear 41 = .ok (.iconst 0, 1) := by decide +kernel
theorem dX5_clear_42 : decode cX5_clear 42 = .ok (.iastore, 1) := by decide +kernel
theorem dX5_clear_43 : decode cX5_clear 43 = .ok (.iinc 1 1, 3) := by decide +kernel
theorem dX5_clear_46 : decode cX5_clear 46 = .ok (.goto (-23), 3) := by decide +kernel
theorem dX5_clear_49 : decode cX5_clear 49 = .ok (.return_, 1) := by decide +kernel
theorem dX5_copyFrom_0 : decode cX5_copyFrom 0 = .ok (.aload_n 0, 1) := by decide +kernel
theorem dX5_copyFrom_1 : decode cX5_copyFrom 1 = .ok (.aload_n 1, 1) := by decide +kernel
theorem dX5_copyFrom_2 : decode cX5_copyFrom 2 = .ok (.getfield 24, 3) := by decide +kernel
theorem dX5_copyFrom_5 : decode cX5_copyFrom 5 = .ok (.putfield 24, 3) := by decide +kernel
theorem dX5_copyFrom_8 : decode cX5_copyFrom 8 = .ok (.aload_n 0, 1) := by decide +kernel
theorem dX5_copyFrom_9 : decode cX5_copyFrom 9 = .ok (.aload_n 1, 1) := by decide +kernel
theorem dX5_copyFrom_10 : decode cX5_copyFrom 10 = .ok (.getfield 28, 3) := by decide +kernel
theorem dX5_copyFrom_13 : decode cX5_copyFrom 13 = .ok (.putfield 28, 3) := by decide +kernel
theorem dX5_copyFrom_16 : decode cX5_copyFrom 16 = .ok (.aload_n 0, 1) := by decide +kernel
theorem dX5_copyFrom_17 : decode cX5_copyFrom 17 = .ok (.aload_n 1, 1) := by decide +kernel
theorem dX5_copyFrom_18 : decode cX5_copyFrom 18 = .ok (.getfield 31, 3) := by decide +kernel
theorem dX5_copyFrom_21 : decode cX5_copyFrom 21 = .ok (.putfield 31, 3) := by decide +kernel
theorem dX5_copyFrom_24 : decode cX5_copyFrom 24 = .ok (.aload_n 0, 1) := by decide +kernel
theorem dX5_copyFrom_25 : decode cX5_copyFrom 25 = .ok (.aload_n 1, 1) := by decide +kernel
theorem dX5_copyFrom_26 : decode cX5_copyFrom 26 = .ok (.getfield 34, 3) := by decide +kernel
theorem dX5_copyFrom_29 : decode cX5_copyFrom 29 = .ok (.putfield 34, 3) := by decide +kernel
theorem dX5_copyFrom_32 : decode cX5_copyFrom 32 = .ok (.iconst 0, 1) := by decide +kernel
theorem dX5_copyFrom_33 : decode cX5_copyFrom 33 = .ok (.istore_n 2, 1) := by decide +kernel
theorem dX5_copyFrom_34 : decode cX5_copyFrom 34 = .ok (.iload_n 2, 1) := by decide +kernel
theorem dX5_copyFrom_35 : decode cX5_copyFrom 35 = .ok (.bipush 12, 2) := by decide +kernel
theorem dX5_copyFrom_37 : decode cX5_copyFrom 37 = .ok (.if_icmp .gt 33, 3) := by decide +kernel
theorem dX5_copyFrom_40 : decode cX5_copyFrom 40 = .ok (.aload_n 0, 1) := by decide +kernel
theorem dX5_copyFrom_41 : decode cX5_copyFrom 41 = .ok (.getfield 9, 3) := by decide +kernel
theorem dX5_copyFrom_44 : decode cX5_copyFrom 44 = .ok (.iload_n 2, 1) := by decide +kernel
theorem dX5_copyFrom_45 : decode cX5_copyFrom 45 = .ok (.aload_n 1, 1) := by decide +kernel
theorem dX5_copyFrom_46 : decode cX5_copyFrom 46 = .ok (.getfield 9, 3) := by decide +kernel
theorem dX5_copyFrom_49 : decode cX5_copyFrom 49 = .ok (.iload_n 2, 1) := by decide +kernel
theorem dX5_copyFrom_50 : decode cX5_copyFrom 50 = .ok (.iaload, 1) := by decide +kernel
theorem dX5_copyFrom_51 : decode cX5_copyFrom 51 = .ok (.iastore, 1) := by decide +kernel
theorem dX5_copyFrom_52 : decode cX5_copyFrom 52 = .ok (.aload_n 0, 1) := by decide +kernel
theorem dX5_copyFrom_53 : decode cX5_copyFrom 53 = .ok (.getfield 15, 3) := by decide +kernel
theorem dX5_copyFrom_56 : decode cX5_copyFrom 56 = .ok (.iload_n 2, 1) := by decide +kernel
theorem dX5_copyFrom_57 : decode cX5_copyFrom 57 = .ok (.aload_n 1, 1) := by decide +kernel
theorem dX5_copyFrom_58 : decode cX5_copyFrom 58 = .ok (.getfield 15, 3) := by decide +kernel
theorem dX5_copyFrom_61 : decode cX5_copyFrom 61 = .ok (.iload_n 2, 1) := by decide +kernel
theorem dX5_copyFrom_62 : decode cX5_copyFrom 62 = .ok (.iaload, 1) := by decide +kernel
theorem dX5_copyFrom_63 : decode cX5_copyFrom 63 = .ok (.iastore, 1) := by decide +kernel
theorem dX5_copyFrom_64 : decode cX5_copyFrom 64 = .ok (.iinc 2 1, 3) := by decide +kernel
theorem dX5_copyFrom_67 : decode cX5_copyFrom 67 = .ok (.goto (-33), 3) := by decide +kernel
theorem dX5_copyFrom_70 : decode cX5_copyFrom 70 = .ok (.iconst 0, 1) := by decide +kernel
theorem dX5_copyFrom_71 : decode cX5_copyFrom 71 = .ok (.istore_n 2, 1) := by decide +kernel
theorem dX5_copyFrom_72 : decode cX5_copyFrom 72 = .ok (.iload_n 2, 1) := by decide +kernel
theorem dX5_copyFrom_73 : decode cX5_copyFrom 73 = .ok (.iconst 4, 1) := by decide +kernel
theorem dX5_copyFrom_74 : decode cX5_copyFrom 74 = .ok (.if_icmp .ge 24, 3) := by decide +kernel
theorem dX5_copyFrom_77 : decode cX5_copyFrom 77 = .ok (.aload_n 0, 1) := by decide +kernel
theorem dX5_copyFrom_78 : decode cX5_copyFrom 78 = .ok (.getfield 20, 3) := by decide +kernel
theorem dX5_copyFrom_81 : decode cX5_copyFrom 81 = .ok (.iload_n 2, 1) := by decide +kernel
theorem dX5_copyFrom_82 : decode cX5_copyFrom 82 = .ok (.aaload, 1) := by decide +kernel
theorem dX5_copyFrom_83 : decode cX5_copyFrom 83 = .ok (.aload_n 1, 1) := by decide +kernel
theorem dX5_copyFrom_84 : decode cX5_copyFrom 84 = .ok (.getfield 20, 3) := by decide +kernel
theorem dX5_copyFrom_87 : decode cX5_copyFrom 87 = .ok (.iload_n 2, 1) := by decide +kernel
theorem dX5_copyFrom_88 : decode cX5_copyFrom 88 = .ok (.aaload, 1) := by decide +kernel
theorem dX5_copyFrom_89 : decode cX5_copyFrom 89 = .ok (.invokevirtual 38, 3) := by decide +kernel
theorem dX5_copyFrom_92 : decode cX5_copyFrom 92 = .ok (.iinc 2 1, 3) := by decide +kernel
theorem dX5_copyFrom_95 : decode cX5_copyFrom 95 = .ok (.goto (-23), 3) := by decide +kernel
theorem dX5_copyFrom_98 : decode cX5_copyFrom 98 = .ok (.return_, 1) := by decide +kernel
theorem dX5_addSteps_0 : decode cX5_addSteps 0 = .ok (.iconst 0, 1) := by decide +kernel
theorem dX5_addSteps_1 : decode cX5_addSteps 1 = .ok (.istore_n 3, 1) := by decide +kernel
theorem dX5_addSteps_2 : decode cX5_addSteps 2 = .ok (.iload_n 3, 1) := by decide +kernel
theorem dX5_addSteps_3 : decode cX5_addSteps 3 = .ok (.iload_n 2, 1) := by decide +kernel
theorem dX5_addSteps_4 : decode cX5_addSteps 4 = .ok (.if_icmp .ge 38, 3) := by decide +kernel
theorem dX5_addSteps_7 : decode cX5_addSteps 7 = .ok (.aload_n 0, 1) := by decide +kernel
theorem dX5_addSteps_8 : decode cX5_addSteps 8 = .ok (.getfield 31, 3) := by decide +kernel
theorem dX5_addSteps_11 : decode cX5_addSteps 11 = .ok (.bipush 12, 2) := by decide +kernel
theorem dX5_addSteps_13 : decode cX5_addSteps 13 = .ok (.if_icmp .ge 29, 3) := by decide +kernel
theorem dX5_addSteps_16 : decode cX5_addSteps 16 = .ok (.aload_n 0, 1) := by decide +kernel
theorem dX5_addSteps_17 : decode cX5_addSteps 17 = .ok (.dup, 1) := by decide +kernel
theorem dX5_addSteps_18 : decode cX5_addSteps 18 = .ok (.getfield 31, 3) := by decide +kernel
theorem dX5_addSteps_21 : decode cX5_addSteps 21 = .ok (.iconst 1, 1) := by decide +kernel
theorem dX5_addSteps_22 : decode cX5_addSteps 22 = .ok (.iadd, 1) := by decide +kernel
theorem dX5_addSteps_23 : decode cX5_addSteps 23 = .ok (.putfield 31, 3) := by decide +kernel
theorem dX5_addSteps_26 : decode cX5_addSteps 26 = .ok (.aload_n 0, 1) := by decide +kernel
theorem dX5_addSteps_27 : decode cX5_addSteps 27 = .ok (.getfield 9, 3) := by decide +kernel
theorem dX5_addSteps_30 : decode cX5_addSteps 30 = .ok (.aload_n 0, 1) := by decide +kernel
theorem dX5_addSteps_31 : decode cX5_addSteps 31 = .ok (.getfield 31, 3) := by decide +kernel
theorem dX5_addSteps_34 : decode cX5_addSteps 34 = .ok (.iload_n 1, 1) := by decide +kernel
theorem dX5_addSteps_35 : decode cX5_addSteps 35 = .ok (.iastore, 1) := by decide +kernel
theorem dX5_addSteps_36 : decode cX5_addSteps 36 = .ok (.iinc 3 1, 3) := by decide +kernel
theorem dX5_addSteps_39 : decode cX5_addSteps 39 = .ok (.goto (-37), 3) := by decide +kernel
theorem dX5_addSteps_42 : decode cX5_addSteps 42 = .ok (.return_, 1) := by decide +kernel
theorem dX5_lowest_0 : decode cX5_lowest 0 = .ok (.aload_n 0, 1) := by decide +kernel
theorem dX5_lowest_1 : decode cX5_lowest 1 = .ok (.getfield 24, 3) := by decide +kernel
theorem dX5_lowest_4 : decode cX5_lowest 4 = .ok (.istore_n 1, 1) := by decide +kernel
theorem dX5_lowest_5 : decode cX5_lowest 5 = .ok (.iconst 1, 1) := by decide +kernel
theorem dX5_lowest_6 : decode cX5_lowest 6 = .ok (.istore_n 2, 1) := by decide +kernel
theorem dX5_lowest_7 : decode cX5_lowest 7 = .ok (.iload_n 2, 1) := by decide +kernel
theorem dX5_lowest_8 : decode cX5_lowest 8 = .ok (.aload_n 0, 1) := by decide +kernel
theorem dX5_lowest_9 : decode cX5_lowest 9 = .ok (.getfield 31, 3) := by decide +kernel
theorem dX5_lowest_12 : decode cX5_lowest 12 = .ok (.if_icmp .gt 18, 3) := by decide +kernel
theorem dX5_lowest_15 : decode cX5_lowest 15 = .ok (.iload_n 1, 1) := by decide +kernel
theorem dX5_lowest_16 : decode cX5_lowest 16 = .ok (.aload_n 0, 1) := by decide +kernel
theorem dX5_lowest_17 : decode cX5_lowest 17 = .ok (.getfield 9, 3) := by decide +kernel
theorem dX5_lowest_20 : decode cX5_lowest 20 = .ok (.iload_n 2, 1) := by decide +kernel
theorem dX5_lowest_21 : decode cX5_lowest 21 = .ok (.iaload, 1) := by decide +kernel
theorem dX5_lowest_22 : decode cX5_lowest 22 = .ok (.isub, 1) := by decide +kernel
theorem dX5_lowest_23 : decode cX5_lowest 23 = .ok (.istore_n 1, 1) := by decide +kernel
theorem dX5_lowest_24 : decode cX5_lowest 24 = .ok (.iinc 2 1, 3) := by decide +kernel
theorem dX5_lowest_27 : decode cX5_lowest 27 = .ok (.goto (-20), 3) := by decide +kernel
theorem dX5_lowest_30 : decode cX5_lowest 30 = .ok (.iload_n 1, 1) := by decide +kernel
theorem dX5_lowest_31 : decode cX5_lowest 31 = .ok (.ireturn, 1) := by decide +kernel
theorem dX5_cashFrom_0 : decode cX5_cashFrom 0 = .ok (.iconst 0, 1) := by decide +kernel
theorem dX5_cashFrom_1 : decode cX5_cashFrom 1 = .ok (.istore_n 2, 1) := by decide +kernel
theorem dX5_cashFrom_2 : decode cX5_cashFrom 2 = .ok (.iload_n 1, 1) := by decide +kernel
theorem dX5_cashFrom_3 : decode cX5_cashFrom 3 = .ok (.istore_n 3, 1) := by decide +kernel
theorem dX5_cashFrom_4 : decode cX5_cashFrom 4 = .ok (.iload_n 3, 1) := by decide +kernel
theorem dX5_cashFrom_5 : decode cX5_cashFrom 5 = .ok (.aload_n 0, 1) := by decide +kernel
theorem dX5_cashFrom_6 : decode cX5_cashFrom 6 = .ok (.getfield 31, 3) := by decide +kernel
theorem dX5_cashFrom_9 : decode cX5_cashFrom 9 = .ok (.if_icmp .gt 18, 3) := by decide +kernel
theorem dX5_cashFrom_12 : decode cX5_cashFrom 12 = .ok (.iload_n 2, 1) := by decide +kernel
theorem dX5_cashFrom_13 : decode cX5_cashFrom 13 = .ok (.aload_n 0, 1) := by decide +kernel
theorem dX5_cashFrom_14 : decode cX5_cashFrom 14 = .ok (.getfield 15, 3) := by decide +kernel
theorem dX5_cashFrom_17 : decode cX5_cashFrom 17 = .ok (.iload_n 3, 1) := by decide +kernel
theorem dX5_cashFrom_18 : decode cX5_cashFrom 18 = .ok (.iaload, 1) := by decide +kernel
theorem dX5_cashFrom_19 : decode cX5_cashFrom 19 = .ok (.iadd, 1) := by decide +kernel
theorem dX5_cashFrom_20 : decode cX5_cashFrom 20 = .ok (.istore_n 2, 1) := by decide +kernel
theorem dX5_cashFrom_21 : decode cX5_cashFrom 21 = .ok (.iinc 3 1, 3) := by decide +kernel
theorem dX5_cashFrom_24 : decode cX5_cashFrom 24 = .ok (.goto (-20), 3) := by decide +kernel
