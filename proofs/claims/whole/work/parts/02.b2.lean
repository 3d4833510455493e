theorem dX5_greens_45 : decode cX5_greens 45 = .ok (.istore 4, 2) := by decide +kernel
theorem dX5_greens_47 : decode cX5_greens 47 = .ok (.iload 4, 2) := by decide +kernel
theorem dX5_greens_49 : decode cX5_greens 49 = .ok (.iload_n 2, 1) := by decide +kernel
theorem dX5_greens_50 : decode cX5_greens 50 = .ok (.if_icmp .ge 27, 3) := by decide +kernel
theorem dX5_greens_53 : decode cX5_greens 53 = .ok (.aload_n 0, 1) := by decide +kernel
theorem dX5_greens_54 : decode cX5_greens 54 = .ok (.iload_n 1, 1) := by decide +kernel
theorem dX5_greens_55 : decode cX5_greens 55 = .ok (.iload 4, 2) := by decide +kernel
theorem dX5_greens_57 : decode cX5_greens 57 = .ok (.invokestatic 189, 3) := by decide +kernel
theorem dX5_greens_60 : decode cX5_greens 60 = .ok (.invokevirtual 192, 3) := by decide +kernel
theorem dX5_greens_63 : decode cX5_greens 63 = .ok (.aload_n 0, 1) := by decide +kernel
theorem dX5_greens_64 : decode cX5_greens 64 = .ok (.getfield 39, 3) := by decide +kernel
theorem dX5_greens_67 : decode cX5_greens 67 = .ok (.invokevirtual 141, 3) := by decide +kernel
theorem dX5_greens_70 : decode cX5_greens 70 = .ok (.pop, 1) := by decide +kernel
theorem dX5_greens_71 : decode cX5_greens 71 = .ok (.iinc 4 1, 3) := by decide +kernel
theorem dX5_greens_74 : decode cX5_greens 74 = .ok (.goto (-27), 3) := by decide +kernel
theorem dX5_greens_77 : decode cX5_greens 77 = .ok (.iload_n 3, 1) := by decide +kernel
theorem dX5_greens_78 : decode cX5_greens 78 = .ok (.ifCond .ne 13, 3) := by decide +kernel
theorem dX5_greens_81 : decode cX5_greens 81 = .ok (.aload_n 0, 1) := by decide +kernel
theorem dX5_greens_82 : decode cX5_greens 82 = .ok (.getfield 39, 3) := by decide +kernel
theorem dX5_greens_85 : decode cX5_greens 85 = .ok (.invokevirtual 195, 3) := by decide +kernel
theorem dX5_greens_88 : decode cX5_greens 88 = .ok (.goto 10, 3) := by decide +kernel
theorem dX5_greens_91 : decode cX5_greens 91 = .ok (.aload_n 0, 1) := by decide +kernel
theorem dX5_greens_92 : decode cX5_greens 92 = .ok (.getfield 39, 3) := by decide +kernel
theorem dX5_greens_95 : decode cX5_greens 95 = .ok (.invokevirtual 198, 3) := by decide +kernel
theorem dX5_greens_98 : decode cX5_greens 98 = .ok (.ireturn, 1) := by decide +kernel
theorem dX5_keep_0 : decode cX5_keep 0 = .ok (.aload_n 0, 1) := by decide +kernel
theorem dX5_keep_1 : decode cX5_keep 1 = .ok (.getfield 201, 3) := by decide +kernel
theorem dX5_keep_4 : decode cX5_keep 4 = .ok (.iconst 2, 1) := by decide +kernel
theorem dX5_keep_5 : decode cX5_keep 5 = .ok (.if_icmp .lt 6, 3) := by decide +kernel
theorem dX5_keep_8 : decode cX5_keep 8 = .ok (.bipush (-3), 2) := by decide +kernel
theorem dX5_keep_10 : decode cX5_keep 10 = .ok (.ireturn, 1) := by decide +kernel
theorem dX5_keep_11 : decode cX5_keep 11 = .ok (.aload_n 0, 1) := by decide +kernel
theorem dX5_keep_12 : decode cX5_keep 12 = .ok (.getfield 49, 3) := by decide +kernel
theorem dX5_keep_15 : decode cX5_keep 15 = .ok (.aload_n 0, 1) := by decide +kernel
theorem dX5_keep_16 : decode cX5_keep 16 = .ok (.getfield 201, 3) := by decide +kernel
theorem dX5_keep_19 : decode cX5_keep 19 = .ok (.aaload, 1) := by decide +kernel
theorem dX5_keep_20 : decode cX5_keep 20 = .ok (.aload_n 0, 1) := by decide +kernel
theorem dX5_keep_21 : decode cX5_keep 21 = .ok (.getfield 35, 3) := by decide +kernel
theorem dX5_keep_24 : decode cX5_keep 24 = .ok (.invokevirtual 151, 3) := by decide +kernel
theorem dX5_keep_27 : decode cX5_keep 27 = .ok (.aload_n 0, 1) := by decide +kernel
theorem dX5_keep_28 : decode cX5_keep 28 = .ok (.dup, 1) := by decide +kernel
theorem dX5_keep_29 : decode cX5_keep 29 = .ok (.getfield 201, 3) := by decide +kernel
theorem dX5_keep_32 : decode cX5_keep 32 = .ok (.iconst 1, 1) := by decide +kernel
theorem dX5_keep_33 : decode cX5_keep 33 = .ok (.iadd, 1) := by decide +kernel
theorem dX5_keep_34 : decode cX5_keep 34 = .ok (.putfield 201, 3) := by decide +kernel
theorem dX5_keep_37 : decode cX5_keep 37 = .ok (.aload_n 0, 1) := by decide +kernel
theorem dX5_keep_38 : decode cX5_keep 38 = .ok (.getfield 201, 3) := by decide +kernel
theorem dX5_keep_41 : decode cX5_keep 41 = .ok (.ireturn, 1) := by decide +kernel
theorem dX5_back_0 : decode cX5_back 0 = .ok (.aload_n 0, 1) := by decide +kernel
theorem dX5_back_1 : decode cX5_back 1 = .ok (.getfield 201, 3) := by decide +kernel
theorem dX5_back_4 : decode cX5_back 4 = .ok (.ifCond .ne 6, 3) := by decide +kernel
theorem dX5_back_7 : decode cX5_back 7 = .ok (.bipush (-2), 2) := by decide +kernel
theorem dX5_back_9 : decode cX5_back 9 = .ok (.ireturn, 1) := by decide +kernel
theorem dX5_back_10 : decode cX5_back 10 = .ok (.aload_n 0, 1) := by decide +kernel
theorem dX5_back_11 : decode cX5_back 11 = .ok (.dup, 1) := by decide +kernel
theorem dX5_back_12 : decode cX5_back 12 = .ok (.getfield 201, 3) := by decide +kernel
theorem dX5_back_15 : decode cX5_back 15 = .ok (.iconst 1, 1) := by decide +kernel
theorem dX5_back_16 : decode cX5_back 16 = .ok (.isub, 1) := by decide +kernel
theorem dX5_back_17 : decode cX5_back 17 = .ok (.putfield 201, 3) := by decide +kernel
theorem dX5_back_20 : decode cX5_back 20 = .ok (.aload_n 0, 1) := by decide +kernel
theorem dX5_back_21 : decode cX5_back 21 = .ok (.getfield 35, 3) := by decide +kernel
theorem dX5_back_24 : decode cX5_back 24 = .ok (.aload_n 0, 1) := by decide +kernel
theorem dX5_back_25 : decode cX5_back 25 = .ok (.getfield 49, 3) := by decide +kernel
theorem dX5_back_28 : decode cX5_back 28 = .ok (.aload_n 0, 1) := by decide +kernel
theorem dX5_back_29 : decode cX5_back 29 = .ok (.getfield 201, 3) := by decide +kernel
theorem dX5_back_32 : decode cX5_back 32 = .ok (.aaload, 1) := by decide +kernel
theorem dX5_back_33 : decode cX5_back 33 = .ok (.invokevirtual 151, 3) := by decide +kernel
theorem dX5_back_36 : decode cX5_back 36 = .ok (.aload_n 0, 1) := by decide +kernel
theorem dX5_back_37 : decode cX5_back 37 = .ok (.getfield 45, 3) := by decide +kernel
theorem dX5_back_40 : decode cX5_back 40 = .ok (.iconst 0, 1) := by decide +kernel
theorem dX5_back_41 : decode cX5_back 41 = .ok (.putfield 145, 3) := by decide +kernel
theorem dX5_back_44 : decode cX5_back 44 = .ok (.aload_n 0, 1) := by decide +kernel
theorem dX5_back_45 : decode cX5_back 45 = .ok (.getfield 201, 3) := by decide +kernel
theorem dX5_back_48 : decode cX5_back 48 = .ok (.ireturn, 1) := by decide +kernel
theorem dX5_count_0 : decode cX5_count 0 = .ok (.iload_n 1, 1) := by decide +kernel
theorem dX5_count_1 : decode cX5_count 1 = .ok (.tableswitch 117 0 8 #[51, 59, 67, 75, 83, 91, 99, 107, 112], 51) := by decide +kernel
theorem dX5_count_52 : decode cX5_count 52 = .ok (.aload_n 0, 1) := by decide +kernel
theorem dX5_count_53 : decode cX5_count 53 = .ok (.getfield 27, 3) := by decide +kernel
theorem dX5_count_56 : decode cX5_count 56 = .ok (.getfield 175, 3) := by decide +kernel
theorem dX5_count_59 : decode cX5_count 59 = .ok (.ireturn, 1) := by decide +kernel
theorem dX5_count_60 : decode cX5_count 60 = .ok (.aload_n 0, 1) := by decide +kernel
theorem dX5_count_61 : decode cX5_count 61 = .ok (.getfield 27, 3) := by decide +kernel
theorem dX5_count_64 : decode cX5_count 64 = .ok (.getfield 78, 3) := by decide +kernel
theorem dX5_count_67 : decode cX5_count 67 = .ok (.ireturn, 1) := by decide +kernel
theorem dX5_count_68 : decode cX5_count 68 = .ok (.aload_n 0, 1) := by decide +kernel
theorem dX5_count_69 : decode cX5_count 69 = .ok (.getfield 35, 3) := by decide +kernel
theorem dX5_count_72 : decode cX5_count 72 = .ok (.getfield 101, 3) := by decide +kernel
theorem dX5_count_75 : decode cX5_count 75 = .ok (.ireturn, 1) := by decide +kernel
theorem dX5_count_76 : decode cX5_count 76 = .ok (.aload_n 0, 1) := by decide +kernel
theorem dX5_count_77 : decode cX5_count 77 = .ok (.getfield 35, 3) := by decide +kernel
theorem dX5_count_80 : decode cX5_count 80 = .ok (.invokevirtual 195, 3) := by decide +kernel
theorem dX5_count_83 : decode cX5_count 83 = .ok (.ireturn, 1) := by decide +kernel
theorem dX5_count_84 : decode cX5_count 84 = .ok (.aload_n 0, 1) := by decide +kernel
theorem dX5_count_85 : decode cX5_count 85 = .ok (.getfield 35, 3) := by decide +kernel
theorem dX5_count_88 : decode cX5_count 88 = .ok (.invokevirtual 198, 3) := by decide +kernel
theorem dX5_count_91 : decode cX5_count 91 = .ok (.ireturn, 1) := by decide +kernel
theorem dX5_count_92 : decode cX5_count 92 = .ok (.aload_n 0, 1) := by decide +kernel
theorem dX5_count_93 : decode cX5_count 93 = .ok (.getfield 56, 3) := by decide +kernel
theorem dX5_count_96 : decode cX5_count 96 = .ok (.getfield 167, 3) := by decide +kernel
theorem dX5_count_99 : decode cX5_count 99 = .ok (.ireturn, 1) := by decide +kernel
theorem dX5_count_100 : decode cX5_count 100 = .ok (.aload_n 0, 1) := by decide +kernel
theorem dX5_count_101 : decode cX5_count 101 = .ok (.getfield 45, 3) := by decide +kernel
theorem dX5_count_104 : decode cX5_count 104 = .ok (.getfield 145, 3) := by decide +kernel
theorem dX5_count_107 : decode cX5_count 107 = .ok (.ireturn, 1) := by decide +kernel
theorem dX5_count_108 : decode cX5_count 108 = .ok (.aload_n 0, 1) := by decide +kernel
theorem dX5_count_109 : decode cX5_count 109 = .ok (.getfield 201, 3) := by decide +kernel
theorem dX5_count_112 : decode cX5_count 112 = .ok (.ireturn, 1) := by decide +kernel
theorem dX5_count_113 : decode cX5_count 113 = .ok (.aload_n 0, 1) := by decide +kernel
theorem dX5_count_114 : decode cX5_count 114 = .ok (.getfield 66, 3) := by decide +kernel
theorem dX5_count_117 : decode cX5_count 117 = .ok (.ireturn, 1) := by decide +kernel
theorem dX5_count_118 : decode cX5_count 118 = .ok (.iconst (-1), 1) := by decide +kernel
theorem dX5_count_119 : decode cX5_count 119 = .ok (.ireturn, 1) := by decide +kernel
theorem dX5_putFirstText_0 : decode cX5_putFirstText 0 = .ok (.aload_n 0, 1) := by decide +kernel
theorem dX5_putFirstText_1 : decode cX5_putFirstText 1 = .ok (.ldc 204, 2) := by decide +kernel
theorem dX5_putFirstText_3 : decode cX5_putFirstText 3 = .ok (.invokevirtual 206, 3) := by decide +kernel
theorem dX5_putFirstText_6 : decode cX5_putFirstText 6 = .ok (.sipush 200, 3) := by decide +kernel
theorem dX5_putFirstText_9 : decode cX5_putFirstText 9 = .ok (.invokestatic 211, 3) := by decide +kernel
theorem dX5_putFirstText_12 : decode cX5_putFirstText 12 = .ok (.putfield 66, 3) := by decide +kernel
theorem dX5_putFirstText_15 : decode cX5_putFirstText 15 = .ok (.iconst 0, 1) := by decide +kernel
theorem dX5_putFirstText_16 : decode cX5_putFirstText 16 = .ok (.istore_n 1, 1) := by decide +kernel
theorem dX5_putFirstText_17 : decode cX5_putFirstText 17 = .ok (.iload_n 1, 1) := by decide +kernel
theorem dX5_putFirstText_18 : decode cX5_putFirstText 18 = .ok (.aload_n 0, 1) := by decide +kernel
theorem dX5_putFirstText_19 : decode cX5_putFirstText 19 = .ok (.getfield 66, 3) := by decide +kernel
theorem dX5_putFirstText_22 : decode cX5_putFirstText 22 = .ok (.if_icmp .ge 21, 3) := by decide +kernel
theorem dX5_putFirstText_25 : decode cX5_putFirstText 25 = .ok (.aload_n 0, 1) := by decide +kernel
theorem dX5_putFirstText_26 : decode cX5_putFirstText 26 = .ok (.getfield 9, 3) := by decide +kernel
theorem dX5_putFirstText_29 : decode cX5_putFirstText 29 = .ok (.iload_n 1, 1) := by decide +kernel
theorem dX5_putFirstText_30 : decode cX5_putFirstText 30 = .ok (.ldc 204, 2) := by decide +kernel
theorem dX5_putFirstText_32 : decode cX5_putFirstText 32 = .ok (.iload_n 1, 1) := by decide +kernel
theorem dX5_putFirstText_33 : decode cX5_putFirstText 33 = .ok (.invokevirtual 214, 3) := by decide +kernel
theorem dX5_putFirstText_36 : decode cX5_putFirstText 36 = .ok (.iastore, 1) := by decide +kernel
theorem dX5_putFirstText_37 : decode cX5_putFirstText 37 = .ok (.iinc 1 1, 3) := by decide +kernel
theorem dX5_putFirstText_40 : decode cX5_putFirstText 40 = .ok (.goto (-23), 3) := by decide +kernel
theorem dX5_putFirstText_43 : decode cX5_putFirstText 43 = .ok (.return_, 1) := by decide +kernel
theorem dX5_layTheText_0 : decode cX5_layTheText 0 = .ok (.aload_n 0, 1) := by decide +kernel
theorem dX5_layTheText_1 : decode cX5_layTheText 1 = .ok (.getfield 16, 3) := by decide +kernel
theorem dX5_layTheText_4 : decode cX5_layTheText 4 = .ok (.aload_n 0, 1) := by decide +kernel
theorem dX5_layTheText_5 : decode cX5_layTheText 5 = .ok (.getfield 9, 3) := by decide +kernel
theorem dX5_layTheText_8 : decode cX5_layTheText 8 = .ok (.aload_n 0, 1) := by decide +kernel
theorem dX5_layTheText_9 : decode cX5_layTheText 9 = .ok (.getfield 66, 3) := by decide +kernel
theorem dX5_layTheText_12 : decode cX5_layTheText 12 = .ok (.aload_n 0, 1) := by decide +kernel
theorem dX5_layTheText_13 : decode cX5_layTheText 13 = .ok (.getfield 27, 3) := by decide +kernel
theorem dX5_layTheText_16 : decode cX5_layTheText 16 = .ok (.invokevirtual 70, 3) := by decide +kernel
theorem dX5_layTheText_19 : decode cX5_layTheText 19 = .ok (.pop, 1) := by decide +kernel
theorem dX5_layTheText_20 : decode cX5_layTheText 20 = .ok (.aload_n 0, 1) := by decide +kernel
theorem dX5_layTheText_21 : decode cX5_layTheText 21 = .ok (.getfield 35, 3) := by decide +kernel
theorem dX5_layTheText_24 : decode cX5_layTheText 24 = .ok (.bipush (-4), 2) := by decide +kernel
theorem dX5_layTheText_26 : decode cX5_layTheText 26 = .ok (.invokevirtual 218, 3) := by decide +kernel
theorem dX5_layTheText_29 : decode cX5_layTheText 29 = .ok (.aload_n 0, 1) := by decide +kernel
theorem dX5_layTheText_30 : decode cX5_layTheText 30 = .ok (.getfield 45, 3) := by decide +kernel
theorem dX5_layTheText_33 : decode cX5_layTheText 33 = .ok (.iconst 0, 1) := by decide +kernel
theorem dX5_layTheText_34 : decode cX5_layTheText 34 = .ok (.putfield 145, 3) := by decide +kernel
theorem dX5_layTheText_37 : decode cX5_layTheText 37 = .ok (.aload_n 0, 1) := by decide +kernel
theorem dX5_layTheText_38 : decode cX5_layTheText 38 = .ok (.iconst 0, 1) := by decide +kernel
theorem dX5_layTheText_39 : decode cX5_layTheText 39 = .ok (.putfield 201, 3) := by decide +kernel
theorem dX5_layTheText_42 : decode cX5_layTheText 42 = .ok (.aload_n 0, 1) := by decide +kernel
theorem dX5_layTheText_43 : decode cX5_layTheText 43 = .ok (.getfield 56, 3) := by decide +kernel
theorem dX5_layTheText_46 : decode cX5_layTheText 46 = .ok (.iconst 0, 1) := by decide +kernel
theorem dX5_layTheText_47 : decode cX5_layTheText 47 = .ok (.putfield 167, 3) := by decide +kernel
theorem dX5_layTheText_50 : decode cX5_layTheText 50 = .ok (.return_, 1) := by decide +kernel
theorem dX5_uncountedDraws_0 : decode cX5_uncountedDraws 0 = .ok (.iconst 0, 1) := by decide +kernel
theorem dX5_uncountedDraws_1 : decode cX5_uncountedDraws 1 = .ok (.istore_n 2, 1) := by decide +kernel
theorem dX5_uncountedDraws_2 : decode cX5_uncountedDraws 2 = .ok (.iconst 1, 1) := by decide +kernel
theorem dX5_uncountedDraws_3 : decode cX5_uncountedDraws 3 = .ok (.istore_n 3, 1) := by decide +kernel
theorem dX5_uncountedDraws_4 : decode cX5_uncountedDraws 4 = .ok (.iload_n 3, 1) := by decide +kernel
theorem dX5_uncountedDraws_5 : decode cX5_uncountedDraws 5 = .ok (.bipush 12, 2) := by decide +kernel
theorem dX5_uncountedDraws_7 : decode cX5_uncountedDraws 7 = .ok (.if_icmp .gt 26, 3) := by decide +kernel
theorem dX5_uncountedDraws_10 : decode cX5_uncountedDraws 10 = .ok (.aload_n 0, 1) := by decide +kernel
theorem dX5_uncountedDraws_11 : decode cX5_uncountedDraws 11 = .ok (.getfield 27, 3) := by decide +kernel
theorem dX5_uncountedDraws_14 : decode cX5_uncountedDraws 14 = .ok (.iload_n 1, 1) := by decide +kernel
theorem dX5_uncountedDraws_15 : decode cX5_uncountedDraws 15 = .ok (.iload_n 3, 1) := by decide +kernel
theorem dX5_uncountedDraws_16 : decode cX5_uncountedDraws 16 = .ok (.invokevirtual 221, 3) := by decide +kernel
theorem dX5_uncountedDraws_19 : decode cX5_uncountedDraws 19 = .ok (.bipush 9, 2) := by decide +kernel
theorem dX5_uncountedDraws_21 : decode cX5_uncountedDraws 21 = .ok (.if_icmp .ge 6, 3) := by decide +kernel
theorem dX5_uncountedDraws_24 : decode cX5_uncountedDraws 24 = .ok (.iinc 2 1, 3) := by decide +kernel
theorem dX5_uncountedDraws_27 : decode cX5_uncountedDraws 27 = .ok (.iinc 3 1, 3) := by decide +kernel
theorem dX5_uncountedDraws_30 : decode cX5_uncountedDraws 30 = .ok (.goto (-26), 3) := by decide +kernel
theorem dX5_uncountedDraws_33 : decode cX5_uncountedDraws 33 = .ok (.iload_n 2, 1) := by decide +kernel
theorem dX5_uncountedDraws_34 : decode cX5_uncountedDraws 34 = .ok (.ireturn, 1) := by decide +kernel
theorem dX5_greatestDivisor_0 : decode cX5_greatestDivisor 0 = .ok (.iload_n 0, 1) := by decide +kernel
theorem dX5_greatestDivisor_1 : decode cX5_greatestDivisor 1 = .ok (.istore_n 2, 1) := by decide +kernel
theorem dX5_greatestDivisor_2 : decode cX5_greatestDivisor 2 = .ok (.iload_n 1, 1) := by decide +kernel
theorem dX5_greatestDivisor_3 : decode cX5_greatestDivisor 3 = .ok (.istore_n 3, 1) := by decide +kernel
theorem dX5_greatestDivisor_4 : decode cX5_greatestDivisor 4 = .ok (.iconst 0, 1) := by decide +kernel
theorem dX5_greatestDivisor_5 : decode cX5_greatestDivisor 5 = .ok (.istore 4, 2) := by decide +kernel
theorem dX5_greatestDivisor_7 : decode cX5_greatestDivisor 7 = .ok (.iload 4, 2) := by decide +kernel
theorem dX5_greatestDivisor_9 : decode cX5_greatestDivisor 9 = .ok (.bipush 100, 2) := by decide +kernel
theorem dX5_greatestDivisor_11 : decode cX5_greatestDivisor 11 = .ok (.if_icmp .ge 23, 3) := by decide +kernel
theorem dX5_greatestDivisor_14 : decode cX5_greatestDivisor 14 = .ok (.iload_n 3, 1) := by decide +kernel
theorem dX5_greatestDivisor_15 : decode cX5_greatestDivisor 15 = .ok (.ifCond .eq 19, 3) := by decide +kernel
theorem dX5_greatestDivisor_18 : decode cX5_greatestDivisor 18 = .ok (.iload_n 2, 1) := by decide +kernel
theorem dX5_greatestDivisor_19 : decode cX5_greatestDivisor 19 = .ok (.iload_n 3, 1) := by decide +kernel
theorem dX5_greatestDivisor_20 : decode cX5_greatestDivisor 20 = .ok (.irem, 1) := by decide +kernel
theorem dX5_greatestDivisor_21 : decode cX5_greatestDivisor 21 = .ok (.istore 5, 2) := by decide +kernel
theorem dX5_greatestDivisor_23 : decode cX5_greatestDivisor 23 = .ok (.iload_n 3, 1) := by decide +kernel
theorem dX5_greatestDivisor_24 : decode cX5_greatestDivisor 24 = .ok (.istore_n 2, 1) := by decide +kernel
theorem dX5_greatestDivisor_25 : decode cX5_greatestDivisor 25 = .ok (.iload 5, 2) := by decide +kernel
theorem dX5_greatestDivisor_27 : decode cX5_greatestDivisor 27 = .ok (.istore_n 3, 1) := by decide +kernel
theorem dX5_greatestDivisor_28 : decode cX5_greatestDivisor 28 = .ok (.iinc 4 1, 3) := by decide +kernel
theorem dX5_greatestDivisor_31 : decode cX5_greatestDivisor 31 = .ok (.goto (-24), 3) := by decide +kernel
theorem dX5_greatestDivisor_34 : decode cX5_greatestDivisor 34 = .ok (.iload_n 2, 1) := by decide +kernel
theorem dX5_greatestDivisor_35 : decode cX5_greatestDivisor 35 = .ok (.ireturn, 1) := by decide +kernel
theorem dX5_draw_0 : decode cX5_draw 0 = .ok (.ldc2_w 224, 3) := by decide +kernel
theorem dX5_draw_3 : decode cX5_draw 3 = .ok (.iload_n 0, 1) := by decide +kernel
theorem dX5_draw_4 : decode cX5_draw 4 = .ok (.i2l, 1) := by decide +kernel
theorem dX5_draw_5 : decode cX5_draw 5 = .ok (.lmul, 1) := by decide +kernel
theorem dX5_draw_6 : decode cX5_draw 6 = .ok (.ldc2_w 226, 3) := by decide +kernel
theorem dX5_draw_9 : decode cX5_draw 9 = .ok (.iload_n 1, 1) := by decide +kernel
theorem dX5_draw_10 : decode cX5_draw 10 = .ok (.i2l, 1) := by decide +kernel
theorem dX5_draw_11 : decode cX5_draw 11 = .ok (.lmul, 1) := by decide +kernel
theorem dX5_draw_12 : decode cX5_draw 12 = .ok (.ladd, 1) := by decide +kernel
theorem dX5_draw_13 : decode cX5_draw 13 = .ok (.lconst 1, 1) := by decide +kernel
theorem dX5_draw_14 : decode cX5_draw 14 = .ok (.ladd, 1) := by decide +kernel
theorem dX5_draw_15 : decode cX5_draw 15 = .ok (.lstore_n 2, 1) := by decide +kernel
theorem dX5_draw_16 : decode cX5_draw 16 = .ok (.lload_n 2, 1) := by decide +kernel
theorem dX5_draw_17 : decode cX5_draw 17 = .ok (.lload_n 2, 1) := by decide +kernel
theorem dX5_draw_18 : decode cX5_draw 18 = .ok (.lmul, 1) := by decide +kernel
theorem dX5_draw_19 : decode cX5_draw 19 = .ok (.ldc2_w 228, 3) := by decide +kernel
theorem dX5_draw_22 : decode cX5_draw 22 = .ok (.lrem, 1) := by decide +kernel
theorem dX5_draw_23 : decode cX5_draw 23 = .ok (.ldc2_w 230, 3) := by decide +kernel
theorem dX5_draw_26 : decode cX5_draw 26 = .ok (.ldiv, 1) := by decide +kernel
theorem dX5_draw_27 : decode cX5_draw 27 = .ok (.l2i, 1) := by decide +kernel
theorem dX5_draw_28 : decode cX5_draw 28 = .ok (.ireturn, 1) := by decide +kernel
theorem dX5_addDrawnPause_0 : decode cX5_addDrawnPause 0 = .ok (.aload_n 0, 1) := by decide +kernel
theorem dX5_addDrawnPause_1 : decode cX5_addDrawnPause 1 = .ok (.getfield 27, 3) := by decide +kernel
theorem dX5_addDrawnPause_4 : decode cX5_addDrawnPause 4 = .ok (.getfield 175, 3) := by decide +kernel
theorem dX5_addDrawnPause_7 : decode cX5_addDrawnPause 7 = .ok (.ifCond .le 50, 3) := by decide +kernel
theorem dX5_addDrawnPause_10 : decode cX5_addDrawnPause 10 = .ok (.aload_n 0, 1) := by decide +kernel
theorem dX5_addDrawnPause_11 : decode cX5_addDrawnPause 11 = .ok (.getfield 27, 3) := by decide +kernel
theorem dX5_addDrawnPause_14 : decode cX5_addDrawnPause 14 = .ok (.getfield 78, 3) := by decide +kernel
theorem dX5_addDrawnPause_17 : decode cX5_addDrawnPause 17 = .ok (.ifCond .le 40, 3) := by decide +kernel
theorem dX5_addDrawnPause_20 : decode cX5_addDrawnPause 20 = .ok (.aload_n 0, 1) := by decide +kernel
theorem dX5_addDrawnPause_21 : decode cX5_addDrawnPause 21 = .ok (.getfield 39, 3) := by decide +kernel
theorem dX5_addDrawnPause_24 : decode cX5_addDrawnPause 24 = .ok (.iload_n 1, 1) := by decide +kernel
theorem dX5_addDrawnPause_25 : decode cX5_addDrawnPause 25 = .ok (.aload_n 0, 1) := by decide +kernel
theorem dX5_addDrawnPause_26 : decode cX5_addDrawnPause 26 = .ok (.getfield 27, 3) := by decide +kernel
theorem dX5_addDrawnPause_29 : decode cX5_addDrawnPause 29 = .ok (.getfield 175, 3) := by decide +kernel
theorem dX5_addDrawnPause_32 : decode cX5_addDrawnPause 32 = .ok (.irem, 1) := by decide +kernel
theorem dX5_addDrawnPause_33 : decode cX5_addDrawnPause 33 = .ok (.iload_n 1, 1) := by decide +kernel
theorem dX5_addDrawnPause_34 : decode cX5_addDrawnPause 34 = .ok (.bipush 8, 2) := by decide +kernel
theorem dX5_addDrawnPause_36 : decode cX5_addDrawnPause 36 = .ok (.idiv, 1) := by decide +kernel
theorem dX5_addDrawnPause_37 : decode cX5_addDrawnPause 37 = .ok (.aload_n 0, 1) := by decide +kernel
theorem dX5_addDrawnPause_38 : decode cX5_addDrawnPause 38 = .ok (.getfield 27, 3) := by decide +kernel
theorem dX5_addDrawnPause_41 : decode cX5_addDrawnPause 41 = .ok (.getfield 78, 3) := by decide +kernel
theorem dX5_addDrawnPause_44 : decode cX5_addDrawnPause 44 = .ok (.irem, 1) := by decide +kernel
theorem dX5_addDrawnPause_45 : decode cX5_addDrawnPause 45 = .ok (.iconst 1, 1) := by decide +kernel
theorem dX5_addDrawnPause_46 : decode cX5_addDrawnPause 46 = .ok (.iload_n 1, 1) := by decide +kernel
theorem dX5_addDrawnPause_47 : decode cX5_addDrawnPause 47 = .ok (.bipush 64, 2) := by decide +kernel
theorem dX5_addDrawnPause_49 : decode cX5_addDrawnPause 49 = .ok (.idiv, 1) := by decide +kernel
theorem dX5_addDrawnPause_50 : decode cX5_addDrawnPause 50 = .ok (.bipush 12, 2) := by decide +kernel
theorem dX5_addDrawnPause_52 : decode cX5_addDrawnPause 52 = .ok (.irem, 1) := by decide +kernel
theorem dX5_addDrawnPause_53 : decode cX5_addDrawnPause 53 = .ok (.iadd, 1) := by decide +kernel
theorem dX5_addDrawnPause_54 : decode cX5_addDrawnPause 54 = .ok (.invokevirtual 137, 3) := by decide +kernel
theorem dX5_addDrawnPause_57 : decode cX5_addDrawnPause 57 = .ok (.return_, 1) := by decide +kernel
theorem dX6_init_0 : decode cX6_init 0 = .ok (.aload_n 0, 1) := by decide +kernel
theorem dX6_init_1 : decode cX6_init 1 = .ok (.invokespecial 1, 3) := by decide +kernel
theorem dX6_init_4 : decode cX6_init 4 = .ok (.aload_n 0, 1) := by decide +kernel
theorem dX6_init_5 : decode cX6_init 5 = .ok (.sipush 200, 3) := by decide +kernel
theorem dX6_init_8 : decode cX6_init 8 = .ok (.newarray .int, 2) := by decide +kernel
theorem dX6_init_10 : decode cX6_init 10 = .ok (.putfield 7, 3) := by decide +kernel
theorem dX6_init_13 : decode cX6_init 13 = .ok (.aload_n 0, 1) := by decide +kernel
theorem dX6_init_14 : decode cX6_init 14 = .ok (.bipush 59, 2) := by decide +kernel
theorem dX6_init_16 : decode cX6_init 16 = .ok (.newarray .int, 2) := by decide +kernel
theorem dX6_init_18 : decode cX6_init 18 = .ok (.putfield 13, 3) := by decide +kernel
theorem dX6_init_21 : decode cX6_init 21 = .ok (.aload_n 0, 1) := by decide +kernel
theorem dX6_init_22 : decode cX6_init 22 = .ok (.bipush 59, 2) := by decide +kernel
theorem dX6_init_24 : decode cX6_init 24 = .ok (.newarray .int, 2) := by decide +kernel
theorem dX6_init_26 : decode cX6_init 26 = .ok (.putfield 16, 3) := by decide +kernel
theorem dX6_init_29 : decode cX6_init 29 = .ok (.aload_n 0, 1) := by decide +kernel
theorem dX6_init_30 : decode cX6_init 30 = .ok (.bipush 55, 2) := by decide +kernel
theorem dX6_init_32 : decode cX6_init 32 = .ok (.newarray .int, 2) := by decide +kernel
theorem dX6_init_34 : decode cX6_init 34 = .ok (.putfield 19, 3) := by decide +kernel
theorem dX6_init_37 : decode cX6_init 37 = .ok (.aload_n 0, 1) := by decide +kernel
theorem dX6_init_38 : decode cX6_init 38 = .ok (.sipush 440, 3) := by decide +kernel
theorem dX6_init_41 : decode cX6_init 41 = .ok (.newarray .int, 2) := by decide +kernel
theorem dX6_init_43 : decode cX6_init 43 = .ok (.putfield 22, 3) := by decide +kernel
theorem dX6_init_46 : decode cX6_init 46 = .ok (.aload_n 0, 1) := by decide +kernel
theorem dX6_init_47 : decode cX6_init 47 = .ok (.bipush 110, 2) := by decide +kernel
theorem dX6_init_49 : decode cX6_init 49 = .ok (.newarray .int, 2) := by decide +kernel
theorem dX6_init_51 : decode cX6_init 51 = .ok (.putfield 25, 3) := by decide +kernel
theorem dX6_init_54 : decode cX6_init 54 = .ok (.aload_n 0, 1) := by decide +kernel
theorem dX6_init_55 : decode cX6_init 55 = .ok (.bipush 6, 2) := by decide +kernel
theorem dX6_init_57 : decode cX6_init 57 = .ok (.newarray .int, 2) := by decide +kernel
theorem dX6_init_59 : decode cX6_init 59 = .ok (.putfield 28, 3) := by decide +kernel
theorem dX6_init_62 : decode cX6_init 62 = .ok (.aload_n 0, 1) := by decide +kernel
theorem dX6_init_63 : decode cX6_init 63 = .ok (.bipush (-4), 2) := by decide +kernel
theorem dX6_init_65 : decode cX6_init 65 = .ok (.putfield 31, 3) := by decide +kernel
theorem dX6_init_68 : decode cX6_init 68 = .ok (.aload_n 0, 1) := by decide +kernel
theorem dX6_init_69 : decode cX6_init 69 = .ok (.bipush 55, 2) := by decide +kernel
theorem dX6_init_71 : decode cX6_init 71 = .ok (.newarray .int, 2) := by decide +kernel
theorem dX6_init_73 : decode cX6_init 73 = .ok (.putfield 35, 3) := by decide +kernel
theorem dX6_init_76 : decode cX6_init 76 = .ok (.aload_n 0, 1) := by decide +kernel
theorem dX6_init_77 : decode cX6_init 77 = .ok (.invokevirtual 38, 3) := by decide +kernel
theorem dX6_init_80 : decode cX6_init 80 = .ok (.aload_n 0, 1) := by decide +kernel
theorem dX6_init_81 : decode cX6_init 81 = .ok (.iconst 0, 1) := by decide +kernel
theorem dX6_init_82 : decode cX6_init 82 = .ok (.bipush 20, 2) := by decide +kernel
theorem dX6_init_84 : decode cX6_init 84 = .ok (.invokevirtual 41, 3) := by decide +kernel
theorem dX6_init_87 : decode cX6_init 87 = .ok (.aload_n 0, 1) := by decide +kernel
theorem dX6_init_88 : decode cX6_init 88 = .ok (.iconst 1, 1) := by decide +kernel
theorem dX6_init_89 : decode cX6_init 89 = .ok (.bipush 8, 2) := by decide +kernel
theorem dX6_init_91 : decode cX6_init 91 = .ok (.invokevirtual 41, 3) := by decide +kernel
theorem dX6_init_94 : decode cX6_init 94 = .ok (.aload_n 0, 1) := by decide +kernel
theorem dX6_init_95 : decode cX6_init 95 = .ok (.iconst 2, 1) := by decide +kernel
theorem dX6_init_96 : decode cX6_init 96 = .ok (.bipush 35, 2) := by decide +kernel
theorem dX6_init_98 : decode cX6_init 98 = .ok (.invokevirtual 41, 3) := by decide +kernel
theorem dX6_init_101 : decode cX6_init 101 = .ok (.aload_n 0, 1) := by decide +kernel
theorem dX6_init_102 : decode cX6_init 102 = .ok (.iconst 3, 1) := by decide +kernel
theorem dX6_init_103 : decode cX6_init 103 = .ok (.iconst 4, 1) := by decide +kernel
theorem dX6_init_104 : decode cX6_init 104 = .ok (.invokevirtual 41, 3) := by decide +kernel
theorem dX6_init_107 : decode cX6_init 107 = .ok (.aload_n 0, 1) := by decide +kernel
theorem dX6_init_108 : decode cX6_init 108 = .ok (.bipush 30, 2) := by decide +kernel
theorem dX6_init_110 : decode cX6_init 110 = .ok (.invokevirtual 45, 3) := by decide +kernel
theorem dX6_init_113 : decode cX6_init 113 = .ok (.aload_n 0, 1) := by decide +kernel
theorem dX6_init_114 : decode cX6_init 114 = .ok (.bipush 6, 2) := by decide +kernel
theorem dX6_init_116 : decode cX6_init 116 = .ok (.invokevirtual 45, 3) := by decide +kernel
theorem dX6_init_119 : decode cX6_init 119 = .ok (.aload_n 0, 1) := by decide +kernel
theorem dX6_init_120 : decode cX6_init 120 = .ok (.bipush 14, 2) := by decide +kernel
theorem dX6_init_122 : decode cX6_init 122 = .ok (.invokevirtual 45, 3) := by decide +kernel
theorem dX6_init_125 : decode cX6_init 125 = .ok (.aload_n 0, 1) := by decide +kernel
theorem dX6_init_126 : decode cX6_init 126 = .ok (.bipush 9, 2) := by decide +kernel
theorem dX6_init_128 : decode cX6_init 128 = .ok (.invokevirtual 45, 3) := by decide +kernel
theorem dX6_init_131 : decode cX6_init 131 = .ok (.aload_n 0, 1) := by decide +kernel
theorem dX6_init_132 : decode cX6_init 132 = .ok (.iconst 0, 1) := by decide +kernel
theorem dX6_init_133 : decode cX6_init 133 = .ok (.iconst 0, 1) := by decide +kernel
theorem dX6_init_134 : decode cX6_init 134 = .ok (.bipush 12, 2) := by decide +kernel
theorem dX6_init_136 : decode cX6_init 136 = .ok (.iconst 0, 1) := by decide +kernel
theorem dX6_init_137 : decode cX6_init 137 = .ok (.invokevirtual 49, 3) := by decide +kernel
theorem dX6_init_140 : decode cX6_init 140 = .ok (.aload_n 0, 1) := by decide +kernel
theorem dX6_init_141 : decode cX6_init 141 = .ok (.iconst 1, 1) := by decide +kernel
theorem dX6_init_142 : decode cX6_init 142 = .ok (.iconst 0, 1) := by decide +kernel
theorem dX6_init_143 : decode cX6_init 143 = .ok (.bipush 9, 2) := by decide +kernel
theorem dX6_init_145 : decode cX6_init 145 = .ok (.iconst 0, 1) := by decide +kernel
theorem dX6_init_146 : decode cX6_init 146 = .ok (.invokevirtual 49, 3) := by decide +kernel
theorem dX6_init_149 : decode cX6_init 149 = .ok (.aload_n 0, 1) := by decide +kernel
theorem dX6_init_150 : decode cX6_init 150 = .ok (.iconst 2, 1) := by decide +kernel
theorem dX6_init_151 : decode cX6_init 151 = .ok (.iconst 2, 1) := by decide +kernel
theorem dX6_init_152 : decode cX6_init 152 = .ok (.iconst 3, 1) := by decide +kernel
theorem dX6_init_153 : decode cX6_init 153 = .ok (.iconst 0, 1) := by decide +kernel
theorem dX6_init_154 : decode cX6_init 154 = .ok (.invokevirtual 49, 3) := by decide +kernel
theorem dX6_init_157 : decode cX6_init 157 = .ok (.aload_n 0, 1) := by decide +kernel
theorem dX6_init_158 : decode cX6_init 158 = .ok (.iconst 3, 1) := by decide +kernel
theorem dX6_init_159 : decode cX6_init 159 = .ok (.iconst 3, 1) := by decide +kernel
theorem dX6_init_160 : decode cX6_init 160 = .ok (.iconst 5, 1) := by decide +kernel
theorem dX6_init_161 : decode cX6_init 161 = .ok (.iconst 0, 1) := by decide +kernel
theorem dX6_init_162 : decode cX6_init 162 = .ok (.invokevirtual 49, 3) := by decide +kernel
theorem dX6_init_165 : decode cX6_init 165 = .ok (.aload_n 0, 1) := by decide +kernel
theorem dX6_init_166 : decode cX6_init 166 = .ok (.iconst 0, 1) := by decide +kernel
theorem dX6_init_167 : decode cX6_init 167 = .ok (.iconst 1, 1) := by decide +kernel
theorem dX6_init_168 : decode cX6_init 168 = .ok (.bipush 10, 2) := by decide +kernel
theorem dX6_init_170 : decode cX6_init 170 = .ok (.iconst 1, 1) := by decide +kernel
theorem dX6_init_171 : decode cX6_init 171 = .ok (.invokevirtual 49, 3) := by decide +kernel
theorem dX6_init_174 : decode cX6_init 174 = .ok (.aload_n 0, 1) := by decide +kernel
theorem dX6_init_175 : decode cX6_init 175 = .ok (.iconst 1, 1) := by decide +kernel
theorem dX6_init_176 : decode cX6_init 176 = .ok (.iconst 3, 1) := by decide +kernel
theorem dX6_init_177 : decode cX6_init 177 = .ok (.bipush 9, 2) := by decide +kernel
theorem dX6_init_179 : decode cX6_init 179 = .ok (.iconst 0, 1) := by decide +kernel
theorem dX6_init_180 : decode cX6_init 180 = .ok (.invokevirtual 49, 3) := by decide +kernel
theorem dX6_init_183 : decode cX6_init 183 = .ok (.aload_n 0, 1) := by decide +kernel
theorem dX6_init_184 : decode cX6_init 184 = .ok (.iconst 2, 1) := by decide +kernel
theorem dX6_init_185 : decode cX6_init 185 = .ok (.iconst 1, 1) := by decide +kernel
theorem dX6_init_186 : decode cX6_init 186 = .ok (.iconst 2, 1) := by decide +kernel
theorem dX6_init_187 : decode cX6_init 187 = .ok (.iconst 1, 1) := by decide +kernel
theorem dX6_init_188 : decode cX6_init 188 = .ok (.invokevirtual 49, 3) := by decide +kernel
theorem dX6_init_191 : decode cX6_init 191 = .ok (.aload_n 0, 1) := by decide +kernel
theorem dX6_init_192 : decode cX6_init 192 = .ok (.invokevirtual 53, 3) := by decide +kernel
theorem dX6_init_195 : decode cX6_init 195 = .ok (.return_, 1) := by decide +kernel
theorem dX6_in_0 : decode cX6_in 0 = .ok (.iload_n 0, 1) := by decide +kernel
theorem dX6_in_1 : decode cX6_in 1 = .ok (.iload_n 1, 1) := by decide +kernel
theorem dX6_in_2 : decode cX6_in 2 = .ok (.if_icmp .lt 12, 3) := by decide +kernel
theorem dX6_in_5 : decode cX6_in 5 = .ok (.iload_n 0, 1) := by decide +kernel
theorem dX6_in_6 : decode cX6_in 6 = .ok (.iload_n 2, 1) := by decide +kernel
theorem dX6_in_7 : decode cX6_in 7 = .ok (.if_icmp .gt 7, 3) := by decide +kernel
theorem dX6_in_10 : decode cX6_in 10 = .ok (.iconst 1, 1) := by decide +kernel
theorem dX6_in_11 : decode cX6_in 11 = .ok (.goto 4, 3) := by decide +kernel
theorem dX6_in_14 : decode cX6_in 14 = .ok (.iconst 0, 1) := by decide +kernel
theorem dX6_in_15 : decode cX6_in 15 = .ok (.ireturn, 1) := by decide +kernel
theorem dX6_isPerson_0 : decode cX6_isPerson 0 = .ok (.iload_n 1, 1) := by decide +kernel
theorem dX6_isPerson_1 : decode cX6_isPerson 1 = .ok (.iconst 0, 1) := by decide +kernel
theorem dX6_isPerson_2 : decode cX6_isPerson 2 = .ok (.aload_n 0, 1) := by decide +kernel
theorem dX6_isPerson_3 : decode cX6_isPerson 3 = .ok (.getfield 13, 3) := by decide +kernel
theorem dX6_isPerson_6 : decode cX6_isPerson 6 = .ok (.iconst 0, 1) := by decide +kernel
theorem dX6_isPerson_7 : decode cX6_isPerson 7 = .ok (.iaload, 1) := by decide +kernel
theorem dX6_isPerson_8 : decode cX6_isPerson 8 = .ok (.iconst 1, 1) := by decide +kernel
theorem dX6_isPerson_9 : decode cX6_isPerson 9 = .ok (.isub, 1) := by decide +kernel
theorem dX6_isPerson_10 : decode cX6_isPerson 10 = .ok (.invokestatic 56, 3) := by decide +kernel
theorem dX6_isPerson_13 : decode cX6_isPerson 13 = .ok (.ireturn, 1) := by decide +kernel
theorem dX6_isThing_0 : decode cX6_isThing 0 = .ok (.iload_n 1, 1) := by decide +kernel
theorem dX6_isThing_1 : decode cX6_isThing 1 = .ok (.iconst 0, 1) := by decide +kernel
theorem dX6_isThing_2 : decode cX6_isThing 2 = .ok (.aload_n 0, 1) := by decide +kernel
theorem dX6_isThing_3 : decode cX6_isThing 3 = .ok (.getfield 13, 3) := by decide +kernel
theorem dX6_isThing_6 : decode cX6_isThing 6 = .ok (.iconst 1, 1) := by decide +kernel
theorem dX6_isThing_7 : decode cX6_isThing 7 = .ok (.iaload, 1) := by decide +kernel
theorem dX6_isThing_8 : decode cX6_isThing 8 = .ok (.iconst 1, 1) := by decide +kernel
theorem dX6_isThing_9 : decode cX6_isThing 9 = .ok (.isub, 1) := by decide +kernel
theorem dX6_isThing_10 : decode cX6_isThing 10 = .ok (.invokestatic 56, 3) := by decide +kernel
theorem dX6_isThing_13 : decode cX6_isThing 13 = .ok (.ireturn, 1) := by decide +kernel
theorem dX6_write_0 : decode cX6_write 0 = .ok (.iload_n 1, 1) := by decide +kernel
theorem dX6_write_1 : decode cX6_write 1 = .ok (.bipush 32, 2) := by decide +kernel
theorem dX6_write_3 : decode cX6_write 3 = .ok (.bipush 126, 2) := by decide +kernel
theorem dX6_write_5 : decode cX6_write 5 = .ok (.invokestatic 56, 3) := by decide +kernel
theorem dX6_write_8 : decode cX6_write 8 = .ok (.ifCond .ne 5, 3) := by decide +kernel
theorem dX6_write_11 : decode cX6_write 11 = .ok (.iconst (-1), 1) := by decide +kernel
theorem dX6_write_12 : decode cX6_write 12 = .ok (.ireturn, 1) := by decide +kernel
theorem dX6_write_13 : decode cX6_write 13 = .ok (.aload_n 0, 1) := by decide +kernel
theorem dX6_write_14 : decode cX6_write 14 = .ok (.getfield 60, 3) := by decide +kernel
theorem dX6_write_17 : decode cX6_write 17 = .ok (.sipush 200, 3) := by decide +kernel
theorem dX6_write_20 : decode cX6_write 20 = .ok (.if_icmp .ne 6, 3) := by decide +kernel
theorem dX6_write_23 : decode cX6_write 23 = .ok (.bipush (-3), 2) := by decide +kernel
theorem dX6_write_25 : decode cX6_write 25 = .ok (.ireturn, 1) := by decide +kernel
theorem dX6_write_26 : decode cX6_write 26 = .ok (.aload_n 0, 1) := by decide +kernel
theorem dX6_write_27 : decode cX6_write 27 = .ok (.getfield 7, 3) := by decide +kernel
theorem dX6_write_30 : decode cX6_write 30 = .ok (.aload_n 0, 1) := by decide +kernel
theorem dX6_write_31 : decode cX6_write 31 = .ok (.getfield 60, 3) := by decide +kernel
theorem dX6_write_34 : decode cX6_write 34 = .ok (.iload_n 1, 1) := by decide +kernel
theorem dX6_write_35 : decode cX6_write 35 = .ok (.iastore, 1) := by decide +kernel
theorem dX6_write_36 : decode cX6_write 36 = .ok (.aload_n 0, 1) := by decide +kernel
theorem dX6_write_37 : decode cX6_write 37 = .ok (.dup, 1) := by decide +kernel
theorem dX6_write_38 : decode cX6_write 38 = .ok (.getfield 60, 3) := by decide +kernel
theorem dX6_write_41 : decode cX6_write 41 = .ok (.iconst 1, 1) := by decide +kernel
theorem dX6_write_42 : decode cX6_write 42 = .ok (.iadd, 1) := by decide +kernel
theorem dX6_write_43 : decode cX6_write 43 = .ok (.putfield 60, 3) := by decide +kernel
theorem dX6_write_46 : decode cX6_write 46 = .ok (.aload_n 0, 1) := by decide +kernel
theorem dX6_write_47 : decode cX6_write 47 = .ok (.getfield 60, 3) := by decide +kernel
theorem dX6_write_50 : decode cX6_write 50 = .ok (.ireturn, 1) := by decide +kernel
theorem dX6_wipe_0 : decode cX6_wipe 0 = .ok (.aload_n 0, 1) := by decide +kernel
theorem dX6_wipe_1 : decode cX6_wipe 1 = .ok (.getfield 60, 3) := by decide +kernel
theorem dX6_wipe_4 : decode cX6_wipe 4 = .ok (.istore_n 1, 1) := by decide +kernel
theorem dX6_wipe_5 : decode cX6_wipe 5 = .ok (.aload_n 0, 1) := by decide +kernel
theorem dX6_wipe_6 : decode cX6_wipe 6 = .ok (.iconst 0, 1) := by decide +kernel
theorem dX6_wipe_7 : decode cX6_wipe 7 = .ok (.putfield 60, 3) := by decide +kernel
theorem dX6_wipe_10 : decode cX6_wipe 10 = .ok (.iload_n 1, 1) := by decide +kernel
theorem dX6_wipe_11 : decode cX6_wipe 11 = .ok (.ireturn, 1) := by decide +kernel
theorem dX6_letterAt_0 : decode cX6_letterAt 0 = .ok (.iload_n 1, 1) := by decide +kernel
theorem dX6_letterAt_1 : decode cX6_letterAt 1 = .ok (.aload_n 0, 1) := by decide +kernel
theorem dX6_letterAt_2 : decode cX6_letterAt 2 = .ok (.getfield 60, 3) := by decide +kernel
theorem dX6_letterAt_5 : decode cX6_letterAt 5 = .ok (.if_icmp .ge 12, 3) := by decide +kernel
theorem dX6_letterAt_8 : decode cX6_letterAt 8 = .ok (.aload_n 0, 1) := by decide +kernel
theorem dX6_letterAt_9 : decode cX6_letterAt 9 = .ok (.getfield 7, 3) := by decide +kernel
theorem dX6_letterAt_12 : decode cX6_letterAt 12 = .ok (.iload_n 1, 1) := by decide +kernel
theorem dX6_letterAt_13 : decode cX6_letterAt 13 = .ok (.iaload, 1) := by decide +kernel
theorem dX6_letterAt_14 : decode cX6_letterAt 14 = .ok (.goto 4, 3) := by decide +kernel
theorem dX6_letterAt_17 : decode cX6_letterAt 17 = .ok (.iconst (-1), 1) := by decide +kernel
theorem dX6_letterAt_18 : decode cX6_letterAt 18 = .ok (.ireturn, 1) := by decide +kernel
theorem dX6_isFigure_0 : decode cX6_isFigure 0 = .ok (.iload_n 0, 1) := by decide +kernel
theorem dX6_isFigure_1 : decode cX6_isFigure 1 = .ok (.bipush 48, 2) := by decide +kernel
theorem dX6_isFigure_3 : decode cX6_isFigure 3 = .ok (.bipush 57, 2) := by decide +kernel
theorem dX6_isFigure_5 : decode cX6_isFigure 5 = .ok (.invokestatic 56, 3) := by decide +kernel
theorem dX6_isFigure_8 : decode cX6_isFigure 8 = .ok (.ireturn, 1) := by decide +kernel
theorem dX6_number_0 : decode cX6_number 0 = .ok (.aload_n 0, 1) := by decide +kernel
theorem dX6_number_1 : decode cX6_number 1 = .ok (.aload_n 0, 1) := by decide +kernel
theorem dX6_number_2 : decode cX6_number 2 = .ok (.getfield 63, 3) := by decide +kernel
theorem dX6_number_5 : decode cX6_number 5 = .ok (.invokevirtual 66, 3) := by decide +kernel
theorem dX6_number_8 : decode cX6_number 8 = .ok (.invokestatic 70, 3) := by decide +kernel
theorem dX6_number_11 : decode cX6_number 11 = .ok (.ifCond .ne 5, 3) := by decide +kernel
theorem dX6_number_14 : decode cX6_number 14 = .ok (.iconst (-1), 1) := by decide +kernel
theorem dX6_number_15 : decode cX6_number 15 = .ok (.ireturn, 1) := by decide +kernel
theorem dX6_number_16 : decode cX6_number 16 = .ok (.aload_n 0, 1) := by decide +kernel
theorem dX6_number_17 : decode cX6_number 17 = .ok (.aload_n 0, 1) := by decide +kernel
theorem dX6_number_18 : decode cX6_number 18 = .ok (.getfield 63, 3) := by decide +kernel
theorem dX6_number_21 : decode cX6_number 21 = .ok (.invokevirtual 66, 3) := by decide +kernel
theorem dX6_number_24 : decode cX6_number 24 = .ok (.bipush 48, 2) := by decide +kernel
theorem dX6_number_26 : decode cX6_number 26 = .ok (.isub, 1) := by decide +kernel
theorem dX6_number_27 : decode cX6_number 27 = .ok (.istore 4, 2) := by decide +kernel
theorem dX6_number_29 : decode cX6_number 29 = .ok (.aload_n 0, 1) := by decide +kernel
theorem dX6_number_30 : decode cX6_number 30 = .ok (.dup, 1) := by decide +kernel
theorem dX6_number_31 : decode cX6_number 31 = .ok (.getfield 63, 3) := by decide +kernel
theorem dX6_number_34 : decode cX6_number 34 = .ok (.iconst 1, 1) := by decide +kernel
theorem dX6_number_35 : decode cX6_number 35 = .ok (.iadd, 1) := by decide +kernel
theorem dX6_number_36 : decode cX6_number 36 = .ok (.putfield 63, 3) := by decide +kernel
theorem dX6_number_39 : decode cX6_number 39 = .ok (.aload_n 0, 1) := by decide +kernel
theorem dX6_number_40 : decode cX6_number 40 = .ok (.aload_n 0, 1) := by decide +kernel
theorem dX6_number_41 : decode cX6_number 41 = .ok (.getfield 63, 3) := by decide +kernel
theorem dX6_number_44 : decode cX6_number 44 = .ok (.invokevirtual 66, 3) := by decide +kernel
theorem dX6_number_47 : decode cX6_number 47 = .ok (.invokestatic 70, 3) := by decide +kernel
theorem dX6_number_50 : decode cX6_number 50 = .ok (.ifCond .eq 32, 3) := by decide +kernel
theorem dX6_number_53 : decode cX6_number 53 = .ok (.bipush 10, 2) := by decide +kernel
theorem dX6_number_55 : decode cX6_number 55 = .ok (.iload 4, 2) := by decide +kernel
theorem dX6_number_57 : decode cX6_number 57 = .ok (.imul, 1) := by decide +kernel
theorem dX6_number_58 : decode cX6_number 58 = .ok (.aload_n 0, 1) := by decide +kernel
theorem dX6_number_59 : decode cX6_number 59 = .ok (.aload_n 0, 1) := by decide +kernel
theorem dX6_number_60 : decode cX6_number 60 = .ok (.getfield 63, 3) := by decide +kernel
theorem dX6_number_63 : decode cX6_number 63 = .ok (.invokevirtual 66, 3) := by decide +kernel
theorem dX6_number_66 : decode cX6_number 66 = .ok (.iadd, 1) := by decide +kernel
theorem dX6_number_67 : decode cX6_number 67 = .ok (.bipush 48, 2) := by decide +kernel
theorem dX6_number_69 : decode cX6_number 69 = .ok (.isub, 1) := by decide +kernel
theorem dX6_number_70 : decode cX6_number 70 = .ok (.istore 4, 2) := by decide +kernel
theorem dX6_number_72 : decode cX6_number 72 = .ok (.aload_n 0, 1) := by decide +kernel
theorem dX6_number_73 : decode cX6_number 73 = .ok (.dup, 1) := by decide +kernel
theorem dX6_number_74 : decode cX6_number 74 = .ok (.getfield 63, 3) := by decide +kernel
theorem dX6_number_77 : decode cX6_number 77 = .ok (.iconst 1, 1) := by decide +kernel
theorem dX6_number_78 : decode cX6_number 78 = .ok (.iadd, 1) := by decide +kernel
theorem dX6_number_79 : decode cX6_number 79 = .ok (.putfield 63, 3) := by decide +kernel
theorem dX6_number_82 : decode cX6_number 82 = .ok (.aload_n 0, 1) := by decide +kernel
theorem dX6_number_83 : decode cX6_number 83 = .ok (.aload_n 0, 1) := by decide +kernel
theorem dX6_number_84 : decode cX6_number 84 = .ok (.getfield 63, 3) := by decide +kernel
theorem dX6_number_87 : decode cX6_number 87 = .ok (.invokevirtual 66, 3) := by decide +kernel
theorem dX6_number_90 : decode cX6_number 90 = .ok (.iload_n 3, 1) := by decide +kernel
theorem dX6_number_91 : decode cX6_number 91 = .ok (.if_icmp .ne 17, 3) := by decide +kernel
theorem dX6_number_94 : decode cX6_number 94 = .ok (.iload 4, 2) := by decide +kernel
theorem dX6_number_96 : decode cX6_number 96 = .ok (.iload_n 1, 1) := by decide +kernel
theorem dX6_number_97 : decode cX6_number 97 = .ok (.iload_n 2, 1) := by decide +kernel
theorem dX6_number_98 : decode cX6_number 98 = .ok (.invokestatic 56, 3) := by decide +kernel
theorem dX6_number_101 : decode cX6_number 101 = .ok (.ifCond .eq 7, 3) := by decide +kernel
theorem dX6_number_104 : decode cX6_number 104 = .ok (.iconst 1, 1) := by decide +kernel
theorem dX6_number_105 : decode cX6_number 105 = .ok (.goto 4, 3) := by decide +kernel
theorem dX6_number_108 : decode cX6_number 108 = .ok (.iconst 0, 1) := by decide +kernel
theorem dX6_number_109 : decode cX6_number 109 = .ok (.istore 5, 2) := by decide +kernel
theorem dX6_number_111 : decode cX6_number 111 = .ok (.aload_n 0, 1) := by decide +kernel
theorem dX6_number_112 : decode cX6_number 112 = .ok (.dup, 1) := by decide +kernel
theorem dX6_number_113 : decode cX6_number 113 = .ok (.getfield 63, 3) := by decide +kernel
theorem dX6_number_116 : decode cX6_number 116 = .ok (.iconst 1, 1) := by decide +kernel
theorem dX6_number_117 : decode cX6_number 117 = .ok (.iadd, 1) := by decide +kernel
theorem dX6_number_118 : decode cX6_number 118 = .ok (.putfield 63, 3) := by decide +kernel
theorem dX6_number_121 : decode cX6_number 121 = .ok (.iload 5, 2) := by decide +kernel
theorem dX6_number_123 : decode cX6_number 123 = .ok (.ifCond .eq 8, 3) := by decide +kernel
theorem dX6_number_126 : decode cX6_number 126 = .ok (.iload 4, 2) := by decide +kernel
theorem dX6_number_128 : decode cX6_number 128 = .ok (.goto 4, 3) := by decide +kernel
theorem dX6_number_131 : decode cX6_number 131 = .ok (.iconst (-1), 1) := by decide +kernel
theorem dX6_number_132 : decode cX6_number 132 = .ok (.ireturn, 1) := by decide +kernel
theorem dX6_begins_0 : decode cX6_begins 0 = .ok (.iconst 0, 1) := by decide +kernel
theorem dX6_begins_1 : decode cX6_begins 1 = .ok (.istore_n 1, 1) := by decide +kernel
theorem dX6_begins_2 : decode cX6_begins 2 = .ok (.iload_n 1, 1) := by decide +kernel
theorem dX6_begins_3 : decode cX6_begins 3 = .ok (.bipush 59, 2) := by decide +kernel
theorem dX6_begins_5 : decode cX6_begins 5 = .ok (.if_icmp .ge 16, 3) := by decide +kernel
theorem dX6_begins_8 : decode cX6_begins 8 = .ok (.aload_n 0, 1) := by decide +kernel
theorem dX6_begins_9 : decode cX6_begins 9 = .ok (.getfield 16, 3) := by decide +kernel
theorem dX6_begins_12 : decode cX6_begins 12 = .ok (.iload_n 1, 1) := by decide +kernel
theorem dX6_begins_13 : decode cX6_begins 13 = .ok (.iconst 0, 1) := by decide +kernel
theorem dX6_begins_14 : decode cX6_begins 14 = .ok (.iastore, 1) := by decide +kernel
theorem dX6_begins_15 : decode cX6_begins 15 = .ok (.iinc 1 1, 3) := by decide +kernel
theorem dX6_begins_18 : decode cX6_begins 18 = .ok (.goto (-16), 3) := by decide +kernel
theorem dX6_begins_21 : decode cX6_begins 21 = .ok (.aload_n 0, 1) := by decide +kernel
theorem dX6_begins_22 : decode cX6_begins 22 = .ok (.getfield 16, 3) := by decide +kernel
theorem dX6_begins_25 : decode cX6_begins 25 = .ok (.iconst 3, 1) := by decide +kernel
theorem dX6_begins_26 : decode cX6_begins 26 = .ok (.iconst 5, 1) := by decide +kernel
theorem dX6_begins_27 : decode cX6_begins 27 = .ok (.iastore, 1) := by decide +kernel
theorem dX6_begins_28 : decode cX6_begins 28 = .ok (.aload_n 0, 1) := by decide +kernel
theorem dX6_begins_29 : decode cX6_begins 29 = .ok (.getfield 16, 3) := by decide +kernel
theorem dX6_begins_32 : decode cX6_begins 32 = .ok (.iconst 4, 1) := by decide +kernel
theorem dX6_begins_33 : decode cX6_begins 33 = .ok (.iconst 2, 1) := by decide +kernel
theorem dX6_begins_34 : decode cX6_begins 34 = .ok (.iastore, 1) := by decide +kernel
theorem dX6_begins_35 : decode cX6_begins 35 = .ok (.return_, 1) := by decide +kernel
theorem dX6_personOf_0 : decode cX6_personOf 0 = .ok (.aload_n 0, 1) := by decide +kernel
theorem dX6_personOf_1 : decode cX6_personOf 1 = .ok (.getfield 16, 3) := by decide +kernel
theorem dX6_personOf_4 : decode cX6_personOf 4 = .ok (.iconst 0, 1) := by decide +kernel
theorem dX6_personOf_5 : decode cX6_personOf 5 = .ok (.iaload, 1) := by decide +kernel
theorem dX6_personOf_6 : decode cX6_personOf 6 = .ok (.istore_n 3, 1) := by decide +kernel
theorem dX6_personOf_7 : decode cX6_personOf 7 = .ok (.aload_n 0, 1) := by decide +kernel
theorem dX6_personOf_8 : decode cX6_personOf 8 = .ok (.getfield 16, 3) := by decide +kernel
theorem dX6_personOf_11 : decode cX6_personOf 11 = .ok (.iconst 5, 1) := by decide +kernel
theorem dX6_personOf_12 : decode cX6_personOf 12 = .ok (.iload_n 3, 1) := by decide +kernel
theorem dX6_personOf_13 : decode cX6_personOf 13 = .ok (.iadd, 1) := by decide +kernel
theorem dX6_personOf_14 : decode cX6_personOf 14 = .ok (.iload_n 1, 1) := by decide +kernel
theorem dX6_personOf_15 : decode cX6_personOf 15 = .ok (.iastore, 1) := by decide +kernel
theorem dX6_personOf_16 : decode cX6_personOf 16 = .ok (.aload_n 0, 1) := by decide +kernel
theorem dX6_personOf_17 : decode cX6_personOf 17 = .ok (.getfield 16, 3) := by decide +kernel
theorem dX6_personOf_20 : decode cX6_personOf 20 = .ok (.bipush 11, 2) := by decide +kernel
theorem dX6_personOf_22 : decode cX6_personOf 22 = .ok (.iload_n 3, 1) := by decide +kernel
theorem dX6_personOf_23 : decode cX6_personOf 23 = .ok (.iadd, 1) := by decide +kernel
theorem dX6_personOf_24 : decode cX6_personOf 24 = .ok (.iload_n 2, 1) := by decide +kernel
theorem dX6_personOf_25 : decode cX6_personOf 25 = .ok (.iastore, 1) := by decide +kernel
theorem dX6_personOf_26 : decode cX6_personOf 26 = .ok (.aload_n 0, 1) := by decide +kernel
theorem dX6_personOf_27 : decode cX6_personOf 27 = .ok (.getfield 16, 3) := by decide +kernel
theorem dX6_personOf_30 : decode cX6_personOf 30 = .ok (.iconst 0, 1) := by decide +kernel
theorem dX6_personOf_31 : decode cX6_personOf 31 = .ok (.dup2, 1) := by decide +kernel
theorem dX6_personOf_32 : decode cX6_personOf 32 = .ok (.iaload, 1) := by decide +kernel
theorem dX6_personOf_33 : decode cX6_personOf 33 = .ok (.iconst 1, 1) := by decide +kernel
theorem dX6_personOf_34 : decode cX6_personOf 34 = .ok (.iadd, 1) := by decide +kernel
theorem dX6_personOf_35 : decode cX6_personOf 35 = .ok (.iastore, 1) := by decide +kernel
theorem dX6_personOf_36 : decode cX6_personOf 36 = .ok (.return_, 1) := by decide +kernel
theorem dX6_thingOf_0 : decode cX6_thingOf 0 = .ok (.aload_n 0, 1) := by decide +kernel
theorem dX6_thingOf_1 : decode cX6_thingOf 1 = .ok (.getfield 16, 3) := by decide +kernel
theorem dX6_thingOf_4 : decode cX6_thingOf 4 = .ok (.bipush 17, 2) := by decide +kernel
theorem dX6_thingOf_6 : decode cX6_thingOf 6 = .ok (.aload_n 0, 1) := by decide +kernel
theorem dX6_thingOf_7 : decode cX6_thingOf 7 = .ok (.getfield 16, 3) := by decide +kernel
theorem dX6_thingOf_10 : decode cX6_thingOf 10 = .ok (.iconst 1, 1) := by decide +kernel
theorem dX6_thingOf_11 : decode cX6_thingOf 11 = .ok (.iaload, 1) := by decide +kernel
theorem dX6_thingOf_12 : decode cX6_thingOf 12 = .ok (.iadd, 1) := by decide +kernel
theorem dX6_thingOf_13 : decode cX6_thingOf 13 = .ok (.iload_n 1, 1) := by decide +kernel
theorem dX6_thingOf_14 : decode cX6_thingOf 14 = .ok (.iastore, 1) := by decide +kernel
theorem dX6_thingOf_15 : decode cX6_thingOf 15 = .ok (.aload_n 0, 1) := by decide +kernel
theorem dX6_thingOf_16 : decode cX6_thingOf 16 = .ok (.getfield 16, 3) := by decide +kernel
theorem dX6_thingOf_19 : decode cX6_thingOf 19 = .ok (.iconst 1, 1) := by decide +kernel
theorem dX6_thingOf_20 : decode cX6_thingOf 20 = .ok (.dup2, 1) := by decide +kernel
theorem dX6_thingOf_21 : decode cX6_thingOf 21 = .ok (.iaload, 1) := by decide +kernel
theorem dX6_thingOf_22 : decode cX6_thingOf 22 = .ok (.iconst 1, 1) := by decide +kernel
theorem dX6_thingOf_23 : decode cX6_thingOf 23 = .ok (.iadd, 1) := by decide +kernel
theorem dX6_thingOf_24 : decode cX6_thingOf 24 = .ok (.iastore, 1) := by decide +kernel
theorem dX6_thingOf_25 : decode cX6_thingOf 25 = .ok (.return_, 1) := by decide +kernel
theorem dX6_pauseOf_0 : decode cX6_pauseOf 0 = .ok (.aload_n 0, 1) := by decide +kernel
theorem dX6_pauseOf_1 : decode cX6_pauseOf 1 = .ok (.getfield 16, 3) := by decide +kernel
theorem dX6_pauseOf_4 : decode cX6_pauseOf 4 = .ok (.iconst 2, 1) := by decide +kernel
theorem dX6_pauseOf_5 : decode cX6_pauseOf 5 = .ok (.iaload, 1) := by decide +kernel
theorem dX6_pauseOf_6 : decode cX6_pauseOf 6 = .ok (.istore 5, 2) := by decide +kernel
theorem dX6_pauseOf_8 : decode cX6_pauseOf 8 = .ok (.aload_n 0, 1) := by decide +kernel
theorem dX6_pauseOf_9 : decode cX6_pauseOf 9 = .ok (.getfield 16, 3) := by decide +kernel
theorem dX6_pauseOf_12 : decode cX6_pauseOf 12 = .ok (.bipush 23, 2) := by decide +kernel
theorem dX6_pauseOf_14 : decode cX6_pauseOf 14 = .ok (.iload 5, 2) := by decide +kernel
theorem dX6_pauseOf_16 : decode cX6_pauseOf 16 = .ok (.iadd, 1) := by decide +kernel
theorem dX6_pauseOf_17 : decode cX6_pauseOf 17 = .ok (.iload_n 1, 1) := by decide +kernel
theorem dX6_pauseOf_18 : decode cX6_pauseOf 18 = .ok (.iastore, 1) := by decide +kernel
theorem dX6_pauseOf_19 : decode cX6_pauseOf 19 = .ok (.aload_n 0, 1) := by decide +kernel
theorem dX6_pauseOf_20 : decode cX6_pauseOf 20 = .ok (.getfield 16, 3) := by decide +kernel
theorem dX6_pauseOf_23 : decode cX6_pauseOf 23 = .ok (.bipush 32, 2) := by decide +kernel
theorem dX6_pauseOf_25 : decode cX6_pauseOf 25 = .ok (.iload 5, 2) := by decide +kernel
theorem dX6_pauseOf_27 : decode cX6_pauseOf 27 = .ok (.iadd, 1) := by decide +kernel
theorem dX6_pauseOf_28 : decode cX6_pauseOf 28 = .ok (.iload_n 2, 1) := by decide +kernel
theorem dX6_pauseOf_29 : decode cX6_pauseOf 29 = .ok (.iastore, 1) := by decide +kernel
theorem dX6_pauseOf_30 : decode cX6_pauseOf 30 = .ok (.aload_n 0, 1) := by decide +kernel
theorem dX6_pauseOf_31 : decode cX6_pauseOf 31 = .ok (.getfield 16, 3) := by decide +kernel
theorem dX6_pauseOf_34 : decode cX6_pauseOf 34 = .ok (.bipush 41, 2) := by decide +kernel
theorem dX6_pauseOf_36 : decode cX6_pauseOf 36 = .ok (.iload 5, 2) := by decide +kernel
theorem dX6_pauseOf_38 : decode cX6_pauseOf 38 = .ok (.iadd, 1) := by decide +kernel
theorem dX6_pauseOf_39 : decode cX6_pauseOf 39 = .ok (.iload_n 3, 1) := by decide +kernel
theorem dX6_pauseOf_40 : decode cX6_pauseOf 40 = .ok (.iastore, 1) := by decide +kernel
theorem dX6_pauseOf_41 : decode cX6_pauseOf 41 = .ok (.aload_n 0, 1) := by decide +kernel
theorem dX6_pauseOf_42 : decode cX6_pauseOf 42 = .ok (.getfield 16, 3) := by decide +kernel
theorem dX6_pauseOf_45 : decode cX6_pauseOf 45 = .ok (.bipush 50, 2) := by decide +kernel
theorem dX6_pauseOf_47 : decode cX6_pauseOf 47 = .ok (.iload 5, 2) := by decide +kernel
theorem dX6_pauseOf_49 : decode cX6_pauseOf 49 = .ok (.iadd, 1) := by decide +kernel
theorem dX6_pauseOf_50 : decode cX6_pauseOf 50 = .ok (.iload 4, 2) := by decide +kernel
theorem dX6_pauseOf_52 : decode cX6_pauseOf 52 = .ok (.iastore, 1) := by decide +kernel
theorem dX6_pauseOf_53 : decode cX6_pauseOf 53 = .ok (.aload_n 0, 1) := by decide +kernel
theorem dX6_pauseOf_54 : decode cX6_pauseOf 54 = .ok (.getfield 16, 3) := by decide +kernel
theorem dX6_pauseOf_57 : decode cX6_pauseOf 57 = .ok (.iconst 2, 1) := by decide +kernel
theorem dX6_pauseOf_58 : decode cX6_pauseOf 58 = .ok (.dup2, 1) := by decide +kernel
theorem dX6_pauseOf_59 : decode cX6_pauseOf 59 = .ok (.iaload, 1) := by decide +kernel
theorem dX6_pauseOf_60 : decode cX6_pauseOf 60 = .ok (.iconst 1, 1) := by decide +kernel
theorem dX6_pauseOf_61 : decode cX6_pauseOf 61 = .ok (.iadd, 1) := by decide +kernel
theorem dX6_pauseOf_62 : decode cX6_pauseOf 62 = .ok (.iastore, 1) := by decide +kernel
theorem dX6_pauseOf_63 : decode cX6_pauseOf 63 = .ok (.return_, 1) := by decide +kernel
theorem dX6_readsItem_0 : decode cX6_readsItem 0 = .ok (.iload_n 1, 1) := by decide +kernel
theorem dX6_readsItem_1 : decode cX6_readsItem 1 = .ok (.lookupswitch 306 #[(97, 137), (101, 246), (103, 276), (112, 51), (116, 103)], 51) := by decide +kernel
theorem dX6_readsItem_52 : decode cX6_readsItem 52 = .ok (.aload_n 0, 1) := by decide +kernel
theorem dX6_readsItem_53 : decode cX6_readsItem 53 = .ok (.iconst 0, 1) := by decide +kernel
theorem dX6_readsItem_54 : decode cX6_readsItem 54 = .ok (.iconst 3, 1) := by decide +kernel
theorem dX6_readsItem_55 : decode cX6_readsItem 55 = .ok (.bipush 44, 2) := by decide +kernel
theorem dX6_readsItem_57 : decode cX6_readsItem 57 = .ok (.invokevirtual 74, 3) := by decide +kernel
theorem dX6_readsItem_60 : decode cX6_readsItem 60 = .ok (.istore_n 2, 1) := by decide +kernel
theorem dX6_readsItem_61 : decode cX6_readsItem 61 = .ok (.iload_n 2, 1) := by decide +kernel
theorem dX6_readsItem_62 : decode cX6_readsItem 62 = .ok (.ifCond .ge 7, 3) := by decide +kernel
theorem dX6_readsItem_65 : decode cX6_readsItem 65 = .ok (.iconst (-1), 1) := by decide +kernel
theorem dX6_readsItem_66 : decode cX6_readsItem 66 = .ok (.goto 12, 3) := by decide +kernel
theorem dX6_readsItem_69 : decode cX6_readsItem 69 = .ok (.aload_n 0, 1) := by decide +kernel
theorem dX6_readsItem_70 : decode cX6_readsItem 70 = .ok (.iconst 0, 1) := by decide +kernel
theorem dX6_readsItem_71 : decode cX6_readsItem 71 = .ok (.bipush 99, 2) := by decide +kernel
theorem dX6_readsItem_73 : decode cX6_readsItem 73 = .ok (.bipush 59, 2) := by decide +kernel
theorem dX6_readsItem_75 : decode cX6_readsItem 75 = .ok (.invokevirtual 74, 3) := by decide +kernel
theorem dX6_readsItem_78 : decode cX6_readsItem 78 = .ok (.istore_n 3, 1) := by decide +kernel
theorem dX6_readsItem_79 : decode cX6_readsItem 79 = .ok (.iload_n 3, 1) := by decide +kernel
theorem dX6_readsItem_80 : decode cX6_readsItem 80 = .ok (.ifCond .lt 14, 3) := by decide +kernel
theorem dX6_readsItem_83 : decode cX6_readsItem 83 = .ok (.aload_n 0, 1) := by decide +kernel
theorem dX6_readsItem_84 : decode cX6_readsItem 84 = .ok (.getfield 16, 3) := by decide +kernel
theorem dX6_readsItem_87 : decode cX6_readsItem 87 = .ok (.iconst 0, 1) := by decide +kernel
theorem dX6_readsItem_88 : decode cX6_readsItem 88 = .ok (.iaload, 1) := by decide +kernel
theorem dX6_readsItem_89 : decode cX6_readsItem 89 = .ok (.bipush 6, 2) := by decide +kernel
theorem dX6_readsItem_91 : decode cX6_readsItem 91 = .ok (.if_icmp .ne 5, 3) := by decide +kernel
theorem dX6_readsItem_94 : decode cX6_readsItem 94 = .ok (.iconst 0, 1) := by decide +kernel
theorem dX6_readsItem_95 : decode cX6_readsItem 95 = .ok (.ireturn, 1) := by decide +kernel
theorem dX6_readsItem_96 : decode cX6_readsItem 96 = .ok (.aload_n 0, 1) := by decide +kernel
theorem dX6_readsItem_97 : decode cX6_readsItem 97 = .ok (.iload_n 2, 1) := by decide +kernel
theorem dX6_readsItem_98 : decode cX6_readsItem 98 = .ok (.iload_n 3, 1) := by decide +kernel
theorem dX6_readsItem_99 : decode cX6_readsItem 99 = .ok (.invokevirtual 41, 3) := by decide +kernel
theorem dX6_readsItem_102 : decode cX6_readsItem 102 = .ok (.iconst 1, 1) := by decide +kernel
theorem dX6_readsItem_103 : decode cX6_readsItem 103 = .ok (.ireturn, 1) := by decide +kernel
theorem dX6_readsItem_104 : decode cX6_readsItem 104 = .ok (.aload_n 0, 1) := by decide +kernel
theorem dX6_readsItem_105 : decode cX6_readsItem 105 = .ok (.iconst 1, 1) := by decide +kernel
theorem dX6_readsItem_106 : decode cX6_readsItem 106 = .ok (.bipush 60, 2) := by decide +kernel
theorem dX6_readsItem_108 : decode cX6_readsItem 108 = .ok (.bipush 59, 2) := by decide +kernel
theorem dX6_readsItem_110 : decode cX6_readsItem 110 = .ok (.invokevirtual 74, 3) := by decide +kernel
theorem dX6_readsItem_113 : decode cX6_readsItem 113 = .ok (.istore_n 2, 1) := by decide +kernel
theorem dX6_readsItem_114 : decode cX6_readsItem 114 = .ok (.iload_n 2, 1) := by decide +kernel
theorem dX6_readsItem_115 : decode cX6_readsItem 115 = .ok (.ifCond .lt 14, 3) := by decide +kernel
theorem dX6_readsItem_118 : decode cX6_readsItem 118 = .ok (.aload_n 0, 1) := by decide +kernel
theorem dX6_readsItem_119 : decode cX6_readsItem 119 = .ok (.getfield 16, 3) := by decide +kernel
theorem dX6_readsItem_122 : decode cX6_readsItem 122 = .ok (.iconst 1, 1) := by decide +kernel
theorem dX6_readsItem_123 : decode cX6_readsItem 123 = .ok (.iaload, 1) := by decide +kernel
theorem dX6_readsItem_124 : decode cX6_readsItem 124 = .ok (.bipush 6, 2) := by decide +kernel
theorem dX6_readsItem_126 : decode cX6_readsItem 126 = .ok (.if_icmp .ne 5, 3) := by decide +kernel
theorem dX6_readsItem_129 : decode cX6_readsItem 129 = .ok (.iconst 0, 1) := by decide +kernel
theorem dX6_readsItem_130 : decode cX6_readsItem 130 = .ok (.ireturn, 1) := by decide +kernel
theorem dX6_readsItem_131 : decode cX6_readsItem 131 = .ok (.aload_n 0, 1) := by decide +kernel
theorem dX6_readsItem_132 : decode cX6_readsItem 132 = .ok (.iload_n 2, 1) := by decide +kernel
theorem dX6_readsItem_133 : decode cX6_readsItem 133 = .ok (.invokevirtual 45, 3) := by decide +kernel
theorem dX6_readsItem_136 : decode cX6_readsItem 136 = .ok (.iconst 1, 1) := by decide +kernel
theorem dX6_readsItem_137 : decode cX6_readsItem 137 = .ok (.ireturn, 1) := by decide +kernel
theorem dX6_readsItem_138 : decode cX6_readsItem 138 = .ok (.aload_n 0, 1) := by decide +kernel
theorem dX6_readsItem_139 : decode cX6_readsItem 139 = .ok (.iconst 0, 1) := by decide +kernel
theorem dX6_readsItem_140 : decode cX6_readsItem 140 = .ok (.aload_n 0, 1) := by decide +kernel
theorem dX6_readsItem_141 : decode cX6_readsItem 141 = .ok (.getfield 16, 3) := by decide +kernel
theorem dX6_readsItem_144 : decode cX6_readsItem 144 = .ok (.iconst 0, 1) := by decide +kernel
theorem dX6_readsItem_145 : decode cX6_readsItem 145 = .ok (.iaload, 1) := by decide +kernel
theorem dX6_readsItem_146 : decode cX6_readsItem 146 = .ok (.iconst 1, 1) := by decide +kernel
theorem dX6_readsItem_147 : decode cX6_readsItem 147 = .ok (.isub, 1) := by decide +kernel
theorem dX6_readsItem_148 : decode cX6_readsItem 148 = .ok (.bipush 44, 2) := by decide +kernel
theorem dX6_readsItem_150 : decode cX6_readsItem 150 = .ok (.invokevirtual 74, 3) := by decide +kernel
theorem dX6_readsItem_153 : decode cX6_readsItem 153 = .ok (.istore_n 2, 1) := by decide +kernel
theorem dX6_readsItem_154 : decode cX6_readsItem 154 = .ok (.iload_n 2, 1) := by decide +kernel
theorem dX6_readsItem_155 : decode cX6_readsItem 155 = .ok (.ifCond .ge 7, 3) := by decide +kernel
theorem dX6_readsItem_158 : decode cX6_readsItem 158 = .ok (.iconst (-1), 1) := by decide +kernel
theorem dX6_readsItem_159 : decode cX6_readsItem 159 = .ok (.goto 18, 3) := by decide +kernel
theorem dX6_readsItem_162 : decode cX6_readsItem 162 = .ok (.aload_n 0, 1) := by decide +kernel
theorem dX6_readsItem_163 : decode cX6_readsItem 163 = .ok (.iconst 0, 1) := by decide +kernel
theorem dX6_readsItem_164 : decode cX6_readsItem 164 = .ok (.aload_n 0, 1) := by decide +kernel
theorem dX6_readsItem_165 : decode cX6_readsItem 165 = .ok (.getfield 16, 3) := by decide +kernel
theorem dX6_readsItem_168 : decode cX6_readsItem 168 = .ok (.iconst 1, 1) := by decide +kernel
theorem dX6_readsItem_169 : decode cX6_readsItem 169 = .ok (.iaload, 1) := by decide +kernel
theorem dX6_readsItem_170 : decode cX6_readsItem 170 = .ok (.iconst 1, 1) := by decide +kernel
theorem dX6_readsItem_171 : decode cX6_readsItem 171 = .ok (.isub, 1) := by decide +kernel
theorem dX6_readsItem_172 : decode cX6_readsItem 172 = .ok (.bipush 44, 2) := by decide +kernel
theorem dX6_readsItem_174 : decode cX6_readsItem 174 = .ok (.invokevirtual 74, 3) := by decide +kernel
theorem dX6_readsItem_177 : decode cX6_readsItem 177 = .ok (.istore_n 3, 1) := by decide +kernel
theorem dX6_readsItem_178 : decode cX6_readsItem 178 = .ok (.iload_n 3, 1) := by decide +kernel
theorem dX6_readsItem_179 : decode cX6_readsItem 179 = .ok (.ifCond .ge 7, 3) := by decide +kernel
theorem dX6_readsItem_182 : decode cX6_readsItem 182 = .ok (.iconst (-1), 1) := by decide +kernel
theorem dX6_readsItem_183 : decode cX6_readsItem 183 = .ok (.goto 12, 3) := by decide +kernel
theorem dX6_readsItem_186 : decode cX6_readsItem 186 = .ok (.aload_n 0, 1) := by decide +kernel
theorem dX6_readsItem_187 : decode cX6_readsItem 187 = .ok (.iconst 1, 1) := by decide +kernel
theorem dX6_readsItem_188 : decode cX6_readsItem 188 = .ok (.bipush 30, 2) := by decide +kernel
theorem dX6_readsItem_190 : decode cX6_readsItem 190 = .ok (.bipush 44, 2) := by decide +kernel
theorem dX6_readsItem_192 : decode cX6_readsItem 192 = .ok (.invokevirtual 74, 3) := by decide +kernel
theorem dX6_readsItem_195 : decode cX6_readsItem 195 = .ok (.istore 4, 2) := by decide +kernel
theorem dX6_readsItem_197 : decode cX6_readsItem 197 = .ok (.iload 4, 2) := by decide +kernel
theorem dX6_readsItem_199 : decode cX6_readsItem 199 = .ok (.ifCond .ge 7, 3) := by decide +kernel
theorem dX6_readsItem_202 : decode cX6_readsItem 202 = .ok (.iconst (-1), 1) := by decide +kernel
theorem dX6_readsItem_203 : decode cX6_readsItem 203 = .ok (.goto 12, 3) := by decide +kernel
theorem dX6_readsItem_206 : decode cX6_readsItem 206 = .ok (.aload_n 0, 1) := by decide +kernel
theorem dX6_readsItem_207 : decode cX6_readsItem 207 = .ok (.iconst 0, 1) := by decide +kernel
theorem dX6_readsItem_208 : decode cX6_readsItem 208 = .ok (.bipush 9, 2) := by decide +kernel
theorem dX6_readsItem_210 : decode cX6_readsItem 210 = .ok (.bipush 59, 2) := by decide +kernel
theorem dX6_readsItem_212 : decode cX6_readsItem 212 = .ok (.invokevirtual 74, 3) := by decide +kernel
theorem dX6_readsItem_215 : decode cX6_readsItem 215 = .ok (.istore 5, 2) := by decide +kernel
theorem dX6_readsItem_217 : decode cX6_readsItem 217 = .ok (.iload 5, 2) := by decide +kernel
theorem dX6_readsItem_219 : decode cX6_readsItem 219 = .ok (.ifCond .lt 14, 3) := by decide +kernel
theorem dX6_readsItem_222 : decode cX6_readsItem 222 = .ok (.aload_n 0, 1) := by decide +kernel
theorem dX6_readsItem_223 : decode cX6_readsItem 223 = .ok (.getfield 16, 3) := by decide +kernel
theorem dX6_readsItem_226 : decode cX6_readsItem 226 = .ok (.iconst 2, 1) := by decide +kernel
theorem dX6_readsItem_227 : decode cX6_readsItem 227 = .ok (.iaload, 1) := by decide +kernel
theorem dX6_readsItem_228 : decode cX6_readsItem 228 = .ok (.bipush 9, 2) := by decide +kernel
theorem dX6_readsItem_230 : decode cX6_readsItem 230 = .ok (.if_icmp .ne 5, 3) := by decide +kernel
theorem dX6_readsItem_233 : decode cX6_readsItem 233 = .ok (.iconst 0, 1) := by decide +kernel
theorem dX6_readsItem_234 : decode cX6_readsItem 234 = .ok (.ireturn, 1) := by decide +kernel
theorem dX6_readsItem_235 : decode cX6_readsItem 235 = .ok (.aload_n 0, 1) := by decide +kernel
theorem dX6_readsItem_236 : decode cX6_readsItem 236 = .ok (.iload_n 2, 1) := by decide +kernel
theorem dX6_readsItem_237 : decode cX6_readsItem 237 = .ok (.iload_n 3, 1) := by decide +kernel
theorem dX6_readsItem_238 : decode cX6_readsItem 238 = .ok (.iload 4, 2) := by decide +kernel
theorem dX6_readsItem_240 : decode cX6_readsItem 240 = .ok (.iload 5, 2) := by decide +kernel
theorem dX6_readsItem_242 : decode cX6_readsItem 242 = .ok (.invokevirtual 49, 3) := by decide +kernel
theorem dX6_readsItem_245 : decode cX6_readsItem 245 = .ok (.iconst 1, 1) := by decide +kernel
theorem dX6_readsItem_246 : decode cX6_readsItem 246 = .ok (.ireturn, 1) := by decide +kernel
theorem dX6_readsItem_247 : decode cX6_readsItem 247 = .ok (.aload_n 0, 1) := by decide +kernel
theorem dX6_readsItem_248 : decode cX6_readsItem 248 = .ok (.getfield 16, 3) := by decide +kernel
theorem dX6_readsItem_251 : decode cX6_readsItem 251 = .ok (.iconst 3, 1) := by decide +kernel
theorem dX6_readsItem_252 : decode cX6_readsItem 252 = .ok (.aload_n 0, 1) := by decide +kernel
theorem dX6_readsItem_253 : decode cX6_readsItem 253 = .ok (.iconst 0, 1) := by decide +kernel
theorem dX6_readsItem_254 : decode cX6_readsItem 254 = .ok (.bipush 30, 2) := by decide +kernel
theorem dX6_readsItem_256 : decode cX6_readsItem 256 = .ok (.bipush 59, 2) := by decide +kernel
theorem dX6_readsItem_258 : decode cX6_readsItem 258 = .ok (.invokevirtual 74, 3) := by decide +kernel
theorem dX6_readsItem_261 : decode cX6_readsItem 261 = .ok (.iastore, 1) := by decide +kernel
theorem dX6_readsItem_262 : decode cX6_readsItem 262 = .ok (.aload_n 0, 1) := by decide +kernel
theorem dX6_readsItem_263 : decode cX6_readsItem 263 = .ok (.getfield 16, 3) := by decide +kernel
theorem dX6_readsItem_266 : decode cX6_readsItem 266 = .ok (.iconst 3, 1) := by decide +kernel
theorem dX6_readsItem_267 : decode cX6_readsItem 267 = .ok (.iaload, 1) := by decide +kernel
theorem dX6_readsItem_268 : decode cX6_readsItem 268 = .ok (.ifCond .lt 7, 3) := by decide +kernel
theorem dX6_readsItem_271 : decode cX6_readsItem 271 = .ok (.iconst 1, 1) := by decide +kernel
theorem dX6_readsItem_272 : decode cX6_readsItem 272 = .ok (.goto 4, 3) := by decide +kernel
theorem dX6_readsItem_275 : decode cX6_readsItem 275 = .ok (.iconst 0, 1) := by decide +kernel
theorem dX6_readsItem_276 : decode cX6_readsItem 276 = .ok (.ireturn, 1) := by decide +kernel
theorem dX6_readsItem_277 : decode cX6_readsItem 277 = .ok (.aload_n 0, 1) := by decide +kernel
theorem dX6_readsItem_278 : decode cX6_readsItem 278 = .ok (.getfield 16, 3) := by decide +kernel
theorem dX6_readsItem_281 : decode cX6_readsItem 281 = .ok (.iconst 4, 1) := by decide +kernel
theorem dX6_readsItem_282 : decode cX6_readsItem 282 = .ok (.aload_n 0, 1) := by decide +kernel
theorem dX6_readsItem_283 : decode cX6_readsItem 283 = .ok (.iconst 0, 1) := by decide +kernel
theorem dX6_readsItem_284 : decode cX6_readsItem 284 = .ok (.bipush 9, 2) := by decide +kernel
theorem dX6_readsItem_286 : decode cX6_readsItem 286 = .ok (.bipush 59, 2) := by decide +kernel
theorem dX6_readsItem_288 : decode cX6_readsItem 288 = .ok (.invokevirtual 74, 3) := by decide +kernel
theorem dX6_readsItem_291 : decode cX6_readsItem 291 = .ok (.iastore, 1) := by decide +kernel
theorem dX6_readsItem_292 : decode cX6_readsItem 292 = .ok (.aload_n 0, 1) := by decide +kernel
theorem dX6_readsItem_293 : decode cX6_readsItem 293 = .ok (.getfield 16, 3) := by decide +kernel
theorem dX6_readsItem_296 : decode cX6_readsItem 296 = .ok (.iconst 4, 1) := by decide +kernel
theorem dX6_readsItem_297 : decode cX6_readsItem 297 = .ok (.iaload, 1) := by decide +kernel
theorem dX6_readsItem_298 : decode cX6_readsItem 298 = .ok (.ifCond .lt 7, 3) := by decide +kernel
theorem dX6_readsItem_301 : decode cX6_readsItem 301 = .ok (.iconst 1, 1) := by decide +kernel
theorem dX6_readsItem_302 : decode cX6_readsItem 302 = .ok (.goto 4, 3) := by decide +kernel
theorem dX6_readsItem_305 : decode cX6_readsItem 305 = .ok (.iconst 0, 1) := by decide +kernel
theorem dX6_readsItem_306 : decode cX6_readsItem 306 = .ok (.ireturn, 1) := by decide +kernel
theorem dX6_readsItem_307 : decode cX6_readsItem 307 = .ok (.iconst 0, 1) := by decide +kernel
theorem dX6_readsItem_308 : decode cX6_readsItem 308 = .ok (.ireturn, 1) := by decide +kernel
theorem dX6_readsAll_0 : decode cX6_readsAll 0 = .ok (.aload_n 0, 1) := by decide +kernel
theorem dX6_readsAll_1 : decode cX6_readsAll 1 = .ok (.invokevirtual 38, 3) := by decide +kernel
theorem dX6_readsAll_4 : decode cX6_readsAll 4 = .ok (.aload_n 0, 1) := by decide +kernel
theorem dX6_readsAll_5 : decode cX6_readsAll 5 = .ok (.iconst 0, 1) := by decide +kernel
theorem dX6_readsAll_6 : decode cX6_readsAll 6 = .ok (.putfield 63, 3) := by decide +kernel
theorem dX6_readsAll_9 : decode cX6_readsAll 9 = .ok (.aload_n 0, 1) := by decide +kernel
theorem dX6_readsAll_10 : decode cX6_readsAll 10 = .ok (.getfield 63, 3) := by decide +kernel
theorem dX6_readsAll_13 : decode cX6_readsAll 13 = .ok (.aload_n 0, 1) := by decide +kernel
theorem dX6_readsAll_14 : decode cX6_readsAll 14 = .ok (.getfield 60, 3) := by decide +kernel
theorem dX6_readsAll_17 : decode cX6_readsAll 17 = .ok (.if_icmp .ge 36, 3) := by decide +kernel
theorem dX6_readsAll_20 : decode cX6_readsAll 20 = .ok (.aload_n 0, 1) := by decide +kernel
theorem dX6_readsAll_21 : decode cX6_readsAll 21 = .ok (.getfield 63, 3) := by decide +kernel
theorem dX6_readsAll_24 : decode cX6_readsAll 24 = .ok (.istore_n 1, 1) := by decide +kernel
theorem dX6_readsAll_25 : decode cX6_readsAll 25 = .ok (.aload_n 0, 1) := by decide +kernel
theorem dX6_readsAll_26 : decode cX6_readsAll 26 = .ok (.dup, 1) := by decide +kernel
theorem dX6_readsAll_27 : decode cX6_readsAll 27 = .ok (.getfield 63, 3) := by decide +kernel
theorem dX6_readsAll_30 : decode cX6_readsAll 30 = .ok (.iconst 1, 1) := by decide +kernel
theorem dX6_readsAll_31 : decode cX6_readsAll 31 = .ok (.iadd, 1) := by decide +kernel
theorem dX6_readsAll_32 : decode cX6_readsAll 32 = .ok (.putfield 63, 3) := by decide +kernel
theorem dX6_readsAll_35 : decode cX6_readsAll 35 = .ok (.aload_n 0, 1) := by decide +kernel
theorem dX6_readsAll_36 : decode cX6_readsAll 36 = .ok (.aload_n 0, 1) := by decide +kernel
theorem dX6_readsAll_37 : decode cX6_readsAll 37 = .ok (.getfield 7, 3) := by decide +kernel
theorem dX6_readsAll_40 : decode cX6_readsAll 40 = .ok (.iload_n 1, 1) := by decide +kernel
theorem dX6_readsAll_41 : decode cX6_readsAll 41 = .ok (.iaload, 1) := by decide +kernel
theorem dX6_readsAll_42 : decode cX6_readsAll 42 = .ok (.invokevirtual 78, 3) := by decide +kernel
theorem dX6_readsAll_45 : decode cX6_readsAll 45 = .ok (.ifCond .ne 5, 3) := by decide +kernel
theorem dX6_readsAll_48 : decode cX6_readsAll 48 = .ok (.iload_n 1, 1) := by decide +kernel
theorem dX6_readsAll_49 : decode cX6_readsAll 49 = .ok (.ireturn, 1) := by decide +kernel
theorem dX6_readsAll_50 : decode cX6_readsAll 50 = .ok (.goto (-41), 3) := by decide +kernel
theorem dX6_readsAll_53 : decode cX6_readsAll 53 = .ok (.bipush (-4), 2) := by decide +kernel
theorem dX6_readsAll_55 : decode cX6_readsAll 55 = .ok (.ireturn, 1) := by decide +kernel
theorem dX6_fault_0 : decode cX6_fault 0 = .ok (.aload_n 0, 1) := by decide +kernel
theorem dX6_fault_1 : decode cX6_fault 1 = .ok (.invokevirtual 81, 3) := by decide +kernel
theorem dX6_fault_4 : decode cX6_fault 4 = .ok (.ireturn, 1) := by decide +kernel
theorem dX6_starts_0 : decode cX6_starts 0 = .ok (.iconst 0, 1) := by decide +kernel
theorem dX6_starts_1 : decode cX6_starts 1 = .ok (.istore_n 1, 1) := by decide +kernel
theorem dX6_starts_2 : decode cX6_starts 2 = .ok (.iload_n 1, 1) := by decide +kernel
theorem dX6_starts_3 : decode cX6_starts 3 = .ok (.bipush 55, 2) := by decide +kernel
theorem dX6_starts_5 : decode cX6_starts 5 = .ok (.if_icmp .ge 45, 3) := by decide +kernel
theorem dX6_starts_8 : decode cX6_starts 8 = .ok (.aload_n 0, 1) := by decide +kernel
theorem dX6_starts_9 : decode cX6_starts 9 = .ok (.getfield 19, 3) := by decide +kernel
theorem dX6_starts_12 : decode cX6_starts 12 = .ok (.iload_n 1, 1) := by decide +kernel
theorem dX6_starts_13 : decode cX6_starts 13 = .ok (.iload_n 1, 1) := by decide +kernel
theorem dX6_starts_14 : decode cX6_starts 14 = .ok (.bipush 6, 2) := by decide +kernel
theorem dX6_starts_16 : decode cX6_starts 16 = .ok (.if_icmp .ge 15, 3) := by decide +kernel
theorem dX6_starts_19 : decode cX6_starts 19 = .ok (.aload_n 0, 1) := by decide +kernel
theorem dX6_starts_20 : decode cX6_starts 20 = .ok (.getfield 13, 3) := by decide +kernel
theorem dX6_starts_23 : decode cX6_starts 23 = .ok (.bipush 11, 2) := by decide +kernel
theorem dX6_starts_25 : decode cX6_starts 25 = .ok (.iload_n 1, 1) := by decide +kernel
theorem dX6_starts_26 : decode cX6_starts 26 = .ok (.iadd, 1) := by decide +kernel
theorem dX6_starts_27 : decode cX6_starts 27 = .ok (.iaload, 1) := by decide +kernel
theorem dX6_starts_28 : decode cX6_starts 28 = .ok (.goto 15, 3) := by decide +kernel
theorem dX6_starts_31 : decode cX6_starts 31 = .ok (.iload_n 1, 1) := by decide +kernel
theorem dX6_starts_32 : decode cX6_starts 32 = .ok (.bipush 12, 2) := by decide +kernel
theorem dX6_starts_34 : decode cX6_starts 34 = .ok (.if_icmp .ge 8, 3) := by decide +kernel
theorem dX6_starts_37 : decode cX6_starts 37 = .ok (.bipush (-4), 2) := by decide +kernel
theorem dX6_starts_39 : decode cX6_starts 39 = .ok (.goto 4, 3) := by decide +kernel
theorem dX6_starts_42 : decode cX6_starts 42 = .ok (.iconst 0, 1) := by decide +kernel
theorem dX6_starts_43 : decode cX6_starts 43 = .ok (.iastore, 1) := by decide +kernel
theorem dX6_starts_44 : decode cX6_starts 44 = .ok (.iinc 1 1, 3) := by decide +kernel
theorem dX6_starts_47 : decode cX6_starts 47 = .ok (.goto (-45), 3) := by decide +kernel
theorem dX6_starts_50 : decode cX6_starts 50 = .ok (.return_, 1) := by decide +kernel
theorem dX6_lays_0 : decode cX6_lays 0 = .ok (.iconst 0, 1) := by decide +kernel
theorem dX6_lays_1 : decode cX6_lays 1 = .ok (.istore_n 1, 1) := by decide +kernel
theorem dX6_lays_2 : decode cX6_lays 2 = .ok (.iload_n 1, 1) := by decide +kernel
theorem dX6_lays_3 : decode cX6_lays 3 = .ok (.bipush 59, 2) := by decide +kernel
theorem dX6_lays_5 : decode cX6_lays 5 = .ok (.if_icmp .ge 21, 3) := by decide +kernel
theorem dX6_lays_8 : decode cX6_lays 8 = .ok (.aload_n 0, 1) := by decide +kernel
theorem dX6_lays_9 : decode cX6_lays 9 = .ok (.getfield 13, 3) := by decide +kernel
theorem dX6_lays_12 : decode cX6_lays 12 = .ok (.iload_n 1, 1) := by decide +kernel
theorem dX6_lays_13 : decode cX6_lays 13 = .ok (.aload_n 0, 1) := by decide +kernel
theorem dX6_lays_14 : decode cX6_lays 14 = .ok (.getfield 16, 3) := by decide +kernel
theorem dX6_lays_17 : decode cX6_lays 17 = .ok (.iload_n 1, 1) := by decide +kernel
theorem dX6_lays_18 : decode cX6_lays 18 = .ok (.iaload, 1) := by decide +kernel
theorem dX6_lays_19 : decode cX6_lays 19 = .ok (.iastore, 1) := by decide +kernel
theorem dX6_lays_20 : decode cX6_lays 20 = .ok (.iinc 1 1, 3) := by decide +kernel
theorem dX6_lays_23 : decode cX6_lays 23 = .ok (.goto (-21), 3) := by decide +kernel
theorem dX6_lays_26 : decode cX6_lays 26 = .ok (.aload_n 0, 1) := by decide +kernel
theorem dX6_lays_27 : decode cX6_lays 27 = .ok (.invokevirtual 85, 3) := by decide +kernel
theorem dX6_lays_30 : decode cX6_lays 30 = .ok (.aload_n 0, 1) := by decide +kernel
theorem dX6_lays_31 : decode cX6_lays 31 = .ok (.iconst 0, 1) := by decide +kernel
theorem dX6_lays_32 : decode cX6_lays 32 = .ok (.putfield 88, 3) := by decide +kernel
theorem dX6_lays_35 : decode cX6_lays 35 = .ok (.aload_n 0, 1) := by decide +kernel
theorem dX6_lays_36 : decode cX6_lays 36 = .ok (.iconst 0, 1) := by decide +kernel
theorem dX6_lays_37 : decode cX6_lays 37 = .ok (.putfield 91, 3) := by decide +kernel
theorem dX6_lays_40 : decode cX6_lays 40 = .ok (.aload_n 0, 1) := by decide +kernel
theorem dX6_lays_41 : decode cX6_lays 41 = .ok (.iconst 0, 1) := by decide +kernel
theorem dX6_lays_42 : decode cX6_lays 42 = .ok (.putfield 94, 3) := by decide +kernel
theorem dX6_lays_45 : decode cX6_lays 45 = .ok (.return_, 1) := by decide +kernel
theorem dX6_lay_0 : decode cX6_lay 0 = .ok (.aload_n 0, 1) := by decide +kernel
theorem dX6_lay_1 : decode cX6_lay 1 = .ok (.invokevirtual 81, 3) := by decide +kernel
theorem dX6_lay_4 : decode cX6_lay 4 = .ok (.bipush (-4), 2) := by decide +kernel
theorem dX6_lay_6 : decode cX6_lay 6 = .ok (.if_icmp .ne 21, 3) := by decide +kernel
theorem dX6_lay_9 : decode cX6_lay 9 = .ok (.aload_n 0, 1) := by decide +kernel
theorem dX6_lay_10 : decode cX6_lay 10 = .ok (.getfield 16, 3) := by decide +kernel
theorem dX6_lay_13 : decode cX6_lay 13 = .ok (.iconst 0, 1) := by decide +kernel
theorem dX6_lay_14 : decode cX6_lay 14 = .ok (.iaload, 1) := by decide +kernel
theorem dX6_lay_15 : decode cX6_lay 15 = .ok (.ifCond .eq 12, 3) := by decide +kernel
theorem dX6_lay_18 : decode cX6_lay 18 = .ok (.aload_n 0, 1) := by decide +kernel
theorem dX6_lay_19 : decode cX6_lay 19 = .ok (.getfield 16, 3) := by decide +kernel
theorem dX6_lay_22 : decode cX6_lay 22 = .ok (.iconst 1, 1) := by decide +kernel
theorem dX6_lay_23 : decode cX6_lay 23 = .ok (.iaload, 1) := by decide +kernel
theorem dX6_lay_24 : decode cX6_lay 24 = .ok (.ifCond .ne 6, 3) := by decide +kernel
theorem dX6_lay_27 : decode cX6_lay 27 = .ok (.bipush (-2), 2) := by decide +kernel
theorem dX6_lay_29 : decode cX6_lay 29 = .ok (.ireturn, 1) := by decide +kernel
theorem dX6_lay_30 : decode cX6_lay 30 = .ok (.aload_n 0, 1) := by decide +kernel
theorem dX6_lay_31 : decode cX6_lay 31 = .ok (.invokevirtual 53, 3) := by decide +kernel
theorem dX6_lay_34 : decode cX6_lay 34 = .ok (.aload_n 0, 1) := by decide +kernel
theorem dX6_lay_35 : decode cX6_lay 35 = .ok (.getfield 13, 3) := by decide +kernel
theorem dX6_lay_38 : decode cX6_lay 38 = .ok (.iconst 1, 1) := by decide +kernel
theorem dX6_lay_39 : decode cX6_lay 39 = .ok (.iaload, 1) := by decide +kernel
theorem dX6_lay_40 : decode cX6_lay 40 = .ok (.ireturn, 1) := by decide +kernel
theorem dX6_countedOf_0 : decode cX6_countedOf 0 = .ok (.iload_n 1, 1) := by decide +kernel
theorem dX6_countedOf_1 : decode cX6_countedOf 1 = .ok (.iconst 1, 1) := by decide +kernel
theorem dX6_countedOf_2 : decode cX6_countedOf 2 = .ok (.if_icmp .ne 18, 3) := by decide +kernel
theorem dX6_countedOf_5 : decode cX6_countedOf 5 = .ok (.iload_n 2, 1) := by decide +kernel
theorem dX6_countedOf_6 : decode cX6_countedOf 6 = .ok (.iconst 2, 1) := by decide +kernel
theorem dX6_countedOf_7 : decode cX6_countedOf 7 = .ok (.if_icmp .ge 7, 3) := by decide +kernel
theorem dX6_countedOf_10 : decode cX6_countedOf 10 = .ok (.iconst 0, 1) := by decide +kernel
theorem dX6_countedOf_11 : decode cX6_countedOf 11 = .ok (.goto 32, 3) := by decide +kernel
theorem dX6_countedOf_14 : decode cX6_countedOf 14 = .ok (.iload_n 2, 1) := by decide +kernel
theorem dX6_countedOf_15 : decode cX6_countedOf 15 = .ok (.iconst 2, 1) := by decide +kernel
theorem dX6_countedOf_16 : decode cX6_countedOf 16 = .ok (.isub, 1) := by decide +kernel
theorem dX6_countedOf_17 : decode cX6_countedOf 17 = .ok (.goto 26, 3) := by decide +kernel
theorem dX6_countedOf_20 : decode cX6_countedOf 20 = .ok (.iload_n 1, 1) := by decide +kernel
theorem dX6_countedOf_21 : decode cX6_countedOf 21 = .ok (.iconst 2, 1) := by decide +kernel
theorem dX6_countedOf_22 : decode cX6_countedOf 22 = .ok (.if_icmp .ne 9, 3) := by decide +kernel
theorem dX6_countedOf_25 : decode cX6_countedOf 25 = .ok (.iconst 3, 1) := by decide +kernel
theorem dX6_countedOf_26 : decode cX6_countedOf 26 = .ok (.iload_n 2, 1) := by decide +kernel
theorem dX6_countedOf_27 : decode cX6_countedOf 27 = .ok (.imul, 1) := by decide +kernel
theorem dX6_countedOf_28 : decode cX6_countedOf 28 = .ok (.goto 15, 3) := by decide +kernel
theorem dX6_countedOf_31 : decode cX6_countedOf 31 = .ok (.iload_n 1, 1) := by decide +kernel
theorem dX6_countedOf_32 : decode cX6_countedOf 32 = .ok (.iconst 3, 1) := by decide +kernel
theorem dX6_countedOf_33 : decode cX6_countedOf 33 = .ok (.if_icmp .ne 9, 3) := by decide +kernel
theorem dX6_countedOf_36 : decode cX6_countedOf 36 = .ok (.iconst 2, 1) := by decide +kernel
theorem dX6_countedOf_37 : decode cX6_countedOf 37 = .ok (.iload_n 2, 1) := by decide +kernel
theorem dX6_countedOf_38 : decode cX6_countedOf 38 = .ok (.imul, 1) := by decide +kernel
theorem dX6_countedOf_39 : decode cX6_countedOf 39 = .ok (.goto 4, 3) := by decide +kernel
theorem dX6_countedOf_42 : decode cX6_countedOf 42 = .ok (.iload_n 2, 1) := by decide +kernel
theorem dX6_countedOf_43 : decode cX6_countedOf 43 = .ok (.ireturn, 1) := by decide +kernel
theorem dX6_better_0 : decode cX6_better 0 = .ok (.iload_n 0, 1) := by decide +kernel
theorem dX6_better_1 : decode cX6_better 1 = .ok (.sipush 128, 3) := by decide +kernel
theorem dX6_better_4 : decode cX6_better 4 = .ok (.idiv, 1) := by decide +kernel
theorem dX6_better_5 : decode cX6_better 5 = .ok (.iload_n 1, 1) := by decide +kernel
theorem dX6_better_6 : decode cX6_better 6 = .ok (.sipush 128, 3) := by decide +kernel
theorem dX6_better_9 : decode cX6_better 9 = .ok (.idiv, 1) := by decide +kernel
theorem dX6_better_10 : decode cX6_better 10 = .ok (.if_icmp .gt 29, 3) := by decide +kernel
theorem dX6_better_13 : decode cX6_better 13 = .ok (.iload_n 0, 1) := by decide +kernel
theorem dX6_better_14 : decode cX6_better 14 = .ok (.sipush 128, 3) := by decide +kernel
theorem dX6_better_17 : decode cX6_better 17 = .ok (.idiv, 1) := by decide +kernel
theorem dX6_better_18 : decode cX6_better 18 = .ok (.iload_n 1, 1) := by decide +kernel
theorem dX6_better_19 : decode cX6_better 19 = .ok (.sipush 128, 3) := by decide +kernel
theorem dX6_better_22 : decode cX6_better 22 = .ok (.idiv, 1) := by decide +kernel
theorem dX6_better_23 : decode cX6_better 23 = .ok (.if_icmp .ne 20, 3) := by decide +kernel
theorem dX6_better_26 : decode cX6_better 26 = .ok (.iload_n 0, 1) := by decide +kernel
theorem dX6_better_27 : decode cX6_better 27 = .ok (.sipush 128, 3) := by decide +kernel
theorem dX6_better_30 : decode cX6_better 30 = .ok (.irem, 1) := by decide +kernel
theorem dX6_better_31 : decode cX6_better 31 = .ok (.iload_n 1, 1) := by decide +kernel
theorem dX6_better_32 : decode cX6_better 32 = .ok (.sipush 128, 3) := by decide +kernel
theorem dX6_better_35 : decode cX6_better 35 = .ok (.irem, 1) := by decide +kernel
theorem dX6_better_36 : decode cX6_better 36 = .ok (.if_icmp .gt 7, 3) := by decide +kernel
theorem dX6_better_39 : decode cX6_better 39 = .ok (.iconst 1, 1) := by decide +kernel
theorem dX6_better_40 : decode cX6_better 40 = .ok (.goto 4, 3) := by decide +kernel
theorem dX6_better_43 : decode cX6_better 43 = .ok (.iconst 0, 1) := by decide +kernel
theorem dX6_better_44 : decode cX6_better 44 = .ok (.istore_n 2, 1) := by decide +kernel
theorem dX6_better_45 : decode cX6_better 45 = .ok (.iload_n 2, 1) := by decide +kernel
theorem dX6_better_46 : decode cX6_better 46 = .ok (.ifCond .eq 7, 3) := by decide +kernel
theorem dX6_better_49 : decode cX6_better 49 = .ok (.iload_n 0, 1) := by decide +kernel
theorem dX6_better_50 : decode cX6_better 50 = .ok (.goto 4, 3) := by decide +kernel
theorem dX6_better_53 : decode cX6_better 53 = .ok (.iload_n 1, 1) := by decide +kernel
theorem dX6_better_54 : decode cX6_better 54 = .ok (.ireturn, 1) := by decide +kernel
theorem dX6_pauseNow_0 : decode cX6_pauseNow 0 = .ok (.aload_n 0, 1) := by decide +kernel
theorem dX6_pauseNow_1 : decode cX6_pauseNow 1 = .ok (.getfield 19, 3) := by decide +kernel
theorem dX6_pauseNow_4 : decode cX6_pauseNow 4 = .ok (.bipush 18, 2) := by decide +kernel
theorem dX6_pauseNow_6 : decode cX6_pauseNow 6 = .ok (.bipush 6, 2) := by decide +kernel
theorem dX6_pauseNow_8 : decode cX6_pauseNow 8 = .ok (.iload_n 1, 1) := by decide +kernel
theorem dX6_pauseNow_9 : decode cX6_pauseNow 9 = .ok (.imul, 1) := by decide +kernel
theorem dX6_pauseNow_10 : decode cX6_pauseNow 10 = .ok (.iadd, 1) := by decide +kernel
theorem dX6_pauseNow_11 : decode cX6_pauseNow 11 = .ok (.iload_n 2, 1) := by decide +kernel
theorem dX6_pauseNow_12 : decode cX6_pauseNow 12 = .ok (.iadd, 1) := by decide +kernel
theorem dX6_pauseNow_13 : decode cX6_pauseNow 13 = .ok (.iaload, 1) := by decide +kernel
theorem dX6_pauseNow_14 : decode cX6_pauseNow 14 = .ok (.istore_n 3, 1) := by decide +kernel
theorem dX6_pauseNow_15 : decode cX6_pauseNow 15 = .ok (.iconst 0, 1) := by decide +kernel
theorem dX6_pauseNow_16 : decode cX6_pauseNow 16 = .ok (.istore 4, 2) := by decide +kernel
theorem dX6_pauseNow_18 : decode cX6_pauseNow 18 = .ok (.iload 4, 2) := by decide +kernel
theorem dX6_pauseNow_20 : decode cX6_pauseNow 20 = .ok (.aload_n 0, 1) := by decide +kernel
theorem dX6_pauseNow_21 : decode cX6_pauseNow 21 = .ok (.getfield 13, 3) := by decide +kernel
theorem dX6_pauseNow_24 : decode cX6_pauseNow 24 = .ok (.iconst 2, 1) := by decide +kernel
theorem dX6_pauseNow_25 : decode cX6_pauseNow 25 = .ok (.iaload, 1) := by decide +kernel
theorem dX6_pauseNow_26 : decode cX6_pauseNow 26 = .ok (.if_icmp .ge 87, 3) := by decide +kernel
theorem dX6_pauseNow_29 : decode cX6_pauseNow 29 = .ok (.aload_n 0, 1) := by decide +kernel
theorem dX6_pauseNow_30 : decode cX6_pauseNow 30 = .ok (.getfield 13, 3) := by decide +kernel
theorem dX6_pauseNow_33 : decode cX6_pauseNow 33 = .ok (.bipush 23, 2) := by decide +kernel
theorem dX6_pauseNow_35 : decode cX6_pauseNow 35 = .ok (.iload 4, 2) := by decide +kernel
theorem dX6_pauseNow_37 : decode cX6_pauseNow 37 = .ok (.iadd, 1) := by decide +kernel
theorem dX6_pauseNow_38 : decode cX6_pauseNow 38 = .ok (.iaload, 1) := by decide +kernel
theorem dX6_pauseNow_39 : decode cX6_pauseNow 39 = .ok (.iload_n 1, 1) := by decide +kernel
theorem dX6_pauseNow_40 : decode cX6_pauseNow 40 = .ok (.if_icmp .ne 67, 3) := by decide +kernel
theorem dX6_pauseNow_43 : decode cX6_pauseNow 43 = .ok (.aload_n 0, 1) := by decide +kernel
theorem dX6_pauseNow_44 : decode cX6_pauseNow 44 = .ok (.getfield 13, 3) := by decide +kernel
theorem dX6_pauseNow_47 : decode cX6_pauseNow 47 = .ok (.bipush 32, 2) := by decide +kernel
theorem dX6_pauseNow_49 : decode cX6_pauseNow 49 = .ok (.iload 4, 2) := by decide +kernel
theorem dX6_pauseNow_51 : decode cX6_pauseNow 51 = .ok (.iadd, 1) := by decide +kernel
theorem dX6_pauseNow_52 : decode cX6_pauseNow 52 = .ok (.iaload, 1) := by decide +kernel
theorem dX6_pauseNow_53 : decode cX6_pauseNow 53 = .ok (.iload_n 2, 1) := by decide +kernel
theorem dX6_pauseNow_54 : decode cX6_pauseNow 54 = .ok (.if_icmp .ne 53, 3) := by decide +kernel
theorem dX6_pauseNow_57 : decode cX6_pauseNow 57 = .ok (.aload_n 0, 1) := by decide +kernel
theorem dX6_pauseNow_58 : decode cX6_pauseNow 58 = .ok (.getfield 13, 3) := by decide +kernel
theorem dX6_pauseNow_61 : decode cX6_pauseNow 61 = .ok (.bipush 50, 2) := by decide +kernel
theorem dX6_pauseNow_63 : decode cX6_pauseNow 63 = .ok (.iload 4, 2) := by decide +kernel
theorem dX6_pauseNow_65 : decode cX6_pauseNow 65 = .ok (.iadd, 1) := by decide +kernel
theorem dX6_pauseNow_66 : decode cX6_pauseNow 66 = .ok (.iaload, 1) := by decide +kernel
theorem dX6_pauseNow_67 : decode cX6_pauseNow 67 = .ok (.aload_n 0, 1) := by decide +kernel
theorem dX6_pauseNow_68 : decode cX6_pauseNow 68 = .ok (.getfield 19, 3) := by decide +kernel
theorem dX6_pauseNow_71 : decode cX6_pauseNow 71 = .ok (.bipush 54, 2) := by decide +kernel
theorem dX6_pauseNow_73 : decode cX6_pauseNow 73 = .ok (.iaload, 1) := by decide +kernel
theorem dX6_pauseNow_74 : decode cX6_pauseNow 74 = .ok (.if_icmp .gt 33, 3) := by decide +kernel
theorem dX6_pauseNow_77 : decode cX6_pauseNow 77 = .ok (.sipush 128, 3) := by decide +kernel
theorem dX6_pauseNow_80 : decode cX6_pauseNow 80 = .ok (.aload_n 0, 1) := by decide +kernel
theorem dX6_pauseNow_81 : decode cX6_pauseNow 81 = .ok (.getfield 13, 3) := by decide +kernel
theorem dX6_pauseNow_84 : decode cX6_pauseNow 84 = .ok (.bipush 41, 2) := by decide +kernel
theorem dX6_pauseNow_86 : decode cX6_pauseNow 86 = .ok (.iload 4, 2) := by decide +kernel
theorem dX6_pauseNow_88 : decode cX6_pauseNow 88 = .ok (.iadd, 1) := by decide +kernel
theorem dX6_pauseNow_89 : decode cX6_pauseNow 89 = .ok (.iaload, 1) := by decide +kernel
theorem dX6_pauseNow_90 : decode cX6_pauseNow 90 = .ok (.imul, 1) := by decide +kernel
theorem dX6_pauseNow_91 : decode cX6_pauseNow 91 = .ok (.aload_n 0, 1) := by decide +kernel
theorem dX6_pauseNow_92 : decode cX6_pauseNow 92 = .ok (.getfield 13, 3) := by decide +kernel
theorem dX6_pauseNow_95 : decode cX6_pauseNow 95 = .ok (.bipush 50, 2) := by decide +kernel
theorem dX6_pauseNow_97 : decode cX6_pauseNow 97 = .ok (.iload 4, 2) := by decide +kernel
theorem dX6_pauseNow_99 : decode cX6_pauseNow 99 = .ok (.iadd, 1) := by decide +kernel
theorem dX6_pauseNow_100 : decode cX6_pauseNow 100 = .ok (.iaload, 1) := by decide +kernel
theorem dX6_pauseNow_101 : decode cX6_pauseNow 101 = .ok (.iadd, 1) := by decide +kernel
theorem dX6_pauseNow_102 : decode cX6_pauseNow 102 = .ok (.iload_n 3, 1) := by decide +kernel
theorem dX6_pauseNow_103 : decode cX6_pauseNow 103 = .ok (.invokestatic 97, 3) := by decide +kernel
theorem dX6_pauseNow_106 : decode cX6_pauseNow 106 = .ok (.istore_n 3, 1) := by decide +kernel
theorem dX6_pauseNow_107 : decode cX6_pauseNow 107 = .ok (.iinc 4 1, 3) := by decide +kernel
theorem dX6_pauseNow_110 : decode cX6_pauseNow 110 = .ok (.goto (-92), 3) := by decide +kernel
theorem dX6_pauseNow_113 : decode cX6_pauseNow 113 = .ok (.iload_n 1, 1) := by decide +kernel
theorem dX6_pauseNow_114 : decode cX6_pauseNow 114 = .ok (.aload_n 0, 1) := by decide +kernel
theorem dX6_pauseNow_115 : decode cX6_pauseNow 115 = .ok (.getfield 31, 3) := by decide +kernel
theorem dX6_pauseNow_118 : decode cX6_pauseNow 118 = .ok (.if_icmp .ne 7, 3) := by decide +kernel
theorem dX6_pauseNow_121 : decode cX6_pauseNow 121 = .ok (.iconst 0, 1) := by decide +kernel
theorem dX6_pauseNow_122 : decode cX6_pauseNow 122 = .ok (.goto 4, 3) := by decide +kernel
theorem dX6_pauseNow_125 : decode cX6_pauseNow 125 = .ok (.iload_n 3, 1) := by decide +kernel
theorem dX6_pauseNow_126 : decode cX6_pauseNow 126 = .ok (.ireturn, 1) := by decide +kernel
theorem dX6_countedNow_0 : decode cX6_countedNow 0 = .ok (.aload_n 0, 1) := by decide +kernel
theorem dX6_countedNow_1 : decode cX6_countedNow 1 = .ok (.aload_n 0, 1) := by decide +kernel
theorem dX6_countedNow_2 : decode cX6_countedNow 2 = .ok (.getfield 13, 3) := by decide +kernel
theorem dX6_countedNow_5 : decode cX6_countedNow 5 = .ok (.iconst 5, 1) := by decide +kernel
theorem dX6_countedNow_6 : decode cX6_countedNow 6 = .ok (.iload_n 1, 1) := by decide +kernel
theorem dX6_countedNow_7 : decode cX6_countedNow 7 = .ok (.iadd, 1) := by decide +kernel
theorem dX6_countedNow_8 : decode cX6_countedNow 8 = .ok (.iaload, 1) := by decide +kernel
theorem dX6_countedNow_9 : decode cX6_countedNow 9 = .ok (.aload_n 0, 1) := by decide +kernel
theorem dX6_countedNow_10 : decode cX6_countedNow 10 = .ok (.iload_n 1, 1) := by decide +kernel
theorem dX6_countedNow_11 : decode cX6_countedNow 11 = .ok (.iload_n 2, 1) := by decide +kernel
theorem dX6_countedNow_12 : decode cX6_countedNow 12 = .ok (.invokevirtual 101, 3) := by decide +kernel
theorem dX6_countedNow_15 : decode cX6_countedNow 15 = .ok (.sipush 128, 3) := by decide +kernel
theorem dX6_countedNow_18 : decode cX6_countedNow 18 = .ok (.idiv, 1) := by decide +kernel
theorem dX6_countedNow_19 : decode cX6_countedNow 19 = .ok (.invokevirtual 104, 3) := by decide +kernel
theorem dX6_countedNow_22 : decode cX6_countedNow 22 = .ok (.ireturn, 1) := by decide +kernel
theorem dX6_isNearly_0 : decode cX6_isNearly 0 = .ok (.aload_n 0, 1) := by decide +kernel
theorem dX6_isNearly_1 : decode cX6_isNearly 1 = .ok (.iload_n 1, 1) := by decide +kernel
theorem dX6_isNearly_2 : decode cX6_isNearly 2 = .ok (.iload_n 2, 1) := by decide +kernel
theorem dX6_isNearly_3 : decode cX6_isNearly 3 = .ok (.invokevirtual 107, 3) := by decide +kernel
theorem dX6_isNearly_6 : decode cX6_isNearly 6 = .ok (.bipush 8, 2) := by decide +kernel
theorem dX6_isNearly_8 : decode cX6_isNearly 8 = .ok (.if_icmp .le 7, 3) := by decide +kernel
theorem dX6_isNearly_11 : decode cX6_isNearly 11 = .ok (.iconst 1, 1) := by decide +kernel
theorem dX6_isNearly_12 : decode cX6_isNearly 12 = .ok (.goto 4, 3) := by decide +kernel
theorem dX6_isNearly_15 : decode cX6_isNearly 15 = .ok (.iconst 0, 1) := by decide +kernel
theorem dX6_isNearly_16 : decode cX6_isNearly 16 = .ok (.ireturn, 1) := by decide +kernel
theorem dX6_costs_0 : decode cX6_costs 0 = .ok (.aload_n 0, 1) := by decide +kernel
theorem dX6_costs_1 : decode cX6_costs 1 = .ok (.getfield 13, 3) := by decide +kernel
theorem dX6_costs_4 : decode cX6_costs 4 = .ok (.bipush 17, 2) := by decide +kernel
theorem dX6_costs_6 : decode cX6_costs 6 = .ok (.iload_n 1, 1) := by decide +kernel
theorem dX6_costs_7 : decode cX6_costs 7 = .ok (.iadd, 1) := by decide +kernel
theorem dX6_costs_8 : decode cX6_costs 8 = .ok (.iaload, 1) := by decide +kernel
theorem dX6_costs_9 : decode cX6_costs 9 = .ok (.aload_n 0, 1) := by decide +kernel
theorem dX6_costs_10 : decode cX6_costs 10 = .ok (.getfield 13, 3) := by decide +kernel
theorem dX6_costs_13 : decode cX6_costs 13 = .ok (.iconst 4, 1) := by decide +kernel
theorem dX6_costs_14 : decode cX6_costs 14 = .ok (.iaload, 1) := by decide +kernel
theorem dX6_costs_15 : decode cX6_costs 15 = .ok (.iload_n 2, 1) := by decide +kernel
theorem dX6_costs_16 : decode cX6_costs 16 = .ok (.imul, 1) := by decide +kernel
theorem dX6_costs_17 : decode cX6_costs 17 = .ok (.iadd, 1) := by decide +kernel
theorem dX6_costs_18 : decode cX6_costs 18 = .ok (.ireturn, 1) := by decide +kernel
theorem dX6_priceOf_0 : decode cX6_priceOf 0 = .ok (.aload_n 0, 1) := by decide +kernel
theorem dX6_priceOf_1 : decode cX6_priceOf 1 = .ok (.iload_n 2, 1) := by decide +kernel
theorem dX6_priceOf_2 : decode cX6_priceOf 2 = .ok (.aload_n 0, 1) := by decide +kernel
theorem dX6_priceOf_3 : decode cX6_priceOf 3 = .ok (.iload_n 1, 1) := by decide +kernel
theorem dX6_priceOf_4 : decode cX6_priceOf 4 = .ok (.iload_n 2, 1) := by decide +kernel
theorem dX6_priceOf_5 : decode cX6_priceOf 5 = .ok (.invokevirtual 101, 3) := by decide +kernel
theorem dX6_priceOf_8 : decode cX6_priceOf 8 = .ok (.sipush 128, 3) := by decide +kernel
theorem dX6_priceOf_11 : decode cX6_priceOf 11 = .ok (.irem, 1) := by decide +kernel
theorem dX6_priceOf_12 : decode cX6_priceOf 12 = .ok (.invokevirtual 110, 3) := by decide +kernel
theorem dX6_priceOf_15 : decode cX6_priceOf 15 = .ok (.istore_n 3, 1) := by decide +kernel
theorem dX6_priceOf_16 : decode cX6_priceOf 16 = .ok (.aload_n 0, 1) := by decide +kernel
theorem dX6_priceOf_17 : decode cX6_priceOf 17 = .ok (.getfield 13, 3) := by decide +kernel
theorem dX6_priceOf_20 : decode cX6_priceOf 20 = .ok (.iconst 5, 1) := by decide +kernel
theorem dX6_priceOf_21 : decode cX6_priceOf 21 = .ok (.iload_n 1, 1) := by decide +kernel
theorem dX6_priceOf_22 : decode cX6_priceOf 22 = .ok (.iadd, 1) := by decide +kernel
theorem dX6_priceOf_23 : decode cX6_priceOf 23 = .ok (.iaload, 1) := by decide +kernel
theorem dX6_priceOf_24 : decode cX6_priceOf 24 = .ok (.iconst 3, 1) := by decide +kernel
theorem dX6_priceOf_25 : decode cX6_priceOf 25 = .ok (.if_icmp .ne 9, 3) := by decide +kernel
theorem dX6_priceOf_28 : decode cX6_priceOf 28 = .ok (.iload_n 3, 1) := by decide +kernel
theorem dX6_priceOf_29 : decode cX6_priceOf 29 = .ok (.iconst 2, 1) := by decide +kernel
theorem dX6_priceOf_30 : decode cX6_priceOf 30 = .ok (.idiv, 1) := by decide +kernel
theorem dX6_priceOf_31 : decode cX6_priceOf 31 = .ok (.goto 4, 3) := by decide +kernel
theorem dX6_priceOf_34 : decode cX6_priceOf 34 = .ok (.iload_n 3, 1) := by decide +kernel
theorem dX6_priceOf_35 : decode cX6_priceOf 35 = .ok (.ireturn, 1) := by decide +kernel
theorem dX6_claim_0 : decode cX6_claim 0 = .ok (.bipush (-4), 2) := by decide +kernel
theorem dX6_claim_2 : decode cX6_claim 2 = .ok (.istore_n 2, 1) := by decide +kernel
theorem dX6_claim_3 : decode cX6_claim 3 = .ok (.bipush 8, 2) := by decide +kernel
theorem dX6_claim_5 : decode cX6_claim 5 = .ok (.istore_n 3, 1) := by decide +kernel
