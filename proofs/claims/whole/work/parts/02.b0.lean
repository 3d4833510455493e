theorem dX0_init_0 : decode cX0_init 0 = .ok (.aload_n 0, 1) := by decide +kernel
theorem dX0_init_1 : decode cX0_init 1 = .ok (.invokespecial 3, 3) := by decide +kernel
theorem dX0_init_4 : decode cX0_init 4 = .ok (.aload_n 0, 1) := by decide +kernel
theorem dX0_init_5 : decode cX0_init 5 = .ok (.bipush 8, 2) := by decide +kernel
theorem dX0_init_7 : decode cX0_init 7 = .ok (.anewarray 9, 3) := by decide +kernel
theorem dX0_init_10 : decode cX0_init 10 = .ok (.putfield 11, 3) := by decide +kernel
theorem dX0_init_13 : decode cX0_init 13 = .ok (.iconst 0, 1) := by decide +kernel
theorem dX0_init_14 : decode cX0_init 14 = .ok (.istore_n 2, 1) := by decide +kernel
theorem dX0_init_15 : decode cX0_init 15 = .ok (.iload_n 2, 1) := by decide +kernel
theorem dX0_init_16 : decode cX0_init 16 = .ok (.bipush 8, 2) := by decide +kernel
theorem dX0_init_18 : decode cX0_init 18 = .ok (.if_icmp .ge 23, 3) := by decide +kernel
theorem dX0_init_21 : decode cX0_init 21 = .ok (.aload_n 0, 1) := by decide +kernel
theorem dX0_init_22 : decode cX0_init 22 = .ok (.getfield 11, 3) := by decide +kernel
theorem dX0_init_25 : decode cX0_init 25 = .ok (.iload_n 2, 1) := by decide +kernel
theorem dX0_init_26 : decode cX0_init 26 = .ok (.new 9, 3) := by decide +kernel
theorem dX0_init_29 : decode cX0_init 29 = .ok (.dup, 1) := by decide +kernel
theorem dX0_init_30 : decode cX0_init 30 = .ok (.aload_n 1, 1) := by decide +kernel
theorem dX0_init_31 : decode cX0_init 31 = .ok (.invokespecial 17, 3) := by decide +kernel
theorem dX0_init_34 : decode cX0_init 34 = .ok (.aastore, 1) := by decide +kernel
theorem dX0_init_35 : decode cX0_init 35 = .ok (.iinc 2 1, 3) := by decide +kernel
theorem dX0_init_38 : decode cX0_init 38 = .ok (.goto (-23), 3) := by decide +kernel
theorem dX0_init_41 : decode cX0_init 41 = .ok (.return_, 1) := by decide +kernel
theorem dX0_remember_0 : decode cX0_remember 0 = .ok (.aload_n 0, 1) := by decide +kernel
theorem dX0_remember_1 : decode cX0_remember 1 = .ok (.getfield 11, 3) := by decide +kernel
theorem dX0_remember_4 : decode cX0_remember 4 = .ok (.aload_n 0, 1) := by decide +kernel
theorem dX0_remember_5 : decode cX0_remember 5 = .ok (.getfield 20, 3) := by decide +kernel
theorem dX0_remember_8 : decode cX0_remember 8 = .ok (.aaload, 1) := by decide +kernel
theorem dX0_remember_9 : decode cX0_remember 9 = .ok (.aload_n 1, 1) := by decide +kernel
theorem dX0_remember_10 : decode cX0_remember 10 = .ok (.invokevirtual 24, 3) := by decide +kernel
theorem dX0_remember_13 : decode cX0_remember 13 = .ok (.aload_n 0, 1) := by decide +kernel
theorem dX0_remember_14 : decode cX0_remember 14 = .ok (.aload_n 0, 1) := by decide +kernel
theorem dX0_remember_15 : decode cX0_remember 15 = .ok (.getfield 20, 3) := by decide +kernel
theorem dX0_remember_18 : decode cX0_remember 18 = .ok (.iconst 1, 1) := by decide +kernel
theorem dX0_remember_19 : decode cX0_remember 19 = .ok (.iadd, 1) := by decide +kernel
theorem dX0_remember_20 : decode cX0_remember 20 = .ok (.bipush 8, 2) := by decide +kernel
theorem dX0_remember_22 : decode cX0_remember 22 = .ok (.irem, 1) := by decide +kernel
theorem dX0_remember_23 : decode cX0_remember 23 = .ok (.putfield 20, 3) := by decide +kernel
theorem dX0_remember_26 : decode cX0_remember 26 = .ok (.aload_n 0, 1) := by decide +kernel
theorem dX0_remember_27 : decode cX0_remember 27 = .ok (.aload_n 0, 1) := by decide +kernel
theorem dX0_remember_28 : decode cX0_remember 28 = .ok (.getfield 28, 3) := by decide +kernel
theorem dX0_remember_31 : decode cX0_remember 31 = .ok (.iconst 1, 1) := by decide +kernel
theorem dX0_remember_32 : decode cX0_remember 32 = .ok (.iadd, 1) := by decide +kernel
theorem dX0_remember_33 : decode cX0_remember 33 = .ok (.bipush 8, 2) := by decide +kernel
theorem dX0_remember_35 : decode cX0_remember 35 = .ok (.invokestatic 31, 3) := by decide +kernel
theorem dX0_remember_38 : decode cX0_remember 38 = .ok (.putfield 28, 3) := by decide +kernel
theorem dX0_remember_41 : decode cX0_remember 41 = .ok (.return_, 1) := by decide +kernel
theorem dX0_restore_0 : decode cX0_restore 0 = .ok (.aload_n 0, 1) := by decide +kernel
theorem dX0_restore_1 : decode cX0_restore 1 = .ok (.aload_n 0, 1) := by decide +kernel
theorem dX0_restore_2 : decode cX0_restore 2 = .ok (.getfield 20, 3) := by decide +kernel
theorem dX0_restore_5 : decode cX0_restore 5 = .ok (.bipush 8, 2) := by decide +kernel
theorem dX0_restore_7 : decode cX0_restore 7 = .ok (.iadd, 1) := by decide +kernel
theorem dX0_restore_8 : decode cX0_restore 8 = .ok (.iconst 1, 1) := by decide +kernel
theorem dX0_restore_9 : decode cX0_restore 9 = .ok (.isub, 1) := by decide +kernel
theorem dX0_restore_10 : decode cX0_restore 10 = .ok (.bipush 8, 2) := by decide +kernel
theorem dX0_restore_12 : decode cX0_restore 12 = .ok (.irem, 1) := by decide +kernel
theorem dX0_restore_13 : decode cX0_restore 13 = .ok (.putfield 20, 3) := by decide +kernel
theorem dX0_restore_16 : decode cX0_restore 16 = .ok (.aload_n 0, 1) := by decide +kernel
theorem dX0_restore_17 : decode cX0_restore 17 = .ok (.aload_n 0, 1) := by decide +kernel
theorem dX0_restore_18 : decode cX0_restore 18 = .ok (.getfield 28, 3) := by decide +kernel
theorem dX0_restore_21 : decode cX0_restore 21 = .ok (.iconst 1, 1) := by decide +kernel
theorem dX0_restore_22 : decode cX0_restore 22 = .ok (.isub, 1) := by decide +kernel
theorem dX0_restore_23 : decode cX0_restore 23 = .ok (.iconst 0, 1) := by decide +kernel
theorem dX0_restore_24 : decode cX0_restore 24 = .ok (.invokestatic 37, 3) := by decide +kernel
theorem dX0_restore_27 : decode cX0_restore 27 = .ok (.putfield 28, 3) := by decide +kernel
theorem dX0_restore_30 : decode cX0_restore 30 = .ok (.aload_n 1, 1) := by decide +kernel
theorem dX0_restore_31 : decode cX0_restore 31 = .ok (.aload_n 0, 1) := by decide +kernel
theorem dX0_restore_32 : decode cX0_restore 32 = .ok (.getfield 11, 3) := by decide +kernel
theorem dX0_restore_35 : decode cX0_restore 35 = .ok (.aload_n 0, 1) := by decide +kernel
theorem dX0_restore_36 : decode cX0_restore 36 = .ok (.getfield 20, 3) := by decide +kernel
theorem dX0_restore_39 : decode cX0_restore 39 = .ok (.aaload, 1) := by decide +kernel
theorem dX0_restore_40 : decode cX0_restore 40 = .ok (.invokevirtual 24, 3) := by decide +kernel
theorem dX0_restore_43 : decode cX0_restore 43 = .ok (.return_, 1) := by decide +kernel
theorem dX1_init_0 : decode cX1_init 0 = .ok (.aload_n 0, 1) := by decide +kernel
theorem dX1_init_1 : decode cX1_init 1 = .ok (.invokespecial 3, 3) := by decide +kernel
theorem dX1_init_4 : decode cX1_init 4 = .ok (.aload_n 0, 1) := by decide +kernel
theorem dX1_init_5 : decode cX1_init 5 = .ok (.bipush (-4), 2) := by decide +kernel
theorem dX1_init_7 : decode cX1_init 7 = .ok (.putfield 9, 3) := by decide +kernel
theorem dX1_init_10 : decode cX1_init 10 = .ok (.aload_n 0, 1) := by decide +kernel
theorem dX1_init_11 : decode cX1_init 11 = .ok (.bipush 6, 2) := by decide +kernel
theorem dX1_init_13 : decode cX1_init 13 = .ok (.newarray .int, 2) := by decide +kernel
theorem dX1_init_15 : decode cX1_init 15 = .ok (.putfield 15, 3) := by decide +kernel
theorem dX1_init_18 : decode cX1_init 18 = .ok (.aload_n 0, 1) := by decide +kernel
theorem dX1_init_19 : decode cX1_init 19 = .ok (.bipush 6, 2) := by decide +kernel
theorem dX1_init_21 : decode cX1_init 21 = .ok (.newarray .int, 2) := by decide +kernel
theorem dX1_init_23 : decode cX1_init 23 = .ok (.putfield 19, 3) := by decide +kernel
theorem dX1_init_26 : decode cX1_init 26 = .ok (.aload_n 0, 1) := by decide +kernel
theorem dX1_init_27 : decode cX1_init 27 = .ok (.bipush 6, 2) := by decide +kernel
theorem dX1_init_29 : decode cX1_init 29 = .ok (.newarray .int, 2) := by decide +kernel
theorem dX1_init_31 : decode cX1_init 31 = .ok (.putfield 22, 3) := by decide +kernel
theorem dX1_init_34 : decode cX1_init 34 = .ok (.aload_n 0, 1) := by decide +kernel
theorem dX1_init_35 : decode cX1_init 35 = .ok (.bipush 6, 2) := by decide +kernel
theorem dX1_init_37 : decode cX1_init 37 = .ok (.bipush 6, 2) := by decide +kernel
theorem dX1_init_39 : decode cX1_init 39 = .ok (.multianewarray 25 2, 4) := by decide +kernel
theorem dX1_init_43 : decode cX1_init 43 = .ok (.putfield 27, 3) := by decide +kernel
theorem dX1_init_46 : decode cX1_init 46 = .ok (.aload_n 0, 1) := by decide +kernel
theorem dX1_init_47 : decode cX1_init 47 = .ok (.bipush 6, 2) := by decide +kernel
theorem dX1_init_49 : decode cX1_init 49 = .ok (.bipush 6, 2) := by decide +kernel
theorem dX1_init_51 : decode cX1_init 51 = .ok (.multianewarray 25 2, 4) := by decide +kernel
theorem dX1_init_55 : decode cX1_init 55 = .ok (.putfield 30, 3) := by decide +kernel
theorem dX1_init_58 : decode cX1_init 58 = .ok (.aload_n 0, 1) := by decide +kernel
theorem dX1_init_59 : decode cX1_init 59 = .ok (.bipush 6, 2) := by decide +kernel
theorem dX1_init_61 : decode cX1_init 61 = .ok (.bipush 6, 2) := by decide +kernel
theorem dX1_init_63 : decode cX1_init 63 = .ok (.multianewarray 25 2, 4) := by decide +kernel
theorem dX1_init_67 : decode cX1_init 67 = .ok (.putfield 33, 3) := by decide +kernel
theorem dX1_init_70 : decode cX1_init 70 = .ok (.aload_n 0, 1) := by decide +kernel
theorem dX1_init_71 : decode cX1_init 71 = .ok (.bipush 6, 2) := by decide +kernel
theorem dX1_init_73 : decode cX1_init 73 = .ok (.bipush 6, 2) := by decide +kernel
theorem dX1_init_75 : decode cX1_init 75 = .ok (.multianewarray 25 2, 4) := by decide +kernel
theorem dX1_init_79 : decode cX1_init 79 = .ok (.putfield 36, 3) := by decide +kernel
theorem dX1_init_82 : decode cX1_init 82 = .ok (.aload_n 0, 1) := by decide +kernel
theorem dX1_init_83 : decode cX1_init 83 = .ok (.aload_n 1, 1) := by decide +kernel
theorem dX1_init_84 : decode cX1_init 84 = .ok (.putfield 39, 3) := by decide +kernel
theorem dX1_init_87 : decode cX1_init 87 = .ok (.return_, 1) := by decide +kernel
theorem dX1_begin_0 : decode cX1_begin 0 = .ok (.aload_n 0, 1) := by decide +kernel
theorem dX1_begin_1 : decode cX1_begin 1 = .ok (.iconst 0, 1) := by decide +kernel
theorem dX1_begin_2 : decode cX1_begin 2 = .ok (.putfield 43, 3) := by decide +kernel
theorem dX1_begin_5 : decode cX1_begin 5 = .ok (.aload_n 0, 1) := by decide +kernel
theorem dX1_begin_6 : decode cX1_begin 6 = .ok (.iload_n 1, 1) := by decide +kernel
theorem dX1_begin_7 : decode cX1_begin 7 = .ok (.putfield 9, 3) := by decide +kernel
theorem dX1_begin_10 : decode cX1_begin 10 = .ok (.aload_n 0, 1) := by decide +kernel
theorem dX1_begin_11 : decode cX1_begin 11 = .ok (.getfield 39, 3) := by decide +kernel
theorem dX1_begin_14 : decode cX1_begin 14 = .ok (.getfield 46, 3) := by decide +kernel
theorem dX1_begin_17 : decode cX1_begin 17 = .ok (.iconst 0, 1) := by decide +kernel
theorem dX1_begin_18 : decode cX1_begin 18 = .ok (.aload_n 0, 1) := by decide +kernel
theorem dX1_begin_19 : decode cX1_begin 19 = .ok (.getfield 15, 3) := by decide +kernel
theorem dX1_begin_22 : decode cX1_begin 22 = .ok (.iconst 0, 1) := by decide +kernel
theorem dX1_begin_23 : decode cX1_begin 23 = .ok (.bipush 6, 2) := by decide +kernel
theorem dX1_begin_25 : decode cX1_begin 25 = .ok (.invokestatic 51, 3) := by decide +kernel
theorem dX1_begin_28 : decode cX1_begin 28 = .ok (.aload_n 0, 1) := by decide +kernel
theorem dX1_begin_29 : decode cX1_begin 29 = .ok (.getfield 19, 3) := by decide +kernel
theorem dX1_begin_32 : decode cX1_begin 32 = .ok (.bipush (-4), 2) := by decide +kernel
theorem dX1_begin_34 : decode cX1_begin 34 = .ok (.invokestatic 57, 3) := by decide +kernel
theorem dX1_begin_37 : decode cX1_begin 37 = .ok (.aload_n 0, 1) := by decide +kernel
theorem dX1_begin_38 : decode cX1_begin 38 = .ok (.getfield 22, 3) := by decide +kernel
theorem dX1_begin_41 : decode cX1_begin 41 = .ok (.iconst 0, 1) := by decide +kernel
theorem dX1_begin_42 : decode cX1_begin 42 = .ok (.invokestatic 57, 3) := by decide +kernel
theorem dX1_begin_45 : decode cX1_begin 45 = .ok (.iconst 0, 1) := by decide +kernel
theorem dX1_begin_46 : decode cX1_begin 46 = .ok (.istore_n 2, 1) := by decide +kernel
theorem dX1_begin_47 : decode cX1_begin 47 = .ok (.iload_n 2, 1) := by decide +kernel
theorem dX1_begin_48 : decode cX1_begin 48 = .ok (.bipush 6, 2) := by decide +kernel
theorem dX1_begin_50 : decode cX1_begin 50 = .ok (.if_icmp .ge 51, 3) := by decide +kernel
theorem dX1_begin_53 : decode cX1_begin 53 = .ok (.aload_n 0, 1) := by decide +kernel
theorem dX1_begin_54 : decode cX1_begin 54 = .ok (.getfield 27, 3) := by decide +kernel
theorem dX1_begin_57 : decode cX1_begin 57 = .ok (.iload_n 2, 1) := by decide +kernel
theorem dX1_begin_58 : decode cX1_begin 58 = .ok (.aaload, 1) := by decide +kernel
theorem dX1_begin_59 : decode cX1_begin 59 = .ok (.iconst 0, 1) := by decide +kernel
theorem dX1_begin_60 : decode cX1_begin 60 = .ok (.invokestatic 57, 3) := by decide +kernel
theorem dX1_begin_63 : decode cX1_begin 63 = .ok (.aload_n 0, 1) := by decide +kernel
theorem dX1_begin_64 : decode cX1_begin 64 = .ok (.getfield 30, 3) := by decide +kernel
theorem dX1_begin_67 : decode cX1_begin 67 = .ok (.iload_n 2, 1) := by decide +kernel
theorem dX1_begin_68 : decode cX1_begin 68 = .ok (.aaload, 1) := by decide +kernel
theorem dX1_begin_69 : decode cX1_begin 69 = .ok (.bipush (-4), 2) := by decide +kernel
theorem dX1_begin_71 : decode cX1_begin 71 = .ok (.invokestatic 57, 3) := by decide +kernel
theorem dX1_begin_74 : decode cX1_begin 74 = .ok (.aload_n 0, 1) := by decide +kernel
theorem dX1_begin_75 : decode cX1_begin 75 = .ok (.getfield 33, 3) := by decide +kernel
theorem dX1_begin_78 : decode cX1_begin 78 = .ok (.iload_n 2, 1) := by decide +kernel
theorem dX1_begin_79 : decode cX1_begin 79 = .ok (.aaload, 1) := by decide +kernel
theorem dX1_begin_80 : decode cX1_begin 80 = .ok (.iconst 0, 1) := by decide +kernel
theorem dX1_begin_81 : decode cX1_begin 81 = .ok (.invokestatic 57, 3) := by decide +kernel
theorem dX1_begin_84 : decode cX1_begin 84 = .ok (.aload_n 0, 1) := by decide +kernel
theorem dX1_begin_85 : decode cX1_begin 85 = .ok (.getfield 36, 3) := by decide +kernel
theorem dX1_begin_88 : decode cX1_begin 88 = .ok (.iload_n 2, 1) := by decide +kernel
theorem dX1_begin_89 : decode cX1_begin 89 = .ok (.aaload, 1) := by decide +kernel
theorem dX1_begin_90 : decode cX1_begin 90 = .ok (.bipush (-4), 2) := by decide +kernel
theorem dX1_begin_92 : decode cX1_begin 92 = .ok (.invokestatic 57, 3) := by decide +kernel
theorem dX1_begin_95 : decode cX1_begin 95 = .ok (.iinc 2 1, 3) := by decide +kernel
theorem dX1_begin_98 : decode cX1_begin 98 = .ok (.goto (-51), 3) := by decide +kernel
theorem dX1_begin_101 : decode cX1_begin 101 = .ok (.aload_n 0, 1) := by decide +kernel
theorem dX1_begin_102 : decode cX1_begin 102 = .ok (.invokevirtual 63, 3) := by decide +kernel
theorem dX1_begin_105 : decode cX1_begin 105 = .ok (.return_, 1) := by decide +kernel
theorem dX1_copyFrom_0 : decode cX1_copyFrom 0 = .ok (.aload_n 0, 1) := by decide +kernel
theorem dX1_copyFrom_1 : decode cX1_copyFrom 1 = .ok (.aload_n 1, 1) := by decide +kernel
theorem dX1_copyFrom_2 : decode cX1_copyFrom 2 = .ok (.getfield 43, 3) := by decide +kernel
theorem dX1_copyFrom_5 : decode cX1_copyFrom 5 = .ok (.putfield 43, 3) := by decide +kernel
theorem dX1_copyFrom_8 : decode cX1_copyFrom 8 = .ok (.aload_n 0, 1) := by decide +kernel
theorem dX1_copyFrom_9 : decode cX1_copyFrom 9 = .ok (.aload_n 1, 1) := by decide +kernel
theorem dX1_copyFrom_10 : decode cX1_copyFrom 10 = .ok (.getfield 9, 3) := by decide +kernel
theorem dX1_copyFrom_13 : decode cX1_copyFrom 13 = .ok (.putfield 9, 3) := by decide +kernel
theorem dX1_copyFrom_16 : decode cX1_copyFrom 16 = .ok (.aload_n 1, 1) := by decide +kernel
theorem dX1_copyFrom_17 : decode cX1_copyFrom 17 = .ok (.getfield 15, 3) := by decide +kernel
theorem dX1_copyFrom_20 : decode cX1_copyFrom 20 = .ok (.iconst 0, 1) := by decide +kernel
theorem dX1_copyFrom_21 : decode cX1_copyFrom 21 = .ok (.aload_n 0, 1) := by decide +kernel
theorem dX1_copyFrom_22 : decode cX1_copyFrom 22 = .ok (.getfield 15, 3) := by decide +kernel
theorem dX1_copyFrom_25 : decode cX1_copyFrom 25 = .ok (.iconst 0, 1) := by decide +kernel
theorem dX1_copyFrom_26 : decode cX1_copyFrom 26 = .ok (.bipush 6, 2) := by decide +kernel
theorem dX1_copyFrom_28 : decode cX1_copyFrom 28 = .ok (.invokestatic 51, 3) := by decide +kernel
theorem dX1_copyFrom_31 : decode cX1_copyFrom 31 = .ok (.aload_n 1, 1) := by decide +kernel
theorem dX1_copyFrom_32 : decode cX1_copyFrom 32 = .ok (.getfield 19, 3) := by decide +kernel
theorem dX1_copyFrom_35 : decode cX1_copyFrom 35 = .ok (.iconst 0, 1) := by decide +kernel
theorem dX1_copyFrom_36 : decode cX1_copyFrom 36 = .ok (.aload_n 0, 1) := by decide +kernel
theorem dX1_copyFrom_37 : decode cX1_copyFrom 37 = .ok (.getfield 19, 3) := by decide +kernel
theorem dX1_copyFrom_40 : decode cX1_copyFrom 40 = .ok (.iconst 0, 1) := by decide +kernel
theorem dX1_copyFrom_41 : decode cX1_copyFrom 41 = .ok (.bipush 6, 2) := by decide +kernel
theorem dX1_copyFrom_43 : decode cX1_copyFrom 43 = .ok (.invokestatic 51, 3) := by decide +kernel
theorem dX1_copyFrom_46 : decode cX1_copyFrom 46 = .ok (.aload_n 1, 1) := by decide +kernel
theorem dX1_copyFrom_47 : decode cX1_copyFrom 47 = .ok (.getfield 22, 3) := by decide +kernel
theorem dX1_copyFrom_50 : decode cX1_copyFrom 50 = .ok (.iconst 0, 1) := by decide +kernel
theorem dX1_copyFrom_51 : decode cX1_copyFrom 51 = .ok (.aload_n 0, 1) := by decide +kernel
theorem dX1_copyFrom_52 : decode cX1_copyFrom 52 = .ok (.getfield 22, 3) := by decide +kernel
theorem dX1_copyFrom_55 : decode cX1_copyFrom 55 = .ok (.iconst 0, 1) := by decide +kernel
theorem dX1_copyFrom_56 : decode cX1_copyFrom 56 = .ok (.bipush 6, 2) := by decide +kernel
theorem dX1_copyFrom_58 : decode cX1_copyFrom 58 = .ok (.invokestatic 51, 3) := by decide +kernel
theorem dX1_copyFrom_61 : decode cX1_copyFrom 61 = .ok (.iconst 0, 1) := by decide +kernel
theorem dX1_copyFrom_62 : decode cX1_copyFrom 62 = .ok (.istore_n 2, 1) := by decide +kernel
theorem dX1_copyFrom_63 : decode cX1_copyFrom 63 = .ok (.iload_n 2, 1) := by decide +kernel
theorem dX1_copyFrom_64 : decode cX1_copyFrom 64 = .ok (.bipush 6, 2) := by decide +kernel
theorem dX1_copyFrom_66 : decode cX1_copyFrom 66 = .ok (.if_icmp .ge 85, 3) := by decide +kernel
theorem dX1_copyFrom_69 : decode cX1_copyFrom 69 = .ok (.aload_n 1, 1) := by decide +kernel
theorem dX1_copyFrom_70 : decode cX1_copyFrom 70 = .ok (.getfield 27, 3) := by decide +kernel
theorem dX1_copyFrom_73 : decode cX1_copyFrom 73 = .ok (.iload_n 2, 1) := by decide +kernel
theorem dX1_copyFrom_74 : decode cX1_copyFrom 74 = .ok (.aaload, 1) := by decide +kernel
theorem dX1_copyFrom_75 : decode cX1_copyFrom 75 = .ok (.iconst 0, 1) := by decide +kernel
theorem dX1_copyFrom_76 : decode cX1_copyFrom 76 = .ok (.aload_n 0, 1) := by decide +kernel
theorem dX1_copyFrom_77 : decode cX1_copyFrom 77 = .ok (.getfield 27, 3) := by decide +kernel
theorem dX1_copyFrom_80 : decode cX1_copyFrom 80 = .ok (.iload_n 2, 1) := by decide +kernel
theorem dX1_copyFrom_81 : decode cX1_copyFrom 81 = .ok (.aaload, 1) := by decide +kernel
theorem dX1_copyFrom_82 : decode cX1_copyFrom 82 = .ok (.iconst 0, 1) := by decide +kernel
theorem dX1_copyFrom_83 : decode cX1_copyFrom 83 = .ok (.bipush 6, 2) := by decide +kernel
theorem dX1_copyFrom_85 : decode cX1_copyFrom 85 = .ok (.invokestatic 51, 3) := by decide +kernel
theorem dX1_copyFrom_88 : decode cX1_copyFrom 88 = .ok (.aload_n 1, 1) := by decide +kernel
theorem dX1_copyFrom_89 : decode cX1_copyFrom 89 = .ok (.getfield 30, 3) := by decide +kernel
theorem dX1_copyFrom_92 : decode cX1_copyFrom 92 = .ok (.iload_n 2, 1) := by decide +kernel
theorem dX1_copyFrom_93 : decode cX1_copyFrom 93 = .ok (.aaload, 1) := by decide +kernel
theorem dX1_copyFrom_94 : decode cX1_copyFrom 94 = .ok (.iconst 0, 1) := by decide +kernel
theorem dX1_copyFrom_95 : decode cX1_copyFrom 95 = .ok (.aload_n 0, 1) := by decide +kernel
theorem dX1_copyFrom_96 : decode cX1_copyFrom 96 = .ok (.getfield 30, 3) := by decide +kernel
theorem dX1_copyFrom_99 : decode cX1_copyFrom 99 = .ok (.iload_n 2, 1) := by decide +kernel
theorem dX1_copyFrom_100 : decode cX1_copyFrom 100 = .ok (.aaload, 1) := by decide +kernel
theorem dX1_copyFrom_101 : decode cX1_copyFrom 101 = .ok (.iconst 0, 1) := by decide +kernel
theorem dX1_copyFrom_102 : decode cX1_copyFrom 102 = .ok (.bipush 6, 2) := by decide +kernel
theorem dX1_copyFrom_104 : decode cX1_copyFrom 104 = .ok (.invokestatic 51, 3) := by decide +kernel
theorem dX1_copyFrom_107 : decode cX1_copyFrom 107 = .ok (.aload_n 1, 1) := by decide +kernel
theorem dX1_copyFrom_108 : decode cX1_copyFrom 108 = .ok (.getfield 33, 3) := by decide +kernel
theorem dX1_copyFrom_111 : decode cX1_copyFrom 111 = .ok (.iload_n 2, 1) := by decide +kernel
theorem dX1_copyFrom_112 : decode cX1_copyFrom 112 = .ok (.aaload, 1) := by decide +kernel
theorem dX1_copyFrom_113 : decode cX1_copyFrom 113 = .ok (.iconst 0, 1) := by decide +kernel
theorem dX1_copyFrom_114 : decode cX1_copyFrom 114 = .ok (.aload_n 0, 1) := by decide +kernel
theorem dX1_copyFrom_115 : decode cX1_copyFrom 115 = .ok (.getfield 33, 3) := by decide +kernel
theorem dX1_copyFrom_118 : decode cX1_copyFrom 118 = .ok (.iload_n 2, 1) := by decide +kernel
theorem dX1_copyFrom_119 : decode cX1_copyFrom 119 = .ok (.aaload, 1) := by decide +kernel
theorem dX1_copyFrom_120 : decode cX1_copyFrom 120 = .ok (.iconst 0, 1) := by decide +kernel
theorem dX1_copyFrom_121 : decode cX1_copyFrom 121 = .ok (.bipush 6, 2) := by decide +kernel
theorem dX1_copyFrom_123 : decode cX1_copyFrom 123 = .ok (.invokestatic 51, 3) := by decide +kernel
theorem dX1_copyFrom_126 : decode cX1_copyFrom 126 = .ok (.aload_n 1, 1) := by decide +kernel
theorem dX1_copyFrom_127 : decode cX1_copyFrom 127 = .ok (.getfield 36, 3) := by decide +kernel
theorem dX1_copyFrom_130 : decode cX1_copyFrom 130 = .ok (.iload_n 2, 1) := by decide +kernel
theorem dX1_copyFrom_131 : decode cX1_copyFrom 131 = .ok (.aaload, 1) := by decide +kernel
theorem dX1_copyFrom_132 : decode cX1_copyFrom 132 = .ok (.iconst 0, 1) := by decide +kernel
theorem dX1_copyFrom_133 : decode cX1_copyFrom 133 = .ok (.aload_n 0, 1) := by decide +kernel
theorem dX1_copyFrom_134 : decode cX1_copyFrom 134 = .ok (.getfield 36, 3) := by decide +kernel
theorem dX1_copyFrom_137 : decode cX1_copyFrom 137 = .ok (.iload_n 2, 1) := by decide +kernel
theorem dX1_copyFrom_138 : decode cX1_copyFrom 138 = .ok (.aaload, 1) := by decide +kernel
theorem dX1_copyFrom_139 : decode cX1_copyFrom 139 = .ok (.iconst 0, 1) := by decide +kernel
theorem dX1_copyFrom_140 : decode cX1_copyFrom 140 = .ok (.bipush 6, 2) := by decide +kernel
theorem dX1_copyFrom_142 : decode cX1_copyFrom 142 = .ok (.invokestatic 51, 3) := by decide +kernel
theorem dX1_copyFrom_145 : decode cX1_copyFrom 145 = .ok (.iinc 2 1, 3) := by decide +kernel
theorem dX1_copyFrom_148 : decode cX1_copyFrom 148 = .ok (.goto (-85), 3) := by decide +kernel
theorem dX1_copyFrom_151 : decode cX1_copyFrom 151 = .ok (.return_, 1) := by decide +kernel
theorem dX1_addPause_0 : decode cX1_addPause 0 = .ok (.iload_n 3, 1) := by decide +kernel
theorem dX1_addPause_1 : decode cX1_addPause 1 = .ok (.aload_n 0, 1) := by decide +kernel
theorem dX1_addPause_2 : decode cX1_addPause 2 = .ok (.getfield 27, 3) := by decide +kernel
theorem dX1_addPause_5 : decode cX1_addPause 5 = .ok (.iload_n 1, 1) := by decide +kernel
theorem dX1_addPause_6 : decode cX1_addPause 6 = .ok (.aaload, 1) := by decide +kernel
theorem dX1_addPause_7 : decode cX1_addPause 7 = .ok (.iload_n 2, 1) := by decide +kernel
theorem dX1_addPause_8 : decode cX1_addPause 8 = .ok (.iaload, 1) := by decide +kernel
theorem dX1_addPause_9 : decode cX1_addPause 9 = .ok (.if_icmp .gt 4, 3) := by decide +kernel
theorem dX1_addPause_12 : decode cX1_addPause 12 = .ok (.return_, 1) := by decide +kernel
theorem dX1_addPause_13 : decode cX1_addPause 13 = .ok (.aload_n 0, 1) := by decide +kernel
theorem dX1_addPause_14 : decode cX1_addPause 14 = .ok (.getfield 27, 3) := by decide +kernel
theorem dX1_addPause_17 : decode cX1_addPause 17 = .ok (.iload_n 1, 1) := by decide +kernel
theorem dX1_addPause_18 : decode cX1_addPause 18 = .ok (.aaload, 1) := by decide +kernel
theorem dX1_addPause_19 : decode cX1_addPause 19 = .ok (.iload_n 2, 1) := by decide +kernel
theorem dX1_addPause_20 : decode cX1_addPause 20 = .ok (.iload_n 3, 1) := by decide +kernel
theorem dX1_addPause_21 : decode cX1_addPause 21 = .ok (.iastore, 1) := by decide +kernel
theorem dX1_addPause_22 : decode cX1_addPause 22 = .ok (.aload_n 0, 1) := by decide +kernel
theorem dX1_addPause_23 : decode cX1_addPause 23 = .ok (.getfield 30, 3) := by decide +kernel
theorem dX1_addPause_26 : decode cX1_addPause 26 = .ok (.iload_n 1, 1) := by decide +kernel
theorem dX1_addPause_27 : decode cX1_addPause 27 = .ok (.aaload, 1) := by decide +kernel
theorem dX1_addPause_28 : decode cX1_addPause 28 = .ok (.iload_n 2, 1) := by decide +kernel
theorem dX1_addPause_29 : decode cX1_addPause 29 = .ok (.aload_n 0, 1) := by decide +kernel
theorem dX1_addPause_30 : decode cX1_addPause 30 = .ok (.getfield 43, 3) := by decide +kernel
theorem dX1_addPause_33 : decode cX1_addPause 33 = .ok (.iastore, 1) := by decide +kernel
theorem dX1_addPause_34 : decode cX1_addPause 34 = .ok (.aload_n 0, 1) := by decide +kernel
theorem dX1_addPause_35 : decode cX1_addPause 35 = .ok (.getfield 33, 3) := by decide +kernel
theorem dX1_addPause_38 : decode cX1_addPause 38 = .ok (.iload_n 1, 1) := by decide +kernel
theorem dX1_addPause_39 : decode cX1_addPause 39 = .ok (.aaload, 1) := by decide +kernel
theorem dX1_addPause_40 : decode cX1_addPause 40 = .ok (.iload_n 2, 1) := by decide +kernel
theorem dX1_addPause_41 : decode cX1_addPause 41 = .ok (.aload_n 0, 1) := by decide +kernel
theorem dX1_addPause_42 : decode cX1_addPause 42 = .ok (.getfield 39, 3) := by decide +kernel
theorem dX1_addPause_45 : decode cX1_addPause 45 = .ok (.iload_n 1, 1) := by decide +kernel
theorem dX1_addPause_46 : decode cX1_addPause 46 = .ok (.iload_n 3, 1) := by decide +kernel
theorem dX1_addPause_47 : decode cX1_addPause 47 = .ok (.invokevirtual 66, 3) := by decide +kernel
theorem dX1_addPause_50 : decode cX1_addPause 50 = .ok (.iastore, 1) := by decide +kernel
theorem dX1_addPause_51 : decode cX1_addPause 51 = .ok (.aload_n 0, 1) := by decide +kernel
theorem dX1_addPause_52 : decode cX1_addPause 52 = .ok (.getfield 36, 3) := by decide +kernel
theorem dX1_addPause_55 : decode cX1_addPause 55 = .ok (.iload_n 1, 1) := by decide +kernel
theorem dX1_addPause_56 : decode cX1_addPause 56 = .ok (.aaload, 1) := by decide +kernel
theorem dX1_addPause_57 : decode cX1_addPause 57 = .ok (.iload_n 2, 1) := by decide +kernel
theorem dX1_addPause_58 : decode cX1_addPause 58 = .ok (.aload_n 0, 1) := by decide +kernel
theorem dX1_addPause_59 : decode cX1_addPause 59 = .ok (.getfield 33, 3) := by decide +kernel
theorem dX1_addPause_62 : decode cX1_addPause 62 = .ok (.iload_n 1, 1) := by decide +kernel
theorem dX1_addPause_63 : decode cX1_addPause 63 = .ok (.aaload, 1) := by decide +kernel
theorem dX1_addPause_64 : decode cX1_addPause 64 = .ok (.iload_n 2, 1) := by decide +kernel
theorem dX1_addPause_65 : decode cX1_addPause 65 = .ok (.iaload, 1) := by decide +kernel
theorem dX1_addPause_66 : decode cX1_addPause 66 = .ok (.bipush 9, 2) := by decide +kernel
theorem dX1_addPause_68 : decode cX1_addPause 68 = .ok (.if_icmp .lt 19, 3) := by decide +kernel
theorem dX1_addPause_71 : decode cX1_addPause 71 = .ok (.aload_n 0, 1) := by decide +kernel
theorem dX1_addPause_72 : decode cX1_addPause 72 = .ok (.getfield 39, 3) := by decide +kernel
theorem dX1_addPause_75 : decode cX1_addPause 75 = .ok (.iload_n 1, 1) := by decide +kernel
theorem dX1_addPause_76 : decode cX1_addPause 76 = .ok (.iload_n 2, 1) := by decide +kernel
theorem dX1_addPause_77 : decode cX1_addPause 77 = .ok (.aload_n 0, 1) := by decide +kernel
theorem dX1_addPause_78 : decode cX1_addPause 78 = .ok (.getfield 43, 3) := by decide +kernel
theorem dX1_addPause_81 : decode cX1_addPause 81 = .ok (.invokevirtual 70, 3) := by decide +kernel
theorem dX1_addPause_84 : decode cX1_addPause 84 = .ok (.goto 5, 3) := by decide +kernel
theorem dX1_addPause_87 : decode cX1_addPause 87 = .ok (.bipush (-4), 2) := by decide +kernel
theorem dX1_addPause_89 : decode cX1_addPause 89 = .ok (.iastore, 1) := by decide +kernel
theorem dX1_addPause_90 : decode cX1_addPause 90 = .ok (.return_, 1) := by decide +kernel
theorem dX1_addToldPauses_0 : decode cX1_addToldPauses 0 = .ok (.iconst 0, 1) := by decide +kernel
theorem dX1_addToldPauses_1 : decode cX1_addToldPauses 1 = .ok (.istore_n 1, 1) := by decide +kernel
theorem dX1_addToldPauses_2 : decode cX1_addToldPauses 2 = .ok (.iload_n 1, 1) := by decide +kernel
theorem dX1_addToldPauses_3 : decode cX1_addToldPauses 3 = .ok (.aload_n 0, 1) := by decide +kernel
theorem dX1_addToldPauses_4 : decode cX1_addToldPauses 4 = .ok (.getfield 39, 3) := by decide +kernel
theorem dX1_addToldPauses_7 : decode cX1_addToldPauses 7 = .ok (.getfield 74, 3) := by decide +kernel
theorem dX1_addToldPauses_10 : decode cX1_addToldPauses 10 = .ok (.if_icmp .ge 72, 3) := by decide +kernel
theorem dX1_addToldPauses_13 : decode cX1_addToldPauses 13 = .ok (.aload_n 0, 1) := by decide +kernel
theorem dX1_addToldPauses_14 : decode cX1_addToldPauses 14 = .ok (.getfield 39, 3) := by decide +kernel
theorem dX1_addToldPauses_17 : decode cX1_addToldPauses 17 = .ok (.getfield 77, 3) := by decide +kernel
theorem dX1_addToldPauses_20 : decode cX1_addToldPauses 20 = .ok (.iload_n 1, 1) := by decide +kernel
theorem dX1_addToldPauses_21 : decode cX1_addToldPauses 21 = .ok (.iaload, 1) := by decide +kernel
theorem dX1_addToldPauses_22 : decode cX1_addToldPauses 22 = .ok (.aload_n 0, 1) := by decide +kernel
theorem dX1_addToldPauses_23 : decode cX1_addToldPauses 23 = .ok (.getfield 43, 3) := by decide +kernel
theorem dX1_addToldPauses_26 : decode cX1_addToldPauses 26 = .ok (.if_icmp .ne 50, 3) := by decide +kernel
theorem dX1_addToldPauses_29 : decode cX1_addToldPauses 29 = .ok (.aload_n 0, 1) := by decide +kernel
theorem dX1_addToldPauses_30 : decode cX1_addToldPauses 30 = .ok (.getfield 39, 3) := by decide +kernel
theorem dX1_addToldPauses_33 : decode cX1_addToldPauses 33 = .ok (.getfield 80, 3) := by decide +kernel
theorem dX1_addToldPauses_36 : decode cX1_addToldPauses 36 = .ok (.iload_n 1, 1) := by decide +kernel
theorem dX1_addToldPauses_37 : decode cX1_addToldPauses 37 = .ok (.iaload, 1) := by decide +kernel
theorem dX1_addToldPauses_38 : decode cX1_addToldPauses 38 = .ok (.aload_n 0, 1) := by decide +kernel
theorem dX1_addToldPauses_39 : decode cX1_addToldPauses 39 = .ok (.getfield 9, 3) := by decide +kernel
theorem dX1_addToldPauses_42 : decode cX1_addToldPauses 42 = .ok (.if_icmp .eq 34, 3) := by decide +kernel
theorem dX1_addToldPauses_45 : decode cX1_addToldPauses 45 = .ok (.aload_n 0, 1) := by decide +kernel
theorem dX1_addToldPauses_46 : decode cX1_addToldPauses 46 = .ok (.aload_n 0, 1) := by decide +kernel
theorem dX1_addToldPauses_47 : decode cX1_addToldPauses 47 = .ok (.getfield 39, 3) := by decide +kernel
theorem dX1_addToldPauses_50 : decode cX1_addToldPauses 50 = .ok (.getfield 80, 3) := by decide +kernel
theorem dX1_addToldPauses_53 : decode cX1_addToldPauses 53 = .ok (.iload_n 1, 1) := by decide +kernel
theorem dX1_addToldPauses_54 : decode cX1_addToldPauses 54 = .ok (.iaload, 1) := by decide +kernel
theorem dX1_addToldPauses_55 : decode cX1_addToldPauses 55 = .ok (.aload_n 0, 1) := by decide +kernel
theorem dX1_addToldPauses_56 : decode cX1_addToldPauses 56 = .ok (.getfield 39, 3) := by decide +kernel
theorem dX1_addToldPauses_59 : decode cX1_addToldPauses 59 = .ok (.getfield 83, 3) := by decide +kernel
theorem dX1_addToldPauses_62 : decode cX1_addToldPauses 62 = .ok (.iload_n 1, 1) := by decide +kernel
theorem dX1_addToldPauses_63 : decode cX1_addToldPauses 63 = .ok (.iaload, 1) := by decide +kernel
theorem dX1_addToldPauses_64 : decode cX1_addToldPauses 64 = .ok (.aload_n 0, 1) := by decide +kernel
theorem dX1_addToldPauses_65 : decode cX1_addToldPauses 65 = .ok (.getfield 39, 3) := by decide +kernel
theorem dX1_addToldPauses_68 : decode cX1_addToldPauses 68 = .ok (.getfield 86, 3) := by decide +kernel
theorem dX1_addToldPauses_71 : decode cX1_addToldPauses 71 = .ok (.iload_n 1, 1) := by decide +kernel
theorem dX1_addToldPauses_72 : decode cX1_addToldPauses 72 = .ok (.iaload, 1) := by decide +kernel
theorem dX1_addToldPauses_73 : decode cX1_addToldPauses 73 = .ok (.invokevirtual 89, 3) := by decide +kernel
theorem dX1_addToldPauses_76 : decode cX1_addToldPauses 76 = .ok (.iinc 1 1, 3) := by decide +kernel
theorem dX1_addToldPauses_79 : decode cX1_addToldPauses 79 = .ok (.goto (-77), 3) := by decide +kernel
theorem dX1_addToldPauses_82 : decode cX1_addToldPauses 82 = .ok (.return_, 1) := by decide +kernel
theorem dX1_isFree_0 : decode cX1_isFree 0 = .ok (.aload_n 0, 1) := by decide +kernel
theorem dX1_isFree_1 : decode cX1_isFree 1 = .ok (.getfield 19, 3) := by decide +kernel
theorem dX1_isFree_4 : decode cX1_isFree 4 = .ok (.iload_n 1, 1) := by decide +kernel
theorem dX1_isFree_5 : decode cX1_isFree 5 = .ok (.iaload, 1) := by decide +kernel
theorem dX1_isFree_6 : decode cX1_isFree 6 = .ok (.bipush (-4), 2) := by decide +kernel
theorem dX1_isFree_8 : decode cX1_isFree 8 = .ok (.if_icmp .ne 7, 3) := by decide +kernel
theorem dX1_isFree_11 : decode cX1_isFree 11 = .ok (.iconst 1, 1) := by decide +kernel
theorem dX1_isFree_12 : decode cX1_isFree 12 = .ok (.goto 4, 3) := by decide +kernel
theorem dX1_isFree_15 : decode cX1_isFree 15 = .ok (.iconst 0, 1) := by decide +kernel
theorem dX1_isFree_16 : decode cX1_isFree 16 = .ok (.ireturn, 1) := by decide +kernel
theorem dX1_claimantOf_0 : decode cX1_claimantOf 0 = .ok (.bipush (-4), 2) := by decide +kernel
theorem dX1_claimantOf_2 : decode cX1_claimantOf 2 = .ok (.istore_n 2, 1) := by decide +kernel
theorem dX1_claimantOf_3 : decode cX1_claimantOf 3 = .ok (.bipush 8, 2) := by decide +kernel
theorem dX1_claimantOf_5 : decode cX1_claimantOf 5 = .ok (.istore_n 3, 1) := by decide +kernel
theorem dX1_claimantOf_6 : decode cX1_claimantOf 6 = .ok (.iconst 0, 1) := by decide +kernel
theorem dX1_claimantOf_7 : decode cX1_claimantOf 7 = .ok (.istore 4, 2) := by decide +kernel
theorem dX1_claimantOf_9 : decode cX1_claimantOf 9 = .ok (.iload 4, 2) := by decide +kernel
theorem dX1_claimantOf_11 : decode cX1_claimantOf 11 = .ok (.aload_n 0, 1) := by decide +kernel
theorem dX1_claimantOf_12 : decode cX1_claimantOf 12 = .ok (.getfield 39, 3) := by decide +kernel
theorem dX1_claimantOf_15 : decode cX1_claimantOf 15 = .ok (.getfield 93, 3) := by decide +kernel
theorem dX1_claimantOf_18 : decode cX1_claimantOf 18 = .ok (.if_icmp .ge 35, 3) := by decide +kernel
theorem dX1_claimantOf_21 : decode cX1_claimantOf 21 = .ok (.aload_n 0, 1) := by decide +kernel
theorem dX1_claimantOf_22 : decode cX1_claimantOf 22 = .ok (.getfield 33, 3) := by decide +kernel
theorem dX1_claimantOf_25 : decode cX1_claimantOf 25 = .ok (.iload 4, 2) := by decide +kernel
theorem dX1_claimantOf_27 : decode cX1_claimantOf 27 = .ok (.aaload, 1) := by decide +kernel
theorem dX1_claimantOf_28 : decode cX1_claimantOf 28 = .ok (.iload_n 1, 1) := by decide +kernel
theorem dX1_claimantOf_29 : decode cX1_claimantOf 29 = .ok (.iaload, 1) := by decide +kernel
theorem dX1_claimantOf_30 : decode cX1_claimantOf 30 = .ok (.iload_n 3, 1) := by decide +kernel
theorem dX1_claimantOf_31 : decode cX1_claimantOf 31 = .ok (.if_icmp .le 16, 3) := by decide +kernel
theorem dX1_claimantOf_34 : decode cX1_claimantOf 34 = .ok (.iload 4, 2) := by decide +kernel
theorem dX1_claimantOf_36 : decode cX1_claimantOf 36 = .ok (.istore_n 2, 1) := by decide +kernel
theorem dX1_claimantOf_37 : decode cX1_claimantOf 37 = .ok (.aload_n 0, 1) := by decide +kernel
theorem dX1_claimantOf_38 : decode cX1_claimantOf 38 = .ok (.getfield 33, 3) := by decide +kernel
theorem dX1_claimantOf_41 : decode cX1_claimantOf 41 = .ok (.iload 4, 2) := by decide +kernel
theorem dX1_claimantOf_43 : decode cX1_claimantOf 43 = .ok (.aaload, 1) := by decide +kernel
theorem dX1_claimantOf_44 : decode cX1_claimantOf 44 = .ok (.iload_n 1, 1) := by decide +kernel
theorem dX1_claimantOf_45 : decode cX1_claimantOf 45 = .ok (.iaload, 1) := by decide +kernel
theorem dX1_claimantOf_46 : decode cX1_claimantOf 46 = .ok (.istore_n 3, 1) := by decide +kernel
theorem dX1_claimantOf_47 : decode cX1_claimantOf 47 = .ok (.iinc 4 1, 3) := by decide +kernel
theorem dX1_claimantOf_50 : decode cX1_claimantOf 50 = .ok (.goto (-41), 3) := by decide +kernel
theorem dX1_claimantOf_53 : decode cX1_claimantOf 53 = .ok (.iload_n 2, 1) := by decide +kernel
theorem dX1_claimantOf_54 : decode cX1_claimantOf 54 = .ok (.ireturn, 1) := by decide +kernel
theorem dX1_holdFair_0 : decode cX1_holdFair 0 = .ok (.iconst 0, 1) := by decide +kernel
theorem dX1_holdFair_1 : decode cX1_holdFair 1 = .ok (.istore_n 1, 1) := by decide +kernel
theorem dX1_holdFair_2 : decode cX1_holdFair 2 = .ok (.iconst 0, 1) := by decide +kernel
theorem dX1_holdFair_3 : decode cX1_holdFair 3 = .ok (.istore_n 2, 1) := by decide +kernel
theorem dX1_holdFair_4 : decode cX1_holdFair 4 = .ok (.iload_n 2, 1) := by decide +kernel
theorem dX1_holdFair_5 : decode cX1_holdFair 5 = .ok (.aload_n 0, 1) := by decide +kernel
theorem dX1_holdFair_6 : decode cX1_holdFair 6 = .ok (.getfield 39, 3) := by decide +kernel
theorem dX1_holdFair_9 : decode cX1_holdFair 9 = .ok (.getfield 96, 3) := by decide +kernel
theorem dX1_holdFair_12 : decode cX1_holdFair 12 = .ok (.if_icmp .ge 28, 3) := by decide +kernel
theorem dX1_holdFair_15 : decode cX1_holdFair 15 = .ok (.aload_n 0, 1) := by decide +kernel
theorem dX1_holdFair_16 : decode cX1_holdFair 16 = .ok (.iload_n 2, 1) := by decide +kernel
theorem dX1_holdFair_17 : decode cX1_holdFair 17 = .ok (.invokevirtual 99, 3) := by decide +kernel
theorem dX1_holdFair_20 : decode cX1_holdFair 20 = .ok (.ifCond .eq 14, 3) := by decide +kernel
theorem dX1_holdFair_23 : decode cX1_holdFair 23 = .ok (.aload_n 0, 1) := by decide +kernel
theorem dX1_holdFair_24 : decode cX1_holdFair 24 = .ok (.iload_n 2, 1) := by decide +kernel
theorem dX1_holdFair_25 : decode cX1_holdFair 25 = .ok (.invokevirtual 103, 3) := by decide +kernel
theorem dX1_holdFair_28 : decode cX1_holdFair 28 = .ok (.ifCond .eq 6, 3) := by decide +kernel
theorem dX1_holdFair_31 : decode cX1_holdFair 31 = .ok (.iinc 1 1, 3) := by decide +kernel
theorem dX1_holdFair_34 : decode cX1_holdFair 34 = .ok (.iinc 2 1, 3) := by decide +kernel
theorem dX1_holdFair_37 : decode cX1_holdFair 37 = .ok (.goto (-33), 3) := by decide +kernel
theorem dX1_holdFair_40 : decode cX1_holdFair 40 = .ok (.iconst 0, 1) := by decide +kernel
theorem dX1_holdFair_41 : decode cX1_holdFair 41 = .ok (.istore_n 2, 1) := by decide +kernel
theorem dX1_holdFair_42 : decode cX1_holdFair 42 = .ok (.iload_n 2, 1) := by decide +kernel
theorem dX1_holdFair_43 : decode cX1_holdFair 43 = .ok (.aload_n 0, 1) := by decide +kernel
theorem dX1_holdFair_44 : decode cX1_holdFair 44 = .ok (.getfield 39, 3) := by decide +kernel
theorem dX1_holdFair_47 : decode cX1_holdFair 47 = .ok (.getfield 93, 3) := by decide +kernel
theorem dX1_holdFair_50 : decode cX1_holdFair 50 = .ok (.if_icmp .ge 35, 3) := by decide +kernel
theorem dX1_holdFair_53 : decode cX1_holdFair 53 = .ok (.aload_n 0, 1) := by decide +kernel
theorem dX1_holdFair_54 : decode cX1_holdFair 54 = .ok (.getfield 15, 3) := by decide +kernel
theorem dX1_holdFair_57 : decode cX1_holdFair 57 = .ok (.iload_n 2, 1) := by decide +kernel
theorem dX1_holdFair_58 : decode cX1_holdFair 58 = .ok (.aload_n 0, 1) := by decide +kernel
theorem dX1_holdFair_59 : decode cX1_holdFair 59 = .ok (.getfield 15, 3) := by decide +kernel
theorem dX1_holdFair_62 : decode cX1_holdFair 62 = .ok (.iload_n 2, 1) := by decide +kernel
theorem dX1_holdFair_63 : decode cX1_holdFair 63 = .ok (.iaload, 1) := by decide +kernel
theorem dX1_holdFair_64 : decode cX1_holdFair 64 = .ok (.aload_n 0, 1) := by decide +kernel
theorem dX1_holdFair_65 : decode cX1_holdFair 65 = .ok (.getfield 39, 3) := by decide +kernel
theorem dX1_holdFair_68 : decode cX1_holdFair 68 = .ok (.getfield 106, 3) := by decide +kernel
theorem dX1_holdFair_71 : decode cX1_holdFair 71 = .ok (.iadd, 1) := by decide +kernel
theorem dX1_holdFair_72 : decode cX1_holdFair 72 = .ok (.sipush 999, 3) := by decide +kernel
theorem dX1_holdFair_75 : decode cX1_holdFair 75 = .ok (.invokestatic 109, 3) := by decide +kernel
theorem dX1_holdFair_78 : decode cX1_holdFair 78 = .ok (.iastore, 1) := by decide +kernel
theorem dX1_holdFair_79 : decode cX1_holdFair 79 = .ok (.iinc 2 1, 3) := by decide +kernel
theorem dX1_holdFair_82 : decode cX1_holdFair 82 = .ok (.goto (-40), 3) := by decide +kernel
theorem dX1_holdFair_85 : decode cX1_holdFair 85 = .ok (.aload_n 0, 1) := by decide +kernel
theorem dX1_holdFair_86 : decode cX1_holdFair 86 = .ok (.dup, 1) := by decide +kernel
theorem dX1_holdFair_87 : decode cX1_holdFair 87 = .ok (.getfield 43, 3) := by decide +kernel
theorem dX1_holdFair_90 : decode cX1_holdFair 90 = .ok (.iconst 1, 1) := by decide +kernel
theorem dX1_holdFair_91 : decode cX1_holdFair 91 = .ok (.iadd, 1) := by decide +kernel
theorem dX1_holdFair_92 : decode cX1_holdFair 92 = .ok (.putfield 43, 3) := by decide +kernel
theorem dX1_holdFair_95 : decode cX1_holdFair 95 = .ok (.aload_n 0, 1) := by decide +kernel
theorem dX1_holdFair_96 : decode cX1_holdFair 96 = .ok (.invokevirtual 63, 3) := by decide +kernel
theorem dX1_holdFair_99 : decode cX1_holdFair 99 = .ok (.iload_n 1, 1) := by decide +kernel
theorem dX1_holdFair_100 : decode cX1_holdFair 100 = .ok (.ireturn, 1) := by decide +kernel
theorem dX1_holdFairs_0 : decode cX1_holdFairs 0 = .ok (.iconst 0, 1) := by decide +kernel
theorem dX1_holdFairs_1 : decode cX1_holdFairs 1 = .ok (.istore_n 2, 1) := by decide +kernel
theorem dX1_holdFairs_2 : decode cX1_holdFairs 2 = .ok (.iload_n 2, 1) := by decide +kernel
theorem dX1_holdFairs_3 : decode cX1_holdFairs 3 = .ok (.iload_n 1, 1) := by decide +kernel
theorem dX1_holdFairs_4 : decode cX1_holdFairs 4 = .ok (.if_icmp .ge 14, 3) := by decide +kernel
theorem dX1_holdFairs_7 : decode cX1_holdFairs 7 = .ok (.aload_n 0, 1) := by decide +kernel
theorem dX1_holdFairs_8 : decode cX1_holdFairs 8 = .ok (.invokevirtual 114, 3) := by decide +kernel
theorem dX1_holdFairs_11 : decode cX1_holdFairs 11 = .ok (.pop, 1) := by decide +kernel
theorem dX1_holdFairs_12 : decode cX1_holdFairs 12 = .ok (.iinc 2 1, 3) := by decide +kernel
theorem dX1_holdFairs_15 : decode cX1_holdFairs 15 = .ok (.goto (-13), 3) := by decide +kernel
theorem dX1_holdFairs_18 : decode cX1_holdFairs 18 = .ok (.return_, 1) := by decide +kernel
theorem dX1_fairsTillGone_0 : decode cX1_fairsTillGone 0 = .ok (.iconst 0, 1) := by decide +kernel
theorem dX1_fairsTillGone_1 : decode cX1_fairsTillGone 1 = .ok (.istore_n 2, 1) := by decide +kernel
theorem dX1_fairsTillGone_2 : decode cX1_fairsTillGone 2 = .ok (.iload_n 2, 1) := by decide +kernel
theorem dX1_fairsTillGone_3 : decode cX1_fairsTillGone 3 = .ok (.bipush 9, 2) := by decide +kernel
theorem dX1_fairsTillGone_5 : decode cX1_fairsTillGone 5 = .ok (.if_icmp .ge 22, 3) := by decide +kernel
theorem dX1_fairsTillGone_8 : decode cX1_fairsTillGone 8 = .ok (.aload_n 0, 1) := by decide +kernel
theorem dX1_fairsTillGone_9 : decode cX1_fairsTillGone 9 = .ok (.iload_n 1, 1) := by decide +kernel
theorem dX1_fairsTillGone_10 : decode cX1_fairsTillGone 10 = .ok (.invokevirtual 99, 3) := by decide +kernel
theorem dX1_fairsTillGone_13 : decode cX1_fairsTillGone 13 = .ok (.ifCond .eq 14, 3) := by decide +kernel
theorem dX1_fairsTillGone_16 : decode cX1_fairsTillGone 16 = .ok (.aload_n 0, 1) := by decide +kernel
theorem dX1_fairsTillGone_17 : decode cX1_fairsTillGone 17 = .ok (.invokevirtual 114, 3) := by decide +kernel
theorem dX1_fairsTillGone_20 : decode cX1_fairsTillGone 20 = .ok (.pop, 1) := by decide +kernel
theorem dX1_fairsTillGone_21 : decode cX1_fairsTillGone 21 = .ok (.iinc 2 1, 3) := by decide +kernel
theorem dX1_fairsTillGone_24 : decode cX1_fairsTillGone 24 = .ok (.goto (-22), 3) := by decide +kernel
theorem dX1_fairsTillGone_27 : decode cX1_fairsTillGone 27 = .ok (.aload_n 0, 1) := by decide +kernel
theorem dX1_fairsTillGone_28 : decode cX1_fairsTillGone 28 = .ok (.iload_n 1, 1) := by decide +kernel
theorem dX1_fairsTillGone_29 : decode cX1_fairsTillGone 29 = .ok (.invokevirtual 99, 3) := by decide +kernel
theorem dX1_fairsTillGone_32 : decode cX1_fairsTillGone 32 = .ok (.ifCond .eq 8, 3) := by decide +kernel
theorem dX1_fairsTillGone_35 : decode cX1_fairsTillGone 35 = .ok (.bipush (-4), 2) := by decide +kernel
theorem dX1_fairsTillGone_37 : decode cX1_fairsTillGone 37 = .ok (.goto 4, 3) := by decide +kernel
theorem dX1_fairsTillGone_40 : decode cX1_fairsTillGone 40 = .ok (.iload_n 2, 1) := by decide +kernel
theorem dX1_fairsTillGone_41 : decode cX1_fairsTillGone 41 = .ok (.ireturn, 1) := by decide +kernel
theorem dX1_sell_0 : decode cX1_sell 0 = .ok (.aload_n 0, 1) := by decide +kernel
theorem dX1_sell_1 : decode cX1_sell 1 = .ok (.iload_n 1, 1) := by decide +kernel
theorem dX1_sell_2 : decode cX1_sell 2 = .ok (.invokevirtual 118, 3) := by decide +kernel
theorem dX1_sell_5 : decode cX1_sell 5 = .ok (.istore_n 2, 1) := by decide +kernel
theorem dX1_sell_6 : decode cX1_sell 6 = .ok (.iload_n 2, 1) := by decide +kernel
theorem dX1_sell_7 : decode cX1_sell 7 = .ok (.bipush (-4), 2) := by decide +kernel
theorem dX1_sell_9 : decode cX1_sell 9 = .ok (.if_icmp .ne 5, 3) := by decide +kernel
theorem dX1_sell_12 : decode cX1_sell 12 = .ok (.iconst 0, 1) := by decide +kernel
theorem dX1_sell_13 : decode cX1_sell 13 = .ok (.ireturn, 1) := by decide +kernel
theorem dX1_sell_14 : decode cX1_sell 14 = .ok (.aload_n 0, 1) := by decide +kernel
theorem dX1_sell_15 : decode cX1_sell 15 = .ok (.getfield 36, 3) := by decide +kernel
theorem dX1_sell_18 : decode cX1_sell 18 = .ok (.iload_n 2, 1) := by decide +kernel
theorem dX1_sell_19 : decode cX1_sell 19 = .ok (.aaload, 1) := by decide +kernel
theorem dX1_sell_20 : decode cX1_sell 20 = .ok (.iload_n 1, 1) := by decide +kernel
theorem dX1_sell_21 : decode cX1_sell 21 = .ok (.iaload, 1) := by decide +kernel
theorem dX1_sell_22 : decode cX1_sell 22 = .ok (.istore_n 3, 1) := by decide +kernel
theorem dX1_sell_23 : decode cX1_sell 23 = .ok (.iload_n 2, 1) := by decide +kernel
theorem dX1_sell_24 : decode cX1_sell 24 = .ok (.istore 4, 2) := by decide +kernel
theorem dX1_sell_26 : decode cX1_sell 26 = .ok (.aload_n 0, 1) := by decide +kernel
theorem dX1_sell_27 : decode cX1_sell 27 = .ok (.getfield 15, 3) := by decide +kernel
theorem dX1_sell_30 : decode cX1_sell 30 = .ok (.iload_n 2, 1) := by decide +kernel
theorem dX1_sell_31 : decode cX1_sell 31 = .ok (.iaload, 1) := by decide +kernel
theorem dX1_sell_32 : decode cX1_sell 32 = .ok (.iload_n 3, 1) := by decide +kernel
theorem dX1_sell_33 : decode cX1_sell 33 = .ok (.if_icmp .ge 44, 3) := by decide +kernel
theorem dX1_sell_36 : decode cX1_sell 36 = .ok (.aload_n 0, 1) := by decide +kernel
theorem dX1_sell_37 : decode cX1_sell 37 = .ok (.getfield 22, 3) := by decide +kernel
theorem dX1_sell_40 : decode cX1_sell 40 = .ok (.iload_n 1, 1) := by decide +kernel
theorem dX1_sell_41 : decode cX1_sell 41 = .ok (.aload_n 0, 1) := by decide +kernel
theorem dX1_sell_42 : decode cX1_sell 42 = .ok (.getfield 22, 3) := by decide +kernel
theorem dX1_sell_45 : decode cX1_sell 45 = .ok (.iload_n 1, 1) := by decide +kernel
theorem dX1_sell_46 : decode cX1_sell 46 = .ok (.iaload, 1) := by decide +kernel
theorem dX1_sell_47 : decode cX1_sell 47 = .ok (.iconst 1, 1) := by decide +kernel
theorem dX1_sell_48 : decode cX1_sell 48 = .ok (.iadd, 1) := by decide +kernel
theorem dX1_sell_49 : decode cX1_sell 49 = .ok (.iconst 3, 1) := by decide +kernel
theorem dX1_sell_50 : decode cX1_sell 50 = .ok (.invokestatic 109, 3) := by decide +kernel
theorem dX1_sell_53 : decode cX1_sell 53 = .ok (.iastore, 1) := by decide +kernel
theorem dX1_sell_54 : decode cX1_sell 54 = .ok (.aload_n 0, 1) := by decide +kernel
theorem dX1_sell_55 : decode cX1_sell 55 = .ok (.getfield 22, 3) := by decide +kernel
theorem dX1_sell_58 : decode cX1_sell 58 = .ok (.iload_n 1, 1) := by decide +kernel
theorem dX1_sell_59 : decode cX1_sell 59 = .ok (.iaload, 1) := by decide +kernel
theorem dX1_sell_60 : decode cX1_sell 60 = .ok (.iconst 3, 1) := by decide +kernel
theorem dX1_sell_61 : decode cX1_sell 61 = .ok (.if_icmp .ne 12, 3) := by decide +kernel
theorem dX1_sell_64 : decode cX1_sell 64 = .ok (.aload_n 0, 1) := by decide +kernel
theorem dX1_sell_65 : decode cX1_sell 65 = .ok (.iload_n 2, 1) := by decide +kernel
theorem dX1_sell_66 : decode cX1_sell 66 = .ok (.iload_n 3, 1) := by decide +kernel
theorem dX1_sell_67 : decode cX1_sell 67 = .ok (.invokevirtual 122, 3) := by decide +kernel
theorem dX1_sell_70 : decode cX1_sell 70 = .ok (.goto 5, 3) := by decide +kernel
theorem dX1_sell_73 : decode cX1_sell 73 = .ok (.bipush (-4), 2) := by decide +kernel
theorem dX1_sell_75 : decode cX1_sell 75 = .ok (.istore 4, 2) := by decide +kernel
theorem dX1_sell_77 : decode cX1_sell 77 = .ok (.iload 4, 2) := by decide +kernel
theorem dX1_sell_79 : decode cX1_sell 79 = .ok (.bipush (-4), 2) := by decide +kernel
theorem dX1_sell_81 : decode cX1_sell 81 = .ok (.if_icmp .ne 5, 3) := by decide +kernel
theorem dX1_sell_84 : decode cX1_sell 84 = .ok (.iconst 0, 1) := by decide +kernel
theorem dX1_sell_85 : decode cX1_sell 85 = .ok (.ireturn, 1) := by decide +kernel
theorem dX1_sell_86 : decode cX1_sell 86 = .ok (.aload_n 0, 1) := by decide +kernel
theorem dX1_sell_87 : decode cX1_sell 87 = .ok (.getfield 15, 3) := by decide +kernel
theorem dX1_sell_90 : decode cX1_sell 90 = .ok (.iload 4, 2) := by decide +kernel
theorem dX1_sell_92 : decode cX1_sell 92 = .ok (.dup2, 1) := by decide +kernel
theorem dX1_sell_93 : decode cX1_sell 93 = .ok (.iaload, 1) := by decide +kernel
theorem dX1_sell_94 : decode cX1_sell 94 = .ok (.iload_n 3, 1) := by decide +kernel
theorem dX1_sell_95 : decode cX1_sell 95 = .ok (.isub, 1) := by decide +kernel
theorem dX1_sell_96 : decode cX1_sell 96 = .ok (.iastore, 1) := by decide +kernel
theorem dX1_sell_97 : decode cX1_sell 97 = .ok (.aload_n 0, 1) := by decide +kernel
theorem dX1_sell_98 : decode cX1_sell 98 = .ok (.getfield 19, 3) := by decide +kernel
theorem dX1_sell_101 : decode cX1_sell 101 = .ok (.iload_n 1, 1) := by decide +kernel
theorem dX1_sell_102 : decode cX1_sell 102 = .ok (.iload 4, 2) := by decide +kernel
theorem dX1_sell_104 : decode cX1_sell 104 = .ok (.iastore, 1) := by decide +kernel
theorem dX1_sell_105 : decode cX1_sell 105 = .ok (.iconst 1, 1) := by decide +kernel
theorem dX1_sell_106 : decode cX1_sell 106 = .ok (.ireturn, 1) := by decide +kernel
theorem dX1_buyerInsteadOf_0 : decode cX1_buyerInsteadOf 0 = .ok (.bipush (-4), 2) := by decide +kernel
theorem dX1_buyerInsteadOf_2 : decode cX1_buyerInsteadOf 2 = .ok (.istore_n 3, 1) := by decide +kernel
theorem dX1_buyerInsteadOf_3 : decode cX1_buyerInsteadOf 3 = .ok (.iload_n 2, 1) := by decide +kernel
theorem dX1_buyerInsteadOf_4 : decode cX1_buyerInsteadOf 4 = .ok (.istore 4, 2) := by decide +kernel
theorem dX1_buyerInsteadOf_6 : decode cX1_buyerInsteadOf 6 = .ok (.iconst 0, 1) := by decide +kernel
theorem dX1_buyerInsteadOf_7 : decode cX1_buyerInsteadOf 7 = .ok (.istore 5, 2) := by decide +kernel
theorem dX1_buyerInsteadOf_9 : decode cX1_buyerInsteadOf 9 = .ok (.iload 5, 2) := by decide +kernel
theorem dX1_buyerInsteadOf_11 : decode cX1_buyerInsteadOf 11 = .ok (.aload_n 0, 1) := by decide +kernel
theorem dX1_buyerInsteadOf_12 : decode cX1_buyerInsteadOf 12 = .ok (.getfield 39, 3) := by decide +kernel
theorem dX1_buyerInsteadOf_15 : decode cX1_buyerInsteadOf 15 = .ok (.getfield 93, 3) := by decide +kernel
theorem dX1_buyerInsteadOf_18 : decode cX1_buyerInsteadOf 18 = .ok (.if_icmp .ge 48, 3) := by decide +kernel
theorem dX1_buyerInsteadOf_21 : decode cX1_buyerInsteadOf 21 = .ok (.iload 5, 2) := by decide +kernel
theorem dX1_buyerInsteadOf_23 : decode cX1_buyerInsteadOf 23 = .ok (.iload_n 1, 1) := by decide +kernel
theorem dX1_buyerInsteadOf_24 : decode cX1_buyerInsteadOf 24 = .ok (.if_icmp .eq 36, 3) := by decide +kernel
theorem dX1_buyerInsteadOf_27 : decode cX1_buyerInsteadOf 27 = .ok (.aload_n 0, 1) := by decide +kernel
theorem dX1_buyerInsteadOf_28 : decode cX1_buyerInsteadOf 28 = .ok (.getfield 15, 3) := by decide +kernel
theorem dX1_buyerInsteadOf_31 : decode cX1_buyerInsteadOf 31 = .ok (.iload 5, 2) := by decide +kernel
theorem dX1_buyerInsteadOf_33 : decode cX1_buyerInsteadOf 33 = .ok (.iaload, 1) := by decide +kernel
theorem dX1_buyerInsteadOf_34 : decode cX1_buyerInsteadOf 34 = .ok (.iload_n 2, 1) := by decide +kernel
theorem dX1_buyerInsteadOf_35 : decode cX1_buyerInsteadOf 35 = .ok (.if_icmp .lt 25, 3) := by decide +kernel
theorem dX1_buyerInsteadOf_38 : decode cX1_buyerInsteadOf 38 = .ok (.aload_n 0, 1) := by decide +kernel
theorem dX1_buyerInsteadOf_39 : decode cX1_buyerInsteadOf 39 = .ok (.iload 5, 2) := by decide +kernel
theorem dX1_buyerInsteadOf_41 : decode cX1_buyerInsteadOf 41 = .ok (.invokevirtual 125, 3) := by decide +kernel
theorem dX1_buyerInsteadOf_44 : decode cX1_buyerInsteadOf 44 = .ok (.iload 4, 2) := by decide +kernel
theorem dX1_buyerInsteadOf_46 : decode cX1_buyerInsteadOf 46 = .ok (.if_icmp .le 14, 3) := by decide +kernel
theorem dX1_buyerInsteadOf_49 : decode cX1_buyerInsteadOf 49 = .ok (.iload 5, 2) := by decide +kernel
theorem dX1_buyerInsteadOf_51 : decode cX1_buyerInsteadOf 51 = .ok (.istore_n 3, 1) := by decide +kernel
theorem dX1_buyerInsteadOf_52 : decode cX1_buyerInsteadOf 52 = .ok (.aload_n 0, 1) := by decide +kernel
theorem dX1_buyerInsteadOf_53 : decode cX1_buyerInsteadOf 53 = .ok (.iload 5, 2) := by decide +kernel
theorem dX1_buyerInsteadOf_55 : decode cX1_buyerInsteadOf 55 = .ok (.invokevirtual 125, 3) := by decide +kernel
theorem dX1_buyerInsteadOf_58 : decode cX1_buyerInsteadOf 58 = .ok (.istore 4, 2) := by decide +kernel
theorem dX1_buyerInsteadOf_60 : decode cX1_buyerInsteadOf 60 = .ok (.iinc 5 1, 3) := by decide +kernel
theorem dX1_buyerInsteadOf_63 : decode cX1_buyerInsteadOf 63 = .ok (.goto (-54), 3) := by decide +kernel
theorem dX1_buyerInsteadOf_66 : decode cX1_buyerInsteadOf 66 = .ok (.iload_n 3, 1) := by decide +kernel
theorem dX1_buyerInsteadOf_67 : decode cX1_buyerInsteadOf 67 = .ok (.ireturn, 1) := by decide +kernel
theorem dX1_dearestOf_0 : decode cX1_dearestOf 0 = .ok (.bipush (-4), 2) := by decide +kernel
theorem dX1_dearestOf_2 : decode cX1_dearestOf 2 = .ok (.istore_n 2, 1) := by decide +kernel
theorem dX1_dearestOf_3 : decode cX1_dearestOf 3 = .ok (.iconst 0, 1) := by decide +kernel
theorem dX1_dearestOf_4 : decode cX1_dearestOf 4 = .ok (.istore_n 3, 1) := by decide +kernel
theorem dX1_dearestOf_5 : decode cX1_dearestOf 5 = .ok (.iload_n 3, 1) := by decide +kernel
theorem dX1_dearestOf_6 : decode cX1_dearestOf 6 = .ok (.aload_n 0, 1) := by decide +kernel
theorem dX1_dearestOf_7 : decode cX1_dearestOf 7 = .ok (.getfield 39, 3) := by decide +kernel
theorem dX1_dearestOf_10 : decode cX1_dearestOf 10 = .ok (.getfield 96, 3) := by decide +kernel
theorem dX1_dearestOf_13 : decode cX1_dearestOf 13 = .ok (.if_icmp .ge 30, 3) := by decide +kernel
theorem dX1_dearestOf_16 : decode cX1_dearestOf 16 = .ok (.aload_n 0, 1) := by decide +kernel
theorem dX1_dearestOf_17 : decode cX1_dearestOf 17 = .ok (.getfield 36, 3) := by decide +kernel
theorem dX1_dearestOf_20 : decode cX1_dearestOf 20 = .ok (.iload_n 1, 1) := by decide +kernel
theorem dX1_dearestOf_21 : decode cX1_dearestOf 21 = .ok (.aaload, 1) := by decide +kernel
theorem dX1_dearestOf_22 : decode cX1_dearestOf 22 = .ok (.iload_n 3, 1) := by decide +kernel
theorem dX1_dearestOf_23 : decode cX1_dearestOf 23 = .ok (.iaload, 1) := by decide +kernel
theorem dX1_dearestOf_24 : decode cX1_dearestOf 24 = .ok (.iload_n 2, 1) := by decide +kernel
theorem dX1_dearestOf_25 : decode cX1_dearestOf 25 = .ok (.if_icmp .le 12, 3) := by decide +kernel
theorem dX1_dearestOf_28 : decode cX1_dearestOf 28 = .ok (.aload_n 0, 1) := by decide +kernel
theorem dX1_dearestOf_29 : decode cX1_dearestOf 29 = .ok (.getfield 36, 3) := by decide +kernel
theorem dX1_dearestOf_32 : decode cX1_dearestOf 32 = .ok (.iload_n 1, 1) := by decide +kernel
theorem dX1_dearestOf_33 : decode cX1_dearestOf 33 = .ok (.aaload, 1) := by decide +kernel
theorem dX1_dearestOf_34 : decode cX1_dearestOf 34 = .ok (.iload_n 3, 1) := by decide +kernel
theorem dX1_dearestOf_35 : decode cX1_dearestOf 35 = .ok (.iaload, 1) := by decide +kernel
theorem dX1_dearestOf_36 : decode cX1_dearestOf 36 = .ok (.istore_n 2, 1) := by decide +kernel
theorem dX1_dearestOf_37 : decode cX1_dearestOf 37 = .ok (.iinc 3 1, 3) := by decide +kernel
theorem dX1_dearestOf_40 : decode cX1_dearestOf 40 = .ok (.goto (-35), 3) := by decide +kernel
theorem dX1_dearestOf_43 : decode cX1_dearestOf 43 = .ok (.iload_n 2, 1) := by decide +kernel
theorem dX1_dearestOf_44 : decode cX1_dearestOf 44 = .ok (.ireturn, 1) := by decide +kernel
theorem dX1_dearerTo_0 : decode cX1_dearerTo 0 = .ok (.iconst 0, 1) := by decide +kernel
theorem dX1_dearerTo_1 : decode cX1_dearerTo 1 = .ok (.istore_n 3, 1) := by decide +kernel
theorem dX1_dearerTo_2 : decode cX1_dearerTo 2 = .ok (.iconst 0, 1) := by decide +kernel
theorem dX1_dearerTo_3 : decode cX1_dearerTo 3 = .ok (.istore 4, 2) := by decide +kernel
theorem dX1_dearerTo_5 : decode cX1_dearerTo 5 = .ok (.iload 4, 2) := by decide +kernel
theorem dX1_dearerTo_7 : decode cX1_dearerTo 7 = .ok (.aload_n 0, 1) := by decide +kernel
theorem dX1_dearerTo_8 : decode cX1_dearerTo 8 = .ok (.getfield 39, 3) := by decide +kernel
theorem dX1_dearerTo_11 : decode cX1_dearerTo 11 = .ok (.getfield 96, 3) := by decide +kernel
theorem dX1_dearerTo_14 : decode cX1_dearerTo 14 = .ok (.if_icmp .ge 58, 3) := by decide +kernel
theorem dX1_dearerTo_17 : decode cX1_dearerTo 17 = .ok (.aload_n 0, 1) := by decide +kernel
theorem dX1_dearerTo_18 : decode cX1_dearerTo 18 = .ok (.getfield 36, 3) := by decide +kernel
theorem dX1_dearerTo_21 : decode cX1_dearerTo 21 = .ok (.iload_n 1, 1) := by decide +kernel
theorem dX1_dearerTo_22 : decode cX1_dearerTo 22 = .ok (.aaload, 1) := by decide +kernel
theorem dX1_dearerTo_23 : decode cX1_dearerTo 23 = .ok (.iload 4, 2) := by decide +kernel
theorem dX1_dearerTo_25 : decode cX1_dearerTo 25 = .ok (.iaload, 1) := by decide +kernel
theorem dX1_dearerTo_26 : decode cX1_dearerTo 26 = .ok (.aload_n 0, 1) := by decide +kernel
theorem dX1_dearerTo_27 : decode cX1_dearerTo 27 = .ok (.getfield 36, 3) := by decide +kernel
theorem dX1_dearerTo_30 : decode cX1_dearerTo 30 = .ok (.iload_n 1, 1) := by decide +kernel
theorem dX1_dearerTo_31 : decode cX1_dearerTo 31 = .ok (.aaload, 1) := by decide +kernel
theorem dX1_dearerTo_32 : decode cX1_dearerTo 32 = .ok (.iload_n 2, 1) := by decide +kernel
theorem dX1_dearerTo_33 : decode cX1_dearerTo 33 = .ok (.iaload, 1) := by decide +kernel
theorem dX1_dearerTo_34 : decode cX1_dearerTo 34 = .ok (.if_icmp .gt 29, 3) := by decide +kernel
theorem dX1_dearerTo_37 : decode cX1_dearerTo 37 = .ok (.aload_n 0, 1) := by decide +kernel
theorem dX1_dearerTo_38 : decode cX1_dearerTo 38 = .ok (.getfield 36, 3) := by decide +kernel
theorem dX1_dearerTo_41 : decode cX1_dearerTo 41 = .ok (.iload_n 1, 1) := by decide +kernel
theorem dX1_dearerTo_42 : decode cX1_dearerTo 42 = .ok (.aaload, 1) := by decide +kernel
theorem dX1_dearerTo_43 : decode cX1_dearerTo 43 = .ok (.iload 4, 2) := by decide +kernel
theorem dX1_dearerTo_45 : decode cX1_dearerTo 45 = .ok (.iaload, 1) := by decide +kernel
theorem dX1_dearerTo_46 : decode cX1_dearerTo 46 = .ok (.aload_n 0, 1) := by decide +kernel
theorem dX1_dearerTo_47 : decode cX1_dearerTo 47 = .ok (.getfield 36, 3) := by decide +kernel
theorem dX1_dearerTo_50 : decode cX1_dearerTo 50 = .ok (.iload_n 1, 1) := by decide +kernel
theorem dX1_dearerTo_51 : decode cX1_dearerTo 51 = .ok (.aaload, 1) := by decide +kernel
theorem dX1_dearerTo_52 : decode cX1_dearerTo 52 = .ok (.iload_n 2, 1) := by decide +kernel
theorem dX1_dearerTo_53 : decode cX1_dearerTo 53 = .ok (.iaload, 1) := by decide +kernel
theorem dX1_dearerTo_54 : decode cX1_dearerTo 54 = .ok (.if_icmp .ne 12, 3) := by decide +kernel
theorem dX1_dearerTo_57 : decode cX1_dearerTo 57 = .ok (.iload 4, 2) := by decide +kernel
theorem dX1_dearerTo_59 : decode cX1_dearerTo 59 = .ok (.iload_n 2, 1) := by decide +kernel
theorem dX1_dearerTo_60 : decode cX1_dearerTo 60 = .ok (.if_icmp .ge 6, 3) := by decide +kernel
theorem dX1_dearerTo_63 : decode cX1_dearerTo 63 = .ok (.iinc 3 1, 3) := by decide +kernel
theorem dX1_dearerTo_66 : decode cX1_dearerTo 66 = .ok (.iinc 4 1, 3) := by decide +kernel
theorem dX1_dearerTo_69 : decode cX1_dearerTo 69 = .ok (.goto (-64), 3) := by decide +kernel
theorem dX1_dearerTo_72 : decode cX1_dearerTo 72 = .ok (.iload_n 3, 1) := by decide +kernel
theorem dX1_dearerTo_73 : decode cX1_dearerTo 73 = .ok (.ireturn, 1) := by decide +kernel
theorem dX1_wantersOf_0 : decode cX1_wantersOf 0 = .ok (.iconst 0, 1) := by decide +kernel
theorem dX1_wantersOf_1 : decode cX1_wantersOf 1 = .ok (.istore_n 2, 1) := by decide +kernel
theorem dX1_wantersOf_2 : decode cX1_wantersOf 2 = .ok (.iconst 0, 1) := by decide +kernel
theorem dX1_wantersOf_3 : decode cX1_wantersOf 3 = .ok (.istore_n 3, 1) := by decide +kernel
theorem dX1_wantersOf_4 : decode cX1_wantersOf 4 = .ok (.iload_n 3, 1) := by decide +kernel
theorem dX1_wantersOf_5 : decode cX1_wantersOf 5 = .ok (.aload_n 0, 1) := by decide +kernel
theorem dX1_wantersOf_6 : decode cX1_wantersOf 6 = .ok (.getfield 39, 3) := by decide +kernel
theorem dX1_wantersOf_9 : decode cX1_wantersOf 9 = .ok (.getfield 93, 3) := by decide +kernel
theorem dX1_wantersOf_12 : decode cX1_wantersOf 12 = .ok (.if_icmp .ge 25, 3) := by decide +kernel
theorem dX1_wantersOf_15 : decode cX1_wantersOf 15 = .ok (.aload_n 0, 1) := by decide +kernel
theorem dX1_wantersOf_16 : decode cX1_wantersOf 16 = .ok (.getfield 36, 3) := by decide +kernel
theorem dX1_wantersOf_19 : decode cX1_wantersOf 19 = .ok (.iload_n 3, 1) := by decide +kernel
theorem dX1_wantersOf_20 : decode cX1_wantersOf 20 = .ok (.aaload, 1) := by decide +kernel
theorem dX1_wantersOf_21 : decode cX1_wantersOf 21 = .ok (.iload_n 1, 1) := by decide +kernel
theorem dX1_wantersOf_22 : decode cX1_wantersOf 22 = .ok (.iaload, 1) := by decide +kernel
theorem dX1_wantersOf_23 : decode cX1_wantersOf 23 = .ok (.bipush (-4), 2) := by decide +kernel
theorem dX1_wantersOf_25 : decode cX1_wantersOf 25 = .ok (.if_icmp .eq 6, 3) := by decide +kernel
theorem dX1_wantersOf_28 : decode cX1_wantersOf 28 = .ok (.iinc 2 1, 3) := by decide +kernel
theorem dX1_wantersOf_31 : decode cX1_wantersOf 31 = .ok (.iinc 3 1, 3) := by decide +kernel
theorem dX1_wantersOf_34 : decode cX1_wantersOf 34 = .ok (.goto (-30), 3) := by decide +kernel
theorem dX1_wantersOf_37 : decode cX1_wantersOf 37 = .ok (.iload_n 2, 1) := by decide +kernel
theorem dX1_wantersOf_38 : decode cX1_wantersOf 38 = .ok (.ireturn, 1) := by decide +kernel
theorem dX1_thingsOf_0 : decode cX1_thingsOf 0 = .ok (.iconst 0, 1) := by decide +kernel
theorem dX1_thingsOf_1 : decode cX1_thingsOf 1 = .ok (.istore_n 2, 1) := by decide +kernel
theorem dX1_thingsOf_2 : decode cX1_thingsOf 2 = .ok (.iconst 0, 1) := by decide +kernel
theorem dX1_thingsOf_3 : decode cX1_thingsOf 3 = .ok (.istore_n 3, 1) := by decide +kernel
theorem dX1_thingsOf_4 : decode cX1_thingsOf 4 = .ok (.iload_n 3, 1) := by decide +kernel
theorem dX1_thingsOf_5 : decode cX1_thingsOf 5 = .ok (.aload_n 0, 1) := by decide +kernel
theorem dX1_thingsOf_6 : decode cX1_thingsOf 6 = .ok (.getfield 39, 3) := by decide +kernel
theorem dX1_thingsOf_9 : decode cX1_thingsOf 9 = .ok (.getfield 96, 3) := by decide +kernel
theorem dX1_thingsOf_12 : decode cX1_thingsOf 12 = .ok (.if_icmp .ge 22, 3) := by decide +kernel
theorem dX1_thingsOf_15 : decode cX1_thingsOf 15 = .ok (.aload_n 0, 1) := by decide +kernel
theorem dX1_thingsOf_16 : decode cX1_thingsOf 16 = .ok (.getfield 19, 3) := by decide +kernel
theorem dX1_thingsOf_19 : decode cX1_thingsOf 19 = .ok (.iload_n 3, 1) := by decide +kernel
theorem dX1_thingsOf_20 : decode cX1_thingsOf 20 = .ok (.iaload, 1) := by decide +kernel
theorem dX1_thingsOf_21 : decode cX1_thingsOf 21 = .ok (.iload_n 1, 1) := by decide +kernel
theorem dX1_thingsOf_22 : decode cX1_thingsOf 22 = .ok (.if_icmp .ne 6, 3) := by decide +kernel
theorem dX1_thingsOf_25 : decode cX1_thingsOf 25 = .ok (.iinc 2 1, 3) := by decide +kernel
theorem dX1_thingsOf_28 : decode cX1_thingsOf 28 = .ok (.iinc 3 1, 3) := by decide +kernel
theorem dX1_thingsOf_31 : decode cX1_thingsOf 31 = .ok (.goto (-27), 3) := by decide +kernel
theorem dX1_thingsOf_34 : decode cX1_thingsOf 34 = .ok (.iload_n 2, 1) := by decide +kernel
theorem dX1_thingsOf_35 : decode cX1_thingsOf 35 = .ok (.ireturn, 1) := by decide +kernel
theorem dX1_worthOf_0 : decode cX1_worthOf 0 = .ok (.aload_n 0, 1) := by decide +kernel
theorem dX1_worthOf_1 : decode cX1_worthOf 1 = .ok (.getfield 15, 3) := by decide +kernel
theorem dX1_worthOf_4 : decode cX1_worthOf 4 = .ok (.iload_n 1, 1) := by decide +kernel
theorem dX1_worthOf_5 : decode cX1_worthOf 5 = .ok (.iaload, 1) := by decide +kernel
theorem dX1_worthOf_6 : decode cX1_worthOf 6 = .ok (.istore_n 2, 1) := by decide +kernel
theorem dX1_worthOf_7 : decode cX1_worthOf 7 = .ok (.iconst 0, 1) := by decide +kernel
theorem dX1_worthOf_8 : decode cX1_worthOf 8 = .ok (.istore_n 3, 1) := by decide +kernel
theorem dX1_worthOf_9 : decode cX1_worthOf 9 = .ok (.iload_n 3, 1) := by decide +kernel
theorem dX1_worthOf_10 : decode cX1_worthOf 10 = .ok (.aload_n 0, 1) := by decide +kernel
theorem dX1_worthOf_11 : decode cX1_worthOf 11 = .ok (.getfield 39, 3) := by decide +kernel
theorem dX1_worthOf_14 : decode cX1_worthOf 14 = .ok (.getfield 96, 3) := by decide +kernel
theorem dX1_worthOf_17 : decode cX1_worthOf 17 = .ok (.if_icmp .ge 34, 3) := by decide +kernel
theorem dX1_worthOf_20 : decode cX1_worthOf 20 = .ok (.aload_n 0, 1) := by decide +kernel
theorem dX1_worthOf_21 : decode cX1_worthOf 21 = .ok (.getfield 19, 3) := by decide +kernel
theorem dX1_worthOf_24 : decode cX1_worthOf 24 = .ok (.iload_n 3, 1) := by decide +kernel
theorem dX1_worthOf_25 : decode cX1_worthOf 25 = .ok (.iaload, 1) := by decide +kernel
theorem dX1_worthOf_26 : decode cX1_worthOf 26 = .ok (.iload_n 1, 1) := by decide +kernel
theorem dX1_worthOf_27 : decode cX1_worthOf 27 = .ok (.if_icmp .ne 18, 3) := by decide +kernel
theorem dX1_worthOf_30 : decode cX1_worthOf 30 = .ok (.iload_n 2, 1) := by decide +kernel
theorem dX1_worthOf_31 : decode cX1_worthOf 31 = .ok (.aload_n 0, 1) := by decide +kernel
theorem dX1_worthOf_32 : decode cX1_worthOf 32 = .ok (.getfield 39, 3) := by decide +kernel
theorem dX1_worthOf_35 : decode cX1_worthOf 35 = .ok (.iload_n 3, 1) := by decide +kernel
theorem dX1_worthOf_36 : decode cX1_worthOf 36 = .ok (.aload_n 0, 1) := by decide +kernel
theorem dX1_worthOf_37 : decode cX1_worthOf 37 = .ok (.getfield 43, 3) := by decide +kernel
theorem dX1_worthOf_40 : decode cX1_worthOf 40 = .ok (.invokevirtual 128, 3) := by decide +kernel
theorem dX1_worthOf_43 : decode cX1_worthOf 43 = .ok (.iadd, 1) := by decide +kernel
theorem dX1_worthOf_44 : decode cX1_worthOf 44 = .ok (.istore_n 2, 1) := by decide +kernel
theorem dX1_worthOf_45 : decode cX1_worthOf 45 = .ok (.iinc 3 1, 3) := by decide +kernel
theorem dX1_worthOf_48 : decode cX1_worthOf 48 = .ok (.goto (-39), 3) := by decide +kernel
theorem dX1_worthOf_51 : decode cX1_worthOf 51 = .ok (.iload_n 2, 1) := by decide +kernel
theorem dX1_worthOf_52 : decode cX1_worthOf 52 = .ok (.ireturn, 1) := by decide +kernel
theorem dX1_thingsGone_0 : decode cX1_thingsGone 0 = .ok (.iconst 0, 1) := by decide +kernel
theorem dX1_thingsGone_1 : decode cX1_thingsGone 1 = .ok (.istore_n 1, 1) := by decide +kernel
theorem dX1_thingsGone_2 : decode cX1_thingsGone 2 = .ok (.iconst 0, 1) := by decide +kernel
theorem dX1_thingsGone_3 : decode cX1_thingsGone 3 = .ok (.istore_n 2, 1) := by decide +kernel
theorem dX1_thingsGone_4 : decode cX1_thingsGone 4 = .ok (.iload_n 2, 1) := by decide +kernel
theorem dX1_thingsGone_5 : decode cX1_thingsGone 5 = .ok (.aload_n 0, 1) := by decide +kernel
theorem dX1_thingsGone_6 : decode cX1_thingsGone 6 = .ok (.getfield 39, 3) := by decide +kernel
theorem dX1_thingsGone_9 : decode cX1_thingsGone 9 = .ok (.getfield 96, 3) := by decide +kernel
theorem dX1_thingsGone_12 : decode cX1_thingsGone 12 = .ok (.if_icmp .ge 20, 3) := by decide +kernel
theorem dX1_thingsGone_15 : decode cX1_thingsGone 15 = .ok (.aload_n 0, 1) := by decide +kernel
theorem dX1_thingsGone_16 : decode cX1_thingsGone 16 = .ok (.iload_n 2, 1) := by decide +kernel
theorem dX1_thingsGone_17 : decode cX1_thingsGone 17 = .ok (.invokevirtual 99, 3) := by decide +kernel
theorem dX1_thingsGone_20 : decode cX1_thingsGone 20 = .ok (.ifCond .ne 6, 3) := by decide +kernel
theorem dX1_thingsGone_23 : decode cX1_thingsGone 23 = .ok (.iinc 1 1, 3) := by decide +kernel
theorem dX1_thingsGone_26 : decode cX1_thingsGone 26 = .ok (.iinc 2 1, 3) := by decide +kernel
theorem dX1_thingsGone_29 : decode cX1_thingsGone 29 = .ok (.goto (-25), 3) := by decide +kernel
theorem dX1_thingsGone_32 : decode cX1_thingsGone 32 = .ok (.iload_n 1, 1) := by decide +kernel
theorem dX1_thingsGone_33 : decode cX1_thingsGone 33 = .ok (.ireturn, 1) := by decide +kernel
theorem dX1_coinsOfAll_0 : decode cX1_coinsOfAll 0 = .ok (.iconst 0, 1) := by decide +kernel
theorem dX1_coinsOfAll_1 : decode cX1_coinsOfAll 1 = .ok (.istore_n 1, 1) := by decide +kernel
theorem dX1_coinsOfAll_2 : decode cX1_coinsOfAll 2 = .ok (.iconst 0, 1) := by decide +kernel
theorem dX1_coinsOfAll_3 : decode cX1_coinsOfAll 3 = .ok (.istore_n 2, 1) := by decide +kernel
theorem dX1_coinsOfAll_4 : decode cX1_coinsOfAll 4 = .ok (.iload_n 2, 1) := by decide +kernel
theorem dX1_coinsOfAll_5 : decode cX1_coinsOfAll 5 = .ok (.aload_n 0, 1) := by decide +kernel
theorem dX1_coinsOfAll_6 : decode cX1_coinsOfAll 6 = .ok (.getfield 39, 3) := by decide +kernel
theorem dX1_coinsOfAll_9 : decode cX1_coinsOfAll 9 = .ok (.getfield 93, 3) := by decide +kernel
theorem dX1_coinsOfAll_12 : decode cX1_coinsOfAll 12 = .ok (.if_icmp .ge 18, 3) := by decide +kernel
theorem dX1_coinsOfAll_15 : decode cX1_coinsOfAll 15 = .ok (.iload_n 1, 1) := by decide +kernel
theorem dX1_coinsOfAll_16 : decode cX1_coinsOfAll 16 = .ok (.aload_n 0, 1) := by decide +kernel
theorem dX1_coinsOfAll_17 : decode cX1_coinsOfAll 17 = .ok (.getfield 15, 3) := by decide +kernel
theorem dX1_coinsOfAll_20 : decode cX1_coinsOfAll 20 = .ok (.iload_n 2, 1) := by decide +kernel
theorem dX1_coinsOfAll_21 : decode cX1_coinsOfAll 21 = .ok (.iaload, 1) := by decide +kernel
theorem dX1_coinsOfAll_22 : decode cX1_coinsOfAll 22 = .ok (.iadd, 1) := by decide +kernel
theorem dX1_coinsOfAll_23 : decode cX1_coinsOfAll 23 = .ok (.istore_n 1, 1) := by decide +kernel
theorem dX1_coinsOfAll_24 : decode cX1_coinsOfAll 24 = .ok (.iinc 2 1, 3) := by decide +kernel
theorem dX1_coinsOfAll_27 : decode cX1_coinsOfAll 27 = .ok (.goto (-23), 3) := by decide +kernel
theorem dX1_coinsOfAll_30 : decode cX1_coinsOfAll 30 = .ok (.iload_n 1, 1) := by decide +kernel
theorem dX1_coinsOfAll_31 : decode cX1_coinsOfAll 31 = .ok (.ireturn, 1) := by decide +kernel
theorem dX2_init_0 : decode cX2_init 0 = .ok (.aload_n 0, 1) := by decide +kernel
theorem dX2_init_1 : decode cX2_init 1 = .ok (.invokespecial 3, 3) := by decide +kernel
theorem dX2_init_4 : decode cX2_init 4 = .ok (.aload_n 0, 1) := by decide +kernel
theorem dX2_init_5 : decode cX2_init 5 = .ok (.iconst 4, 1) := by decide +kernel
theorem dX2_init_6 : decode cX2_init 6 = .ok (.newarray .int, 2) := by decide +kernel
theorem dX2_init_8 : decode cX2_init 8 = .ok (.putfield 11, 3) := by decide +kernel
theorem dX2_init_11 : decode cX2_init 11 = .ok (.return_, 1) := by decide +kernel
theorem dX2_read_0 : decode cX2_read 0 = .ok (.aload_n 3, 1) := by decide +kernel
theorem dX2_read_1 : decode cX2_read 1 = .ok (.invokevirtual 15, 3) := by decide +kernel
theorem dX2_read_4 : decode cX2_read 4 = .ok (.aload_n 0, 1) := by decide +kernel
theorem dX2_read_5 : decode cX2_read 5 = .ok (.iconst 0, 1) := by decide +kernel
theorem dX2_read_6 : decode cX2_read 6 = .ok (.putfield 20, 3) := by decide +kernel
theorem dX2_read_9 : decode cX2_read 9 = .ok (.iconst 0, 1) := by decide +kernel
theorem dX2_read_10 : decode cX2_read 10 = .ok (.istore 4, 2) := by decide +kernel
theorem dX2_read_12 : decode cX2_read 12 = .ok (.iload 4, 2) := by decide +kernel
theorem dX2_read_14 : decode cX2_read 14 = .ok (.iload_n 2, 1) := by decide +kernel
theorem dX2_read_15 : decode cX2_read 15 = .ok (.if_icmp .ge 50, 3) := by decide +kernel
theorem dX2_read_18 : decode cX2_read 18 = .ok (.aload_n 0, 1) := by decide +kernel
theorem dX2_read_19 : decode cX2_read 19 = .ok (.getfield 20, 3) := by decide +kernel
theorem dX2_read_22 : decode cX2_read 22 = .ok (.iload_n 2, 1) := by decide +kernel
theorem dX2_read_23 : decode cX2_read 23 = .ok (.if_icmp .ge 42, 3) := by decide +kernel
theorem dX2_read_26 : decode cX2_read 26 = .ok (.aload_n 0, 1) := by decide +kernel
theorem dX2_read_27 : decode cX2_read 27 = .ok (.getfield 20, 3) := by decide +kernel
theorem dX2_read_30 : decode cX2_read 30 = .ok (.istore 5, 2) := by decide +kernel
theorem dX2_read_32 : decode cX2_read 32 = .ok (.aload_n 0, 1) := by decide +kernel
theorem dX2_read_33 : decode cX2_read 33 = .ok (.aload_n 1, 1) := by decide +kernel
theorem dX2_read_34 : decode cX2_read 34 = .ok (.iload_n 2, 1) := by decide +kernel
theorem dX2_read_35 : decode cX2_read 35 = .ok (.invokevirtual 24, 3) := by decide +kernel
theorem dX2_read_38 : decode cX2_read 38 = .ok (.ifCond .eq 18, 3) := by decide +kernel
theorem dX2_read_41 : decode cX2_read 41 = .ok (.aload_n 3, 1) := by decide +kernel
theorem dX2_read_42 : decode cX2_read 42 = .ok (.aload_n 1, 1) := by decide +kernel
theorem dX2_read_43 : decode cX2_read 43 = .ok (.iload 5, 2) := by decide +kernel
theorem dX2_read_45 : decode cX2_read 45 = .ok (.iaload, 1) := by decide +kernel
theorem dX2_read_46 : decode cX2_read 46 = .ok (.aload_n 0, 1) := by decide +kernel
theorem dX2_read_47 : decode cX2_read 47 = .ok (.getfield 11, 3) := by decide +kernel
theorem dX2_read_50 : decode cX2_read 50 = .ok (.invokevirtual 28, 3) := by decide +kernel
theorem dX2_read_53 : decode cX2_read 53 = .ok (.ifCond .ne 6, 3) := by decide +kernel
theorem dX2_read_56 : decode cX2_read 56 = .ok (.iload 5, 2) := by decide +kernel
theorem dX2_read_58 : decode cX2_read 58 = .ok (.ireturn, 1) := by decide +kernel
theorem dX2_read_59 : decode cX2_read 59 = .ok (.iinc 4 1, 3) := by decide +kernel
theorem dX2_read_62 : decode cX2_read 62 = .ok (.goto (-50), 3) := by decide +kernel
theorem dX2_read_65 : decode cX2_read 65 = .ok (.bipush (-4), 2) := by decide +kernel
theorem dX2_read_67 : decode cX2_read 67 = .ok (.ireturn, 1) := by decide +kernel
theorem dX2_readItem_0 : decode cX2_readItem 0 = .ok (.aload_n 0, 1) := by decide +kernel
theorem dX2_readItem_1 : decode cX2_readItem 1 = .ok (.aload_n 1, 1) := by decide +kernel
theorem dX2_readItem_2 : decode cX2_readItem 2 = .ok (.iload_n 2, 1) := by decide +kernel
theorem dX2_readItem_3 : decode cX2_readItem 3 = .ok (.invokevirtual 32, 3) := by decide +kernel
theorem dX2_readItem_6 : decode cX2_readItem 6 = .ok (.invokestatic 36, 3) := by decide +kernel
theorem dX2_readItem_9 : decode cX2_readItem 9 = .ok (.istore_n 3, 1) := by decide +kernel
theorem dX2_readItem_10 : decode cX2_readItem 10 = .ok (.aload_n 0, 1) := by decide +kernel
theorem dX2_readItem_11 : decode cX2_readItem 11 = .ok (.dup, 1) := by decide +kernel
theorem dX2_readItem_12 : decode cX2_readItem 12 = .ok (.getfield 20, 3) := by decide +kernel
theorem dX2_readItem_15 : decode cX2_readItem 15 = .ok (.iconst 1, 1) := by decide +kernel
theorem dX2_readItem_16 : decode cX2_readItem 16 = .ok (.iadd, 1) := by decide +kernel
theorem dX2_readItem_17 : decode cX2_readItem 17 = .ok (.putfield 20, 3) := by decide +kernel
theorem dX2_readItem_20 : decode cX2_readItem 20 = .ok (.iconst 0, 1) := by decide +kernel
theorem dX2_readItem_21 : decode cX2_readItem 21 = .ok (.istore 4, 2) := by decide +kernel
theorem dX2_readItem_23 : decode cX2_readItem 23 = .ok (.iload 4, 2) := by decide +kernel
theorem dX2_readItem_25 : decode cX2_readItem 25 = .ok (.iload_n 3, 1) := by decide +kernel
theorem dX2_readItem_26 : decode cX2_readItem 26 = .ok (.if_icmp .ge 71, 3) := by decide +kernel
theorem dX2_readItem_29 : decode cX2_readItem 29 = .ok (.aload_n 0, 1) := by decide +kernel
theorem dX2_readItem_30 : decode cX2_readItem 30 = .ok (.aload_n 1, 1) := by decide +kernel
theorem dX2_readItem_31 : decode cX2_readItem 31 = .ok (.iload_n 2, 1) := by decide +kernel
theorem dX2_readItem_32 : decode cX2_readItem 32 = .ok (.invokevirtual 40, 3) := by decide +kernel
theorem dX2_readItem_35 : decode cX2_readItem 35 = .ok (.istore 5, 2) := by decide +kernel
theorem dX2_readItem_37 : decode cX2_readItem 37 = .ok (.aload_n 0, 1) := by decide +kernel
theorem dX2_readItem_38 : decode cX2_readItem 38 = .ok (.aload_n 1, 1) := by decide +kernel
theorem dX2_readItem_39 : decode cX2_readItem 39 = .ok (.iload_n 2, 1) := by decide +kernel
theorem dX2_readItem_40 : decode cX2_readItem 40 = .ok (.invokevirtual 32, 3) := by decide +kernel
theorem dX2_readItem_43 : decode cX2_readItem 43 = .ok (.istore 6, 2) := by decide +kernel
theorem dX2_readItem_45 : decode cX2_readItem 45 = .ok (.aload_n 0, 1) := by decide +kernel
theorem dX2_readItem_46 : decode cX2_readItem 46 = .ok (.dup, 1) := by decide +kernel
theorem dX2_readItem_47 : decode cX2_readItem 47 = .ok (.getfield 20, 3) := by decide +kernel
theorem dX2_readItem_50 : decode cX2_readItem 50 = .ok (.iconst 1, 1) := by decide +kernel
theorem dX2_readItem_51 : decode cX2_readItem 51 = .ok (.iadd, 1) := by decide +kernel
theorem dX2_readItem_52 : decode cX2_readItem 52 = .ok (.putfield 20, 3) := by decide +kernel
theorem dX2_readItem_55 : decode cX2_readItem 55 = .ok (.iload 5, 2) := by decide +kernel
theorem dX2_readItem_57 : decode cX2_readItem 57 = .ok (.ifCond .lt 23, 3) := by decide +kernel
theorem dX2_readItem_60 : decode cX2_readItem 60 = .ok (.iload 6, 2) := by decide +kernel
theorem dX2_readItem_62 : decode cX2_readItem 62 = .ok (.iload 4, 2) := by decide +kernel
theorem dX2_readItem_64 : decode cX2_readItem 64 = .ok (.iload_n 3, 1) := by decide +kernel
theorem dX2_readItem_65 : decode cX2_readItem 65 = .ok (.iconst 1, 1) := by decide +kernel
theorem dX2_readItem_66 : decode cX2_readItem 66 = .ok (.isub, 1) := by decide +kernel
theorem dX2_readItem_67 : decode cX2_readItem 67 = .ok (.if_icmp .ne 8, 3) := by decide +kernel
theorem dX2_readItem_70 : decode cX2_readItem 70 = .ok (.bipush 59, 2) := by decide +kernel
theorem dX2_readItem_72 : decode cX2_readItem 72 = .ok (.goto 5, 3) := by decide +kernel
theorem dX2_readItem_75 : decode cX2_readItem 75 = .ok (.bipush 44, 2) := by decide +kernel
theorem dX2_readItem_77 : decode cX2_readItem 77 = .ok (.if_icmp .eq 5, 3) := by decide +kernel
theorem dX2_readItem_80 : decode cX2_readItem 80 = .ok (.iconst 0, 1) := by decide +kernel
theorem dX2_readItem_81 : decode cX2_readItem 81 = .ok (.ireturn, 1) := by decide +kernel
theorem dX2_readItem_82 : decode cX2_readItem 82 = .ok (.aload_n 0, 1) := by decide +kernel
theorem dX2_readItem_83 : decode cX2_readItem 83 = .ok (.getfield 11, 3) := by decide +kernel
theorem dX2_readItem_86 : decode cX2_readItem 86 = .ok (.iload 4, 2) := by decide +kernel
theorem dX2_readItem_88 : decode cX2_readItem 88 = .ok (.iload 5, 2) := by decide +kernel
theorem dX2_readItem_90 : decode cX2_readItem 90 = .ok (.iastore, 1) := by decide +kernel
theorem dX2_readItem_91 : decode cX2_readItem 91 = .ok (.iinc 4 1, 3) := by decide +kernel
theorem dX2_readItem_94 : decode cX2_readItem 94 = .ok (.goto (-71), 3) := by decide +kernel
theorem dX2_readItem_97 : decode cX2_readItem 97 = .ok (.iload_n 3, 1) := by decide +kernel
theorem dX2_readItem_98 : decode cX2_readItem 98 = .ok (.ifCond .le 7, 3) := by decide +kernel
theorem dX2_readItem_101 : decode cX2_readItem 101 = .ok (.iconst 1, 1) := by decide +kernel
theorem dX2_readItem_102 : decode cX2_readItem 102 = .ok (.goto 4, 3) := by decide +kernel
theorem dX2_readItem_105 : decode cX2_readItem 105 = .ok (.iconst 0, 1) := by decide +kernel
theorem dX2_readItem_106 : decode cX2_readItem 106 = .ok (.ireturn, 1) := by decide +kernel
theorem dX2_numbersDue_0 : decode cX2_numbersDue 0 = .ok (.iload_n 0, 1) := by decide +kernel
theorem dX2_numbersDue_1 : decode cX2_numbersDue 1 = .ok (.lookupswitch 57 #[(97, 53), (101, 55), (103, 55), (112, 51), (116, 55)], 51) := by decide +kernel
theorem dX2_numbersDue_52 : decode cX2_numbersDue 52 = .ok (.iconst 2, 1) := by decide +kernel
theorem dX2_numbersDue_53 : decode cX2_numbersDue 53 = .ok (.ireturn, 1) := by decide +kernel
theorem dX2_numbersDue_54 : decode cX2_numbersDue 54 = .ok (.iconst 4, 1) := by decide +kernel
theorem dX2_numbersDue_55 : decode cX2_numbersDue 55 = .ok (.ireturn, 1) := by decide +kernel
theorem dX2_numbersDue_56 : decode cX2_numbersDue 56 = .ok (.iconst 1, 1) := by decide +kernel
theorem dX2_numbersDue_57 : decode cX2_numbersDue 57 = .ok (.ireturn, 1) := by decide +kernel
theorem dX2_numbersDue_58 : decode cX2_numbersDue 58 = .ok (.iconst 0, 1) := by decide +kernel
theorem dX2_numbersDue_59 : decode cX2_numbersDue 59 = .ok (.ireturn, 1) := by decide +kernel
theorem dX2_readNumber_0 : decode cX2_readNumber 0 = .ok (.iconst (-1), 1) := by decide +kernel
theorem dX2_readNumber_1 : decode cX2_readNumber 1 = .ok (.istore_n 3, 1) := by decide +kernel
theorem dX2_readNumber_2 : decode cX2_readNumber 2 = .ok (.iconst 0, 1) := by decide +kernel
theorem dX2_readNumber_3 : decode cX2_readNumber 3 = .ok (.istore 4, 2) := by decide +kernel
theorem dX2_readNumber_5 : decode cX2_readNumber 5 = .ok (.iload 4, 2) := by decide +kernel
theorem dX2_readNumber_7 : decode cX2_readNumber 7 = .ok (.iconst 2, 1) := by decide +kernel
theorem dX2_readNumber_8 : decode cX2_readNumber 8 = .ok (.if_icmp .ge 58, 3) := by decide +kernel
theorem dX2_readNumber_11 : decode cX2_readNumber 11 = .ok (.aload_n 0, 1) := by decide +kernel
theorem dX2_readNumber_12 : decode cX2_readNumber 12 = .ok (.aload_n 1, 1) := by decide +kernel
theorem dX2_readNumber_13 : decode cX2_readNumber 13 = .ok (.iload_n 2, 1) := by decide +kernel
theorem dX2_readNumber_14 : decode cX2_readNumber 14 = .ok (.invokevirtual 32, 3) := by decide +kernel
theorem dX2_readNumber_17 : decode cX2_readNumber 17 = .ok (.istore 5, 2) := by decide +kernel
theorem dX2_readNumber_19 : decode cX2_readNumber 19 = .ok (.iload 5, 2) := by decide +kernel
theorem dX2_readNumber_21 : decode cX2_readNumber 21 = .ok (.bipush 48, 2) := by decide +kernel
theorem dX2_readNumber_23 : decode cX2_readNumber 23 = .ok (.if_icmp .lt 10, 3) := by decide +kernel
theorem dX2_readNumber_26 : decode cX2_readNumber 26 = .ok (.iload 5, 2) := by decide +kernel
theorem dX2_readNumber_28 : decode cX2_readNumber 28 = .ok (.bipush 57, 2) := by decide +kernel
theorem dX2_readNumber_30 : decode cX2_readNumber 30 = .ok (.if_icmp .le 5, 3) := by decide +kernel
theorem dX2_readNumber_33 : decode cX2_readNumber 33 = .ok (.iload_n 3, 1) := by decide +kernel
theorem dX2_readNumber_34 : decode cX2_readNumber 34 = .ok (.ireturn, 1) := by decide +kernel
theorem dX2_readNumber_35 : decode cX2_readNumber 35 = .ok (.iconst 0, 1) := by decide +kernel
theorem dX2_readNumber_36 : decode cX2_readNumber 36 = .ok (.iload_n 3, 1) := by decide +kernel
theorem dX2_readNumber_37 : decode cX2_readNumber 37 = .ok (.invokestatic 43, 3) := by decide +kernel
theorem dX2_readNumber_40 : decode cX2_readNumber 40 = .ok (.bipush 10, 2) := by decide +kernel
theorem dX2_readNumber_42 : decode cX2_readNumber 42 = .ok (.imul, 1) := by decide +kernel
theorem dX2_readNumber_43 : decode cX2_readNumber 43 = .ok (.iload 5, 2) := by decide +kernel
theorem dX2_readNumber_45 : decode cX2_readNumber 45 = .ok (.iadd, 1) := by decide +kernel
theorem dX2_readNumber_46 : decode cX2_readNumber 46 = .ok (.bipush 48, 2) := by decide +kernel
theorem dX2_readNumber_48 : decode cX2_readNumber 48 = .ok (.isub, 1) := by decide +kernel
theorem dX2_readNumber_49 : decode cX2_readNumber 49 = .ok (.istore_n 3, 1) := by decide +kernel
theorem dX2_readNumber_50 : decode cX2_readNumber 50 = .ok (.aload_n 0, 1) := by decide +kernel
theorem dX2_readNumber_51 : decode cX2_readNumber 51 = .ok (.dup, 1) := by decide +kernel
theorem dX2_readNumber_52 : decode cX2_readNumber 52 = .ok (.getfield 20, 3) := by decide +kernel
theorem dX2_readNumber_55 : decode cX2_readNumber 55 = .ok (.iconst 1, 1) := by decide +kernel
theorem dX2_readNumber_56 : decode cX2_readNumber 56 = .ok (.iadd, 1) := by decide +kernel
theorem dX2_readNumber_57 : decode cX2_readNumber 57 = .ok (.putfield 20, 3) := by decide +kernel
theorem dX2_readNumber_60 : decode cX2_readNumber 60 = .ok (.iinc 4 1, 3) := by decide +kernel
theorem dX2_readNumber_63 : decode cX2_readNumber 63 = .ok (.goto (-58), 3) := by decide +kernel
theorem dX2_readNumber_66 : decode cX2_readNumber 66 = .ok (.iload_n 3, 1) := by decide +kernel
theorem dX2_readNumber_67 : decode cX2_readNumber 67 = .ok (.ireturn, 1) := by decide +kernel
theorem dX2_letterAt_0 : decode cX2_letterAt 0 = .ok (.aload_n 0, 1) := by decide +kernel
theorem dX2_letterAt_1 : decode cX2_letterAt 1 = .ok (.getfield 20, 3) := by decide +kernel
theorem dX2_letterAt_4 : decode cX2_letterAt 4 = .ok (.ifCond .lt 29, 3) := by decide +kernel
theorem dX2_letterAt_7 : decode cX2_letterAt 7 = .ok (.aload_n 0, 1) := by decide +kernel
theorem dX2_letterAt_8 : decode cX2_letterAt 8 = .ok (.getfield 20, 3) := by decide +kernel
theorem dX2_letterAt_11 : decode cX2_letterAt 11 = .ok (.iload_n 2, 1) := by decide +kernel
theorem dX2_letterAt_12 : decode cX2_letterAt 12 = .ok (.if_icmp .ge 21, 3) := by decide +kernel
theorem dX2_letterAt_15 : decode cX2_letterAt 15 = .ok (.aload_n 0, 1) := by decide +kernel
theorem dX2_letterAt_16 : decode cX2_letterAt 16 = .ok (.getfield 20, 3) := by decide +kernel
theorem dX2_letterAt_19 : decode cX2_letterAt 19 = .ok (.aload_n 1, 1) := by decide +kernel
theorem dX2_letterAt_20 : decode cX2_letterAt 20 = .ok (.arraylength, 1) := by decide +kernel
theorem dX2_letterAt_21 : decode cX2_letterAt 21 = .ok (.if_icmp .ge 12, 3) := by decide +kernel
theorem dX2_letterAt_24 : decode cX2_letterAt 24 = .ok (.aload_n 1, 1) := by decide +kernel
theorem dX2_letterAt_25 : decode cX2_letterAt 25 = .ok (.aload_n 0, 1) := by decide +kernel
theorem dX2_letterAt_26 : decode cX2_letterAt 26 = .ok (.getfield 20, 3) := by decide +kernel
theorem dX2_letterAt_29 : decode cX2_letterAt 29 = .ok (.iaload, 1) := by decide +kernel
theorem dX2_letterAt_30 : decode cX2_letterAt 30 = .ok (.goto 4, 3) := by decide +kernel
theorem dX2_letterAt_33 : decode cX2_letterAt 33 = .ok (.iconst 0, 1) := by decide +kernel
theorem dX2_letterAt_34 : decode cX2_letterAt 34 = .ok (.ireturn, 1) := by decide +kernel
theorem dX3_init_0 : decode cX3_init 0 = .ok (.aload_n 0, 1) := by decide +kernel
theorem dX3_init_1 : decode cX3_init 1 = .ok (.invokespecial 3, 3) := by decide +kernel
theorem dX3_init_4 : decode cX3_init 4 = .ok (.aload_n 0, 1) := by decide +kernel
theorem dX3_init_5 : decode cX3_init 5 = .ok (.bipush 6, 2) := by decide +kernel
theorem dX3_init_7 : decode cX3_init 7 = .ok (.newarray .int, 2) := by decide +kernel
theorem dX3_init_9 : decode cX3_init 9 = .ok (.putfield 9, 3) := by decide +kernel
theorem dX3_init_12 : decode cX3_init 12 = .ok (.aload_n 0, 1) := by decide +kernel
theorem dX3_init_13 : decode cX3_init 13 = .ok (.bipush 6, 2) := by decide +kernel
theorem dX3_init_15 : decode cX3_init 15 = .ok (.newarray .int, 2) := by decide +kernel
theorem dX3_init_17 : decode cX3_init 17 = .ok (.putfield 15, 3) := by decide +kernel
theorem dX3_init_20 : decode cX3_init 20 = .ok (.aload_n 0, 1) := by decide +kernel
theorem dX3_init_21 : decode cX3_init 21 = .ok (.bipush 6, 2) := by decide +kernel
theorem dX3_init_23 : decode cX3_init 23 = .ok (.newarray .int, 2) := by decide +kernel
theorem dX3_init_25 : decode cX3_init 25 = .ok (.putfield 18, 3) := by decide +kernel
theorem dX3_init_28 : decode cX3_init 28 = .ok (.return_, 1) := by decide +kernel
theorem dX3_add_0 : decode cX3_add 0 = .ok (.aload_n 0, 1) := by decide +kernel
theorem dX3_add_1 : decode cX3_add 1 = .ok (.getfield 21, 3) := by decide +kernel
theorem dX3_add_4 : decode cX3_add 4 = .ok (.bipush 6, 2) := by decide +kernel
theorem dX3_add_6 : decode cX3_add 6 = .ok (.if_icmp .ge 43, 3) := by decide +kernel
theorem dX3_add_9 : decode cX3_add 9 = .ok (.aload_n 0, 1) := by decide +kernel
theorem dX3_add_10 : decode cX3_add 10 = .ok (.getfield 9, 3) := by decide +kernel
theorem dX3_add_13 : decode cX3_add 13 = .ok (.aload_n 0, 1) := by decide +kernel
theorem dX3_add_14 : decode cX3_add 14 = .ok (.getfield 21, 3) := by decide +kernel
theorem dX3_add_17 : decode cX3_add 17 = .ok (.iload_n 1, 1) := by decide +kernel
theorem dX3_add_18 : decode cX3_add 18 = .ok (.iastore, 1) := by decide +kernel
theorem dX3_add_19 : decode cX3_add 19 = .ok (.aload_n 0, 1) := by decide +kernel
theorem dX3_add_20 : decode cX3_add 20 = .ok (.getfield 15, 3) := by decide +kernel
theorem dX3_add_23 : decode cX3_add 23 = .ok (.aload_n 0, 1) := by decide +kernel
theorem dX3_add_24 : decode cX3_add 24 = .ok (.getfield 21, 3) := by decide +kernel
theorem dX3_add_27 : decode cX3_add 27 = .ok (.iload_n 2, 1) := by decide +kernel
theorem dX3_add_28 : decode cX3_add 28 = .ok (.iastore, 1) := by decide +kernel
theorem dX3_add_29 : decode cX3_add 29 = .ok (.aload_n 0, 1) := by decide +kernel
theorem dX3_add_30 : decode cX3_add 30 = .ok (.getfield 18, 3) := by decide +kernel
theorem dX3_add_33 : decode cX3_add 33 = .ok (.aload_n 0, 1) := by decide +kernel
theorem dX3_add_34 : decode cX3_add 34 = .ok (.getfield 21, 3) := by decide +kernel
theorem dX3_add_37 : decode cX3_add 37 = .ok (.iload_n 3, 1) := by decide +kernel
theorem dX3_add_38 : decode cX3_add 38 = .ok (.iastore, 1) := by decide +kernel
theorem dX3_add_39 : decode cX3_add 39 = .ok (.aload_n 0, 1) := by decide +kernel
theorem dX3_add_40 : decode cX3_add 40 = .ok (.dup, 1) := by decide +kernel
theorem dX3_add_41 : decode cX3_add 41 = .ok (.getfield 21, 3) := by decide +kernel
theorem dX3_add_44 : decode cX3_add 44 = .ok (.iconst 1, 1) := by decide +kernel
theorem dX3_add_45 : decode cX3_add 45 = .ok (.iadd, 1) := by decide +kernel
theorem dX3_add_46 : decode cX3_add 46 = .ok (.putfield 21, 3) := by decide +kernel
theorem dX3_add_49 : decode cX3_add 49 = .ok (.return_, 1) := by decide +kernel
theorem dX3_allHoldIn_0 : decode cX3_allHoldIn 0 = .ok (.aload_n 1, 1) := by decide +kernel
theorem dX3_allHoldIn_1 : decode cX3_allHoldIn 1 = .ok (.iload_n 2, 1) := by decide +kernel
theorem dX3_allHoldIn_2 : decode cX3_allHoldIn 2 = .ok (.invokevirtual 25, 3) := by decide +kernel
theorem dX3_allHoldIn_5 : decode cX3_allHoldIn 5 = .ok (.iconst 1, 1) := by decide +kernel
theorem dX3_allHoldIn_6 : decode cX3_allHoldIn 6 = .ok (.istore_n 3, 1) := by decide +kernel
theorem dX3_allHoldIn_7 : decode cX3_allHoldIn 7 = .ok (.iload_n 3, 1) := by decide +kernel
theorem dX3_allHoldIn_8 : decode cX3_allHoldIn 8 = .ok (.bipush 9, 2) := by decide +kernel
theorem dX3_allHoldIn_10 : decode cX3_allHoldIn 10 = .ok (.if_icmp .gt 67, 3) := by decide +kernel
theorem dX3_allHoldIn_13 : decode cX3_allHoldIn 13 = .ok (.aload_n 1, 1) := by decide +kernel
theorem dX3_allHoldIn_14 : decode cX3_allHoldIn 14 = .ok (.invokevirtual 31, 3) := by decide +kernel
theorem dX3_allHoldIn_17 : decode cX3_allHoldIn 17 = .ok (.pop, 1) := by decide +kernel
theorem dX3_allHoldIn_18 : decode cX3_allHoldIn 18 = .ok (.iconst 0, 1) := by decide +kernel
theorem dX3_allHoldIn_19 : decode cX3_allHoldIn 19 = .ok (.istore 4, 2) := by decide +kernel
theorem dX3_allHoldIn_21 : decode cX3_allHoldIn 21 = .ok (.iload 4, 2) := by decide +kernel
theorem dX3_allHoldIn_23 : decode cX3_allHoldIn 23 = .ok (.aload_n 0, 1) := by decide +kernel
theorem dX3_allHoldIn_24 : decode cX3_allHoldIn 24 = .ok (.getfield 21, 3) := by decide +kernel
theorem dX3_allHoldIn_27 : decode cX3_allHoldIn 27 = .ok (.if_icmp .ge 44, 3) := by decide +kernel
theorem dX3_allHoldIn_30 : decode cX3_allHoldIn 30 = .ok (.aload_n 0, 1) := by decide +kernel
theorem dX3_allHoldIn_31 : decode cX3_allHoldIn 31 = .ok (.getfield 18, 3) := by decide +kernel
theorem dX3_allHoldIn_34 : decode cX3_allHoldIn 34 = .ok (.iload 4, 2) := by decide +kernel
theorem dX3_allHoldIn_36 : decode cX3_allHoldIn 36 = .ok (.iaload, 1) := by decide +kernel
theorem dX3_allHoldIn_37 : decode cX3_allHoldIn 37 = .ok (.iload_n 3, 1) := by decide +kernel
theorem dX3_allHoldIn_38 : decode cX3_allHoldIn 38 = .ok (.if_icmp .ne 27, 3) := by decide +kernel
theorem dX3_allHoldIn_41 : decode cX3_allHoldIn 41 = .ok (.aload_n 1, 1) := by decide +kernel
theorem dX3_allHoldIn_42 : decode cX3_allHoldIn 42 = .ok (.getfield 35, 3) := by decide +kernel
theorem dX3_allHoldIn_45 : decode cX3_allHoldIn 45 = .ok (.aload_n 0, 1) := by decide +kernel
theorem dX3_allHoldIn_46 : decode cX3_allHoldIn 46 = .ok (.getfield 9, 3) := by decide +kernel
theorem dX3_allHoldIn_49 : decode cX3_allHoldIn 49 = .ok (.iload 4, 2) := by decide +kernel
theorem dX3_allHoldIn_51 : decode cX3_allHoldIn 51 = .ok (.iaload, 1) := by decide +kernel
theorem dX3_allHoldIn_52 : decode cX3_allHoldIn 52 = .ok (.iaload, 1) := by decide +kernel
theorem dX3_allHoldIn_53 : decode cX3_allHoldIn 53 = .ok (.aload_n 0, 1) := by decide +kernel
theorem dX3_allHoldIn_54 : decode cX3_allHoldIn 54 = .ok (.getfield 15, 3) := by decide +kernel
theorem dX3_allHoldIn_57 : decode cX3_allHoldIn 57 = .ok (.iload 4, 2) := by decide +kernel
theorem dX3_allHoldIn_59 : decode cX3_allHoldIn 59 = .ok (.iaload, 1) := by decide +kernel
theorem dX3_allHoldIn_60 : decode cX3_allHoldIn 60 = .ok (.if_icmp .eq 5, 3) := by decide +kernel
theorem dX3_allHoldIn_63 : decode cX3_allHoldIn 63 = .ok (.iconst 0, 1) := by decide +kernel
theorem dX3_allHoldIn_64 : decode cX3_allHoldIn 64 = .ok (.ireturn, 1) := by decide +kernel
theorem dX3_allHoldIn_65 : decode cX3_allHoldIn 65 = .ok (.iinc 4 1, 3) := by decide +kernel
theorem dX3_allHoldIn_68 : decode cX3_allHoldIn 68 = .ok (.goto (-47), 3) := by decide +kernel
theorem dX3_allHoldIn_71 : decode cX3_allHoldIn 71 = .ok (.iinc 3 1, 3) := by decide +kernel
theorem dX3_allHoldIn_74 : decode cX3_allHoldIn 74 = .ok (.goto (-67), 3) := by decide +kernel
theorem dX3_allHoldIn_77 : decode cX3_allHoldIn 77 = .ok (.iconst 1, 1) := by decide +kernel
theorem dX3_allHoldIn_78 : decode cX3_allHoldIn 78 = .ok (.ireturn, 1) := by decide +kernel
theorem dX4_init_0 : decode cX4_init 0 = .ok (.aload_n 0, 1) := by decide +kernel
theorem dX4_init_1 : decode cX4_init 1 = .ok (.invokespecial 3, 3) := by decide +kernel
theorem dX4_init_4 : decode cX4_init 4 = .ok (.aload_n 0, 1) := by decide +kernel
theorem dX4_init_5 : decode cX4_init 5 = .ok (.bipush 6, 2) := by decide +kernel
theorem dX4_init_7 : decode cX4_init 7 = .ok (.newarray .int, 2) := by decide +kernel
theorem dX4_init_9 : decode cX4_init 9 = .ok (.putfield 9, 3) := by decide +kernel
theorem dX4_init_12 : decode cX4_init 12 = .ok (.aload_n 0, 1) := by decide +kernel
theorem dX4_init_13 : decode cX4_init 13 = .ok (.bipush 6, 2) := by decide +kernel
theorem dX4_init_15 : decode cX4_init 15 = .ok (.newarray .int, 2) := by decide +kernel
theorem dX4_init_17 : decode cX4_init 17 = .ok (.putfield 15, 3) := by decide +kernel
theorem dX4_init_20 : decode cX4_init 20 = .ok (.aload_n 0, 1) := by decide +kernel
theorem dX4_init_21 : decode cX4_init 21 = .ok (.bipush 6, 2) := by decide +kernel
theorem dX4_init_23 : decode cX4_init 23 = .ok (.newarray .int, 2) := by decide +kernel
theorem dX4_init_25 : decode cX4_init 25 = .ok (.putfield 18, 3) := by decide +kernel
theorem dX4_init_28 : decode cX4_init 28 = .ok (.aload_n 0, 1) := by decide +kernel
theorem dX4_init_29 : decode cX4_init 29 = .ok (.bipush 9, 2) := by decide +kernel
theorem dX4_init_31 : decode cX4_init 31 = .ok (.newarray .int, 2) := by decide +kernel
theorem dX4_init_33 : decode cX4_init 33 = .ok (.putfield 21, 3) := by decide +kernel
theorem dX4_init_36 : decode cX4_init 36 = .ok (.aload_n 0, 1) := by decide +kernel
theorem dX4_init_37 : decode cX4_init 37 = .ok (.bipush 9, 2) := by decide +kernel
theorem dX4_init_39 : decode cX4_init 39 = .ok (.newarray .int, 2) := by decide +kernel
theorem dX4_init_41 : decode cX4_init 41 = .ok (.putfield 24, 3) := by decide +kernel
theorem dX4_init_44 : decode cX4_init 44 = .ok (.aload_n 0, 1) := by decide +kernel
theorem dX4_init_45 : decode cX4_init 45 = .ok (.bipush 9, 2) := by decide +kernel
theorem dX4_init_47 : decode cX4_init 47 = .ok (.newarray .int, 2) := by decide +kernel
theorem dX4_init_49 : decode cX4_init 49 = .ok (.putfield 27, 3) := by decide +kernel
theorem dX4_init_52 : decode cX4_init 52 = .ok (.aload_n 0, 1) := by decide +kernel
theorem dX4_init_53 : decode cX4_init 53 = .ok (.bipush 9, 2) := by decide +kernel
theorem dX4_init_55 : decode cX4_init 55 = .ok (.newarray .int, 2) := by decide +kernel
theorem dX4_init_57 : decode cX4_init 57 = .ok (.putfield 30, 3) := by decide +kernel
theorem dX4_init_60 : decode cX4_init 60 = .ok (.return_, 1) := by decide +kernel
theorem dX4_clear_0 : decode cX4_clear 0 = .ok (.aload_n 0, 1) := by decide +kernel
theorem dX4_clear_1 : decode cX4_clear 1 = .ok (.iconst 0, 1) := by decide +kernel
theorem dX4_clear_2 : decode cX4_clear 2 = .ok (.putfield 33, 3) := by decide +kernel
theorem dX4_clear_5 : decode cX4_clear 5 = .ok (.aload_n 0, 1) := by decide +kernel
theorem dX4_clear_6 : decode cX4_clear 6 = .ok (.iconst 0, 1) := by decide +kernel
theorem dX4_clear_7 : decode cX4_clear 7 = .ok (.putfield 37, 3) := by decide +kernel
theorem dX4_clear_10 : decode cX4_clear 10 = .ok (.aload_n 0, 1) := by decide +kernel
theorem dX4_clear_11 : decode cX4_clear 11 = .ok (.iconst 0, 1) := by decide +kernel
theorem dX4_clear_12 : decode cX4_clear 12 = .ok (.putfield 40, 3) := by decide +kernel
theorem dX4_clear_15 : decode cX4_clear 15 = .ok (.aload_n 0, 1) := by decide +kernel
theorem dX4_clear_16 : decode cX4_clear 16 = .ok (.iconst 5, 1) := by decide +kernel
theorem dX4_clear_17 : decode cX4_clear 17 = .ok (.putfield 43, 3) := by decide +kernel
theorem dX4_clear_20 : decode cX4_clear 20 = .ok (.aload_n 0, 1) := by decide +kernel
theorem dX4_clear_21 : decode cX4_clear 21 = .ok (.iconst 2, 1) := by decide +kernel
theorem dX4_clear_22 : decode cX4_clear 22 = .ok (.putfield 46, 3) := by decide +kernel
theorem dX4_clear_25 : decode cX4_clear 25 = .ok (.return_, 1) := by decide +kernel
theorem dX4_hasPerson_0 : decode cX4_hasPerson 0 = .ok (.iload_n 1, 1) := by decide +kernel
theorem dX4_hasPerson_1 : decode cX4_hasPerson 1 = .ok (.ifCond .lt 15, 3) := by decide +kernel
theorem dX4_hasPerson_4 : decode cX4_hasPerson 4 = .ok (.iload_n 1, 1) := by decide +kernel
theorem dX4_hasPerson_5 : decode cX4_hasPerson 5 = .ok (.aload_n 0, 1) := by decide +kernel
theorem dX4_hasPerson_6 : decode cX4_hasPerson 6 = .ok (.getfield 33, 3) := by decide +kernel
theorem dX4_hasPerson_9 : decode cX4_hasPerson 9 = .ok (.if_icmp .ge 7, 3) := by decide +kernel
theorem dX4_hasPerson_12 : decode cX4_hasPerson 12 = .ok (.iconst 1, 1) := by decide +kernel
theorem dX4_hasPerson_13 : decode cX4_hasPerson 13 = .ok (.goto 4, 3) := by decide +kernel
theorem dX4_hasPerson_16 : decode cX4_hasPerson 16 = .ok (.iconst 0, 1) := by decide +kernel
theorem dX4_hasPerson_17 : decode cX4_hasPerson 17 = .ok (.ireturn, 1) := by decide +kernel
theorem dX4_hasThing_0 : decode cX4_hasThing 0 = .ok (.iload_n 1, 1) := by decide +kernel
theorem dX4_hasThing_1 : decode cX4_hasThing 1 = .ok (.ifCond .lt 15, 3) := by decide +kernel
theorem dX4_hasThing_4 : decode cX4_hasThing 4 = .ok (.iload_n 1, 1) := by decide +kernel
theorem dX4_hasThing_5 : decode cX4_hasThing 5 = .ok (.aload_n 0, 1) := by decide +kernel
theorem dX4_hasThing_6 : decode cX4_hasThing 6 = .ok (.getfield 37, 3) := by decide +kernel
theorem dX4_hasThing_9 : decode cX4_hasThing 9 = .ok (.if_icmp .ge 7, 3) := by decide +kernel
theorem dX4_hasThing_12 : decode cX4_hasThing 12 = .ok (.iconst 1, 1) := by decide +kernel
theorem dX4_hasThing_13 : decode cX4_hasThing 13 = .ok (.goto 4, 3) := by decide +kernel
theorem dX4_hasThing_16 : decode cX4_hasThing 16 = .ok (.iconst 0, 1) := by decide +kernel
theorem dX4_hasThing_17 : decode cX4_hasThing 17 = .ok (.ireturn, 1) := by decide +kernel
