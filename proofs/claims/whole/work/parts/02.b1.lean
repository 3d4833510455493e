theorem dX4_canBeLaid_0 : decode cX4_canBeLaid 0 = .ok (.aload_n 0, 1) := by decide +kernel
theorem dX4_canBeLaid_1 : decode cX4_canBeLaid 1 = .ok (.getfield 33, 3) := by decide +kernel
theorem dX4_canBeLaid_4 : decode cX4_canBeLaid 4 = .ok (.ifCond .le 14, 3) := by decide +kernel
theorem dX4_canBeLaid_7 : decode cX4_canBeLaid 7 = .ok (.aload_n 0, 1) := by decide +kernel
theorem dX4_canBeLaid_8 : decode cX4_canBeLaid 8 = .ok (.getfield 37, 3) := by decide +kernel
theorem dX4_canBeLaid_11 : decode cX4_canBeLaid 11 = .ok (.ifCond .le 7, 3) := by decide +kernel
theorem dX4_canBeLaid_14 : decode cX4_canBeLaid 14 = .ok (.iconst 1, 1) := by decide +kernel
theorem dX4_canBeLaid_15 : decode cX4_canBeLaid 15 = .ok (.goto 4, 3) := by decide +kernel
theorem dX4_canBeLaid_18 : decode cX4_canBeLaid 18 = .ok (.iconst 0, 1) := by decide +kernel
theorem dX4_canBeLaid_19 : decode cX4_canBeLaid 19 = .ok (.ireturn, 1) := by decide +kernel
theorem dX4_takeItem_0 : decode cX4_takeItem 0 = .ok (.iload_n 1, 1) := by decide +kernel
theorem dX4_takeItem_1 : decode cX4_takeItem 1 = .ok (.lookupswitch 92 #[(97, 70), (101, 76), (103, 84), (112, 51), (116, 62)], 51) := by decide +kernel
theorem dX4_takeItem_52 : decode cX4_takeItem 52 = .ok (.aload_n 0, 1) := by decide +kernel
theorem dX4_takeItem_53 : decode cX4_takeItem 53 = .ok (.aload_n 2, 1) := by decide +kernel
theorem dX4_takeItem_54 : decode cX4_takeItem 54 = .ok (.iconst 0, 1) := by decide +kernel
theorem dX4_takeItem_55 : decode cX4_takeItem 55 = .ok (.iaload, 1) := by decide +kernel
theorem dX4_takeItem_56 : decode cX4_takeItem 56 = .ok (.aload_n 2, 1) := by decide +kernel
theorem dX4_takeItem_57 : decode cX4_takeItem 57 = .ok (.iconst 1, 1) := by decide +kernel
theorem dX4_takeItem_58 : decode cX4_takeItem 58 = .ok (.iaload, 1) := by decide +kernel
theorem dX4_takeItem_59 : decode cX4_takeItem 59 = .ok (.invokevirtual 49, 3) := by decide +kernel
theorem dX4_takeItem_62 : decode cX4_takeItem 62 = .ok (.ireturn, 1) := by decide +kernel
theorem dX4_takeItem_63 : decode cX4_takeItem 63 = .ok (.aload_n 0, 1) := by decide +kernel
theorem dX4_takeItem_64 : decode cX4_takeItem 64 = .ok (.aload_n 2, 1) := by decide +kernel
theorem dX4_takeItem_65 : decode cX4_takeItem 65 = .ok (.iconst 0, 1) := by decide +kernel
theorem dX4_takeItem_66 : decode cX4_takeItem 66 = .ok (.iaload, 1) := by decide +kernel
theorem dX4_takeItem_67 : decode cX4_takeItem 67 = .ok (.invokevirtual 53, 3) := by decide +kernel
theorem dX4_takeItem_70 : decode cX4_takeItem 70 = .ok (.ireturn, 1) := by decide +kernel
theorem dX4_takeItem_71 : decode cX4_takeItem 71 = .ok (.aload_n 0, 1) := by decide +kernel
theorem dX4_takeItem_72 : decode cX4_takeItem 72 = .ok (.aload_n 2, 1) := by decide +kernel
theorem dX4_takeItem_73 : decode cX4_takeItem 73 = .ok (.invokevirtual 57, 3) := by decide +kernel
theorem dX4_takeItem_76 : decode cX4_takeItem 76 = .ok (.ireturn, 1) := by decide +kernel
theorem dX4_takeItem_77 : decode cX4_takeItem 77 = .ok (.aload_n 0, 1) := by decide +kernel
theorem dX4_takeItem_78 : decode cX4_takeItem 78 = .ok (.aload_n 2, 1) := by decide +kernel
theorem dX4_takeItem_79 : decode cX4_takeItem 79 = .ok (.iconst 0, 1) := by decide +kernel
theorem dX4_takeItem_80 : decode cX4_takeItem 80 = .ok (.iaload, 1) := by decide +kernel
theorem dX4_takeItem_81 : decode cX4_takeItem 81 = .ok (.invokevirtual 61, 3) := by decide +kernel
theorem dX4_takeItem_84 : decode cX4_takeItem 84 = .ok (.ireturn, 1) := by decide +kernel
theorem dX4_takeItem_85 : decode cX4_takeItem 85 = .ok (.aload_n 0, 1) := by decide +kernel
theorem dX4_takeItem_86 : decode cX4_takeItem 86 = .ok (.aload_n 2, 1) := by decide +kernel
theorem dX4_takeItem_87 : decode cX4_takeItem 87 = .ok (.iconst 0, 1) := by decide +kernel
theorem dX4_takeItem_88 : decode cX4_takeItem 88 = .ok (.iaload, 1) := by decide +kernel
theorem dX4_takeItem_89 : decode cX4_takeItem 89 = .ok (.invokevirtual 64, 3) := by decide +kernel
theorem dX4_takeItem_92 : decode cX4_takeItem 92 = .ok (.ireturn, 1) := by decide +kernel
theorem dX4_takeItem_93 : decode cX4_takeItem 93 = .ok (.iconst 0, 1) := by decide +kernel
theorem dX4_takeItem_94 : decode cX4_takeItem 94 = .ok (.ireturn, 1) := by decide +kernel
theorem dX4_takePerson_0 : decode cX4_takePerson 0 = .ok (.aload_n 0, 1) := by decide +kernel
theorem dX4_takePerson_1 : decode cX4_takePerson 1 = .ok (.getfield 33, 3) := by decide +kernel
theorem dX4_takePerson_4 : decode cX4_takePerson 4 = .ok (.bipush 6, 2) := by decide +kernel
theorem dX4_takePerson_6 : decode cX4_takePerson 6 = .ok (.if_icmp .ge 8, 3) := by decide +kernel
theorem dX4_takePerson_9 : decode cX4_takePerson 9 = .ok (.iload_n 1, 1) := by decide +kernel
theorem dX4_takePerson_10 : decode cX4_takePerson 10 = .ok (.iconst 3, 1) := by decide +kernel
theorem dX4_takePerson_11 : decode cX4_takePerson 11 = .ok (.if_icmp .le 5, 3) := by decide +kernel
theorem dX4_takePerson_14 : decode cX4_takePerson 14 = .ok (.iconst 0, 1) := by decide +kernel
theorem dX4_takePerson_15 : decode cX4_takePerson 15 = .ok (.ireturn, 1) := by decide +kernel
theorem dX4_takePerson_16 : decode cX4_takePerson 16 = .ok (.aload_n 0, 1) := by decide +kernel
theorem dX4_takePerson_17 : decode cX4_takePerson 17 = .ok (.getfield 9, 3) := by decide +kernel
theorem dX4_takePerson_20 : decode cX4_takePerson 20 = .ok (.aload_n 0, 1) := by decide +kernel
theorem dX4_takePerson_21 : decode cX4_takePerson 21 = .ok (.getfield 33, 3) := by decide +kernel
theorem dX4_takePerson_24 : decode cX4_takePerson 24 = .ok (.iload_n 1, 1) := by decide +kernel
theorem dX4_takePerson_25 : decode cX4_takePerson 25 = .ok (.iastore, 1) := by decide +kernel
theorem dX4_takePerson_26 : decode cX4_takePerson 26 = .ok (.aload_n 0, 1) := by decide +kernel
theorem dX4_takePerson_27 : decode cX4_takePerson 27 = .ok (.getfield 15, 3) := by decide +kernel
theorem dX4_takePerson_30 : decode cX4_takePerson 30 = .ok (.aload_n 0, 1) := by decide +kernel
theorem dX4_takePerson_31 : decode cX4_takePerson 31 = .ok (.getfield 33, 3) := by decide +kernel
theorem dX4_takePerson_34 : decode cX4_takePerson 34 = .ok (.iload_n 2, 1) := by decide +kernel
theorem dX4_takePerson_35 : decode cX4_takePerson 35 = .ok (.iastore, 1) := by decide +kernel
theorem dX4_takePerson_36 : decode cX4_takePerson 36 = .ok (.aload_n 0, 1) := by decide +kernel
theorem dX4_takePerson_37 : decode cX4_takePerson 37 = .ok (.dup, 1) := by decide +kernel
theorem dX4_takePerson_38 : decode cX4_takePerson 38 = .ok (.getfield 33, 3) := by decide +kernel
theorem dX4_takePerson_41 : decode cX4_takePerson 41 = .ok (.iconst 1, 1) := by decide +kernel
theorem dX4_takePerson_42 : decode cX4_takePerson 42 = .ok (.iadd, 1) := by decide +kernel
theorem dX4_takePerson_43 : decode cX4_takePerson 43 = .ok (.putfield 33, 3) := by decide +kernel
theorem dX4_takePerson_46 : decode cX4_takePerson 46 = .ok (.iconst 1, 1) := by decide +kernel
theorem dX4_takePerson_47 : decode cX4_takePerson 47 = .ok (.ireturn, 1) := by decide +kernel
theorem dX4_takeThing_0 : decode cX4_takeThing 0 = .ok (.aload_n 0, 1) := by decide +kernel
theorem dX4_takeThing_1 : decode cX4_takeThing 1 = .ok (.getfield 37, 3) := by decide +kernel
theorem dX4_takeThing_4 : decode cX4_takeThing 4 = .ok (.bipush 6, 2) := by decide +kernel
theorem dX4_takeThing_6 : decode cX4_takeThing 6 = .ok (.if_icmp .ge 14, 3) := by decide +kernel
theorem dX4_takeThing_9 : decode cX4_takeThing 9 = .ok (.iload_n 1, 1) := by decide +kernel
theorem dX4_takeThing_10 : decode cX4_takeThing 10 = .ok (.iconst 1, 1) := by decide +kernel
theorem dX4_takeThing_11 : decode cX4_takeThing 11 = .ok (.if_icmp .lt 9, 3) := by decide +kernel
theorem dX4_takeThing_14 : decode cX4_takeThing 14 = .ok (.iload_n 1, 1) := by decide +kernel
theorem dX4_takeThing_15 : decode cX4_takeThing 15 = .ok (.bipush 60, 2) := by decide +kernel
theorem dX4_takeThing_17 : decode cX4_takeThing 17 = .ok (.if_icmp .le 5, 3) := by decide +kernel
theorem dX4_takeThing_20 : decode cX4_takeThing 20 = .ok (.iconst 0, 1) := by decide +kernel
theorem dX4_takeThing_21 : decode cX4_takeThing 21 = .ok (.ireturn, 1) := by decide +kernel
theorem dX4_takeThing_22 : decode cX4_takeThing 22 = .ok (.aload_n 0, 1) := by decide +kernel
theorem dX4_takeThing_23 : decode cX4_takeThing 23 = .ok (.getfield 18, 3) := by decide +kernel
theorem dX4_takeThing_26 : decode cX4_takeThing 26 = .ok (.aload_n 0, 1) := by decide +kernel
theorem dX4_takeThing_27 : decode cX4_takeThing 27 = .ok (.getfield 37, 3) := by decide +kernel
theorem dX4_takeThing_30 : decode cX4_takeThing 30 = .ok (.iload_n 1, 1) := by decide +kernel
theorem dX4_takeThing_31 : decode cX4_takeThing 31 = .ok (.iastore, 1) := by decide +kernel
theorem dX4_takeThing_32 : decode cX4_takeThing 32 = .ok (.aload_n 0, 1) := by decide +kernel
theorem dX4_takeThing_33 : decode cX4_takeThing 33 = .ok (.dup, 1) := by decide +kernel
theorem dX4_takeThing_34 : decode cX4_takeThing 34 = .ok (.getfield 37, 3) := by decide +kernel
theorem dX4_takeThing_37 : decode cX4_takeThing 37 = .ok (.iconst 1, 1) := by decide +kernel
theorem dX4_takeThing_38 : decode cX4_takeThing 38 = .ok (.iadd, 1) := by decide +kernel
theorem dX4_takeThing_39 : decode cX4_takeThing 39 = .ok (.putfield 37, 3) := by decide +kernel
theorem dX4_takeThing_42 : decode cX4_takeThing 42 = .ok (.iconst 1, 1) := by decide +kernel
theorem dX4_takeThing_43 : decode cX4_takeThing 43 = .ok (.ireturn, 1) := by decide +kernel
theorem dX4_takePause_0 : decode cX4_takePause 0 = .ok (.aload_n 1, 1) := by decide +kernel
theorem dX4_takePause_1 : decode cX4_takePause 1 = .ok (.iconst 0, 1) := by decide +kernel
theorem dX4_takePause_2 : decode cX4_takePause 2 = .ok (.iaload, 1) := by decide +kernel
theorem dX4_takePause_3 : decode cX4_takePause 3 = .ok (.istore_n 2, 1) := by decide +kernel
theorem dX4_takePause_4 : decode cX4_takePause 4 = .ok (.aload_n 1, 1) := by decide +kernel
theorem dX4_takePause_5 : decode cX4_takePause 5 = .ok (.iconst 1, 1) := by decide +kernel
theorem dX4_takePause_6 : decode cX4_takePause 6 = .ok (.iaload, 1) := by decide +kernel
theorem dX4_takePause_7 : decode cX4_takePause 7 = .ok (.istore_n 3, 1) := by decide +kernel
theorem dX4_takePause_8 : decode cX4_takePause 8 = .ok (.aload_n 1, 1) := by decide +kernel
theorem dX4_takePause_9 : decode cX4_takePause 9 = .ok (.iconst 2, 1) := by decide +kernel
theorem dX4_takePause_10 : decode cX4_takePause 10 = .ok (.iaload, 1) := by decide +kernel
theorem dX4_takePause_11 : decode cX4_takePause 11 = .ok (.istore 4, 2) := by decide +kernel
theorem dX4_takePause_13 : decode cX4_takePause 13 = .ok (.aload_n 1, 1) := by decide +kernel
theorem dX4_takePause_14 : decode cX4_takePause 14 = .ok (.iconst 3, 1) := by decide +kernel
theorem dX4_takePause_15 : decode cX4_takePause 15 = .ok (.iaload, 1) := by decide +kernel
theorem dX4_takePause_16 : decode cX4_takePause 16 = .ok (.istore 5, 2) := by decide +kernel
theorem dX4_takePause_18 : decode cX4_takePause 18 = .ok (.aload_n 0, 1) := by decide +kernel
theorem dX4_takePause_19 : decode cX4_takePause 19 = .ok (.getfield 40, 3) := by decide +kernel
theorem dX4_takePause_22 : decode cX4_takePause 22 = .ok (.bipush 9, 2) := by decide +kernel
theorem dX4_takePause_24 : decode cX4_takePause 24 = .ok (.if_icmp .ge 19, 3) := by decide +kernel
theorem dX4_takePause_27 : decode cX4_takePause 27 = .ok (.aload_n 0, 1) := by decide +kernel
theorem dX4_takePause_28 : decode cX4_takePause 28 = .ok (.iload_n 2, 1) := by decide +kernel
theorem dX4_takePause_29 : decode cX4_takePause 29 = .ok (.invokevirtual 67, 3) := by decide +kernel
theorem dX4_takePause_32 : decode cX4_takePause 32 = .ok (.ifCond .eq 11, 3) := by decide +kernel
theorem dX4_takePause_35 : decode cX4_takePause 35 = .ok (.aload_n 0, 1) := by decide +kernel
theorem dX4_takePause_36 : decode cX4_takePause 36 = .ok (.iload_n 3, 1) := by decide +kernel
theorem dX4_takePause_37 : decode cX4_takePause 37 = .ok (.invokevirtual 70, 3) := by decide +kernel
theorem dX4_takePause_40 : decode cX4_takePause 40 = .ok (.ifCond .ne 5, 3) := by decide +kernel
theorem dX4_takePause_43 : decode cX4_takePause 43 = .ok (.iconst 0, 1) := by decide +kernel
theorem dX4_takePause_44 : decode cX4_takePause 44 = .ok (.ireturn, 1) := by decide +kernel
theorem dX4_takePause_45 : decode cX4_takePause 45 = .ok (.iload 4, 2) := by decide +kernel
theorem dX4_takePause_47 : decode cX4_takePause 47 = .ok (.iconst 1, 1) := by decide +kernel
theorem dX4_takePause_48 : decode cX4_takePause 48 = .ok (.if_icmp .lt 17, 3) := by decide +kernel
theorem dX4_takePause_51 : decode cX4_takePause 51 = .ok (.iload 4, 2) := by decide +kernel
theorem dX4_takePause_53 : decode cX4_takePause 53 = .ok (.bipush 30, 2) := by decide +kernel
theorem dX4_takePause_55 : decode cX4_takePause 55 = .ok (.if_icmp .gt 10, 3) := by decide +kernel
theorem dX4_takePause_58 : decode cX4_takePause 58 = .ok (.iload 5, 2) := by decide +kernel
theorem dX4_takePause_60 : decode cX4_takePause 60 = .ok (.bipush 9, 2) := by decide +kernel
theorem dX4_takePause_62 : decode cX4_takePause 62 = .ok (.if_icmp .le 5, 3) := by decide +kernel
theorem dX4_takePause_65 : decode cX4_takePause 65 = .ok (.iconst 0, 1) := by decide +kernel
theorem dX4_takePause_66 : decode cX4_takePause 66 = .ok (.ireturn, 1) := by decide +kernel
theorem dX4_takePause_67 : decode cX4_takePause 67 = .ok (.aload_n 0, 1) := by decide +kernel
theorem dX4_takePause_68 : decode cX4_takePause 68 = .ok (.getfield 21, 3) := by decide +kernel
theorem dX4_takePause_71 : decode cX4_takePause 71 = .ok (.aload_n 0, 1) := by decide +kernel
theorem dX4_takePause_72 : decode cX4_takePause 72 = .ok (.getfield 40, 3) := by decide +kernel
theorem dX4_takePause_75 : decode cX4_takePause 75 = .ok (.iload_n 2, 1) := by decide +kernel
theorem dX4_takePause_76 : decode cX4_takePause 76 = .ok (.iastore, 1) := by decide +kernel
theorem dX4_takePause_77 : decode cX4_takePause 77 = .ok (.aload_n 0, 1) := by decide +kernel
theorem dX4_takePause_78 : decode cX4_takePause 78 = .ok (.getfield 24, 3) := by decide +kernel
theorem dX4_takePause_81 : decode cX4_takePause 81 = .ok (.aload_n 0, 1) := by decide +kernel
theorem dX4_takePause_82 : decode cX4_takePause 82 = .ok (.getfield 40, 3) := by decide +kernel
theorem dX4_takePause_85 : decode cX4_takePause 85 = .ok (.iload_n 3, 1) := by decide +kernel
theorem dX4_takePause_86 : decode cX4_takePause 86 = .ok (.iastore, 1) := by decide +kernel
theorem dX4_takePause_87 : decode cX4_takePause 87 = .ok (.aload_n 0, 1) := by decide +kernel
theorem dX4_takePause_88 : decode cX4_takePause 88 = .ok (.getfield 27, 3) := by decide +kernel
theorem dX4_takePause_91 : decode cX4_takePause 91 = .ok (.aload_n 0, 1) := by decide +kernel
theorem dX4_takePause_92 : decode cX4_takePause 92 = .ok (.getfield 40, 3) := by decide +kernel
theorem dX4_takePause_95 : decode cX4_takePause 95 = .ok (.iload 4, 2) := by decide +kernel
theorem dX4_takePause_97 : decode cX4_takePause 97 = .ok (.iastore, 1) := by decide +kernel
theorem dX4_takePause_98 : decode cX4_takePause 98 = .ok (.aload_n 0, 1) := by decide +kernel
theorem dX4_takePause_99 : decode cX4_takePause 99 = .ok (.getfield 30, 3) := by decide +kernel
theorem dX4_takePause_102 : decode cX4_takePause 102 = .ok (.aload_n 0, 1) := by decide +kernel
theorem dX4_takePause_103 : decode cX4_takePause 103 = .ok (.getfield 40, 3) := by decide +kernel
theorem dX4_takePause_106 : decode cX4_takePause 106 = .ok (.iload 5, 2) := by decide +kernel
theorem dX4_takePause_108 : decode cX4_takePause 108 = .ok (.iastore, 1) := by decide +kernel
theorem dX4_takePause_109 : decode cX4_takePause 109 = .ok (.aload_n 0, 1) := by decide +kernel
theorem dX4_takePause_110 : decode cX4_takePause 110 = .ok (.dup, 1) := by decide +kernel
theorem dX4_takePause_111 : decode cX4_takePause 111 = .ok (.getfield 40, 3) := by decide +kernel
theorem dX4_takePause_114 : decode cX4_takePause 114 = .ok (.iconst 1, 1) := by decide +kernel
theorem dX4_takePause_115 : decode cX4_takePause 115 = .ok (.iadd, 1) := by decide +kernel
theorem dX4_takePause_116 : decode cX4_takePause 116 = .ok (.putfield 40, 3) := by decide +kernel
theorem dX4_takePause_119 : decode cX4_takePause 119 = .ok (.iconst 1, 1) := by decide +kernel
theorem dX4_takePause_120 : decode cX4_takePause 120 = .ok (.ireturn, 1) := by decide +kernel
theorem dX4_takeEarned_0 : decode cX4_takeEarned 0 = .ok (.aload_n 0, 1) := by decide +kernel
theorem dX4_takeEarned_1 : decode cX4_takeEarned 1 = .ok (.iload_n 1, 1) := by decide +kernel
theorem dX4_takeEarned_2 : decode cX4_takeEarned 2 = .ok (.putfield 43, 3) := by decide +kernel
theorem dX4_takeEarned_5 : decode cX4_takeEarned 5 = .ok (.iload_n 1, 1) := by decide +kernel
theorem dX4_takeEarned_6 : decode cX4_takeEarned 6 = .ok (.bipush 30, 2) := by decide +kernel
theorem dX4_takeEarned_8 : decode cX4_takeEarned 8 = .ok (.if_icmp .gt 7, 3) := by decide +kernel
theorem dX4_takeEarned_11 : decode cX4_takeEarned 11 = .ok (.iconst 1, 1) := by decide +kernel
theorem dX4_takeEarned_12 : decode cX4_takeEarned 12 = .ok (.goto 4, 3) := by decide +kernel
theorem dX4_takeEarned_15 : decode cX4_takeEarned 15 = .ok (.iconst 0, 1) := by decide +kernel
theorem dX4_takeEarned_16 : decode cX4_takeEarned 16 = .ok (.ireturn, 1) := by decide +kernel
theorem dX4_takeDearer_0 : decode cX4_takeDearer 0 = .ok (.aload_n 0, 1) := by decide +kernel
theorem dX4_takeDearer_1 : decode cX4_takeDearer 1 = .ok (.iload_n 1, 1) := by decide +kernel
theorem dX4_takeDearer_2 : decode cX4_takeDearer 2 = .ok (.putfield 46, 3) := by decide +kernel
theorem dX4_takeDearer_5 : decode cX4_takeDearer 5 = .ok (.iload_n 1, 1) := by decide +kernel
theorem dX4_takeDearer_6 : decode cX4_takeDearer 6 = .ok (.bipush 9, 2) := by decide +kernel
theorem dX4_takeDearer_8 : decode cX4_takeDearer 8 = .ok (.if_icmp .gt 7, 3) := by decide +kernel
theorem dX4_takeDearer_11 : decode cX4_takeDearer 11 = .ok (.iconst 1, 1) := by decide +kernel
theorem dX4_takeDearer_12 : decode cX4_takeDearer 12 = .ok (.goto 4, 3) := by decide +kernel
theorem dX4_takeDearer_15 : decode cX4_takeDearer 15 = .ok (.iconst 0, 1) := by decide +kernel
theorem dX4_takeDearer_16 : decode cX4_takeDearer 16 = .ok (.ireturn, 1) := by decide +kernel
theorem dX4_costIn_0 : decode cX4_costIn 0 = .ok (.aload_n 0, 1) := by decide +kernel
theorem dX4_costIn_1 : decode cX4_costIn 1 = .ok (.getfield 18, 3) := by decide +kernel
theorem dX4_costIn_4 : decode cX4_costIn 4 = .ok (.iload_n 1, 1) := by decide +kernel
theorem dX4_costIn_5 : decode cX4_costIn 5 = .ok (.iaload, 1) := by decide +kernel
theorem dX4_costIn_6 : decode cX4_costIn 6 = .ok (.aload_n 0, 1) := by decide +kernel
theorem dX4_costIn_7 : decode cX4_costIn 7 = .ok (.getfield 46, 3) := by decide +kernel
theorem dX4_costIn_10 : decode cX4_costIn 10 = .ok (.iload_n 2, 1) := by decide +kernel
theorem dX4_costIn_11 : decode cX4_costIn 11 = .ok (.imul, 1) := by decide +kernel
theorem dX4_costIn_12 : decode cX4_costIn 12 = .ok (.iadd, 1) := by decide +kernel
theorem dX4_costIn_13 : decode cX4_costIn 13 = .ok (.ireturn, 1) := by decide +kernel
theorem dX4_priceFor_0 : decode cX4_priceFor 0 = .ok (.aload_n 0, 1) := by decide +kernel
theorem dX4_priceFor_1 : decode cX4_priceFor 1 = .ok (.iload_n 2, 1) := by decide +kernel
theorem dX4_priceFor_2 : decode cX4_priceFor 2 = .ok (.iload_n 3, 1) := by decide +kernel
theorem dX4_priceFor_3 : decode cX4_priceFor 3 = .ok (.invokevirtual 73, 3) := by decide +kernel
theorem dX4_priceFor_6 : decode cX4_priceFor 6 = .ok (.istore 4, 2) := by decide +kernel
theorem dX4_priceFor_8 : decode cX4_priceFor 8 = .ok (.aload_n 0, 1) := by decide +kernel
theorem dX4_priceFor_9 : decode cX4_priceFor 9 = .ok (.getfield 9, 3) := by decide +kernel
theorem dX4_priceFor_12 : decode cX4_priceFor 12 = .ok (.iload_n 1, 1) := by decide +kernel
theorem dX4_priceFor_13 : decode cX4_priceFor 13 = .ok (.iaload, 1) := by decide +kernel
theorem dX4_priceFor_14 : decode cX4_priceFor 14 = .ok (.iconst 3, 1) := by decide +kernel
theorem dX4_priceFor_15 : decode cX4_priceFor 15 = .ok (.if_icmp .ne 10, 3) := by decide +kernel
theorem dX4_priceFor_18 : decode cX4_priceFor 18 = .ok (.iload 4, 2) := by decide +kernel
theorem dX4_priceFor_20 : decode cX4_priceFor 20 = .ok (.iconst 2, 1) := by decide +kernel
theorem dX4_priceFor_21 : decode cX4_priceFor 21 = .ok (.idiv, 1) := by decide +kernel
theorem dX4_priceFor_22 : decode cX4_priceFor 22 = .ok (.goto 5, 3) := by decide +kernel
theorem dX4_priceFor_25 : decode cX4_priceFor 25 = .ok (.iload 4, 2) := by decide +kernel
theorem dX4_priceFor_27 : decode cX4_priceFor 27 = .ok (.ireturn, 1) := by decide +kernel
theorem dX4_countedFor_0 : decode cX4_countedFor 0 = .ok (.aload_n 0, 1) := by decide +kernel
theorem dX4_countedFor_1 : decode cX4_countedFor 1 = .ok (.getfield 9, 3) := by decide +kernel
theorem dX4_countedFor_4 : decode cX4_countedFor 4 = .ok (.iload_n 1, 1) := by decide +kernel
theorem dX4_countedFor_5 : decode cX4_countedFor 5 = .ok (.iaload, 1) := by decide +kernel
theorem dX4_countedFor_6 : decode cX4_countedFor 6 = .ok (.tableswitch 47 1 3 #[26, 39, 43], 26) := by decide +kernel
theorem dX4_countedFor_32 : decode cX4_countedFor 32 = .ok (.iload_n 2, 1) := by decide +kernel
theorem dX4_countedFor_33 : decode cX4_countedFor 33 = .ok (.iconst 2, 1) := by decide +kernel
theorem dX4_countedFor_34 : decode cX4_countedFor 34 = .ok (.if_icmp .ge 7, 3) := by decide +kernel
theorem dX4_countedFor_37 : decode cX4_countedFor 37 = .ok (.iconst 0, 1) := by decide +kernel
theorem dX4_countedFor_38 : decode cX4_countedFor 38 = .ok (.goto 6, 3) := by decide +kernel
theorem dX4_countedFor_41 : decode cX4_countedFor 41 = .ok (.iload_n 2, 1) := by decide +kernel
theorem dX4_countedFor_42 : decode cX4_countedFor 42 = .ok (.iconst 2, 1) := by decide +kernel
theorem dX4_countedFor_43 : decode cX4_countedFor 43 = .ok (.isub, 1) := by decide +kernel
theorem dX4_countedFor_44 : decode cX4_countedFor 44 = .ok (.ireturn, 1) := by decide +kernel
theorem dX4_countedFor_45 : decode cX4_countedFor 45 = .ok (.iconst 3, 1) := by decide +kernel
theorem dX4_countedFor_46 : decode cX4_countedFor 46 = .ok (.iload_n 2, 1) := by decide +kernel
theorem dX4_countedFor_47 : decode cX4_countedFor 47 = .ok (.imul, 1) := by decide +kernel
theorem dX4_countedFor_48 : decode cX4_countedFor 48 = .ok (.ireturn, 1) := by decide +kernel
theorem dX4_countedFor_49 : decode cX4_countedFor 49 = .ok (.iconst 2, 1) := by decide +kernel
theorem dX4_countedFor_50 : decode cX4_countedFor 50 = .ok (.iload_n 2, 1) := by decide +kernel
theorem dX4_countedFor_51 : decode cX4_countedFor 51 = .ok (.imul, 1) := by decide +kernel
theorem dX4_countedFor_52 : decode cX4_countedFor 52 = .ok (.ireturn, 1) := by decide +kernel
theorem dX4_countedFor_53 : decode cX4_countedFor 53 = .ok (.iload_n 2, 1) := by decide +kernel
theorem dX4_countedFor_54 : decode cX4_countedFor 54 = .ok (.ireturn, 1) := by decide +kernel
theorem dX5_init_0 : decode cX5_init 0 = .ok (.aload_n 0, 1) := by decide +kernel
theorem dX5_init_1 : decode cX5_init 1 = .ok (.invokespecial 3, 3) := by decide +kernel
theorem dX5_init_4 : decode cX5_init 4 = .ok (.aload_n 0, 1) := by decide +kernel
theorem dX5_init_5 : decode cX5_init 5 = .ok (.sipush 200, 3) := by decide +kernel
theorem dX5_init_8 : decode cX5_init 8 = .ok (.newarray .int, 2) := by decide +kernel
theorem dX5_init_10 : decode cX5_init 10 = .ok (.putfield 9, 3) := by decide +kernel
theorem dX5_init_13 : decode cX5_init 13 = .ok (.aload_n 0, 1) := by decide +kernel
theorem dX5_init_14 : decode cX5_init 14 = .ok (.new 13, 3) := by decide +kernel
theorem dX5_init_17 : decode cX5_init 17 = .ok (.dup, 1) := by decide +kernel
theorem dX5_init_18 : decode cX5_init 18 = .ok (.invokespecial 15, 3) := by decide +kernel
theorem dX5_init_21 : decode cX5_init 21 = .ok (.putfield 16, 3) := by decide +kernel
theorem dX5_init_24 : decode cX5_init 24 = .ok (.aload_n 0, 1) := by decide +kernel
theorem dX5_init_25 : decode cX5_init 25 = .ok (.new 20, 3) := by decide +kernel
theorem dX5_init_28 : decode cX5_init 28 = .ok (.dup, 1) := by decide +kernel
theorem dX5_init_29 : decode cX5_init 29 = .ok (.invokespecial 22, 3) := by decide +kernel
theorem dX5_init_32 : decode cX5_init 32 = .ok (.putfield 23, 3) := by decide +kernel
theorem dX5_init_35 : decode cX5_init 35 = .ok (.aload_n 0, 1) := by decide +kernel
theorem dX5_init_36 : decode cX5_init 36 = .ok (.new 20, 3) := by decide +kernel
theorem dX5_init_39 : decode cX5_init 39 = .ok (.dup, 1) := by decide +kernel
theorem dX5_init_40 : decode cX5_init 40 = .ok (.invokespecial 22, 3) := by decide +kernel
theorem dX5_init_43 : decode cX5_init 43 = .ok (.putfield 27, 3) := by decide +kernel
theorem dX5_init_46 : decode cX5_init 46 = .ok (.aload_n 0, 1) := by decide +kernel
theorem dX5_init_47 : decode cX5_init 47 = .ok (.new 30, 3) := by decide +kernel
theorem dX5_init_50 : decode cX5_init 50 = .ok (.dup, 1) := by decide +kernel
theorem dX5_init_51 : decode cX5_init 51 = .ok (.aload_n 0, 1) := by decide +kernel
theorem dX5_init_52 : decode cX5_init 52 = .ok (.getfield 27, 3) := by decide +kernel
theorem dX5_init_55 : decode cX5_init 55 = .ok (.invokespecial 32, 3) := by decide +kernel
theorem dX5_init_58 : decode cX5_init 58 = .ok (.putfield 35, 3) := by decide +kernel
theorem dX5_init_61 : decode cX5_init 61 = .ok (.aload_n 0, 1) := by decide +kernel
theorem dX5_init_62 : decode cX5_init 62 = .ok (.new 30, 3) := by decide +kernel
theorem dX5_init_65 : decode cX5_init 65 = .ok (.dup, 1) := by decide +kernel
theorem dX5_init_66 : decode cX5_init 66 = .ok (.aload_n 0, 1) := by decide +kernel
theorem dX5_init_67 : decode cX5_init 67 = .ok (.getfield 27, 3) := by decide +kernel
theorem dX5_init_70 : decode cX5_init 70 = .ok (.invokespecial 32, 3) := by decide +kernel
theorem dX5_init_73 : decode cX5_init 73 = .ok (.putfield 39, 3) := by decide +kernel
theorem dX5_init_76 : decode cX5_init 76 = .ok (.aload_n 0, 1) := by decide +kernel
theorem dX5_init_77 : decode cX5_init 77 = .ok (.new 42, 3) := by decide +kernel
theorem dX5_init_80 : decode cX5_init 80 = .ok (.dup, 1) := by decide +kernel
theorem dX5_init_81 : decode cX5_init 81 = .ok (.aload_n 0, 1) := by decide +kernel
theorem dX5_init_82 : decode cX5_init 82 = .ok (.getfield 27, 3) := by decide +kernel
theorem dX5_init_85 : decode cX5_init 85 = .ok (.invokespecial 44, 3) := by decide +kernel
theorem dX5_init_88 : decode cX5_init 88 = .ok (.putfield 45, 3) := by decide +kernel
theorem dX5_init_91 : decode cX5_init 91 = .ok (.aload_n 0, 1) := by decide +kernel
theorem dX5_init_92 : decode cX5_init 92 = .ok (.iconst 2, 1) := by decide +kernel
theorem dX5_init_93 : decode cX5_init 93 = .ok (.anewarray 30, 3) := by decide +kernel
theorem dX5_init_96 : decode cX5_init 96 = .ok (.putfield 49, 3) := by decide +kernel
theorem dX5_init_99 : decode cX5_init 99 = .ok (.aload_n 0, 1) := by decide +kernel
theorem dX5_init_100 : decode cX5_init 100 = .ok (.new 53, 3) := by decide +kernel
theorem dX5_init_103 : decode cX5_init 103 = .ok (.dup, 1) := by decide +kernel
theorem dX5_init_104 : decode cX5_init 104 = .ok (.invokespecial 55, 3) := by decide +kernel
theorem dX5_init_107 : decode cX5_init 107 = .ok (.putfield 56, 3) := by decide +kernel
theorem dX5_init_110 : decode cX5_init 110 = .ok (.iconst 0, 1) := by decide +kernel
theorem dX5_init_111 : decode cX5_init 111 = .ok (.istore_n 1, 1) := by decide +kernel
theorem dX5_init_112 : decode cX5_init 112 = .ok (.iload_n 1, 1) := by decide +kernel
theorem dX5_init_113 : decode cX5_init 113 = .ok (.iconst 2, 1) := by decide +kernel
theorem dX5_init_114 : decode cX5_init 114 = .ok (.if_icmp .ge 26, 3) := by decide +kernel
theorem dX5_init_117 : decode cX5_init 117 = .ok (.aload_n 0, 1) := by decide +kernel
theorem dX5_init_118 : decode cX5_init 118 = .ok (.getfield 49, 3) := by decide +kernel
theorem dX5_init_121 : decode cX5_init 121 = .ok (.iload_n 1, 1) := by decide +kernel
theorem dX5_init_122 : decode cX5_init 122 = .ok (.new 30, 3) := by decide +kernel
theorem dX5_init_125 : decode cX5_init 125 = .ok (.dup, 1) := by decide +kernel
theorem dX5_init_126 : decode cX5_init 126 = .ok (.aload_n 0, 1) := by decide +kernel
theorem dX5_init_127 : decode cX5_init 127 = .ok (.getfield 27, 3) := by decide +kernel
theorem dX5_init_130 : decode cX5_init 130 = .ok (.invokespecial 32, 3) := by decide +kernel
theorem dX5_init_133 : decode cX5_init 133 = .ok (.aastore, 1) := by decide +kernel
theorem dX5_init_134 : decode cX5_init 134 = .ok (.iinc 1 1, 3) := by decide +kernel
theorem dX5_init_137 : decode cX5_init 137 = .ok (.goto (-25), 3) := by decide +kernel
theorem dX5_init_140 : decode cX5_init 140 = .ok (.aload_n 0, 1) := by decide +kernel
theorem dX5_init_141 : decode cX5_init 141 = .ok (.invokevirtual 60, 3) := by decide +kernel
theorem dX5_init_144 : decode cX5_init 144 = .ok (.aload_n 0, 1) := by decide +kernel
theorem dX5_init_145 : decode cX5_init 145 = .ok (.invokevirtual 63, 3) := by decide +kernel
theorem dX5_init_148 : decode cX5_init 148 = .ok (.aload_n 0, 1) := by decide +kernel
theorem dX5_init_149 : decode cX5_init 149 = .ok (.iconst 0, 1) := by decide +kernel
theorem dX5_init_150 : decode cX5_init 150 = .ok (.putfield 66, 3) := by decide +kernel
theorem dX5_init_153 : decode cX5_init 153 = .ok (.return_, 1) := by decide +kernel
theorem dX5_write_0 : decode cX5_write 0 = .ok (.iload_n 1, 1) := by decide +kernel
theorem dX5_write_1 : decode cX5_write 1 = .ok (.bipush 32, 2) := by decide +kernel
theorem dX5_write_3 : decode cX5_write 3 = .ok (.if_icmp .lt 9, 3) := by decide +kernel
theorem dX5_write_6 : decode cX5_write 6 = .ok (.iload_n 1, 1) := by decide +kernel
theorem dX5_write_7 : decode cX5_write 7 = .ok (.bipush 126, 2) := by decide +kernel
theorem dX5_write_9 : decode cX5_write 9 = .ok (.if_icmp .le 5, 3) := by decide +kernel
theorem dX5_write_12 : decode cX5_write 12 = .ok (.iconst (-1), 1) := by decide +kernel
theorem dX5_write_13 : decode cX5_write 13 = .ok (.ireturn, 1) := by decide +kernel
theorem dX5_write_14 : decode cX5_write 14 = .ok (.aload_n 0, 1) := by decide +kernel
theorem dX5_write_15 : decode cX5_write 15 = .ok (.getfield 66, 3) := by decide +kernel
theorem dX5_write_18 : decode cX5_write 18 = .ok (.sipush 200, 3) := by decide +kernel
theorem dX5_write_21 : decode cX5_write 21 = .ok (.if_icmp .lt 6, 3) := by decide +kernel
theorem dX5_write_24 : decode cX5_write 24 = .ok (.bipush (-3), 2) := by decide +kernel
theorem dX5_write_26 : decode cX5_write 26 = .ok (.ireturn, 1) := by decide +kernel
theorem dX5_write_27 : decode cX5_write 27 = .ok (.aload_n 0, 1) := by decide +kernel
theorem dX5_write_28 : decode cX5_write 28 = .ok (.getfield 9, 3) := by decide +kernel
theorem dX5_write_31 : decode cX5_write 31 = .ok (.aload_n 0, 1) := by decide +kernel
theorem dX5_write_32 : decode cX5_write 32 = .ok (.getfield 66, 3) := by decide +kernel
theorem dX5_write_35 : decode cX5_write 35 = .ok (.iload_n 1, 1) := by decide +kernel
theorem dX5_write_36 : decode cX5_write 36 = .ok (.iastore, 1) := by decide +kernel
theorem dX5_write_37 : decode cX5_write 37 = .ok (.aload_n 0, 1) := by decide +kernel
theorem dX5_write_38 : decode cX5_write 38 = .ok (.dup, 1) := by decide +kernel
theorem dX5_write_39 : decode cX5_write 39 = .ok (.getfield 66, 3) := by decide +kernel
theorem dX5_write_42 : decode cX5_write 42 = .ok (.iconst 1, 1) := by decide +kernel
theorem dX5_write_43 : decode cX5_write 43 = .ok (.iadd, 1) := by decide +kernel
theorem dX5_write_44 : decode cX5_write 44 = .ok (.putfield 66, 3) := by decide +kernel
theorem dX5_write_47 : decode cX5_write 47 = .ok (.aload_n 0, 1) := by decide +kernel
theorem dX5_write_48 : decode cX5_write 48 = .ok (.getfield 66, 3) := by decide +kernel
theorem dX5_write_51 : decode cX5_write 51 = .ok (.ireturn, 1) := by decide +kernel
theorem dX5_wipe_0 : decode cX5_wipe 0 = .ok (.aload_n 0, 1) := by decide +kernel
theorem dX5_wipe_1 : decode cX5_wipe 1 = .ok (.getfield 66, 3) := by decide +kernel
theorem dX5_wipe_4 : decode cX5_wipe 4 = .ok (.istore_n 1, 1) := by decide +kernel
theorem dX5_wipe_5 : decode cX5_wipe 5 = .ok (.aload_n 0, 1) := by decide +kernel
theorem dX5_wipe_6 : decode cX5_wipe 6 = .ok (.iconst 0, 1) := by decide +kernel
theorem dX5_wipe_7 : decode cX5_wipe 7 = .ok (.putfield 66, 3) := by decide +kernel
theorem dX5_wipe_10 : decode cX5_wipe 10 = .ok (.iload_n 1, 1) := by decide +kernel
theorem dX5_wipe_11 : decode cX5_wipe 11 = .ok (.ireturn, 1) := by decide +kernel
theorem dX5_fault_0 : decode cX5_fault 0 = .ok (.aload_n 0, 1) := by decide +kernel
theorem dX5_fault_1 : decode cX5_fault 1 = .ok (.getfield 16, 3) := by decide +kernel
theorem dX5_fault_4 : decode cX5_fault 4 = .ok (.aload_n 0, 1) := by decide +kernel
theorem dX5_fault_5 : decode cX5_fault 5 = .ok (.getfield 9, 3) := by decide +kernel
theorem dX5_fault_8 : decode cX5_fault 8 = .ok (.aload_n 0, 1) := by decide +kernel
theorem dX5_fault_9 : decode cX5_fault 9 = .ok (.getfield 66, 3) := by decide +kernel
theorem dX5_fault_12 : decode cX5_fault 12 = .ok (.aload_n 0, 1) := by decide +kernel
theorem dX5_fault_13 : decode cX5_fault 13 = .ok (.getfield 23, 3) := by decide +kernel
theorem dX5_fault_16 : decode cX5_fault 16 = .ok (.invokevirtual 70, 3) := by decide +kernel
theorem dX5_fault_19 : decode cX5_fault 19 = .ok (.ireturn, 1) := by decide +kernel
theorem dX5_lay_0 : decode cX5_lay 0 = .ok (.aload_n 0, 1) := by decide +kernel
theorem dX5_lay_1 : decode cX5_lay 1 = .ok (.getfield 16, 3) := by decide +kernel
theorem dX5_lay_4 : decode cX5_lay 4 = .ok (.aload_n 0, 1) := by decide +kernel
theorem dX5_lay_5 : decode cX5_lay 5 = .ok (.getfield 9, 3) := by decide +kernel
theorem dX5_lay_8 : decode cX5_lay 8 = .ok (.aload_n 0, 1) := by decide +kernel
theorem dX5_lay_9 : decode cX5_lay 9 = .ok (.getfield 66, 3) := by decide +kernel
theorem dX5_lay_12 : decode cX5_lay 12 = .ok (.aload_n 0, 1) := by decide +kernel
theorem dX5_lay_13 : decode cX5_lay 13 = .ok (.getfield 23, 3) := by decide +kernel
theorem dX5_lay_16 : decode cX5_lay 16 = .ok (.invokevirtual 70, 3) := by decide +kernel
theorem dX5_lay_19 : decode cX5_lay 19 = .ok (.bipush (-4), 2) := by decide +kernel
theorem dX5_lay_21 : decode cX5_lay 21 = .ok (.if_icmp .ne 13, 3) := by decide +kernel
theorem dX5_lay_24 : decode cX5_lay 24 = .ok (.aload_n 0, 1) := by decide +kernel
theorem dX5_lay_25 : decode cX5_lay 25 = .ok (.getfield 23, 3) := by decide +kernel
theorem dX5_lay_28 : decode cX5_lay 28 = .ok (.invokevirtual 74, 3) := by decide +kernel
theorem dX5_lay_31 : decode cX5_lay 31 = .ok (.ifCond .ne 6, 3) := by decide +kernel
theorem dX5_lay_34 : decode cX5_lay 34 = .ok (.bipush (-2), 2) := by decide +kernel
theorem dX5_lay_36 : decode cX5_lay 36 = .ok (.ireturn, 1) := by decide +kernel
theorem dX5_lay_37 : decode cX5_lay 37 = .ok (.aload_n 0, 1) := by decide +kernel
theorem dX5_lay_38 : decode cX5_lay 38 = .ok (.invokevirtual 63, 3) := by decide +kernel
theorem dX5_lay_41 : decode cX5_lay 41 = .ok (.aload_n 0, 1) := by decide +kernel
theorem dX5_lay_42 : decode cX5_lay 42 = .ok (.getfield 27, 3) := by decide +kernel
theorem dX5_lay_45 : decode cX5_lay 45 = .ok (.getfield 78, 3) := by decide +kernel
theorem dX5_lay_48 : decode cX5_lay 48 = .ok (.ireturn, 1) := by decide +kernel
theorem dX5_person_0 : decode cX5_person 0 = .ok (.aload_n 0, 1) := by decide +kernel
theorem dX5_person_1 : decode cX5_person 1 = .ok (.getfield 27, 3) := by decide +kernel
theorem dX5_person_4 : decode cX5_person 4 = .ok (.iload_n 1, 1) := by decide +kernel
theorem dX5_person_5 : decode cX5_person 5 = .ok (.invokevirtual 81, 3) := by decide +kernel
theorem dX5_person_8 : decode cX5_person 8 = .ok (.ifCond .ne 5, 3) := by decide +kernel
theorem dX5_person_11 : decode cX5_person 11 = .ok (.iconst (-1), 1) := by decide +kernel
theorem dX5_person_12 : decode cX5_person 12 = .ok (.ireturn, 1) := by decide +kernel
theorem dX5_person_13 : decode cX5_person 13 = .ok (.iload_n 2, 1) := by decide +kernel
theorem dX5_person_14 : decode cX5_person 14 = .ok (.tableswitch 68 0 3 #[30, 40, 50, 59], 30) := by decide +kernel
theorem dX5_person_44 : decode cX5_person 44 = .ok (.aload_n 0, 1) := by decide +kernel
theorem dX5_person_45 : decode cX5_person 45 = .ok (.getfield 27, 3) := by decide +kernel
theorem dX5_person_48 : decode cX5_person 48 = .ok (.getfield 85, 3) := by decide +kernel
theorem dX5_person_51 : decode cX5_person 51 = .ok (.iload_n 1, 1) := by decide +kernel
theorem dX5_person_52 : decode cX5_person 52 = .ok (.iaload, 1) := by decide +kernel
theorem dX5_person_53 : decode cX5_person 53 = .ok (.ireturn, 1) := by decide +kernel
theorem dX5_person_54 : decode cX5_person 54 = .ok (.aload_n 0, 1) := by decide +kernel
theorem dX5_person_55 : decode cX5_person 55 = .ok (.getfield 35, 3) := by decide +kernel
theorem dX5_person_58 : decode cX5_person 58 = .ok (.getfield 88, 3) := by decide +kernel
theorem dX5_person_61 : decode cX5_person 61 = .ok (.iload_n 1, 1) := by decide +kernel
theorem dX5_person_62 : decode cX5_person 62 = .ok (.iaload, 1) := by decide +kernel
theorem dX5_person_63 : decode cX5_person 63 = .ok (.ireturn, 1) := by decide +kernel
theorem dX5_person_64 : decode cX5_person 64 = .ok (.aload_n 0, 1) := by decide +kernel
theorem dX5_person_65 : decode cX5_person 65 = .ok (.getfield 35, 3) := by decide +kernel
theorem dX5_person_68 : decode cX5_person 68 = .ok (.iload_n 1, 1) := by decide +kernel
theorem dX5_person_69 : decode cX5_person 69 = .ok (.invokevirtual 91, 3) := by decide +kernel
theorem dX5_person_72 : decode cX5_person 72 = .ok (.ireturn, 1) := by decide +kernel
theorem dX5_person_73 : decode cX5_person 73 = .ok (.aload_n 0, 1) := by decide +kernel
theorem dX5_person_74 : decode cX5_person 74 = .ok (.getfield 35, 3) := by decide +kernel
theorem dX5_person_77 : decode cX5_person 77 = .ok (.iload_n 1, 1) := by decide +kernel
theorem dX5_person_78 : decode cX5_person 78 = .ok (.invokevirtual 95, 3) := by decide +kernel
theorem dX5_person_81 : decode cX5_person 81 = .ok (.ireturn, 1) := by decide +kernel
theorem dX5_person_82 : decode cX5_person 82 = .ok (.iconst (-1), 1) := by decide +kernel
theorem dX5_person_83 : decode cX5_person 83 = .ok (.ireturn, 1) := by decide +kernel
theorem dX5_thing_0 : decode cX5_thing 0 = .ok (.aload_n 0, 1) := by decide +kernel
theorem dX5_thing_1 : decode cX5_thing 1 = .ok (.getfield 27, 3) := by decide +kernel
theorem dX5_thing_4 : decode cX5_thing 4 = .ok (.iload_n 1, 1) := by decide +kernel
theorem dX5_thing_5 : decode cX5_thing 5 = .ok (.invokevirtual 98, 3) := by decide +kernel
theorem dX5_thing_8 : decode cX5_thing 8 = .ok (.ifCond .ne 5, 3) := by decide +kernel
theorem dX5_thing_11 : decode cX5_thing 11 = .ok (.iconst (-1), 1) := by decide +kernel
theorem dX5_thing_12 : decode cX5_thing 12 = .ok (.ireturn, 1) := by decide +kernel
theorem dX5_thing_13 : decode cX5_thing 13 = .ok (.iload_n 2, 1) := by decide +kernel
theorem dX5_thing_14 : decode cX5_thing 14 = .ok (.tableswitch 91 0 3 #[30, 46, 56, 66], 30) := by decide +kernel
theorem dX5_thing_44 : decode cX5_thing 44 = .ok (.aload_n 0, 1) := by decide +kernel
theorem dX5_thing_45 : decode cX5_thing 45 = .ok (.getfield 27, 3) := by decide +kernel
theorem dX5_thing_48 : decode cX5_thing 48 = .ok (.iload_n 1, 1) := by decide +kernel
theorem dX5_thing_49 : decode cX5_thing 49 = .ok (.aload_n 0, 1) := by decide +kernel
theorem dX5_thing_50 : decode cX5_thing 50 = .ok (.getfield 35, 3) := by decide +kernel
theorem dX5_thing_53 : decode cX5_thing 53 = .ok (.getfield 101, 3) := by decide +kernel
theorem dX5_thing_56 : decode cX5_thing 56 = .ok (.invokevirtual 104, 3) := by decide +kernel
theorem dX5_thing_59 : decode cX5_thing 59 = .ok (.ireturn, 1) := by decide +kernel
theorem dX5_thing_60 : decode cX5_thing 60 = .ok (.aload_n 0, 1) := by decide +kernel
theorem dX5_thing_61 : decode cX5_thing 61 = .ok (.getfield 35, 3) := by decide +kernel
theorem dX5_thing_64 : decode cX5_thing 64 = .ok (.getfield 108, 3) := by decide +kernel
theorem dX5_thing_67 : decode cX5_thing 67 = .ok (.iload_n 1, 1) := by decide +kernel
theorem dX5_thing_68 : decode cX5_thing 68 = .ok (.iaload, 1) := by decide +kernel
theorem dX5_thing_69 : decode cX5_thing 69 = .ok (.ireturn, 1) := by decide +kernel
theorem dX5_thing_70 : decode cX5_thing 70 = .ok (.aload_n 0, 1) := by decide +kernel
theorem dX5_thing_71 : decode cX5_thing 71 = .ok (.getfield 35, 3) := by decide +kernel
theorem dX5_thing_74 : decode cX5_thing 74 = .ok (.getfield 111, 3) := by decide +kernel
theorem dX5_thing_77 : decode cX5_thing 77 = .ok (.iload_n 1, 1) := by decide +kernel
theorem dX5_thing_78 : decode cX5_thing 78 = .ok (.iaload, 1) := by decide +kernel
theorem dX5_thing_79 : decode cX5_thing 79 = .ok (.ireturn, 1) := by decide +kernel
theorem dX5_thing_80 : decode cX5_thing 80 = .ok (.aload_n 0, 1) := by decide +kernel
theorem dX5_thing_81 : decode cX5_thing 81 = .ok (.getfield 35, 3) := by decide +kernel
theorem dX5_thing_84 : decode cX5_thing 84 = .ok (.iload_n 1, 1) := by decide +kernel
theorem dX5_thing_85 : decode cX5_thing 85 = .ok (.invokevirtual 114, 3) := by decide +kernel
theorem dX5_thing_88 : decode cX5_thing 88 = .ok (.ifCond .eq 14, 3) := by decide +kernel
theorem dX5_thing_91 : decode cX5_thing 91 = .ok (.aload_n 0, 1) := by decide +kernel
theorem dX5_thing_92 : decode cX5_thing 92 = .ok (.getfield 35, 3) := by decide +kernel
theorem dX5_thing_95 : decode cX5_thing 95 = .ok (.iload_n 1, 1) := by decide +kernel
theorem dX5_thing_96 : decode cX5_thing 96 = .ok (.invokevirtual 117, 3) := by decide +kernel
theorem dX5_thing_99 : decode cX5_thing 99 = .ok (.goto 5, 3) := by decide +kernel
theorem dX5_thing_102 : decode cX5_thing 102 = .ok (.bipush (-4), 2) := by decide +kernel
theorem dX5_thing_104 : decode cX5_thing 104 = .ok (.ireturn, 1) := by decide +kernel
theorem dX5_thing_105 : decode cX5_thing 105 = .ok (.iconst (-1), 1) := by decide +kernel
theorem dX5_thing_106 : decode cX5_thing 106 = .ok (.ireturn, 1) := by decide +kernel
theorem dX5_nearly_0 : decode cX5_nearly 0 = .ok (.aload_n 0, 1) := by decide +kernel
theorem dX5_nearly_1 : decode cX5_nearly 1 = .ok (.getfield 27, 3) := by decide +kernel
theorem dX5_nearly_4 : decode cX5_nearly 4 = .ok (.iload_n 1, 1) := by decide +kernel
theorem dX5_nearly_5 : decode cX5_nearly 5 = .ok (.invokevirtual 81, 3) := by decide +kernel
theorem dX5_nearly_8 : decode cX5_nearly 8 = .ok (.ifCond .eq 14, 3) := by decide +kernel
theorem dX5_nearly_11 : decode cX5_nearly 11 = .ok (.aload_n 0, 1) := by decide +kernel
theorem dX5_nearly_12 : decode cX5_nearly 12 = .ok (.getfield 27, 3) := by decide +kernel
theorem dX5_nearly_15 : decode cX5_nearly 15 = .ok (.iload_n 2, 1) := by decide +kernel
theorem dX5_nearly_16 : decode cX5_nearly 16 = .ok (.invokevirtual 98, 3) := by decide +kernel
theorem dX5_nearly_19 : decode cX5_nearly 19 = .ok (.ifCond .ne 5, 3) := by decide +kernel
theorem dX5_nearly_22 : decode cX5_nearly 22 = .ok (.iconst (-1), 1) := by decide +kernel
theorem dX5_nearly_23 : decode cX5_nearly 23 = .ok (.ireturn, 1) := by decide +kernel
theorem dX5_nearly_24 : decode cX5_nearly 24 = .ok (.iload_n 3, 1) := by decide +kernel
theorem dX5_nearly_25 : decode cX5_nearly 25 = .ok (.tableswitch 105 0 4 #[35, 47, 59, 71, 93], 35) := by decide +kernel
theorem dX5_nearly_60 : decode cX5_nearly 60 = .ok (.aload_n 0, 1) := by decide +kernel
theorem dX5_nearly_61 : decode cX5_nearly 61 = .ok (.getfield 35, 3) := by decide +kernel
theorem dX5_nearly_64 : decode cX5_nearly 64 = .ok (.getfield 120, 3) := by decide +kernel
theorem dX5_nearly_67 : decode cX5_nearly 67 = .ok (.iload_n 1, 1) := by decide +kernel
theorem dX5_nearly_68 : decode cX5_nearly 68 = .ok (.aaload, 1) := by decide +kernel
theorem dX5_nearly_69 : decode cX5_nearly 69 = .ok (.iload_n 2, 1) := by decide +kernel
theorem dX5_nearly_70 : decode cX5_nearly 70 = .ok (.iaload, 1) := by decide +kernel
theorem dX5_nearly_71 : decode cX5_nearly 71 = .ok (.ireturn, 1) := by decide +kernel
theorem dX5_nearly_72 : decode cX5_nearly 72 = .ok (.aload_n 0, 1) := by decide +kernel
theorem dX5_nearly_73 : decode cX5_nearly 73 = .ok (.getfield 35, 3) := by decide +kernel
theorem dX5_nearly_76 : decode cX5_nearly 76 = .ok (.getfield 124, 3) := by decide +kernel
theorem dX5_nearly_79 : decode cX5_nearly 79 = .ok (.iload_n 1, 1) := by decide +kernel
theorem dX5_nearly_80 : decode cX5_nearly 80 = .ok (.aaload, 1) := by decide +kernel
theorem dX5_nearly_81 : decode cX5_nearly 81 = .ok (.iload_n 2, 1) := by decide +kernel
theorem dX5_nearly_82 : decode cX5_nearly 82 = .ok (.iaload, 1) := by decide +kernel
theorem dX5_nearly_83 : decode cX5_nearly 83 = .ok (.ireturn, 1) := by decide +kernel
theorem dX5_nearly_84 : decode cX5_nearly 84 = .ok (.aload_n 0, 1) := by decide +kernel
theorem dX5_nearly_85 : decode cX5_nearly 85 = .ok (.getfield 35, 3) := by decide +kernel
theorem dX5_nearly_88 : decode cX5_nearly 88 = .ok (.getfield 127, 3) := by decide +kernel
theorem dX5_nearly_91 : decode cX5_nearly 91 = .ok (.iload_n 1, 1) := by decide +kernel
theorem dX5_nearly_92 : decode cX5_nearly 92 = .ok (.aaload, 1) := by decide +kernel
theorem dX5_nearly_93 : decode cX5_nearly 93 = .ok (.iload_n 2, 1) := by decide +kernel
theorem dX5_nearly_94 : decode cX5_nearly 94 = .ok (.iaload, 1) := by decide +kernel
theorem dX5_nearly_95 : decode cX5_nearly 95 = .ok (.ireturn, 1) := by decide +kernel
theorem dX5_nearly_96 : decode cX5_nearly 96 = .ok (.aload_n 0, 1) := by decide +kernel
theorem dX5_nearly_97 : decode cX5_nearly 97 = .ok (.getfield 35, 3) := by decide +kernel
theorem dX5_nearly_100 : decode cX5_nearly 100 = .ok (.getfield 130, 3) := by decide +kernel
theorem dX5_nearly_103 : decode cX5_nearly 103 = .ok (.iload_n 1, 1) := by decide +kernel
theorem dX5_nearly_104 : decode cX5_nearly 104 = .ok (.aaload, 1) := by decide +kernel
theorem dX5_nearly_105 : decode cX5_nearly 105 = .ok (.iload_n 2, 1) := by decide +kernel
theorem dX5_nearly_106 : decode cX5_nearly 106 = .ok (.iaload, 1) := by decide +kernel
theorem dX5_nearly_107 : decode cX5_nearly 107 = .ok (.bipush (-4), 2) := by decide +kernel
theorem dX5_nearly_109 : decode cX5_nearly 109 = .ok (.if_icmp .eq 7, 3) := by decide +kernel
theorem dX5_nearly_112 : decode cX5_nearly 112 = .ok (.iconst 1, 1) := by decide +kernel
theorem dX5_nearly_113 : decode cX5_nearly 113 = .ok (.goto 4, 3) := by decide +kernel
theorem dX5_nearly_116 : decode cX5_nearly 116 = .ok (.iconst 0, 1) := by decide +kernel
theorem dX5_nearly_117 : decode cX5_nearly 117 = .ok (.ireturn, 1) := by decide +kernel
theorem dX5_nearly_118 : decode cX5_nearly 118 = .ok (.aload_n 0, 1) := by decide +kernel
theorem dX5_nearly_119 : decode cX5_nearly 119 = .ok (.getfield 35, 3) := by decide +kernel
theorem dX5_nearly_122 : decode cX5_nearly 122 = .ok (.getfield 130, 3) := by decide +kernel
theorem dX5_nearly_125 : decode cX5_nearly 125 = .ok (.iload_n 1, 1) := by decide +kernel
theorem dX5_nearly_126 : decode cX5_nearly 126 = .ok (.aaload, 1) := by decide +kernel
theorem dX5_nearly_127 : decode cX5_nearly 127 = .ok (.iload_n 2, 1) := by decide +kernel
theorem dX5_nearly_128 : decode cX5_nearly 128 = .ok (.iaload, 1) := by decide +kernel
theorem dX5_nearly_129 : decode cX5_nearly 129 = .ok (.ireturn, 1) := by decide +kernel
theorem dX5_nearly_130 : decode cX5_nearly 130 = .ok (.iconst (-1), 1) := by decide +kernel
theorem dX5_nearly_131 : decode cX5_nearly 131 = .ok (.ireturn, 1) := by decide +kernel
theorem dX5_pause_0 : decode cX5_pause 0 = .ok (.aload_n 0, 1) := by decide +kernel
theorem dX5_pause_1 : decode cX5_pause 1 = .ok (.getfield 27, 3) := by decide +kernel
theorem dX5_pause_4 : decode cX5_pause 4 = .ok (.iload_n 1, 1) := by decide +kernel
theorem dX5_pause_5 : decode cX5_pause 5 = .ok (.invokevirtual 81, 3) := by decide +kernel
theorem dX5_pause_8 : decode cX5_pause 8 = .ok (.ifCond .eq 25, 3) := by decide +kernel
theorem dX5_pause_11 : decode cX5_pause 11 = .ok (.aload_n 0, 1) := by decide +kernel
theorem dX5_pause_12 : decode cX5_pause 12 = .ok (.getfield 27, 3) := by decide +kernel
theorem dX5_pause_15 : decode cX5_pause 15 = .ok (.iload_n 2, 1) := by decide +kernel
theorem dX5_pause_16 : decode cX5_pause 16 = .ok (.invokevirtual 98, 3) := by decide +kernel
theorem dX5_pause_19 : decode cX5_pause 19 = .ok (.ifCond .eq 14, 3) := by decide +kernel
theorem dX5_pause_22 : decode cX5_pause 22 = .ok (.iload_n 3, 1) := by decide +kernel
theorem dX5_pause_23 : decode cX5_pause 23 = .ok (.iconst 1, 1) := by decide +kernel
theorem dX5_pause_24 : decode cX5_pause 24 = .ok (.if_icmp .lt 9, 3) := by decide +kernel
theorem dX5_pause_27 : decode cX5_pause 27 = .ok (.iload_n 3, 1) := by decide +kernel
theorem dX5_pause_28 : decode cX5_pause 28 = .ok (.bipush 30, 2) := by decide +kernel
theorem dX5_pause_30 : decode cX5_pause 30 = .ok (.if_icmp .le 5, 3) := by decide +kernel
theorem dX5_pause_33 : decode cX5_pause 33 = .ok (.iconst (-1), 1) := by decide +kernel
theorem dX5_pause_34 : decode cX5_pause 34 = .ok (.ireturn, 1) := by decide +kernel
theorem dX5_pause_35 : decode cX5_pause 35 = .ok (.aload_n 0, 1) := by decide +kernel
theorem dX5_pause_36 : decode cX5_pause 36 = .ok (.getfield 45, 3) := by decide +kernel
theorem dX5_pause_39 : decode cX5_pause 39 = .ok (.aload_n 0, 1) := by decide +kernel
theorem dX5_pause_40 : decode cX5_pause 40 = .ok (.getfield 35, 3) := by decide +kernel
theorem dX5_pause_43 : decode cX5_pause 43 = .ok (.invokevirtual 133, 3) := by decide +kernel
theorem dX5_pause_46 : decode cX5_pause 46 = .ok (.aload_n 0, 1) := by decide +kernel
theorem dX5_pause_47 : decode cX5_pause 47 = .ok (.getfield 35, 3) := by decide +kernel
theorem dX5_pause_50 : decode cX5_pause 50 = .ok (.iload_n 1, 1) := by decide +kernel
theorem dX5_pause_51 : decode cX5_pause 51 = .ok (.iload_n 2, 1) := by decide +kernel
theorem dX5_pause_52 : decode cX5_pause 52 = .ok (.iload_n 3, 1) := by decide +kernel
theorem dX5_pause_53 : decode cX5_pause 53 = .ok (.invokevirtual 137, 3) := by decide +kernel
theorem dX5_pause_56 : decode cX5_pause 56 = .ok (.aload_n 0, 1) := by decide +kernel
theorem dX5_pause_57 : decode cX5_pause 57 = .ok (.getfield 35, 3) := by decide +kernel
theorem dX5_pause_60 : decode cX5_pause 60 = .ok (.getfield 124, 3) := by decide +kernel
theorem dX5_pause_63 : decode cX5_pause 63 = .ok (.iload_n 1, 1) := by decide +kernel
theorem dX5_pause_64 : decode cX5_pause 64 = .ok (.aaload, 1) := by decide +kernel
theorem dX5_pause_65 : decode cX5_pause 65 = .ok (.iload_n 2, 1) := by decide +kernel
theorem dX5_pause_66 : decode cX5_pause 66 = .ok (.iaload, 1) := by decide +kernel
theorem dX5_pause_67 : decode cX5_pause 67 = .ok (.ireturn, 1) := by decide +kernel
theorem dX5_fair_0 : decode cX5_fair 0 = .ok (.aload_n 0, 1) := by decide +kernel
theorem dX5_fair_1 : decode cX5_fair 1 = .ok (.getfield 35, 3) := by decide +kernel
theorem dX5_fair_4 : decode cX5_fair 4 = .ok (.getfield 101, 3) := by decide +kernel
theorem dX5_fair_7 : decode cX5_fair 7 = .ok (.bipush 99, 2) := by decide +kernel
theorem dX5_fair_9 : decode cX5_fair 9 = .ok (.if_icmp .lt 6, 3) := by decide +kernel
theorem dX5_fair_12 : decode cX5_fair 12 = .ok (.bipush (-2), 2) := by decide +kernel
theorem dX5_fair_14 : decode cX5_fair 14 = .ok (.ireturn, 1) := by decide +kernel
theorem dX5_fair_15 : decode cX5_fair 15 = .ok (.aload_n 0, 1) := by decide +kernel
theorem dX5_fair_16 : decode cX5_fair 16 = .ok (.getfield 45, 3) := by decide +kernel
theorem dX5_fair_19 : decode cX5_fair 19 = .ok (.aload_n 0, 1) := by decide +kernel
theorem dX5_fair_20 : decode cX5_fair 20 = .ok (.getfield 35, 3) := by decide +kernel
theorem dX5_fair_23 : decode cX5_fair 23 = .ok (.invokevirtual 133, 3) := by decide +kernel
theorem dX5_fair_26 : decode cX5_fair 26 = .ok (.aload_n 0, 1) := by decide +kernel
theorem dX5_fair_27 : decode cX5_fair 27 = .ok (.getfield 35, 3) := by decide +kernel
theorem dX5_fair_30 : decode cX5_fair 30 = .ok (.invokevirtual 141, 3) := by decide +kernel
theorem dX5_fair_33 : decode cX5_fair 33 = .ok (.ireturn, 1) := by decide +kernel
theorem dX5_give_0 : decode cX5_give 0 = .ok (.aload_n 0, 1) := by decide +kernel
theorem dX5_give_1 : decode cX5_give 1 = .ok (.getfield 27, 3) := by decide +kernel
theorem dX5_give_4 : decode cX5_give 4 = .ok (.iload_n 1, 1) := by decide +kernel
theorem dX5_give_5 : decode cX5_give 5 = .ok (.invokevirtual 81, 3) := by decide +kernel
theorem dX5_give_8 : decode cX5_give 8 = .ok (.ifCond .eq 30, 3) := by decide +kernel
theorem dX5_give_11 : decode cX5_give 11 = .ok (.aload_n 0, 1) := by decide +kernel
theorem dX5_give_12 : decode cX5_give 12 = .ok (.getfield 27, 3) := by decide +kernel
theorem dX5_give_15 : decode cX5_give 15 = .ok (.iload_n 2, 1) := by decide +kernel
theorem dX5_give_16 : decode cX5_give 16 = .ok (.invokevirtual 81, 3) := by decide +kernel
theorem dX5_give_19 : decode cX5_give 19 = .ok (.ifCond .eq 19, 3) := by decide +kernel
theorem dX5_give_22 : decode cX5_give 22 = .ok (.iload_n 1, 1) := by decide +kernel
theorem dX5_give_23 : decode cX5_give 23 = .ok (.iload_n 2, 1) := by decide +kernel
theorem dX5_give_24 : decode cX5_give 24 = .ok (.if_icmp .eq 14, 3) := by decide +kernel
theorem dX5_give_27 : decode cX5_give 27 = .ok (.iload_n 3, 1) := by decide +kernel
theorem dX5_give_28 : decode cX5_give 28 = .ok (.iconst 1, 1) := by decide +kernel
theorem dX5_give_29 : decode cX5_give 29 = .ok (.if_icmp .lt 9, 3) := by decide +kernel
theorem dX5_give_32 : decode cX5_give 32 = .ok (.iload_n 3, 1) := by decide +kernel
theorem dX5_give_33 : decode cX5_give 33 = .ok (.bipush 99, 2) := by decide +kernel
theorem dX5_give_35 : decode cX5_give 35 = .ok (.if_icmp .le 5, 3) := by decide +kernel
theorem dX5_give_38 : decode cX5_give 38 = .ok (.iconst (-1), 1) := by decide +kernel
theorem dX5_give_39 : decode cX5_give 39 = .ok (.ireturn, 1) := by decide +kernel
theorem dX5_give_40 : decode cX5_give 40 = .ok (.aload_n 0, 1) := by decide +kernel
theorem dX5_give_41 : decode cX5_give 41 = .ok (.getfield 35, 3) := by decide +kernel
theorem dX5_give_44 : decode cX5_give 44 = .ok (.getfield 88, 3) := by decide +kernel
theorem dX5_give_47 : decode cX5_give 47 = .ok (.iload_n 1, 1) := by decide +kernel
theorem dX5_give_48 : decode cX5_give 48 = .ok (.iaload, 1) := by decide +kernel
theorem dX5_give_49 : decode cX5_give 49 = .ok (.iload_n 3, 1) := by decide +kernel
theorem dX5_give_50 : decode cX5_give 50 = .ok (.if_icmp .ge 6, 3) := by decide +kernel
theorem dX5_give_53 : decode cX5_give 53 = .ok (.bipush (-2), 2) := by decide +kernel
theorem dX5_give_55 : decode cX5_give 55 = .ok (.ireturn, 1) := by decide +kernel
theorem dX5_give_56 : decode cX5_give 56 = .ok (.aload_n 0, 1) := by decide +kernel
theorem dX5_give_57 : decode cX5_give 57 = .ok (.getfield 35, 3) := by decide +kernel
theorem dX5_give_60 : decode cX5_give 60 = .ok (.getfield 88, 3) := by decide +kernel
theorem dX5_give_63 : decode cX5_give 63 = .ok (.iload_n 2, 1) := by decide +kernel
theorem dX5_give_64 : decode cX5_give 64 = .ok (.iaload, 1) := by decide +kernel
theorem dX5_give_65 : decode cX5_give 65 = .ok (.iload_n 3, 1) := by decide +kernel
theorem dX5_give_66 : decode cX5_give 66 = .ok (.iadd, 1) := by decide +kernel
theorem dX5_give_67 : decode cX5_give 67 = .ok (.sipush 999, 3) := by decide +kernel
theorem dX5_give_70 : decode cX5_give 70 = .ok (.if_icmp .le 6, 3) := by decide +kernel
theorem dX5_give_73 : decode cX5_give 73 = .ok (.bipush (-3), 2) := by decide +kernel
theorem dX5_give_75 : decode cX5_give 75 = .ok (.ireturn, 1) := by decide +kernel
theorem dX5_give_76 : decode cX5_give 76 = .ok (.aload_n 0, 1) := by decide +kernel
theorem dX5_give_77 : decode cX5_give 77 = .ok (.getfield 45, 3) := by decide +kernel
theorem dX5_give_80 : decode cX5_give 80 = .ok (.aload_n 0, 1) := by decide +kernel
theorem dX5_give_81 : decode cX5_give 81 = .ok (.getfield 35, 3) := by decide +kernel
theorem dX5_give_84 : decode cX5_give 84 = .ok (.invokevirtual 133, 3) := by decide +kernel
theorem dX5_give_87 : decode cX5_give 87 = .ok (.aload_n 0, 1) := by decide +kernel
theorem dX5_give_88 : decode cX5_give 88 = .ok (.getfield 35, 3) := by decide +kernel
theorem dX5_give_91 : decode cX5_give 91 = .ok (.getfield 88, 3) := by decide +kernel
theorem dX5_give_94 : decode cX5_give 94 = .ok (.iload_n 1, 1) := by decide +kernel
theorem dX5_give_95 : decode cX5_give 95 = .ok (.dup2, 1) := by decide +kernel
theorem dX5_give_96 : decode cX5_give 96 = .ok (.iaload, 1) := by decide +kernel
theorem dX5_give_97 : decode cX5_give 97 = .ok (.iload_n 3, 1) := by decide +kernel
theorem dX5_give_98 : decode cX5_give 98 = .ok (.isub, 1) := by decide +kernel
theorem dX5_give_99 : decode cX5_give 99 = .ok (.iastore, 1) := by decide +kernel
theorem dX5_give_100 : decode cX5_give 100 = .ok (.aload_n 0, 1) := by decide +kernel
theorem dX5_give_101 : decode cX5_give 101 = .ok (.getfield 35, 3) := by decide +kernel
theorem dX5_give_104 : decode cX5_give 104 = .ok (.getfield 88, 3) := by decide +kernel
theorem dX5_give_107 : decode cX5_give 107 = .ok (.iload_n 2, 1) := by decide +kernel
theorem dX5_give_108 : decode cX5_give 108 = .ok (.dup2, 1) := by decide +kernel
theorem dX5_give_109 : decode cX5_give 109 = .ok (.iaload, 1) := by decide +kernel
theorem dX5_give_110 : decode cX5_give 110 = .ok (.iload_n 3, 1) := by decide +kernel
theorem dX5_give_111 : decode cX5_give 111 = .ok (.iadd, 1) := by decide +kernel
theorem dX5_give_112 : decode cX5_give 112 = .ok (.iastore, 1) := by decide +kernel
theorem dX5_give_113 : decode cX5_give 113 = .ok (.aload_n 0, 1) := by decide +kernel
theorem dX5_give_114 : decode cX5_give 114 = .ok (.getfield 35, 3) := by decide +kernel
theorem dX5_give_117 : decode cX5_give 117 = .ok (.getfield 88, 3) := by decide +kernel
theorem dX5_give_120 : decode cX5_give 120 = .ok (.iload_n 1, 1) := by decide +kernel
theorem dX5_give_121 : decode cX5_give 121 = .ok (.iaload, 1) := by decide +kernel
theorem dX5_give_122 : decode cX5_give 122 = .ok (.ireturn, 1) := by decide +kernel
theorem dX5_undo_0 : decode cX5_undo 0 = .ok (.aload_n 0, 1) := by decide +kernel
theorem dX5_undo_1 : decode cX5_undo 1 = .ok (.getfield 45, 3) := by decide +kernel
theorem dX5_undo_4 : decode cX5_undo 4 = .ok (.getfield 145, 3) := by decide +kernel
theorem dX5_undo_7 : decode cX5_undo 7 = .ok (.ifCond .ne 6, 3) := by decide +kernel
theorem dX5_undo_10 : decode cX5_undo 10 = .ok (.bipush (-2), 2) := by decide +kernel
theorem dX5_undo_12 : decode cX5_undo 12 = .ok (.ireturn, 1) := by decide +kernel
theorem dX5_undo_13 : decode cX5_undo 13 = .ok (.aload_n 0, 1) := by decide +kernel
theorem dX5_undo_14 : decode cX5_undo 14 = .ok (.getfield 45, 3) := by decide +kernel
theorem dX5_undo_17 : decode cX5_undo 17 = .ok (.aload_n 0, 1) := by decide +kernel
theorem dX5_undo_18 : decode cX5_undo 18 = .ok (.getfield 35, 3) := by decide +kernel
theorem dX5_undo_21 : decode cX5_undo 21 = .ok (.invokevirtual 148, 3) := by decide +kernel
theorem dX5_undo_24 : decode cX5_undo 24 = .ok (.aload_n 0, 1) := by decide +kernel
theorem dX5_undo_25 : decode cX5_undo 25 = .ok (.getfield 45, 3) := by decide +kernel
theorem dX5_undo_28 : decode cX5_undo 28 = .ok (.getfield 145, 3) := by decide +kernel
theorem dX5_undo_31 : decode cX5_undo 31 = .ok (.ireturn, 1) := by decide +kernel
theorem dX5_behind_0 : decode cX5_behind 0 = .ok (.aload_n 0, 1) := by decide +kernel
theorem dX5_behind_1 : decode cX5_behind 1 = .ok (.getfield 27, 3) := by decide +kernel
theorem dX5_behind_4 : decode cX5_behind 4 = .ok (.iload_n 1, 1) := by decide +kernel
theorem dX5_behind_5 : decode cX5_behind 5 = .ok (.invokevirtual 98, 3) := by decide +kernel
theorem dX5_behind_8 : decode cX5_behind 8 = .ok (.ifCond .eq 13, 3) := by decide +kernel
theorem dX5_behind_11 : decode cX5_behind 11 = .ok (.iload_n 2, 1) := by decide +kernel
theorem dX5_behind_12 : decode cX5_behind 12 = .ok (.ifCond .lt 9, 3) := by decide +kernel
theorem dX5_behind_15 : decode cX5_behind 15 = .ok (.iload_n 2, 1) := by decide +kernel
theorem dX5_behind_16 : decode cX5_behind 16 = .ok (.bipush 9, 2) := by decide +kernel
theorem dX5_behind_18 : decode cX5_behind 18 = .ok (.if_icmp .le 5, 3) := by decide +kernel
theorem dX5_behind_21 : decode cX5_behind 21 = .ok (.iconst (-1), 1) := by decide +kernel
theorem dX5_behind_22 : decode cX5_behind 22 = .ok (.ireturn, 1) := by decide +kernel
theorem dX5_behind_23 : decode cX5_behind 23 = .ok (.aload_n 0, 1) := by decide +kernel
theorem dX5_behind_24 : decode cX5_behind 24 = .ok (.getfield 39, 3) := by decide +kernel
theorem dX5_behind_27 : decode cX5_behind 27 = .ok (.aload_n 0, 1) := by decide +kernel
theorem dX5_behind_28 : decode cX5_behind 28 = .ok (.getfield 35, 3) := by decide +kernel
theorem dX5_behind_31 : decode cX5_behind 31 = .ok (.invokevirtual 151, 3) := by decide +kernel
theorem dX5_behind_34 : decode cX5_behind 34 = .ok (.aload_n 0, 1) := by decide +kernel
theorem dX5_behind_35 : decode cX5_behind 35 = .ok (.getfield 39, 3) := by decide +kernel
theorem dX5_behind_38 : decode cX5_behind 38 = .ok (.iload_n 2, 1) := by decide +kernel
theorem dX5_behind_39 : decode cX5_behind 39 = .ok (.invokevirtual 154, 3) := by decide +kernel
theorem dX5_behind_42 : decode cX5_behind 42 = .ok (.aload_n 0, 1) := by decide +kernel
theorem dX5_behind_43 : decode cX5_behind 43 = .ok (.getfield 39, 3) := by decide +kernel
theorem dX5_behind_46 : decode cX5_behind 46 = .ok (.getfield 108, 3) := by decide +kernel
theorem dX5_behind_49 : decode cX5_behind 49 = .ok (.iload_n 1, 1) := by decide +kernel
theorem dX5_behind_50 : decode cX5_behind 50 = .ok (.iaload, 1) := by decide +kernel
theorem dX5_behind_51 : decode cX5_behind 51 = .ok (.ireturn, 1) := by decide +kernel
theorem dX5_goes_0 : decode cX5_goes 0 = .ok (.aload_n 0, 1) := by decide +kernel
theorem dX5_goes_1 : decode cX5_goes 1 = .ok (.getfield 27, 3) := by decide +kernel
theorem dX5_goes_4 : decode cX5_goes 4 = .ok (.iload_n 1, 1) := by decide +kernel
theorem dX5_goes_5 : decode cX5_goes 5 = .ok (.invokevirtual 98, 3) := by decide +kernel
theorem dX5_goes_8 : decode cX5_goes 8 = .ok (.ifCond .ne 5, 3) := by decide +kernel
theorem dX5_goes_11 : decode cX5_goes 11 = .ok (.iconst (-1), 1) := by decide +kernel
theorem dX5_goes_12 : decode cX5_goes 12 = .ok (.ireturn, 1) := by decide +kernel
theorem dX5_goes_13 : decode cX5_goes 13 = .ok (.aload_n 0, 1) := by decide +kernel
theorem dX5_goes_14 : decode cX5_goes 14 = .ok (.getfield 39, 3) := by decide +kernel
theorem dX5_goes_17 : decode cX5_goes 17 = .ok (.aload_n 0, 1) := by decide +kernel
theorem dX5_goes_18 : decode cX5_goes 18 = .ok (.getfield 35, 3) := by decide +kernel
theorem dX5_goes_21 : decode cX5_goes 21 = .ok (.invokevirtual 151, 3) := by decide +kernel
theorem dX5_goes_24 : decode cX5_goes 24 = .ok (.aload_n 0, 1) := by decide +kernel
theorem dX5_goes_25 : decode cX5_goes 25 = .ok (.getfield 39, 3) := by decide +kernel
theorem dX5_goes_28 : decode cX5_goes 28 = .ok (.iload_n 1, 1) := by decide +kernel
theorem dX5_goes_29 : decode cX5_goes 29 = .ok (.invokevirtual 158, 3) := by decide +kernel
theorem dX5_goes_32 : decode cX5_goes 32 = .ok (.ireturn, 1) := by decide +kernel
theorem dX5_never_0 : decode cX5_never 0 = .ok (.aload_n 0, 1) := by decide +kernel
theorem dX5_never_1 : decode cX5_never 1 = .ok (.getfield 39, 3) := by decide +kernel
theorem dX5_never_4 : decode cX5_never 4 = .ok (.aload_n 0, 1) := by decide +kernel
theorem dX5_never_5 : decode cX5_never 5 = .ok (.getfield 35, 3) := by decide +kernel
theorem dX5_never_8 : decode cX5_never 8 = .ok (.invokevirtual 151, 3) := by decide +kernel
theorem dX5_never_11 : decode cX5_never 11 = .ok (.aload_n 0, 1) := by decide +kernel
theorem dX5_never_12 : decode cX5_never 12 = .ok (.getfield 39, 3) := by decide +kernel
theorem dX5_never_15 : decode cX5_never 15 = .ok (.bipush 9, 2) := by decide +kernel
theorem dX5_never_17 : decode cX5_never 17 = .ok (.invokevirtual 154, 3) := by decide +kernel
theorem dX5_never_20 : decode cX5_never 20 = .ok (.iconst 0, 1) := by decide +kernel
theorem dX5_never_21 : decode cX5_never 21 = .ok (.istore_n 1, 1) := by decide +kernel
theorem dX5_never_22 : decode cX5_never 22 = .ok (.iconst 0, 1) := by decide +kernel
theorem dX5_never_23 : decode cX5_never 23 = .ok (.istore_n 2, 1) := by decide +kernel
theorem dX5_never_24 : decode cX5_never 24 = .ok (.iload_n 2, 1) := by decide +kernel
theorem dX5_never_25 : decode cX5_never 25 = .ok (.aload_n 0, 1) := by decide +kernel
theorem dX5_never_26 : decode cX5_never 26 = .ok (.getfield 27, 3) := by decide +kernel
theorem dX5_never_29 : decode cX5_never 29 = .ok (.getfield 78, 3) := by decide +kernel
theorem dX5_never_32 : decode cX5_never 32 = .ok (.if_icmp .ge 26, 3) := by decide +kernel
theorem dX5_never_35 : decode cX5_never 35 = .ok (.aload_n 0, 1) := by decide +kernel
theorem dX5_never_36 : decode cX5_never 36 = .ok (.getfield 39, 3) := by decide +kernel
theorem dX5_never_39 : decode cX5_never 39 = .ok (.iload_n 2, 1) := by decide +kernel
theorem dX5_never_40 : decode cX5_never 40 = .ok (.invokevirtual 114, 3) := by decide +kernel
theorem dX5_never_43 : decode cX5_never 43 = .ok (.ifCond .eq 9, 3) := by decide +kernel
theorem dX5_never_46 : decode cX5_never 46 = .ok (.iload_n 1, 1) := by decide +kernel
theorem dX5_never_47 : decode cX5_never 47 = .ok (.iconst 1, 1) := by decide +kernel
theorem dX5_never_48 : decode cX5_never 48 = .ok (.iload_n 2, 1) := by decide +kernel
theorem dX5_never_49 : decode cX5_never 49 = .ok (.ishl, 1) := by decide +kernel
theorem dX5_never_50 : decode cX5_never 50 = .ok (.ior, 1) := by decide +kernel
theorem dX5_never_51 : decode cX5_never 51 = .ok (.istore_n 1, 1) := by decide +kernel
theorem dX5_never_52 : decode cX5_never 52 = .ok (.iinc 2 1, 3) := by decide +kernel
theorem dX5_never_55 : decode cX5_never 55 = .ok (.goto (-31), 3) := by decide +kernel
theorem dX5_never_58 : decode cX5_never 58 = .ok (.iload_n 1, 1) := by decide +kernel
theorem dX5_never_59 : decode cX5_never 59 = .ok (.ireturn, 1) := by decide +kernel
theorem dX5_stop_0 : decode cX5_stop 0 = .ok (.aload_n 0, 1) := by decide +kernel
theorem dX5_stop_1 : decode cX5_stop 1 = .ok (.getfield 27, 3) := by decide +kernel
theorem dX5_stop_4 : decode cX5_stop 4 = .ok (.iload_n 1, 1) := by decide +kernel
theorem dX5_stop_5 : decode cX5_stop 5 = .ok (.invokevirtual 81, 3) := by decide +kernel
theorem dX5_stop_8 : decode cX5_stop 8 = .ok (.ifCond .eq 23, 3) := by decide +kernel
theorem dX5_stop_11 : decode cX5_stop 11 = .ok (.aload_n 0, 1) := by decide +kernel
theorem dX5_stop_12 : decode cX5_stop 12 = .ok (.getfield 27, 3) := by decide +kernel
theorem dX5_stop_15 : decode cX5_stop 15 = .ok (.iload_n 2, 1) := by decide +kernel
theorem dX5_stop_16 : decode cX5_stop 16 = .ok (.invokevirtual 98, 3) := by decide +kernel
theorem dX5_stop_19 : decode cX5_stop 19 = .ok (.ifCond .eq 12, 3) := by decide +kernel
theorem dX5_stop_22 : decode cX5_stop 22 = .ok (.iload_n 3, 1) := by decide +kernel
theorem dX5_stop_23 : decode cX5_stop 23 = .ok (.ifCond .lt 8, 3) := by decide +kernel
theorem dX5_stop_26 : decode cX5_stop 26 = .ok (.iload_n 3, 1) := by decide +kernel
theorem dX5_stop_27 : decode cX5_stop 27 = .ok (.iconst 1, 1) := by decide +kernel
theorem dX5_stop_28 : decode cX5_stop 28 = .ok (.if_icmp .le 5, 3) := by decide +kernel
theorem dX5_stop_31 : decode cX5_stop 31 = .ok (.iconst (-1), 1) := by decide +kernel
theorem dX5_stop_32 : decode cX5_stop 32 = .ok (.ireturn, 1) := by decide +kernel
theorem dX5_stop_33 : decode cX5_stop 33 = .ok (.iconst 0, 1) := by decide +kernel
theorem dX5_stop_34 : decode cX5_stop 34 = .ok (.istore 4, 2) := by decide +kernel
theorem dX5_stop_36 : decode cX5_stop 36 = .ok (.iload 4, 2) := by decide +kernel
theorem dX5_stop_38 : decode cX5_stop 38 = .ok (.bipush 30, 2) := by decide +kernel
theorem dX5_stop_40 : decode cX5_stop 40 = .ok (.if_icmp .gt 71, 3) := by decide +kernel
theorem dX5_stop_43 : decode cX5_stop 43 = .ok (.aload_n 0, 1) := by decide +kernel
theorem dX5_stop_44 : decode cX5_stop 44 = .ok (.getfield 39, 3) := by decide +kernel
theorem dX5_stop_47 : decode cX5_stop 47 = .ok (.aload_n 0, 1) := by decide +kernel
theorem dX5_stop_48 : decode cX5_stop 48 = .ok (.getfield 35, 3) := by decide +kernel
theorem dX5_stop_51 : decode cX5_stop 51 = .ok (.invokevirtual 151, 3) := by decide +kernel
theorem dX5_stop_54 : decode cX5_stop 54 = .ok (.iload 4, 2) := by decide +kernel
theorem dX5_stop_56 : decode cX5_stop 56 = .ok (.ifCond .le 14, 3) := by decide +kernel
theorem dX5_stop_59 : decode cX5_stop 59 = .ok (.aload_n 0, 1) := by decide +kernel
theorem dX5_stop_60 : decode cX5_stop 60 = .ok (.getfield 39, 3) := by decide +kernel
theorem dX5_stop_63 : decode cX5_stop 63 = .ok (.iload_n 1, 1) := by decide +kernel
theorem dX5_stop_64 : decode cX5_stop 64 = .ok (.iload_n 2, 1) := by decide +kernel
theorem dX5_stop_65 : decode cX5_stop 65 = .ok (.iload 4, 2) := by decide +kernel
theorem dX5_stop_67 : decode cX5_stop 67 = .ok (.invokevirtual 137, 3) := by decide +kernel
theorem dX5_stop_70 : decode cX5_stop 70 = .ok (.aload_n 0, 1) := by decide +kernel
theorem dX5_stop_71 : decode cX5_stop 71 = .ok (.getfield 39, 3) := by decide +kernel
theorem dX5_stop_74 : decode cX5_stop 74 = .ok (.iload_n 2, 1) := by decide +kernel
theorem dX5_stop_75 : decode cX5_stop 75 = .ok (.invokevirtual 158, 3) := by decide +kernel
theorem dX5_stop_78 : decode cX5_stop 78 = .ok (.istore 5, 2) := by decide +kernel
theorem dX5_stop_80 : decode cX5_stop 80 = .ok (.aload_n 0, 1) := by decide +kernel
theorem dX5_stop_81 : decode cX5_stop 81 = .ok (.getfield 39, 3) := by decide +kernel
theorem dX5_stop_84 : decode cX5_stop 84 = .ok (.getfield 108, 3) := by decide +kernel
theorem dX5_stop_87 : decode cX5_stop 87 = .ok (.iload_n 2, 1) := by decide +kernel
theorem dX5_stop_88 : decode cX5_stop 88 = .ok (.iaload, 1) := by decide +kernel
theorem dX5_stop_89 : decode cX5_stop 89 = .ok (.iload_n 1, 1) := by decide +kernel
theorem dX5_stop_90 : decode cX5_stop 90 = .ok (.if_icmp .ne 15, 3) := by decide +kernel
theorem dX5_stop_93 : decode cX5_stop 93 = .ok (.iload_n 3, 1) := by decide +kernel
theorem dX5_stop_94 : decode cX5_stop 94 = .ok (.ifCond .ne 8, 3) := by decide +kernel
theorem dX5_stop_97 : decode cX5_stop 97 = .ok (.iload 4, 2) := by decide +kernel
theorem dX5_stop_99 : decode cX5_stop 99 = .ok (.goto 5, 3) := by decide +kernel
theorem dX5_stop_102 : decode cX5_stop 102 = .ok (.iload 5, 2) := by decide +kernel
theorem dX5_stop_104 : decode cX5_stop 104 = .ok (.ireturn, 1) := by decide +kernel
theorem dX5_stop_105 : decode cX5_stop 105 = .ok (.iinc 4 1, 3) := by decide +kernel
theorem dX5_stop_108 : decode cX5_stop 108 = .ok (.goto (-72), 3) := by decide +kernel
theorem dX5_stop_111 : decode cX5_stop 111 = .ok (.bipush (-4), 2) := by decide +kernel
theorem dX5_stop_113 : decode cX5_stop 113 = .ok (.ireturn, 1) := by decide +kernel
theorem dX5_rank_0 : decode cX5_rank 0 = .ok (.aload_n 0, 1) := by decide +kernel
theorem dX5_rank_1 : decode cX5_rank 1 = .ok (.getfield 27, 3) := by decide +kernel
theorem dX5_rank_4 : decode cX5_rank 4 = .ok (.iload_n 1, 1) := by decide +kernel
theorem dX5_rank_5 : decode cX5_rank 5 = .ok (.invokevirtual 81, 3) := by decide +kernel
theorem dX5_rank_8 : decode cX5_rank 8 = .ok (.ifCond .eq 7, 3) := by decide +kernel
theorem dX5_rank_11 : decode cX5_rank 11 = .ok (.iload_n 2, 1) := by decide +kernel
theorem dX5_rank_12 : decode cX5_rank 12 = .ok (.ifCond .ge 5, 3) := by decide +kernel
theorem dX5_rank_15 : decode cX5_rank 15 = .ok (.iconst (-1), 1) := by decide +kernel
theorem dX5_rank_16 : decode cX5_rank 16 = .ok (.ireturn, 1) := by decide +kernel
theorem dX5_rank_17 : decode cX5_rank 17 = .ok (.iconst 0, 1) := by decide +kernel
theorem dX5_rank_18 : decode cX5_rank 18 = .ok (.istore_n 3, 1) := by decide +kernel
theorem dX5_rank_19 : decode cX5_rank 19 = .ok (.iload_n 3, 1) := by decide +kernel
theorem dX5_rank_20 : decode cX5_rank 20 = .ok (.aload_n 0, 1) := by decide +kernel
theorem dX5_rank_21 : decode cX5_rank 21 = .ok (.getfield 27, 3) := by decide +kernel
theorem dX5_rank_24 : decode cX5_rank 24 = .ok (.getfield 78, 3) := by decide +kernel
theorem dX5_rank_27 : decode cX5_rank 27 = .ok (.if_icmp .ge 40, 3) := by decide +kernel
theorem dX5_rank_30 : decode cX5_rank 30 = .ok (.aload_n 0, 1) := by decide +kernel
theorem dX5_rank_31 : decode cX5_rank 31 = .ok (.getfield 35, 3) := by decide +kernel
theorem dX5_rank_34 : decode cX5_rank 34 = .ok (.getfield 130, 3) := by decide +kernel
theorem dX5_rank_37 : decode cX5_rank 37 = .ok (.iload_n 1, 1) := by decide +kernel
theorem dX5_rank_38 : decode cX5_rank 38 = .ok (.aaload, 1) := by decide +kernel
theorem dX5_rank_39 : decode cX5_rank 39 = .ok (.iload_n 3, 1) := by decide +kernel
theorem dX5_rank_40 : decode cX5_rank 40 = .ok (.iaload, 1) := by decide +kernel
theorem dX5_rank_41 : decode cX5_rank 41 = .ok (.bipush (-4), 2) := by decide +kernel
theorem dX5_rank_43 : decode cX5_rank 43 = .ok (.if_icmp .eq 18, 3) := by decide +kernel
theorem dX5_rank_46 : decode cX5_rank 46 = .ok (.aload_n 0, 1) := by decide +kernel
theorem dX5_rank_47 : decode cX5_rank 47 = .ok (.getfield 35, 3) := by decide +kernel
theorem dX5_rank_50 : decode cX5_rank 50 = .ok (.iload_n 1, 1) := by decide +kernel
theorem dX5_rank_51 : decode cX5_rank 51 = .ok (.iload_n 3, 1) := by decide +kernel
theorem dX5_rank_52 : decode cX5_rank 52 = .ok (.invokevirtual 161, 3) := by decide +kernel
theorem dX5_rank_55 : decode cX5_rank 55 = .ok (.iload_n 2, 1) := by decide +kernel
theorem dX5_rank_56 : decode cX5_rank 56 = .ok (.if_icmp .ne 5, 3) := by decide +kernel
theorem dX5_rank_59 : decode cX5_rank 59 = .ok (.iload_n 3, 1) := by decide +kernel
theorem dX5_rank_60 : decode cX5_rank 60 = .ok (.ireturn, 1) := by decide +kernel
theorem dX5_rank_61 : decode cX5_rank 61 = .ok (.iinc 3 1, 3) := by decide +kernel
theorem dX5_rank_64 : decode cX5_rank 64 = .ok (.goto (-45), 3) := by decide +kernel
theorem dX5_rank_67 : decode cX5_rank 67 = .ok (.bipush (-4), 2) := by decide +kernel
theorem dX5_rank_69 : decode cX5_rank 69 = .ok (.ireturn, 1) := by decide +kernel
theorem dX5_wanted_0 : decode cX5_wanted 0 = .ok (.iload_n 1, 1) := by decide +kernel
theorem dX5_wanted_1 : decode cX5_wanted 1 = .ok (.ifCond .lt 8, 3) := by decide +kernel
theorem dX5_wanted_4 : decode cX5_wanted 4 = .ok (.iload_n 1, 1) := by decide +kernel
theorem dX5_wanted_5 : decode cX5_wanted 5 = .ok (.iconst 1, 1) := by decide +kernel
theorem dX5_wanted_6 : decode cX5_wanted 6 = .ok (.if_icmp .le 5, 3) := by decide +kernel
theorem dX5_wanted_9 : decode cX5_wanted 9 = .ok (.iconst (-1), 1) := by decide +kernel
theorem dX5_wanted_10 : decode cX5_wanted 10 = .ok (.ireturn, 1) := by decide +kernel
theorem dX5_wanted_11 : decode cX5_wanted 11 = .ok (.iconst 0, 1) := by decide +kernel
theorem dX5_wanted_12 : decode cX5_wanted 12 = .ok (.istore_n 2, 1) := by decide +kernel
theorem dX5_wanted_13 : decode cX5_wanted 13 = .ok (.iconst 1, 1) := by decide +kernel
theorem dX5_wanted_14 : decode cX5_wanted 14 = .ok (.istore_n 3, 1) := by decide +kernel
theorem dX5_wanted_15 : decode cX5_wanted 15 = .ok (.iload_n 3, 1) := by decide +kernel
theorem dX5_wanted_16 : decode cX5_wanted 16 = .ok (.aload_n 0, 1) := by decide +kernel
theorem dX5_wanted_17 : decode cX5_wanted 17 = .ok (.getfield 27, 3) := by decide +kernel
theorem dX5_wanted_20 : decode cX5_wanted 20 = .ok (.getfield 78, 3) := by decide +kernel
theorem dX5_wanted_23 : decode cX5_wanted 23 = .ok (.if_icmp .ge 30, 3) := by decide +kernel
theorem dX5_wanted_26 : decode cX5_wanted 26 = .ok (.aload_n 0, 1) := by decide +kernel
theorem dX5_wanted_27 : decode cX5_wanted 27 = .ok (.getfield 35, 3) := by decide +kernel
theorem dX5_wanted_30 : decode cX5_wanted 30 = .ok (.iload_n 3, 1) := by decide +kernel
theorem dX5_wanted_31 : decode cX5_wanted 31 = .ok (.invokevirtual 164, 3) := by decide +kernel
theorem dX5_wanted_34 : decode cX5_wanted 34 = .ok (.aload_n 0, 1) := by decide +kernel
theorem dX5_wanted_35 : decode cX5_wanted 35 = .ok (.getfield 35, 3) := by decide +kernel
theorem dX5_wanted_38 : decode cX5_wanted 38 = .ok (.iload_n 2, 1) := by decide +kernel
theorem dX5_wanted_39 : decode cX5_wanted 39 = .ok (.invokevirtual 164, 3) := by decide +kernel
theorem dX5_wanted_42 : decode cX5_wanted 42 = .ok (.if_icmp .le 5, 3) := by decide +kernel
theorem dX5_wanted_45 : decode cX5_wanted 45 = .ok (.iload_n 3, 1) := by decide +kernel
theorem dX5_wanted_46 : decode cX5_wanted 46 = .ok (.istore_n 2, 1) := by decide +kernel
theorem dX5_wanted_47 : decode cX5_wanted 47 = .ok (.iinc 3 1, 3) := by decide +kernel
theorem dX5_wanted_50 : decode cX5_wanted 50 = .ok (.goto (-35), 3) := by decide +kernel
theorem dX5_wanted_53 : decode cX5_wanted 53 = .ok (.iload_n 1, 1) := by decide +kernel
theorem dX5_wanted_54 : decode cX5_wanted 54 = .ok (.ifCond .ne 7, 3) := by decide +kernel
theorem dX5_wanted_57 : decode cX5_wanted 57 = .ok (.iload_n 2, 1) := by decide +kernel
theorem dX5_wanted_58 : decode cX5_wanted 58 = .ok (.goto 11, 3) := by decide +kernel
theorem dX5_wanted_61 : decode cX5_wanted 61 = .ok (.aload_n 0, 1) := by decide +kernel
theorem dX5_wanted_62 : decode cX5_wanted 62 = .ok (.getfield 35, 3) := by decide +kernel
theorem dX5_wanted_65 : decode cX5_wanted 65 = .ok (.iload_n 2, 1) := by decide +kernel
theorem dX5_wanted_66 : decode cX5_wanted 66 = .ok (.invokevirtual 164, 3) := by decide +kernel
theorem dX5_wanted_69 : decode cX5_wanted 69 = .ok (.ireturn, 1) := by decide +kernel
theorem dX5_seen_0 : decode cX5_seen 0 = .ok (.aload_n 0, 1) := by decide +kernel
theorem dX5_seen_1 : decode cX5_seen 1 = .ok (.getfield 27, 3) := by decide +kernel
theorem dX5_seen_4 : decode cX5_seen 4 = .ok (.iload_n 1, 1) := by decide +kernel
theorem dX5_seen_5 : decode cX5_seen 5 = .ok (.invokevirtual 98, 3) := by decide +kernel
theorem dX5_seen_8 : decode cX5_seen 8 = .ok (.ifCond .eq 25, 3) := by decide +kernel
theorem dX5_seen_11 : decode cX5_seen 11 = .ok (.aload_n 0, 1) := by decide +kernel
theorem dX5_seen_12 : decode cX5_seen 12 = .ok (.getfield 27, 3) := by decide +kernel
theorem dX5_seen_15 : decode cX5_seen 15 = .ok (.iload_n 2, 1) := by decide +kernel
theorem dX5_seen_16 : decode cX5_seen 16 = .ok (.invokevirtual 81, 3) := by decide +kernel
theorem dX5_seen_19 : decode cX5_seen 19 = .ok (.ifCond .eq 14, 3) := by decide +kernel
theorem dX5_seen_22 : decode cX5_seen 22 = .ok (.iload_n 3, 1) := by decide +kernel
theorem dX5_seen_23 : decode cX5_seen 23 = .ok (.iconst 1, 1) := by decide +kernel
theorem dX5_seen_24 : decode cX5_seen 24 = .ok (.if_icmp .lt 9, 3) := by decide +kernel
theorem dX5_seen_27 : decode cX5_seen 27 = .ok (.iload_n 3, 1) := by decide +kernel
theorem dX5_seen_28 : decode cX5_seen 28 = .ok (.bipush 9, 2) := by decide +kernel
theorem dX5_seen_30 : decode cX5_seen 30 = .ok (.if_icmp .le 5, 3) := by decide +kernel
theorem dX5_seen_33 : decode cX5_seen 33 = .ok (.iconst (-1), 1) := by decide +kernel
theorem dX5_seen_34 : decode cX5_seen 34 = .ok (.ireturn, 1) := by decide +kernel
theorem dX5_seen_35 : decode cX5_seen 35 = .ok (.aload_n 0, 1) := by decide +kernel
theorem dX5_seen_36 : decode cX5_seen 36 = .ok (.getfield 56, 3) := by decide +kernel
theorem dX5_seen_39 : decode cX5_seen 39 = .ok (.getfield 167, 3) := by decide +kernel
theorem dX5_seen_42 : decode cX5_seen 42 = .ok (.bipush 6, 2) := by decide +kernel
theorem dX5_seen_44 : decode cX5_seen 44 = .ok (.if_icmp .lt 6, 3) := by decide +kernel
theorem dX5_seen_47 : decode cX5_seen 47 = .ok (.bipush (-3), 2) := by decide +kernel
theorem dX5_seen_49 : decode cX5_seen 49 = .ok (.ireturn, 1) := by decide +kernel
theorem dX5_seen_50 : decode cX5_seen 50 = .ok (.aload_n 0, 1) := by decide +kernel
theorem dX5_seen_51 : decode cX5_seen 51 = .ok (.getfield 56, 3) := by decide +kernel
theorem dX5_seen_54 : decode cX5_seen 54 = .ok (.iload_n 1, 1) := by decide +kernel
theorem dX5_seen_55 : decode cX5_seen 55 = .ok (.iload_n 2, 1) := by decide +kernel
theorem dX5_seen_56 : decode cX5_seen 56 = .ok (.iload_n 3, 1) := by decide +kernel
theorem dX5_seen_57 : decode cX5_seen 57 = .ok (.invokevirtual 168, 3) := by decide +kernel
theorem dX5_seen_60 : decode cX5_seen 60 = .ok (.aload_n 0, 1) := by decide +kernel
theorem dX5_seen_61 : decode cX5_seen 61 = .ok (.getfield 56, 3) := by decide +kernel
theorem dX5_seen_64 : decode cX5_seen 64 = .ok (.getfield 167, 3) := by decide +kernel
theorem dX5_seen_67 : decode cX5_seen 67 = .ok (.ireturn, 1) := by decide +kernel
theorem dX5_forget_0 : decode cX5_forget 0 = .ok (.aload_n 0, 1) := by decide +kernel
theorem dX5_forget_1 : decode cX5_forget 1 = .ok (.getfield 56, 3) := by decide +kernel
theorem dX5_forget_4 : decode cX5_forget 4 = .ok (.getfield 167, 3) := by decide +kernel
theorem dX5_forget_7 : decode cX5_forget 7 = .ok (.istore_n 1, 1) := by decide +kernel
theorem dX5_forget_8 : decode cX5_forget 8 = .ok (.aload_n 0, 1) := by decide +kernel
theorem dX5_forget_9 : decode cX5_forget 9 = .ok (.getfield 56, 3) := by decide +kernel
theorem dX5_forget_12 : decode cX5_forget 12 = .ok (.iconst 0, 1) := by decide +kernel
theorem dX5_forget_13 : decode cX5_forget 13 = .ok (.putfield 167, 3) := by decide +kernel
theorem dX5_forget_16 : decode cX5_forget 16 = .ok (.iload_n 1, 1) := by decide +kernel
theorem dX5_forget_17 : decode cX5_forget 17 = .ok (.ireturn, 1) := by decide +kernel
theorem dX5_feigned_0 : decode cX5_feigned 0 = .ok (.iload_n 1, 1) := by decide +kernel
theorem dX5_feigned_1 : decode cX5_feigned 1 = .ok (.ifCond .lt 8, 3) := by decide +kernel
theorem dX5_feigned_4 : decode cX5_feigned 4 = .ok (.iload_n 1, 1) := by decide +kernel
theorem dX5_feigned_5 : decode cX5_feigned 5 = .ok (.iconst 1, 1) := by decide +kernel
theorem dX5_feigned_6 : decode cX5_feigned 6 = .ok (.if_icmp .le 5, 3) := by decide +kernel
theorem dX5_feigned_9 : decode cX5_feigned 9 = .ok (.iconst (-1), 1) := by decide +kernel
theorem dX5_feigned_10 : decode cX5_feigned 10 = .ok (.ireturn, 1) := by decide +kernel
theorem dX5_feigned_11 : decode cX5_feigned 11 = .ok (.iload_n 1, 1) := by decide +kernel
theorem dX5_feigned_12 : decode cX5_feigned 12 = .ok (.iconst 1, 1) := by decide +kernel
theorem dX5_feigned_13 : decode cX5_feigned 13 = .ok (.if_icmp .ne 25, 3) := by decide +kernel
theorem dX5_feigned_16 : decode cX5_feigned 16 = .ok (.aload_n 0, 1) := by decide +kernel
theorem dX5_feigned_17 : decode cX5_feigned 17 = .ok (.getfield 56, 3) := by decide +kernel
theorem dX5_feigned_20 : decode cX5_feigned 20 = .ok (.aload_n 0, 1) := by decide +kernel
theorem dX5_feigned_21 : decode cX5_feigned 21 = .ok (.getfield 39, 3) := by decide +kernel
theorem dX5_feigned_24 : decode cX5_feigned 24 = .ok (.bipush (-4), 2) := by decide +kernel
theorem dX5_feigned_26 : decode cX5_feigned 26 = .ok (.invokevirtual 171, 3) := by decide +kernel
theorem dX5_feigned_29 : decode cX5_feigned 29 = .ok (.ifCond .eq 7, 3) := by decide +kernel
theorem dX5_feigned_32 : decode cX5_feigned 32 = .ok (.iconst 1, 1) := by decide +kernel
theorem dX5_feigned_33 : decode cX5_feigned 33 = .ok (.goto 4, 3) := by decide +kernel
theorem dX5_feigned_36 : decode cX5_feigned 36 = .ok (.iconst 0, 1) := by decide +kernel
theorem dX5_feigned_37 : decode cX5_feigned 37 = .ok (.ireturn, 1) := by decide +kernel
theorem dX5_feigned_38 : decode cX5_feigned 38 = .ok (.iconst 0, 1) := by decide +kernel
theorem dX5_feigned_39 : decode cX5_feigned 39 = .ok (.istore_n 2, 1) := by decide +kernel
theorem dX5_feigned_40 : decode cX5_feigned 40 = .ok (.iconst 0, 1) := by decide +kernel
theorem dX5_feigned_41 : decode cX5_feigned 41 = .ok (.istore_n 3, 1) := by decide +kernel
theorem dX5_feigned_42 : decode cX5_feigned 42 = .ok (.iload_n 3, 1) := by decide +kernel
theorem dX5_feigned_43 : decode cX5_feigned 43 = .ok (.aload_n 0, 1) := by decide +kernel
theorem dX5_feigned_44 : decode cX5_feigned 44 = .ok (.getfield 27, 3) := by decide +kernel
theorem dX5_feigned_47 : decode cX5_feigned 47 = .ok (.getfield 175, 3) := by decide +kernel
theorem dX5_feigned_50 : decode cX5_feigned 50 = .ok (.if_icmp .ge 30, 3) := by decide +kernel
theorem dX5_feigned_53 : decode cX5_feigned 53 = .ok (.aload_n 0, 1) := by decide +kernel
theorem dX5_feigned_54 : decode cX5_feigned 54 = .ok (.getfield 56, 3) := by decide +kernel
theorem dX5_feigned_57 : decode cX5_feigned 57 = .ok (.aload_n 0, 1) := by decide +kernel
theorem dX5_feigned_58 : decode cX5_feigned 58 = .ok (.getfield 39, 3) := by decide +kernel
theorem dX5_feigned_61 : decode cX5_feigned 61 = .ok (.iload_n 3, 1) := by decide +kernel
theorem dX5_feigned_62 : decode cX5_feigned 62 = .ok (.invokevirtual 171, 3) := by decide +kernel
theorem dX5_feigned_65 : decode cX5_feigned 65 = .ok (.ifCond .eq 9, 3) := by decide +kernel
theorem dX5_feigned_68 : decode cX5_feigned 68 = .ok (.iload_n 2, 1) := by decide +kernel
theorem dX5_feigned_69 : decode cX5_feigned 69 = .ok (.iconst 1, 1) := by decide +kernel
theorem dX5_feigned_70 : decode cX5_feigned 70 = .ok (.iload_n 3, 1) := by decide +kernel
theorem dX5_feigned_71 : decode cX5_feigned 71 = .ok (.ishl, 1) := by decide +kernel
theorem dX5_feigned_72 : decode cX5_feigned 72 = .ok (.ior, 1) := by decide +kernel
theorem dX5_feigned_73 : decode cX5_feigned 73 = .ok (.istore_n 2, 1) := by decide +kernel
theorem dX5_feigned_74 : decode cX5_feigned 74 = .ok (.iinc 3 1, 3) := by decide +kernel
theorem dX5_feigned_77 : decode cX5_feigned 77 = .ok (.goto (-35), 3) := by decide +kernel
theorem dX5_feigned_80 : decode cX5_feigned 80 = .ok (.iload_n 2, 1) := by decide +kernel
theorem dX5_feigned_81 : decode cX5_feigned 81 = .ok (.ireturn, 1) := by decide +kernel
theorem dX5_counts_0 : decode cX5_counts 0 = .ok (.aload_n 0, 1) := by decide +kernel
theorem dX5_counts_1 : decode cX5_counts 1 = .ok (.getfield 27, 3) := by decide +kernel
theorem dX5_counts_4 : decode cX5_counts 4 = .ok (.iload_n 1, 1) := by decide +kernel
theorem dX5_counts_5 : decode cX5_counts 5 = .ok (.invokevirtual 81, 3) := by decide +kernel
theorem dX5_counts_8 : decode cX5_counts 8 = .ok (.ifCond .eq 21, 3) := by decide +kernel
theorem dX5_counts_11 : decode cX5_counts 11 = .ok (.iload_n 2, 1) := by decide +kernel
theorem dX5_counts_12 : decode cX5_counts 12 = .ok (.ifCond .lt 17, 3) := by decide +kernel
theorem dX5_counts_15 : decode cX5_counts 15 = .ok (.iload_n 2, 1) := by decide +kernel
theorem dX5_counts_16 : decode cX5_counts 16 = .ok (.iconst 4, 1) := by decide +kernel
theorem dX5_counts_17 : decode cX5_counts 17 = .ok (.if_icmp .gt 12, 3) := by decide +kernel
theorem dX5_counts_20 : decode cX5_counts 20 = .ok (.iload_n 3, 1) := by decide +kernel
theorem dX5_counts_21 : decode cX5_counts 21 = .ok (.ifCond .lt 8, 3) := by decide +kernel
theorem dX5_counts_24 : decode cX5_counts 24 = .ok (.iload_n 3, 1) := by decide +kernel
theorem dX5_counts_25 : decode cX5_counts 25 = .ok (.iconst 1, 1) := by decide +kernel
theorem dX5_counts_26 : decode cX5_counts 26 = .ok (.if_icmp .le 5, 3) := by decide +kernel
theorem dX5_counts_29 : decode cX5_counts 29 = .ok (.iconst (-1), 1) := by decide +kernel
theorem dX5_counts_30 : decode cX5_counts 30 = .ok (.ireturn, 1) := by decide +kernel
theorem dX5_counts_31 : decode cX5_counts 31 = .ok (.iconst 1, 1) := by decide +kernel
theorem dX5_counts_32 : decode cX5_counts 32 = .ok (.istore 4, 2) := by decide +kernel
theorem dX5_counts_34 : decode cX5_counts 34 = .ok (.iconst 1, 1) := by decide +kernel
theorem dX5_counts_35 : decode cX5_counts 35 = .ok (.istore 5, 2) := by decide +kernel
theorem dX5_counts_37 : decode cX5_counts 37 = .ok (.iconst 0, 1) := by decide +kernel
theorem dX5_counts_38 : decode cX5_counts 38 = .ok (.istore 6, 2) := by decide +kernel
theorem dX5_counts_40 : decode cX5_counts 40 = .ok (.iload 6, 2) := by decide +kernel
theorem dX5_counts_42 : decode cX5_counts 42 = .ok (.iload_n 2, 1) := by decide +kernel
theorem dX5_counts_43 : decode cX5_counts 43 = .ok (.if_icmp .ge 26, 3) := by decide +kernel
theorem dX5_counts_46 : decode cX5_counts 46 = .ok (.iload 4, 2) := by decide +kernel
theorem dX5_counts_48 : decode cX5_counts 48 = .ok (.bipush 12, 2) := by decide +kernel
theorem dX5_counts_50 : decode cX5_counts 50 = .ok (.imul, 1) := by decide +kernel
theorem dX5_counts_51 : decode cX5_counts 51 = .ok (.istore 4, 2) := by decide +kernel
theorem dX5_counts_53 : decode cX5_counts 53 = .ok (.iload 5, 2) := by decide +kernel
theorem dX5_counts_55 : decode cX5_counts 55 = .ok (.aload_n 0, 1) := by decide +kernel
theorem dX5_counts_56 : decode cX5_counts 56 = .ok (.iload_n 1, 1) := by decide +kernel
theorem dX5_counts_57 : decode cX5_counts 57 = .ok (.invokevirtual 178, 3) := by decide +kernel
theorem dX5_counts_60 : decode cX5_counts 60 = .ok (.imul, 1) := by decide +kernel
theorem dX5_counts_61 : decode cX5_counts 61 = .ok (.istore 5, 2) := by decide +kernel
theorem dX5_counts_63 : decode cX5_counts 63 = .ok (.iinc 6 1, 3) := by decide +kernel
theorem dX5_counts_66 : decode cX5_counts 66 = .ok (.goto (-26), 3) := by decide +kernel
theorem dX5_counts_69 : decode cX5_counts 69 = .ok (.iconst 1, 1) := by decide +kernel
theorem dX5_counts_70 : decode cX5_counts 70 = .ok (.iload 4, 2) := by decide +kernel
theorem dX5_counts_72 : decode cX5_counts 72 = .ok (.iload 4, 2) := by decide +kernel
theorem dX5_counts_74 : decode cX5_counts 74 = .ok (.iload 5, 2) := by decide +kernel
theorem dX5_counts_76 : decode cX5_counts 76 = .ok (.isub, 1) := by decide +kernel
theorem dX5_counts_77 : decode cX5_counts 77 = .ok (.invokestatic 181, 3) := by decide +kernel
theorem dX5_counts_80 : decode cX5_counts 80 = .ok (.invokestatic 184, 3) := by decide +kernel
theorem dX5_counts_83 : decode cX5_counts 83 = .ok (.istore 6, 2) := by decide +kernel
theorem dX5_counts_85 : decode cX5_counts 85 = .ok (.iload_n 3, 1) := by decide +kernel
theorem dX5_counts_86 : decode cX5_counts 86 = .ok (.ifCond .ne 14, 3) := by decide +kernel
theorem dX5_counts_89 : decode cX5_counts 89 = .ok (.iload 4, 2) := by decide +kernel
theorem dX5_counts_91 : decode cX5_counts 91 = .ok (.iload 5, 2) := by decide +kernel
theorem dX5_counts_93 : decode cX5_counts 93 = .ok (.isub, 1) := by decide +kernel
theorem dX5_counts_94 : decode cX5_counts 94 = .ok (.iload 6, 2) := by decide +kernel
theorem dX5_counts_96 : decode cX5_counts 96 = .ok (.idiv, 1) := by decide +kernel
theorem dX5_counts_97 : decode cX5_counts 97 = .ok (.goto 8, 3) := by decide +kernel
theorem dX5_counts_100 : decode cX5_counts 100 = .ok (.iload 4, 2) := by decide +kernel
theorem dX5_counts_102 : decode cX5_counts 102 = .ok (.iload 6, 2) := by decide +kernel
theorem dX5_counts_104 : decode cX5_counts 104 = .ok (.idiv, 1) := by decide +kernel
theorem dX5_counts_105 : decode cX5_counts 105 = .ok (.ireturn, 1) := by decide +kernel
theorem dX5_cheapest_0 : decode cX5_cheapest 0 = .ok (.aload_n 0, 1) := by decide +kernel
theorem dX5_cheapest_1 : decode cX5_cheapest 1 = .ok (.getfield 27, 3) := by decide +kernel
theorem dX5_cheapest_4 : decode cX5_cheapest 4 = .ok (.iload_n 1, 1) := by decide +kernel
theorem dX5_cheapest_5 : decode cX5_cheapest 5 = .ok (.invokevirtual 98, 3) := by decide +kernel
theorem dX5_cheapest_8 : decode cX5_cheapest 8 = .ok (.ifCond .eq 12, 3) := by decide +kernel
theorem dX5_cheapest_11 : decode cX5_cheapest 11 = .ok (.iload_n 2, 1) := by decide +kernel
theorem dX5_cheapest_12 : decode cX5_cheapest 12 = .ok (.ifCond .lt 8, 3) := by decide +kernel
theorem dX5_cheapest_15 : decode cX5_cheapest 15 = .ok (.iload_n 2, 1) := by decide +kernel
theorem dX5_cheapest_16 : decode cX5_cheapest 16 = .ok (.iconst 1, 1) := by decide +kernel
theorem dX5_cheapest_17 : decode cX5_cheapest 17 = .ok (.if_icmp .le 5, 3) := by decide +kernel
theorem dX5_cheapest_20 : decode cX5_cheapest 20 = .ok (.iconst (-1), 1) := by decide +kernel
theorem dX5_cheapest_21 : decode cX5_cheapest 21 = .ok (.ireturn, 1) := by decide +kernel
theorem dX5_cheapest_22 : decode cX5_cheapest 22 = .ok (.bipush (-4), 2) := by decide +kernel
theorem dX5_cheapest_24 : decode cX5_cheapest 24 = .ok (.istore_n 3, 1) := by decide +kernel
theorem dX5_cheapest_25 : decode cX5_cheapest 25 = .ok (.bipush (-4), 2) := by decide +kernel
theorem dX5_cheapest_27 : decode cX5_cheapest 27 = .ok (.istore 4, 2) := by decide +kernel
theorem dX5_cheapest_29 : decode cX5_cheapest 29 = .ok (.iconst 0, 1) := by decide +kernel
theorem dX5_cheapest_30 : decode cX5_cheapest 30 = .ok (.istore 5, 2) := by decide +kernel
theorem dX5_cheapest_32 : decode cX5_cheapest 32 = .ok (.iload 5, 2) := by decide +kernel
theorem dX5_cheapest_34 : decode cX5_cheapest 34 = .ok (.aload_n 0, 1) := by decide +kernel
theorem dX5_cheapest_35 : decode cX5_cheapest 35 = .ok (.getfield 27, 3) := by decide +kernel
theorem dX5_cheapest_38 : decode cX5_cheapest 38 = .ok (.getfield 175, 3) := by decide +kernel
theorem dX5_cheapest_41 : decode cX5_cheapest 41 = .ok (.if_icmp .ge 50, 3) := by decide +kernel
theorem dX5_cheapest_44 : decode cX5_cheapest 44 = .ok (.aload_n 0, 1) := by decide +kernel
theorem dX5_cheapest_45 : decode cX5_cheapest 45 = .ok (.getfield 35, 3) := by decide +kernel
theorem dX5_cheapest_48 : decode cX5_cheapest 48 = .ok (.getfield 130, 3) := by decide +kernel
theorem dX5_cheapest_51 : decode cX5_cheapest 51 = .ok (.iload 5, 2) := by decide +kernel
theorem dX5_cheapest_53 : decode cX5_cheapest 53 = .ok (.aaload, 1) := by decide +kernel
theorem dX5_cheapest_54 : decode cX5_cheapest 54 = .ok (.iload_n 1, 1) := by decide +kernel
theorem dX5_cheapest_55 : decode cX5_cheapest 55 = .ok (.iaload, 1) := by decide +kernel
theorem dX5_cheapest_56 : decode cX5_cheapest 56 = .ok (.istore 6, 2) := by decide +kernel
theorem dX5_cheapest_58 : decode cX5_cheapest 58 = .ok (.iload 6, 2) := by decide +kernel
theorem dX5_cheapest_60 : decode cX5_cheapest 60 = .ok (.bipush (-4), 2) := by decide +kernel
theorem dX5_cheapest_62 : decode cX5_cheapest 62 = .ok (.if_icmp .eq 23, 3) := by decide +kernel
theorem dX5_cheapest_65 : decode cX5_cheapest 65 = .ok (.iload_n 3, 1) := by decide +kernel
theorem dX5_cheapest_66 : decode cX5_cheapest 66 = .ok (.bipush (-4), 2) := by decide +kernel
theorem dX5_cheapest_68 : decode cX5_cheapest 68 = .ok (.if_icmp .eq 10, 3) := by decide +kernel
theorem dX5_cheapest_71 : decode cX5_cheapest 71 = .ok (.iload 6, 2) := by decide +kernel
theorem dX5_cheapest_73 : decode cX5_cheapest 73 = .ok (.iload 4, 2) := by decide +kernel
theorem dX5_cheapest_75 : decode cX5_cheapest 75 = .ok (.if_icmp .ge 10, 3) := by decide +kernel
theorem dX5_cheapest_78 : decode cX5_cheapest 78 = .ok (.iload 5, 2) := by decide +kernel
theorem dX5_cheapest_80 : decode cX5_cheapest 80 = .ok (.istore_n 3, 1) := by decide +kernel
theorem dX5_cheapest_81 : decode cX5_cheapest 81 = .ok (.iload 6, 2) := by decide +kernel
theorem dX5_cheapest_83 : decode cX5_cheapest 83 = .ok (.istore 4, 2) := by decide +kernel
theorem dX5_cheapest_85 : decode cX5_cheapest 85 = .ok (.iinc 5 1, 3) := by decide +kernel
theorem dX5_cheapest_88 : decode cX5_cheapest 88 = .ok (.goto (-56), 3) := by decide +kernel
theorem dX5_cheapest_91 : decode cX5_cheapest 91 = .ok (.iload_n 2, 1) := by decide +kernel
theorem dX5_cheapest_92 : decode cX5_cheapest 92 = .ok (.ifCond .ne 7, 3) := by decide +kernel
theorem dX5_cheapest_95 : decode cX5_cheapest 95 = .ok (.iload_n 3, 1) := by decide +kernel
theorem dX5_cheapest_96 : decode cX5_cheapest 96 = .ok (.goto 5, 3) := by decide +kernel
theorem dX5_cheapest_99 : decode cX5_cheapest 99 = .ok (.iload 4, 2) := by decide +kernel
theorem dX5_cheapest_101 : decode cX5_cheapest 101 = .ok (.ireturn, 1) := by decide +kernel
theorem dX5_greens_0 : decode cX5_greens 0 = .ok (.iload_n 1, 1) := by decide +kernel
theorem dX5_greens_1 : decode cX5_greens 1 = .ok (.ifCond .lt 30, 3) := by decide +kernel
theorem dX5_greens_4 : decode cX5_greens 4 = .ok (.iload_n 1, 1) := by decide +kernel
theorem dX5_greens_5 : decode cX5_greens 5 = .ok (.sipush 9999, 3) := by decide +kernel
theorem dX5_greens_8 : decode cX5_greens 8 = .ok (.if_icmp .gt 23, 3) := by decide +kernel
theorem dX5_greens_11 : decode cX5_greens 11 = .ok (.iload_n 2, 1) := by decide +kernel
theorem dX5_greens_12 : decode cX5_greens 12 = .ok (.iconst 1, 1) := by decide +kernel
theorem dX5_greens_13 : decode cX5_greens 13 = .ok (.if_icmp .lt 18, 3) := by decide +kernel
theorem dX5_greens_16 : decode cX5_greens 16 = .ok (.iload_n 2, 1) := by decide +kernel
theorem dX5_greens_17 : decode cX5_greens 17 = .ok (.bipush 9, 2) := by decide +kernel
theorem dX5_greens_19 : decode cX5_greens 19 = .ok (.if_icmp .gt 12, 3) := by decide +kernel
theorem dX5_greens_22 : decode cX5_greens 22 = .ok (.iload_n 3, 1) := by decide +kernel
theorem dX5_greens_23 : decode cX5_greens 23 = .ok (.ifCond .lt 8, 3) := by decide +kernel
theorem dX5_greens_26 : decode cX5_greens 26 = .ok (.iload_n 3, 1) := by decide +kernel
theorem dX5_greens_27 : decode cX5_greens 27 = .ok (.iconst 1, 1) := by decide +kernel
theorem dX5_greens_28 : decode cX5_greens 28 = .ok (.if_icmp .le 5, 3) := by decide +kernel
theorem dX5_greens_31 : decode cX5_greens 31 = .ok (.iconst (-1), 1) := by decide +kernel
theorem dX5_greens_32 : decode cX5_greens 32 = .ok (.ireturn, 1) := by decide +kernel
theorem dX5_greens_33 : decode cX5_greens 33 = .ok (.aload_n 0, 1) := by decide +kernel
theorem dX5_greens_34 : decode cX5_greens 34 = .ok (.getfield 39, 3) := by decide +kernel
theorem dX5_greens_37 : decode cX5_greens 37 = .ok (.aload_n 0, 1) := by decide +kernel
theorem dX5_greens_38 : decode cX5_greens 38 = .ok (.getfield 35, 3) := by decide +kernel
theorem dX5_greens_41 : decode cX5_greens 41 = .ok (.invokevirtual 151, 3) := by decide +kernel
theorem dX5_greens_44 : decode cX5_greens 44 = .ok (.iconst 0, 1) := by decide +kernel
