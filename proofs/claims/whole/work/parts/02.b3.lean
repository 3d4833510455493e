theorem dX6_claim_6 : decode cX6_claim 6 = .ok (.iconst 0, 1) := by decide +kernel
theorem dX6_claim_7 : decode cX6_claim 7 = .ok (.istore 4, 2) := by decide +kernel
theorem dX6_claim_9 : decode cX6_claim 9 = .ok (.iload 4, 2) := by decide +kernel
theorem dX6_claim_11 : decode cX6_claim 11 = .ok (.aload_n 0, 1) := by decide +kernel
theorem dX6_claim_12 : decode cX6_claim 12 = .ok (.getfield 13, 3) := by decide +kernel
theorem dX6_claim_15 : decode cX6_claim 15 = .ok (.iconst 0, 1) := by decide +kernel
theorem dX6_claim_16 : decode cX6_claim 16 = .ok (.iaload, 1) := by decide +kernel
theorem dX6_claim_17 : decode cX6_claim 17 = .ok (.if_icmp .ge 44, 3) := by decide +kernel
theorem dX6_claim_20 : decode cX6_claim 20 = .ok (.aload_n 0, 1) := by decide +kernel
theorem dX6_claim_21 : decode cX6_claim 21 = .ok (.iload 4, 2) := by decide +kernel
theorem dX6_claim_23 : decode cX6_claim 23 = .ok (.iload_n 1, 1) := by decide +kernel
theorem dX6_claim_24 : decode cX6_claim 24 = .ok (.invokevirtual 107, 3) := by decide +kernel
theorem dX6_claim_27 : decode cX6_claim 27 = .ok (.istore 5, 2) := by decide +kernel
theorem dX6_claim_29 : decode cX6_claim 29 = .ok (.iload 5, 2) := by decide +kernel
theorem dX6_claim_31 : decode cX6_claim 31 = .ok (.iload_n 3, 1) := by decide +kernel
theorem dX6_claim_32 : decode cX6_claim 32 = .ok (.if_icmp .le 8, 3) := by decide +kernel
theorem dX6_claim_35 : decode cX6_claim 35 = .ok (.iload 4, 2) := by decide +kernel
theorem dX6_claim_37 : decode cX6_claim 37 = .ok (.goto 4, 3) := by decide +kernel
theorem dX6_claim_40 : decode cX6_claim 40 = .ok (.iload_n 2, 1) := by decide +kernel
theorem dX6_claim_41 : decode cX6_claim 41 = .ok (.istore_n 2, 1) := by decide +kernel
theorem dX6_claim_42 : decode cX6_claim 42 = .ok (.iload 5, 2) := by decide +kernel
theorem dX6_claim_44 : decode cX6_claim 44 = .ok (.iload_n 3, 1) := by decide +kernel
theorem dX6_claim_45 : decode cX6_claim 45 = .ok (.if_icmp .le 8, 3) := by decide +kernel
theorem dX6_claim_48 : decode cX6_claim 48 = .ok (.iload 5, 2) := by decide +kernel
theorem dX6_claim_50 : decode cX6_claim 50 = .ok (.goto 4, 3) := by decide +kernel
theorem dX6_claim_53 : decode cX6_claim 53 = .ok (.iload_n 3, 1) := by decide +kernel
theorem dX6_claim_54 : decode cX6_claim 54 = .ok (.istore_n 3, 1) := by decide +kernel
theorem dX6_claim_55 : decode cX6_claim 55 = .ok (.iinc 4 1, 3) := by decide +kernel
theorem dX6_claim_58 : decode cX6_claim 58 = .ok (.goto (-49), 3) := by decide +kernel
theorem dX6_claim_61 : decode cX6_claim 61 = .ok (.iload_n 2, 1) := by decide +kernel
theorem dX6_claim_62 : decode cX6_claim 62 = .ok (.ireturn, 1) := by decide +kernel
theorem dX6_thingsOf_0 : decode cX6_thingsOf 0 = .ok (.iconst 0, 1) := by decide +kernel
theorem dX6_thingsOf_1 : decode cX6_thingsOf 1 = .ok (.istore_n 2, 1) := by decide +kernel
theorem dX6_thingsOf_2 : decode cX6_thingsOf 2 = .ok (.iconst 0, 1) := by decide +kernel
theorem dX6_thingsOf_3 : decode cX6_thingsOf 3 = .ok (.istore_n 3, 1) := by decide +kernel
theorem dX6_thingsOf_4 : decode cX6_thingsOf 4 = .ok (.iload_n 3, 1) := by decide +kernel
theorem dX6_thingsOf_5 : decode cX6_thingsOf 5 = .ok (.aload_n 0, 1) := by decide +kernel
theorem dX6_thingsOf_6 : decode cX6_thingsOf 6 = .ok (.getfield 13, 3) := by decide +kernel
theorem dX6_thingsOf_9 : decode cX6_thingsOf 9 = .ok (.iconst 1, 1) := by decide +kernel
theorem dX6_thingsOf_10 : decode cX6_thingsOf 10 = .ok (.iaload, 1) := by decide +kernel
theorem dX6_thingsOf_11 : decode cX6_thingsOf 11 = .ok (.if_icmp .ge 30, 3) := by decide +kernel
theorem dX6_thingsOf_14 : decode cX6_thingsOf 14 = .ok (.iload_n 2, 1) := by decide +kernel
theorem dX6_thingsOf_15 : decode cX6_thingsOf 15 = .ok (.aload_n 0, 1) := by decide +kernel
theorem dX6_thingsOf_16 : decode cX6_thingsOf 16 = .ok (.getfield 19, 3) := by decide +kernel
theorem dX6_thingsOf_19 : decode cX6_thingsOf 19 = .ok (.bipush 6, 2) := by decide +kernel
theorem dX6_thingsOf_21 : decode cX6_thingsOf 21 = .ok (.iload_n 3, 1) := by decide +kernel
theorem dX6_thingsOf_22 : decode cX6_thingsOf 22 = .ok (.iadd, 1) := by decide +kernel
theorem dX6_thingsOf_23 : decode cX6_thingsOf 23 = .ok (.iaload, 1) := by decide +kernel
theorem dX6_thingsOf_24 : decode cX6_thingsOf 24 = .ok (.iload_n 1, 1) := by decide +kernel
theorem dX6_thingsOf_25 : decode cX6_thingsOf 25 = .ok (.if_icmp .ne 7, 3) := by decide +kernel
theorem dX6_thingsOf_28 : decode cX6_thingsOf 28 = .ok (.iconst 1, 1) := by decide +kernel
theorem dX6_thingsOf_29 : decode cX6_thingsOf 29 = .ok (.goto 4, 3) := by decide +kernel
theorem dX6_thingsOf_32 : decode cX6_thingsOf 32 = .ok (.iconst 0, 1) := by decide +kernel
theorem dX6_thingsOf_33 : decode cX6_thingsOf 33 = .ok (.iadd, 1) := by decide +kernel
theorem dX6_thingsOf_34 : decode cX6_thingsOf 34 = .ok (.istore_n 2, 1) := by decide +kernel
theorem dX6_thingsOf_35 : decode cX6_thingsOf 35 = .ok (.iinc 3 1, 3) := by decide +kernel
theorem dX6_thingsOf_38 : decode cX6_thingsOf 38 = .ok (.goto (-34), 3) := by decide +kernel
theorem dX6_thingsOf_41 : decode cX6_thingsOf 41 = .ok (.iload_n 2, 1) := by decide +kernel
theorem dX6_thingsOf_42 : decode cX6_thingsOf 42 = .ok (.ireturn, 1) := by decide +kernel
theorem dX6_person_0 : decode cX6_person 0 = .ok (.aload_n 0, 1) := by decide +kernel
theorem dX6_person_1 : decode cX6_person 1 = .ok (.iload_n 1, 1) := by decide +kernel
theorem dX6_person_2 : decode cX6_person 2 = .ok (.invokevirtual 113, 3) := by decide +kernel
theorem dX6_person_5 : decode cX6_person 5 = .ok (.ifCond .ne 5, 3) := by decide +kernel
theorem dX6_person_8 : decode cX6_person 8 = .ok (.iconst (-1), 1) := by decide +kernel
theorem dX6_person_9 : decode cX6_person 9 = .ok (.ireturn, 1) := by decide +kernel
theorem dX6_person_10 : decode cX6_person 10 = .ok (.aload_n 0, 1) := by decide +kernel
theorem dX6_person_11 : decode cX6_person 11 = .ok (.getfield 19, 3) := by decide +kernel
theorem dX6_person_14 : decode cX6_person 14 = .ok (.iload_n 1, 1) := by decide +kernel
theorem dX6_person_15 : decode cX6_person 15 = .ok (.iaload, 1) := by decide +kernel
theorem dX6_person_16 : decode cX6_person 16 = .ok (.istore_n 3, 1) := by decide +kernel
theorem dX6_person_17 : decode cX6_person 17 = .ok (.iconst 0, 1) := by decide +kernel
theorem dX6_person_18 : decode cX6_person 18 = .ok (.istore 4, 2) := by decide +kernel
theorem dX6_person_20 : decode cX6_person 20 = .ok (.iload 4, 2) := by decide +kernel
theorem dX6_person_22 : decode cX6_person 22 = .ok (.aload_n 0, 1) := by decide +kernel
theorem dX6_person_23 : decode cX6_person 23 = .ok (.getfield 13, 3) := by decide +kernel
theorem dX6_person_26 : decode cX6_person 26 = .ok (.iconst 1, 1) := by decide +kernel
theorem dX6_person_27 : decode cX6_person 27 = .ok (.iaload, 1) := by decide +kernel
theorem dX6_person_28 : decode cX6_person 28 = .ok (.if_icmp .ge 43, 3) := by decide +kernel
theorem dX6_person_31 : decode cX6_person 31 = .ok (.iload_n 3, 1) := by decide +kernel
theorem dX6_person_32 : decode cX6_person 32 = .ok (.aload_n 0, 1) := by decide +kernel
theorem dX6_person_33 : decode cX6_person 33 = .ok (.getfield 19, 3) := by decide +kernel
theorem dX6_person_36 : decode cX6_person 36 = .ok (.bipush 6, 2) := by decide +kernel
theorem dX6_person_38 : decode cX6_person 38 = .ok (.iload 4, 2) := by decide +kernel
theorem dX6_person_40 : decode cX6_person 40 = .ok (.iadd, 1) := by decide +kernel
theorem dX6_person_41 : decode cX6_person 41 = .ok (.iaload, 1) := by decide +kernel
theorem dX6_person_42 : decode cX6_person 42 = .ok (.iload_n 1, 1) := by decide +kernel
theorem dX6_person_43 : decode cX6_person 43 = .ok (.if_icmp .ne 19, 3) := by decide +kernel
theorem dX6_person_46 : decode cX6_person 46 = .ok (.aload_n 0, 1) := by decide +kernel
theorem dX6_person_47 : decode cX6_person 47 = .ok (.iload 4, 2) := by decide +kernel
theorem dX6_person_49 : decode cX6_person 49 = .ok (.aload_n 0, 1) := by decide +kernel
theorem dX6_person_50 : decode cX6_person 50 = .ok (.getfield 19, 3) := by decide +kernel
theorem dX6_person_53 : decode cX6_person 53 = .ok (.bipush 54, 2) := by decide +kernel
theorem dX6_person_55 : decode cX6_person 55 = .ok (.iaload, 1) := by decide +kernel
theorem dX6_person_56 : decode cX6_person 56 = .ok (.invokevirtual 110, 3) := by decide +kernel
theorem dX6_person_59 : decode cX6_person 59 = .ok (.goto 4, 3) := by decide +kernel
theorem dX6_person_62 : decode cX6_person 62 = .ok (.iconst 0, 1) := by decide +kernel
theorem dX6_person_63 : decode cX6_person 63 = .ok (.iadd, 1) := by decide +kernel
theorem dX6_person_64 : decode cX6_person 64 = .ok (.istore_n 3, 1) := by decide +kernel
theorem dX6_person_65 : decode cX6_person 65 = .ok (.iinc 4 1, 3) := by decide +kernel
theorem dX6_person_68 : decode cX6_person 68 = .ok (.goto (-48), 3) := by decide +kernel
theorem dX6_person_71 : decode cX6_person 71 = .ok (.iload_n 2, 1) := by decide +kernel
theorem dX6_person_72 : decode cX6_person 72 = .ok (.tableswitch 56 0 3 #[32, 41, 48, 54], 32) := by decide +kernel
theorem dX6_person_104 : decode cX6_person 104 = .ok (.aload_n 0, 1) := by decide +kernel
theorem dX6_person_105 : decode cX6_person 105 = .ok (.getfield 13, 3) := by decide +kernel
theorem dX6_person_108 : decode cX6_person 108 = .ok (.iconst 5, 1) := by decide +kernel
theorem dX6_person_109 : decode cX6_person 109 = .ok (.iload_n 1, 1) := by decide +kernel
theorem dX6_person_110 : decode cX6_person 110 = .ok (.iadd, 1) := by decide +kernel
theorem dX6_person_111 : decode cX6_person 111 = .ok (.iaload, 1) := by decide +kernel
theorem dX6_person_112 : decode cX6_person 112 = .ok (.ireturn, 1) := by decide +kernel
theorem dX6_person_113 : decode cX6_person 113 = .ok (.aload_n 0, 1) := by decide +kernel
theorem dX6_person_114 : decode cX6_person 114 = .ok (.getfield 19, 3) := by decide +kernel
theorem dX6_person_117 : decode cX6_person 117 = .ok (.iload_n 1, 1) := by decide +kernel
theorem dX6_person_118 : decode cX6_person 118 = .ok (.iaload, 1) := by decide +kernel
theorem dX6_person_119 : decode cX6_person 119 = .ok (.ireturn, 1) := by decide +kernel
theorem dX6_person_120 : decode cX6_person 120 = .ok (.aload_n 0, 1) := by decide +kernel
theorem dX6_person_121 : decode cX6_person 121 = .ok (.iload_n 1, 1) := by decide +kernel
theorem dX6_person_122 : decode cX6_person 122 = .ok (.invokevirtual 116, 3) := by decide +kernel
theorem dX6_person_125 : decode cX6_person 125 = .ok (.ireturn, 1) := by decide +kernel
theorem dX6_person_126 : decode cX6_person 126 = .ok (.iload_n 3, 1) := by decide +kernel
theorem dX6_person_127 : decode cX6_person 127 = .ok (.ireturn, 1) := by decide +kernel
theorem dX6_person_128 : decode cX6_person 128 = .ok (.iconst (-1), 1) := by decide +kernel
theorem dX6_person_129 : decode cX6_person 129 = .ok (.ireturn, 1) := by decide +kernel
theorem dX6_thing_0 : decode cX6_thing 0 = .ok (.aload_n 0, 1) := by decide +kernel
theorem dX6_thing_1 : decode cX6_thing 1 = .ok (.iload_n 1, 1) := by decide +kernel
theorem dX6_thing_2 : decode cX6_thing 2 = .ok (.invokevirtual 119, 3) := by decide +kernel
theorem dX6_thing_5 : decode cX6_thing 5 = .ok (.ifCond .ne 5, 3) := by decide +kernel
theorem dX6_thing_8 : decode cX6_thing 8 = .ok (.iconst (-1), 1) := by decide +kernel
theorem dX6_thing_9 : decode cX6_thing 9 = .ok (.ireturn, 1) := by decide +kernel
theorem dX6_thing_10 : decode cX6_thing 10 = .ok (.iload_n 2, 1) := by decide +kernel
theorem dX6_thing_11 : decode cX6_thing 11 = .ok (.tableswitch 87 0 3 #[29, 42, 52, 62], 29) := by decide +kernel
theorem dX6_thing_40 : decode cX6_thing 40 = .ok (.aload_n 0, 1) := by decide +kernel
theorem dX6_thing_41 : decode cX6_thing 41 = .ok (.iload_n 1, 1) := by decide +kernel
theorem dX6_thing_42 : decode cX6_thing 42 = .ok (.aload_n 0, 1) := by decide +kernel
theorem dX6_thing_43 : decode cX6_thing 43 = .ok (.getfield 19, 3) := by decide +kernel
theorem dX6_thing_46 : decode cX6_thing 46 = .ok (.bipush 54, 2) := by decide +kernel
theorem dX6_thing_48 : decode cX6_thing 48 = .ok (.iaload, 1) := by decide +kernel
theorem dX6_thing_49 : decode cX6_thing 49 = .ok (.invokevirtual 110, 3) := by decide +kernel
theorem dX6_thing_52 : decode cX6_thing 52 = .ok (.ireturn, 1) := by decide +kernel
theorem dX6_thing_53 : decode cX6_thing 53 = .ok (.aload_n 0, 1) := by decide +kernel
theorem dX6_thing_54 : decode cX6_thing 54 = .ok (.getfield 19, 3) := by decide +kernel
theorem dX6_thing_57 : decode cX6_thing 57 = .ok (.bipush 6, 2) := by decide +kernel
theorem dX6_thing_59 : decode cX6_thing 59 = .ok (.iload_n 1, 1) := by decide +kernel
theorem dX6_thing_60 : decode cX6_thing 60 = .ok (.iadd, 1) := by decide +kernel
theorem dX6_thing_61 : decode cX6_thing 61 = .ok (.iaload, 1) := by decide +kernel
theorem dX6_thing_62 : decode cX6_thing 62 = .ok (.ireturn, 1) := by decide +kernel
theorem dX6_thing_63 : decode cX6_thing 63 = .ok (.aload_n 0, 1) := by decide +kernel
theorem dX6_thing_64 : decode cX6_thing 64 = .ok (.getfield 19, 3) := by decide +kernel
theorem dX6_thing_67 : decode cX6_thing 67 = .ok (.bipush 12, 2) := by decide +kernel
theorem dX6_thing_69 : decode cX6_thing 69 = .ok (.iload_n 1, 1) := by decide +kernel
theorem dX6_thing_70 : decode cX6_thing 70 = .ok (.iadd, 1) := by decide +kernel
theorem dX6_thing_71 : decode cX6_thing 71 = .ok (.iaload, 1) := by decide +kernel
theorem dX6_thing_72 : decode cX6_thing 72 = .ok (.ireturn, 1) := by decide +kernel
theorem dX6_thing_73 : decode cX6_thing 73 = .ok (.aload_n 0, 1) := by decide +kernel
theorem dX6_thing_74 : decode cX6_thing 74 = .ok (.getfield 19, 3) := by decide +kernel
theorem dX6_thing_77 : decode cX6_thing 77 = .ok (.bipush 6, 2) := by decide +kernel
theorem dX6_thing_79 : decode cX6_thing 79 = .ok (.iload_n 1, 1) := by decide +kernel
theorem dX6_thing_80 : decode cX6_thing 80 = .ok (.iadd, 1) := by decide +kernel
theorem dX6_thing_81 : decode cX6_thing 81 = .ok (.iaload, 1) := by decide +kernel
theorem dX6_thing_82 : decode cX6_thing 82 = .ok (.bipush (-4), 2) := by decide +kernel
theorem dX6_thing_84 : decode cX6_thing 84 = .ok (.if_icmp .ne 11, 3) := by decide +kernel
theorem dX6_thing_87 : decode cX6_thing 87 = .ok (.aload_n 0, 1) := by decide +kernel
theorem dX6_thing_88 : decode cX6_thing 88 = .ok (.iload_n 1, 1) := by decide +kernel
theorem dX6_thing_89 : decode cX6_thing 89 = .ok (.invokevirtual 122, 3) := by decide +kernel
theorem dX6_thing_92 : decode cX6_thing 92 = .ok (.goto 5, 3) := by decide +kernel
theorem dX6_thing_95 : decode cX6_thing 95 = .ok (.bipush (-4), 2) := by decide +kernel
theorem dX6_thing_97 : decode cX6_thing 97 = .ok (.ireturn, 1) := by decide +kernel
theorem dX6_thing_98 : decode cX6_thing 98 = .ok (.iconst (-1), 1) := by decide +kernel
theorem dX6_thing_99 : decode cX6_thing 99 = .ok (.ireturn, 1) := by decide +kernel
theorem dX6_nearly_0 : decode cX6_nearly 0 = .ok (.aload_n 0, 1) := by decide +kernel
theorem dX6_nearly_1 : decode cX6_nearly 1 = .ok (.iload_n 1, 1) := by decide +kernel
theorem dX6_nearly_2 : decode cX6_nearly 2 = .ok (.invokevirtual 113, 3) := by decide +kernel
theorem dX6_nearly_5 : decode cX6_nearly 5 = .ok (.ifCond .eq 11, 3) := by decide +kernel
theorem dX6_nearly_8 : decode cX6_nearly 8 = .ok (.aload_n 0, 1) := by decide +kernel
theorem dX6_nearly_9 : decode cX6_nearly 9 = .ok (.iload_n 2, 1) := by decide +kernel
theorem dX6_nearly_10 : decode cX6_nearly 10 = .ok (.invokevirtual 119, 3) := by decide +kernel
theorem dX6_nearly_13 : decode cX6_nearly 13 = .ok (.ifCond .ne 5, 3) := by decide +kernel
theorem dX6_nearly_16 : decode cX6_nearly 16 = .ok (.iconst (-1), 1) := by decide +kernel
theorem dX6_nearly_17 : decode cX6_nearly 17 = .ok (.ireturn, 1) := by decide +kernel
theorem dX6_nearly_18 : decode cX6_nearly 18 = .ok (.aload_n 0, 1) := by decide +kernel
theorem dX6_nearly_19 : decode cX6_nearly 19 = .ok (.iload_n 1, 1) := by decide +kernel
theorem dX6_nearly_20 : decode cX6_nearly 20 = .ok (.iload_n 2, 1) := by decide +kernel
theorem dX6_nearly_21 : decode cX6_nearly 21 = .ok (.invokevirtual 101, 3) := by decide +kernel
theorem dX6_nearly_24 : decode cX6_nearly 24 = .ok (.istore 4, 2) := by decide +kernel
theorem dX6_nearly_26 : decode cX6_nearly 26 = .ok (.iload_n 3, 1) := by decide +kernel
theorem dX6_nearly_27 : decode cX6_nearly 27 = .ok (.tableswitch 100 0 4 #[33, 40, 47, 64, 79], 33) := by decide +kernel
theorem dX6_nearly_60 : decode cX6_nearly 60 = .ok (.iload 4, 2) := by decide +kernel
theorem dX6_nearly_62 : decode cX6_nearly 62 = .ok (.sipush 128, 3) := by decide +kernel
theorem dX6_nearly_65 : decode cX6_nearly 65 = .ok (.idiv, 1) := by decide +kernel
theorem dX6_nearly_66 : decode cX6_nearly 66 = .ok (.ireturn, 1) := by decide +kernel
theorem dX6_nearly_67 : decode cX6_nearly 67 = .ok (.aload_n 0, 1) := by decide +kernel
theorem dX6_nearly_68 : decode cX6_nearly 68 = .ok (.iload_n 1, 1) := by decide +kernel
theorem dX6_nearly_69 : decode cX6_nearly 69 = .ok (.iload_n 2, 1) := by decide +kernel
theorem dX6_nearly_70 : decode cX6_nearly 70 = .ok (.invokevirtual 107, 3) := by decide +kernel
theorem dX6_nearly_73 : decode cX6_nearly 73 = .ok (.ireturn, 1) := by decide +kernel
theorem dX6_nearly_74 : decode cX6_nearly 74 = .ok (.iload 4, 2) := by decide +kernel
theorem dX6_nearly_76 : decode cX6_nearly 76 = .ok (.ifCond .ne 8, 3) := by decide +kernel
theorem dX6_nearly_79 : decode cX6_nearly 79 = .ok (.bipush (-4), 2) := by decide +kernel
theorem dX6_nearly_81 : decode cX6_nearly 81 = .ok (.goto 9, 3) := by decide +kernel
theorem dX6_nearly_84 : decode cX6_nearly 84 = .ok (.iload 4, 2) := by decide +kernel
theorem dX6_nearly_86 : decode cX6_nearly 86 = .ok (.sipush 128, 3) := by decide +kernel
theorem dX6_nearly_89 : decode cX6_nearly 89 = .ok (.irem, 1) := by decide +kernel
theorem dX6_nearly_90 : decode cX6_nearly 90 = .ok (.ireturn, 1) := by decide +kernel
theorem dX6_nearly_91 : decode cX6_nearly 91 = .ok (.aload_n 0, 1) := by decide +kernel
theorem dX6_nearly_92 : decode cX6_nearly 92 = .ok (.iload_n 1, 1) := by decide +kernel
theorem dX6_nearly_93 : decode cX6_nearly 93 = .ok (.iload_n 2, 1) := by decide +kernel
theorem dX6_nearly_94 : decode cX6_nearly 94 = .ok (.invokevirtual 125, 3) := by decide +kernel
theorem dX6_nearly_97 : decode cX6_nearly 97 = .ok (.ifCond .eq 7, 3) := by decide +kernel
theorem dX6_nearly_100 : decode cX6_nearly 100 = .ok (.iconst 1, 1) := by decide +kernel
theorem dX6_nearly_101 : decode cX6_nearly 101 = .ok (.goto 4, 3) := by decide +kernel
theorem dX6_nearly_104 : decode cX6_nearly 104 = .ok (.iconst 0, 1) := by decide +kernel
theorem dX6_nearly_105 : decode cX6_nearly 105 = .ok (.ireturn, 1) := by decide +kernel
theorem dX6_nearly_106 : decode cX6_nearly 106 = .ok (.aload_n 0, 1) := by decide +kernel
theorem dX6_nearly_107 : decode cX6_nearly 107 = .ok (.iload_n 1, 1) := by decide +kernel
theorem dX6_nearly_108 : decode cX6_nearly 108 = .ok (.iload_n 2, 1) := by decide +kernel
theorem dX6_nearly_109 : decode cX6_nearly 109 = .ok (.invokevirtual 125, 3) := by decide +kernel
theorem dX6_nearly_112 : decode cX6_nearly 112 = .ok (.ifCond .eq 12, 3) := by decide +kernel
theorem dX6_nearly_115 : decode cX6_nearly 115 = .ok (.aload_n 0, 1) := by decide +kernel
theorem dX6_nearly_116 : decode cX6_nearly 116 = .ok (.iload_n 1, 1) := by decide +kernel
theorem dX6_nearly_117 : decode cX6_nearly 117 = .ok (.iload_n 2, 1) := by decide +kernel
theorem dX6_nearly_118 : decode cX6_nearly 118 = .ok (.invokevirtual 129, 3) := by decide +kernel
theorem dX6_nearly_121 : decode cX6_nearly 121 = .ok (.goto 5, 3) := by decide +kernel
theorem dX6_nearly_124 : decode cX6_nearly 124 = .ok (.bipush (-4), 2) := by decide +kernel
theorem dX6_nearly_126 : decode cX6_nearly 126 = .ok (.ireturn, 1) := by decide +kernel
theorem dX6_nearly_127 : decode cX6_nearly 127 = .ok (.iconst (-1), 1) := by decide +kernel
theorem dX6_nearly_128 : decode cX6_nearly 128 = .ok (.ireturn, 1) := by decide +kernel
theorem dX6_keeps_0 : decode cX6_keeps 0 = .ok (.aload_n 0, 1) := by decide +kernel
theorem dX6_keeps_1 : decode cX6_keeps 1 = .ok (.getfield 88, 3) := by decide +kernel
theorem dX6_keeps_4 : decode cX6_keeps 4 = .ok (.bipush 8, 2) := by decide +kernel
theorem dX6_keeps_6 : decode cX6_keeps 6 = .ok (.if_icmp .ne 43, 3) := by decide +kernel
theorem dX6_keeps_9 : decode cX6_keeps 9 = .ok (.iconst 0, 1) := by decide +kernel
theorem dX6_keeps_10 : decode cX6_keeps 10 = .ok (.istore_n 1, 1) := by decide +kernel
theorem dX6_keeps_11 : decode cX6_keeps 11 = .ok (.iload_n 1, 1) := by decide +kernel
theorem dX6_keeps_12 : decode cX6_keeps 12 = .ok (.sipush 385, 3) := by decide +kernel
theorem dX6_keeps_15 : decode cX6_keeps 15 = .ok (.if_icmp .ge 24, 3) := by decide +kernel
theorem dX6_keeps_18 : decode cX6_keeps 18 = .ok (.aload_n 0, 1) := by decide +kernel
theorem dX6_keeps_19 : decode cX6_keeps 19 = .ok (.getfield 22, 3) := by decide +kernel
theorem dX6_keeps_22 : decode cX6_keeps 22 = .ok (.iload_n 1, 1) := by decide +kernel
theorem dX6_keeps_23 : decode cX6_keeps 23 = .ok (.aload_n 0, 1) := by decide +kernel
theorem dX6_keeps_24 : decode cX6_keeps 24 = .ok (.getfield 22, 3) := by decide +kernel
theorem dX6_keeps_27 : decode cX6_keeps 27 = .ok (.iload_n 1, 1) := by decide +kernel
theorem dX6_keeps_28 : decode cX6_keeps 28 = .ok (.bipush 55, 2) := by decide +kernel
theorem dX6_keeps_30 : decode cX6_keeps 30 = .ok (.iadd, 1) := by decide +kernel
theorem dX6_keeps_31 : decode cX6_keeps 31 = .ok (.iaload, 1) := by decide +kernel
theorem dX6_keeps_32 : decode cX6_keeps 32 = .ok (.iastore, 1) := by decide +kernel
theorem dX6_keeps_33 : decode cX6_keeps 33 = .ok (.iinc 1 1, 3) := by decide +kernel
theorem dX6_keeps_36 : decode cX6_keeps 36 = .ok (.goto (-25), 3) := by decide +kernel
theorem dX6_keeps_39 : decode cX6_keeps 39 = .ok (.aload_n 0, 1) := by decide +kernel
theorem dX6_keeps_40 : decode cX6_keeps 40 = .ok (.dup, 1) := by decide +kernel
theorem dX6_keeps_41 : decode cX6_keeps 41 = .ok (.getfield 88, 3) := by decide +kernel
theorem dX6_keeps_44 : decode cX6_keeps 44 = .ok (.iconst 1, 1) := by decide +kernel
theorem dX6_keeps_45 : decode cX6_keeps 45 = .ok (.isub, 1) := by decide +kernel
theorem dX6_keeps_46 : decode cX6_keeps 46 = .ok (.putfield 88, 3) := by decide +kernel
theorem dX6_keeps_49 : decode cX6_keeps 49 = .ok (.iconst 0, 1) := by decide +kernel
theorem dX6_keeps_50 : decode cX6_keeps 50 = .ok (.istore_n 1, 1) := by decide +kernel
theorem dX6_keeps_51 : decode cX6_keeps 51 = .ok (.iload_n 1, 1) := by decide +kernel
theorem dX6_keeps_52 : decode cX6_keeps 52 = .ok (.bipush 55, 2) := by decide +kernel
theorem dX6_keeps_54 : decode cX6_keeps 54 = .ok (.if_icmp .ge 29, 3) := by decide +kernel
theorem dX6_keeps_57 : decode cX6_keeps 57 = .ok (.aload_n 0, 1) := by decide +kernel
theorem dX6_keeps_58 : decode cX6_keeps 58 = .ok (.getfield 22, 3) := by decide +kernel
theorem dX6_keeps_61 : decode cX6_keeps 61 = .ok (.bipush 55, 2) := by decide +kernel
theorem dX6_keeps_63 : decode cX6_keeps 63 = .ok (.aload_n 0, 1) := by decide +kernel
theorem dX6_keeps_64 : decode cX6_keeps 64 = .ok (.getfield 88, 3) := by decide +kernel
theorem dX6_keeps_67 : decode cX6_keeps 67 = .ok (.imul, 1) := by decide +kernel
theorem dX6_keeps_68 : decode cX6_keeps 68 = .ok (.iload_n 1, 1) := by decide +kernel
theorem dX6_keeps_69 : decode cX6_keeps 69 = .ok (.iadd, 1) := by decide +kernel
theorem dX6_keeps_70 : decode cX6_keeps 70 = .ok (.aload_n 0, 1) := by decide +kernel
theorem dX6_keeps_71 : decode cX6_keeps 71 = .ok (.getfield 19, 3) := by decide +kernel
theorem dX6_keeps_74 : decode cX6_keeps 74 = .ok (.iload_n 1, 1) := by decide +kernel
theorem dX6_keeps_75 : decode cX6_keeps 75 = .ok (.iaload, 1) := by decide +kernel
theorem dX6_keeps_76 : decode cX6_keeps 76 = .ok (.iastore, 1) := by decide +kernel
theorem dX6_keeps_77 : decode cX6_keeps 77 = .ok (.iinc 1 1, 3) := by decide +kernel
theorem dX6_keeps_80 : decode cX6_keeps 80 = .ok (.goto (-29), 3) := by decide +kernel
theorem dX6_keeps_83 : decode cX6_keeps 83 = .ok (.aload_n 0, 1) := by decide +kernel
theorem dX6_keeps_84 : decode cX6_keeps 84 = .ok (.dup, 1) := by decide +kernel
theorem dX6_keeps_85 : decode cX6_keeps 85 = .ok (.getfield 88, 3) := by decide +kernel
theorem dX6_keeps_88 : decode cX6_keeps 88 = .ok (.iconst 1, 1) := by decide +kernel
theorem dX6_keeps_89 : decode cX6_keeps 89 = .ok (.iadd, 1) := by decide +kernel
theorem dX6_keeps_90 : decode cX6_keeps 90 = .ok (.putfield 88, 3) := by decide +kernel
theorem dX6_keeps_93 : decode cX6_keeps 93 = .ok (.return_, 1) := by decide +kernel
theorem dX6_pauses_0 : decode cX6_pauses 0 = .ok (.bipush 18, 2) := by decide +kernel
theorem dX6_pauses_2 : decode cX6_pauses 2 = .ok (.bipush 6, 2) := by decide +kernel
theorem dX6_pauses_4 : decode cX6_pauses 4 = .ok (.iload_n 1, 1) := by decide +kernel
theorem dX6_pauses_5 : decode cX6_pauses 5 = .ok (.imul, 1) := by decide +kernel
theorem dX6_pauses_6 : decode cX6_pauses 6 = .ok (.iadd, 1) := by decide +kernel
theorem dX6_pauses_7 : decode cX6_pauses 7 = .ok (.iload_n 2, 1) := by decide +kernel
theorem dX6_pauses_8 : decode cX6_pauses 8 = .ok (.iadd, 1) := by decide +kernel
theorem dX6_pauses_9 : decode cX6_pauses 9 = .ok (.istore 4, 2) := by decide +kernel
theorem dX6_pauses_11 : decode cX6_pauses 11 = .ok (.sipush 128, 3) := by decide +kernel
theorem dX6_pauses_14 : decode cX6_pauses 14 = .ok (.iload_n 3, 1) := by decide +kernel
theorem dX6_pauses_15 : decode cX6_pauses 15 = .ok (.imul, 1) := by decide +kernel
theorem dX6_pauses_16 : decode cX6_pauses 16 = .ok (.aload_n 0, 1) := by decide +kernel
theorem dX6_pauses_17 : decode cX6_pauses 17 = .ok (.getfield 19, 3) := by decide +kernel
theorem dX6_pauses_20 : decode cX6_pauses 20 = .ok (.bipush 54, 2) := by decide +kernel
theorem dX6_pauses_22 : decode cX6_pauses 22 = .ok (.iaload, 1) := by decide +kernel
theorem dX6_pauses_23 : decode cX6_pauses 23 = .ok (.iadd, 1) := by decide +kernel
theorem dX6_pauses_24 : decode cX6_pauses 24 = .ok (.istore 5, 2) := by decide +kernel
theorem dX6_pauses_26 : decode cX6_pauses 26 = .ok (.aload_n 0, 1) := by decide +kernel
theorem dX6_pauses_27 : decode cX6_pauses 27 = .ok (.getfield 19, 3) := by decide +kernel
theorem dX6_pauses_30 : decode cX6_pauses 30 = .ok (.iload 4, 2) := by decide +kernel
theorem dX6_pauses_32 : decode cX6_pauses 32 = .ok (.aload_n 0, 1) := by decide +kernel
theorem dX6_pauses_33 : decode cX6_pauses 33 = .ok (.getfield 19, 3) := by decide +kernel
theorem dX6_pauses_36 : decode cX6_pauses 36 = .ok (.iload 4, 2) := by decide +kernel
theorem dX6_pauses_38 : decode cX6_pauses 38 = .ok (.iaload, 1) := by decide +kernel
theorem dX6_pauses_39 : decode cX6_pauses 39 = .ok (.ifCond .ne 8, 3) := by decide +kernel
theorem dX6_pauses_42 : decode cX6_pauses 42 = .ok (.iload 5, 2) := by decide +kernel
theorem dX6_pauses_44 : decode cX6_pauses 44 = .ok (.goto 15, 3) := by decide +kernel
theorem dX6_pauses_47 : decode cX6_pauses 47 = .ok (.aload_n 0, 1) := by decide +kernel
theorem dX6_pauses_48 : decode cX6_pauses 48 = .ok (.getfield 19, 3) := by decide +kernel
theorem dX6_pauses_51 : decode cX6_pauses 51 = .ok (.iload 4, 2) := by decide +kernel
theorem dX6_pauses_53 : decode cX6_pauses 53 = .ok (.iaload, 1) := by decide +kernel
theorem dX6_pauses_54 : decode cX6_pauses 54 = .ok (.iload 5, 2) := by decide +kernel
theorem dX6_pauses_56 : decode cX6_pauses 56 = .ok (.invokestatic 97, 3) := by decide +kernel
theorem dX6_pauses_59 : decode cX6_pauses 59 = .ok (.iastore, 1) := by decide +kernel
theorem dX6_pauses_60 : decode cX6_pauses 60 = .ok (.return_, 1) := by decide +kernel
theorem dX6_pause_0 : decode cX6_pause 0 = .ok (.aload_n 0, 1) := by decide +kernel
theorem dX6_pause_1 : decode cX6_pause 1 = .ok (.iload_n 1, 1) := by decide +kernel
theorem dX6_pause_2 : decode cX6_pause 2 = .ok (.invokevirtual 113, 3) := by decide +kernel
theorem dX6_pause_5 : decode cX6_pause 5 = .ok (.ifCond .eq 21, 3) := by decide +kernel
theorem dX6_pause_8 : decode cX6_pause 8 = .ok (.aload_n 0, 1) := by decide +kernel
theorem dX6_pause_9 : decode cX6_pause 9 = .ok (.iload_n 2, 1) := by decide +kernel
theorem dX6_pause_10 : decode cX6_pause 10 = .ok (.invokevirtual 119, 3) := by decide +kernel
theorem dX6_pause_13 : decode cX6_pause 13 = .ok (.ifCond .eq 13, 3) := by decide +kernel
theorem dX6_pause_16 : decode cX6_pause 16 = .ok (.iload_n 3, 1) := by decide +kernel
theorem dX6_pause_17 : decode cX6_pause 17 = .ok (.iconst 1, 1) := by decide +kernel
theorem dX6_pause_18 : decode cX6_pause 18 = .ok (.bipush 30, 2) := by decide +kernel
theorem dX6_pause_20 : decode cX6_pause 20 = .ok (.invokestatic 56, 3) := by decide +kernel
theorem dX6_pause_23 : decode cX6_pause 23 = .ok (.ifCond .ne 5, 3) := by decide +kernel
theorem dX6_pause_26 : decode cX6_pause 26 = .ok (.iconst (-1), 1) := by decide +kernel
theorem dX6_pause_27 : decode cX6_pause 27 = .ok (.ireturn, 1) := by decide +kernel
theorem dX6_pause_28 : decode cX6_pause 28 = .ok (.aload_n 0, 1) := by decide +kernel
theorem dX6_pause_29 : decode cX6_pause 29 = .ok (.invokevirtual 132, 3) := by decide +kernel
theorem dX6_pause_32 : decode cX6_pause 32 = .ok (.aload_n 0, 1) := by decide +kernel
theorem dX6_pause_33 : decode cX6_pause 33 = .ok (.iload_n 1, 1) := by decide +kernel
theorem dX6_pause_34 : decode cX6_pause 34 = .ok (.iload_n 2, 1) := by decide +kernel
theorem dX6_pause_35 : decode cX6_pause 35 = .ok (.iload_n 3, 1) := by decide +kernel
theorem dX6_pause_36 : decode cX6_pause 36 = .ok (.invokevirtual 135, 3) := by decide +kernel
theorem dX6_pause_39 : decode cX6_pause 39 = .ok (.aload_n 0, 1) := by decide +kernel
theorem dX6_pause_40 : decode cX6_pause 40 = .ok (.iload_n 1, 1) := by decide +kernel
theorem dX6_pause_41 : decode cX6_pause 41 = .ok (.iload_n 2, 1) := by decide +kernel
theorem dX6_pause_42 : decode cX6_pause 42 = .ok (.invokevirtual 107, 3) := by decide +kernel
theorem dX6_pause_45 : decode cX6_pause 45 = .ok (.ireturn, 1) := by decide +kernel
theorem dX6_sells_0 : decode cX6_sells 0 = .ok (.aload_n 0, 1) := by decide +kernel
theorem dX6_sells_1 : decode cX6_sells 1 = .ok (.getfield 19, 3) := by decide +kernel
theorem dX6_sells_4 : decode cX6_sells 4 = .ok (.bipush 6, 2) := by decide +kernel
theorem dX6_sells_6 : decode cX6_sells 6 = .ok (.iload_n 1, 1) := by decide +kernel
theorem dX6_sells_7 : decode cX6_sells 7 = .ok (.iadd, 1) := by decide +kernel
theorem dX6_sells_8 : decode cX6_sells 8 = .ok (.iload_n 2, 1) := by decide +kernel
theorem dX6_sells_9 : decode cX6_sells 9 = .ok (.iastore, 1) := by decide +kernel
theorem dX6_sells_10 : decode cX6_sells 10 = .ok (.aload_n 0, 1) := by decide +kernel
theorem dX6_sells_11 : decode cX6_sells 11 = .ok (.getfield 19, 3) := by decide +kernel
theorem dX6_sells_14 : decode cX6_sells 14 = .ok (.iload_n 2, 1) := by decide +kernel
theorem dX6_sells_15 : decode cX6_sells 15 = .ok (.dup2, 1) := by decide +kernel
theorem dX6_sells_16 : decode cX6_sells 16 = .ok (.iaload, 1) := by decide +kernel
theorem dX6_sells_17 : decode cX6_sells 17 = .ok (.iload_n 3, 1) := by decide +kernel
theorem dX6_sells_18 : decode cX6_sells 18 = .ok (.isub, 1) := by decide +kernel
theorem dX6_sells_19 : decode cX6_sells 19 = .ok (.iastore, 1) := by decide +kernel
theorem dX6_sells_20 : decode cX6_sells 20 = .ok (.return_, 1) := by decide +kernel
theorem dX6_dearest_0 : decode cX6_dearest 0 = .ok (.bipush (-4), 2) := by decide +kernel
theorem dX6_dearest_2 : decode cX6_dearest 2 = .ok (.istore_n 2, 1) := by decide +kernel
theorem dX6_dearest_3 : decode cX6_dearest 3 = .ok (.iconst 0, 1) := by decide +kernel
theorem dX6_dearest_4 : decode cX6_dearest 4 = .ok (.istore_n 3, 1) := by decide +kernel
theorem dX6_dearest_5 : decode cX6_dearest 5 = .ok (.iload_n 3, 1) := by decide +kernel
theorem dX6_dearest_6 : decode cX6_dearest 6 = .ok (.aload_n 0, 1) := by decide +kernel
theorem dX6_dearest_7 : decode cX6_dearest 7 = .ok (.getfield 13, 3) := by decide +kernel
theorem dX6_dearest_10 : decode cX6_dearest 10 = .ok (.iconst 1, 1) := by decide +kernel
theorem dX6_dearest_11 : decode cX6_dearest 11 = .ok (.iaload, 1) := by decide +kernel
theorem dX6_dearest_12 : decode cX6_dearest 12 = .ok (.if_icmp .ge 44, 3) := by decide +kernel
theorem dX6_dearest_15 : decode cX6_dearest 15 = .ok (.aload_n 0, 1) := by decide +kernel
theorem dX6_dearest_16 : decode cX6_dearest 16 = .ok (.iload_n 1, 1) := by decide +kernel
theorem dX6_dearest_17 : decode cX6_dearest 17 = .ok (.iload_n 3, 1) := by decide +kernel
theorem dX6_dearest_18 : decode cX6_dearest 18 = .ok (.invokevirtual 125, 3) := by decide +kernel
theorem dX6_dearest_21 : decode cX6_dearest 21 = .ok (.ifCond .eq 12, 3) := by decide +kernel
theorem dX6_dearest_24 : decode cX6_dearest 24 = .ok (.aload_n 0, 1) := by decide +kernel
theorem dX6_dearest_25 : decode cX6_dearest 25 = .ok (.iload_n 1, 1) := by decide +kernel
theorem dX6_dearest_26 : decode cX6_dearest 26 = .ok (.iload_n 3, 1) := by decide +kernel
theorem dX6_dearest_27 : decode cX6_dearest 27 = .ok (.invokevirtual 129, 3) := by decide +kernel
theorem dX6_dearest_30 : decode cX6_dearest 30 = .ok (.goto 5, 3) := by decide +kernel
theorem dX6_dearest_33 : decode cX6_dearest 33 = .ok (.bipush (-4), 2) := by decide +kernel
theorem dX6_dearest_35 : decode cX6_dearest 35 = .ok (.istore 4, 2) := by decide +kernel
theorem dX6_dearest_37 : decode cX6_dearest 37 = .ok (.iload 4, 2) := by decide +kernel
theorem dX6_dearest_39 : decode cX6_dearest 39 = .ok (.iload_n 2, 1) := by decide +kernel
theorem dX6_dearest_40 : decode cX6_dearest 40 = .ok (.if_icmp .le 8, 3) := by decide +kernel
theorem dX6_dearest_43 : decode cX6_dearest 43 = .ok (.iload 4, 2) := by decide +kernel
theorem dX6_dearest_45 : decode cX6_dearest 45 = .ok (.goto 4, 3) := by decide +kernel
theorem dX6_dearest_48 : decode cX6_dearest 48 = .ok (.iload_n 2, 1) := by decide +kernel
theorem dX6_dearest_49 : decode cX6_dearest 49 = .ok (.istore_n 2, 1) := by decide +kernel
theorem dX6_dearest_50 : decode cX6_dearest 50 = .ok (.iinc 3 1, 3) := by decide +kernel
theorem dX6_dearest_53 : decode cX6_dearest 53 = .ok (.goto (-48), 3) := by decide +kernel
theorem dX6_dearest_56 : decode cX6_dearest 56 = .ok (.iload_n 2, 1) := by decide +kernel
theorem dX6_dearest_57 : decode cX6_dearest 57 = .ok (.ireturn, 1) := by decide +kernel
theorem dX6_offers_0 : decode cX6_offers 0 = .ok (.aload_n 0, 1) := by decide +kernel
theorem dX6_offers_1 : decode cX6_offers 1 = .ok (.iload_n 2, 1) := by decide +kernel
theorem dX6_offers_2 : decode cX6_offers 2 = .ok (.iload_n 1, 1) := by decide +kernel
theorem dX6_offers_3 : decode cX6_offers 3 = .ok (.invokevirtual 129, 3) := by decide +kernel
theorem dX6_offers_6 : decode cX6_offers 6 = .ok (.istore_n 3, 1) := by decide +kernel
theorem dX6_offers_7 : decode cX6_offers 7 = .ok (.aload_n 0, 1) := by decide +kernel
theorem dX6_offers_8 : decode cX6_offers 8 = .ok (.getfield 19, 3) := by decide +kernel
theorem dX6_offers_11 : decode cX6_offers 11 = .ok (.iload_n 2, 1) := by decide +kernel
theorem dX6_offers_12 : decode cX6_offers 12 = .ok (.iaload, 1) := by decide +kernel
theorem dX6_offers_13 : decode cX6_offers 13 = .ok (.iload_n 3, 1) := by decide +kernel
theorem dX6_offers_14 : decode cX6_offers 14 = .ok (.if_icmp .lt 11, 3) := by decide +kernel
theorem dX6_offers_17 : decode cX6_offers 17 = .ok (.aload_n 0, 1) := by decide +kernel
theorem dX6_offers_18 : decode cX6_offers 18 = .ok (.iload_n 1, 1) := by decide +kernel
theorem dX6_offers_19 : decode cX6_offers 19 = .ok (.iload_n 2, 1) := by decide +kernel
theorem dX6_offers_20 : decode cX6_offers 20 = .ok (.iload_n 3, 1) := by decide +kernel
theorem dX6_offers_21 : decode cX6_offers 21 = .ok (.invokevirtual 139, 3) := by decide +kernel
theorem dX6_offers_24 : decode cX6_offers 24 = .ok (.return_, 1) := by decide +kernel
theorem dX6_offers_25 : decode cX6_offers 25 = .ok (.aload_n 0, 1) := by decide +kernel
theorem dX6_offers_26 : decode cX6_offers 26 = .ok (.getfield 19, 3) := by decide +kernel
theorem dX6_offers_29 : decode cX6_offers 29 = .ok (.bipush 12, 2) := by decide +kernel
theorem dX6_offers_31 : decode cX6_offers 31 = .ok (.iload_n 1, 1) := by decide +kernel
theorem dX6_offers_32 : decode cX6_offers 32 = .ok (.iadd, 1) := by decide +kernel
theorem dX6_offers_33 : decode cX6_offers 33 = .ok (.aload_n 0, 1) := by decide +kernel
theorem dX6_offers_34 : decode cX6_offers 34 = .ok (.getfield 19, 3) := by decide +kernel
theorem dX6_offers_37 : decode cX6_offers 37 = .ok (.bipush 12, 2) := by decide +kernel
theorem dX6_offers_39 : decode cX6_offers 39 = .ok (.iload_n 1, 1) := by decide +kernel
theorem dX6_offers_40 : decode cX6_offers 40 = .ok (.iadd, 1) := by decide +kernel
theorem dX6_offers_41 : decode cX6_offers 41 = .ok (.iaload, 1) := by decide +kernel
theorem dX6_offers_42 : decode cX6_offers 42 = .ok (.iconst 3, 1) := by decide +kernel
theorem dX6_offers_43 : decode cX6_offers 43 = .ok (.if_icmp .ge 17, 3) := by decide +kernel
theorem dX6_offers_46 : decode cX6_offers 46 = .ok (.aload_n 0, 1) := by decide +kernel
theorem dX6_offers_47 : decode cX6_offers 47 = .ok (.getfield 19, 3) := by decide +kernel
theorem dX6_offers_50 : decode cX6_offers 50 = .ok (.bipush 12, 2) := by decide +kernel
theorem dX6_offers_52 : decode cX6_offers 52 = .ok (.iload_n 1, 1) := by decide +kernel
theorem dX6_offers_53 : decode cX6_offers 53 = .ok (.iadd, 1) := by decide +kernel
theorem dX6_offers_54 : decode cX6_offers 54 = .ok (.iaload, 1) := by decide +kernel
theorem dX6_offers_55 : decode cX6_offers 55 = .ok (.iconst 1, 1) := by decide +kernel
theorem dX6_offers_56 : decode cX6_offers 56 = .ok (.iadd, 1) := by decide +kernel
theorem dX6_offers_57 : decode cX6_offers 57 = .ok (.goto 4, 3) := by decide +kernel
theorem dX6_offers_60 : decode cX6_offers 60 = .ok (.iconst 3, 1) := by decide +kernel
theorem dX6_offers_61 : decode cX6_offers 61 = .ok (.iastore, 1) := by decide +kernel
theorem dX6_offers_62 : decode cX6_offers 62 = .ok (.bipush (-4), 2) := by decide +kernel
theorem dX6_offers_64 : decode cX6_offers 64 = .ok (.istore 4, 2) := by decide +kernel
theorem dX6_offers_66 : decode cX6_offers 66 = .ok (.iload_n 3, 1) := by decide +kernel
theorem dX6_offers_67 : decode cX6_offers 67 = .ok (.istore 5, 2) := by decide +kernel
theorem dX6_offers_69 : decode cX6_offers 69 = .ok (.iconst 0, 1) := by decide +kernel
theorem dX6_offers_70 : decode cX6_offers 70 = .ok (.istore 6, 2) := by decide +kernel
theorem dX6_offers_72 : decode cX6_offers 72 = .ok (.iload 6, 2) := by decide +kernel
theorem dX6_offers_74 : decode cX6_offers 74 = .ok (.aload_n 0, 1) := by decide +kernel
theorem dX6_offers_75 : decode cX6_offers 75 = .ok (.getfield 13, 3) := by decide +kernel
theorem dX6_offers_78 : decode cX6_offers 78 = .ok (.iconst 0, 1) := by decide +kernel
theorem dX6_offers_79 : decode cX6_offers 79 = .ok (.iaload, 1) := by decide +kernel
theorem dX6_offers_80 : decode cX6_offers 80 = .ok (.if_icmp .ge 84, 3) := by decide +kernel
theorem dX6_offers_83 : decode cX6_offers 83 = .ok (.aload_n 0, 1) := by decide +kernel
theorem dX6_offers_84 : decode cX6_offers 84 = .ok (.getfield 19, 3) := by decide +kernel
theorem dX6_offers_87 : decode cX6_offers 87 = .ok (.bipush 12, 2) := by decide +kernel
theorem dX6_offers_89 : decode cX6_offers 89 = .ok (.iload_n 1, 1) := by decide +kernel
theorem dX6_offers_90 : decode cX6_offers 90 = .ok (.iadd, 1) := by decide +kernel
theorem dX6_offers_91 : decode cX6_offers 91 = .ok (.iaload, 1) := by decide +kernel
theorem dX6_offers_92 : decode cX6_offers 92 = .ok (.iconst 3, 1) := by decide +kernel
theorem dX6_offers_93 : decode cX6_offers 93 = .ok (.if_icmp .ne 71, 3) := by decide +kernel
theorem dX6_offers_96 : decode cX6_offers 96 = .ok (.iload 6, 2) := by decide +kernel
theorem dX6_offers_98 : decode cX6_offers 98 = .ok (.iload_n 2, 1) := by decide +kernel
theorem dX6_offers_99 : decode cX6_offers 99 = .ok (.if_icmp .eq 23, 3) := by decide +kernel
theorem dX6_offers_102 : decode cX6_offers 102 = .ok (.aload_n 0, 1) := by decide +kernel
theorem dX6_offers_103 : decode cX6_offers 103 = .ok (.getfield 19, 3) := by decide +kernel
theorem dX6_offers_106 : decode cX6_offers 106 = .ok (.iload 6, 2) := by decide +kernel
theorem dX6_offers_108 : decode cX6_offers 108 = .ok (.iaload, 1) := by decide +kernel
theorem dX6_offers_109 : decode cX6_offers 109 = .ok (.iload_n 3, 1) := by decide +kernel
theorem dX6_offers_110 : decode cX6_offers 110 = .ok (.if_icmp .lt 12, 3) := by decide +kernel
theorem dX6_offers_113 : decode cX6_offers 113 = .ok (.aload_n 0, 1) := by decide +kernel
theorem dX6_offers_114 : decode cX6_offers 114 = .ok (.iload 6, 2) := by decide +kernel
theorem dX6_offers_116 : decode cX6_offers 116 = .ok (.invokevirtual 142, 3) := by decide +kernel
theorem dX6_offers_119 : decode cX6_offers 119 = .ok (.goto 5, 3) := by decide +kernel
theorem dX6_offers_122 : decode cX6_offers 122 = .ok (.bipush (-4), 2) := by decide +kernel
theorem dX6_offers_124 : decode cX6_offers 124 = .ok (.istore 7, 2) := by decide +kernel
theorem dX6_offers_126 : decode cX6_offers 126 = .ok (.iload 7, 2) := by decide +kernel
theorem dX6_offers_128 : decode cX6_offers 128 = .ok (.iload 5, 2) := by decide +kernel
theorem dX6_offers_130 : decode cX6_offers 130 = .ok (.if_icmp .le 8, 3) := by decide +kernel
theorem dX6_offers_133 : decode cX6_offers 133 = .ok (.iload 6, 2) := by decide +kernel
theorem dX6_offers_135 : decode cX6_offers 135 = .ok (.goto 5, 3) := by decide +kernel
theorem dX6_offers_138 : decode cX6_offers 138 = .ok (.iload 4, 2) := by decide +kernel
theorem dX6_offers_140 : decode cX6_offers 140 = .ok (.istore 4, 2) := by decide +kernel
theorem dX6_offers_142 : decode cX6_offers 142 = .ok (.iload 7, 2) := by decide +kernel
theorem dX6_offers_144 : decode cX6_offers 144 = .ok (.iload 5, 2) := by decide +kernel
theorem dX6_offers_146 : decode cX6_offers 146 = .ok (.if_icmp .le 8, 3) := by decide +kernel
theorem dX6_offers_149 : decode cX6_offers 149 = .ok (.iload 7, 2) := by decide +kernel
theorem dX6_offers_151 : decode cX6_offers 151 = .ok (.goto 5, 3) := by decide +kernel
theorem dX6_offers_154 : decode cX6_offers 154 = .ok (.iload 5, 2) := by decide +kernel
theorem dX6_offers_156 : decode cX6_offers 156 = .ok (.istore 5, 2) := by decide +kernel
theorem dX6_offers_158 : decode cX6_offers 158 = .ok (.iinc 6 1, 3) := by decide +kernel
theorem dX6_offers_161 : decode cX6_offers 161 = .ok (.goto (-89), 3) := by decide +kernel
theorem dX6_offers_164 : decode cX6_offers 164 = .ok (.iload 4, 2) := by decide +kernel
theorem dX6_offers_166 : decode cX6_offers 166 = .ok (.bipush (-4), 2) := by decide +kernel
theorem dX6_offers_168 : decode cX6_offers 168 = .ok (.if_icmp .eq 11, 3) := by decide +kernel
theorem dX6_offers_171 : decode cX6_offers 171 = .ok (.aload_n 0, 1) := by decide +kernel
theorem dX6_offers_172 : decode cX6_offers 172 = .ok (.iload_n 1, 1) := by decide +kernel
theorem dX6_offers_173 : decode cX6_offers 173 = .ok (.iload 4, 2) := by decide +kernel
theorem dX6_offers_175 : decode cX6_offers 175 = .ok (.iload_n 3, 1) := by decide +kernel
theorem dX6_offers_176 : decode cX6_offers 176 = .ok (.invokevirtual 139, 3) := by decide +kernel
theorem dX6_offers_179 : decode cX6_offers 179 = .ok (.return_, 1) := by decide +kernel
theorem dX6_holds_0 : decode cX6_holds 0 = .ok (.iconst 0, 1) := by decide +kernel
theorem dX6_holds_1 : decode cX6_holds 1 = .ok (.istore_n 1, 1) := by decide +kernel
theorem dX6_holds_2 : decode cX6_holds 2 = .ok (.iconst 0, 1) := by decide +kernel
theorem dX6_holds_3 : decode cX6_holds 3 = .ok (.istore_n 2, 1) := by decide +kernel
theorem dX6_holds_4 : decode cX6_holds 4 = .ok (.iload_n 2, 1) := by decide +kernel
theorem dX6_holds_5 : decode cX6_holds 5 = .ok (.aload_n 0, 1) := by decide +kernel
theorem dX6_holds_6 : decode cX6_holds 6 = .ok (.getfield 13, 3) := by decide +kernel
theorem dX6_holds_9 : decode cX6_holds 9 = .ok (.iconst 1, 1) := by decide +kernel
theorem dX6_holds_10 : decode cX6_holds 10 = .ok (.iaload, 1) := by decide +kernel
theorem dX6_holds_11 : decode cX6_holds 11 = .ok (.if_icmp .ge 65, 3) := by decide +kernel
theorem dX6_holds_14 : decode cX6_holds 14 = .ok (.aload_n 0, 1) := by decide +kernel
theorem dX6_holds_15 : decode cX6_holds 15 = .ok (.getfield 19, 3) := by decide +kernel
theorem dX6_holds_18 : decode cX6_holds 18 = .ok (.bipush 6, 2) := by decide +kernel
theorem dX6_holds_20 : decode cX6_holds 20 = .ok (.iload_n 2, 1) := by decide +kernel
theorem dX6_holds_21 : decode cX6_holds 21 = .ok (.iadd, 1) := by decide +kernel
theorem dX6_holds_22 : decode cX6_holds 22 = .ok (.iaload, 1) := by decide +kernel
theorem dX6_holds_23 : decode cX6_holds 23 = .ok (.bipush (-4), 2) := by decide +kernel
theorem dX6_holds_25 : decode cX6_holds 25 = .ok (.if_icmp .ne 45, 3) := by decide +kernel
theorem dX6_holds_28 : decode cX6_holds 28 = .ok (.aload_n 0, 1) := by decide +kernel
theorem dX6_holds_29 : decode cX6_holds 29 = .ok (.iload_n 2, 1) := by decide +kernel
theorem dX6_holds_30 : decode cX6_holds 30 = .ok (.invokevirtual 122, 3) := by decide +kernel
theorem dX6_holds_33 : decode cX6_holds 33 = .ok (.bipush (-4), 2) := by decide +kernel
theorem dX6_holds_35 : decode cX6_holds 35 = .ok (.if_icmp .eq 35, 3) := by decide +kernel
theorem dX6_holds_38 : decode cX6_holds 38 = .ok (.aload_n 0, 1) := by decide +kernel
theorem dX6_holds_39 : decode cX6_holds 39 = .ok (.iload_n 2, 1) := by decide +kernel
theorem dX6_holds_40 : decode cX6_holds 40 = .ok (.aload_n 0, 1) := by decide +kernel
theorem dX6_holds_41 : decode cX6_holds 41 = .ok (.iload_n 2, 1) := by decide +kernel
theorem dX6_holds_42 : decode cX6_holds 42 = .ok (.invokevirtual 122, 3) := by decide +kernel
theorem dX6_holds_45 : decode cX6_holds 45 = .ok (.invokevirtual 145, 3) := by decide +kernel
theorem dX6_holds_48 : decode cX6_holds 48 = .ok (.iload_n 1, 1) := by decide +kernel
theorem dX6_holds_49 : decode cX6_holds 49 = .ok (.aload_n 0, 1) := by decide +kernel
theorem dX6_holds_50 : decode cX6_holds 50 = .ok (.getfield 19, 3) := by decide +kernel
theorem dX6_holds_53 : decode cX6_holds 53 = .ok (.bipush 6, 2) := by decide +kernel
theorem dX6_holds_55 : decode cX6_holds 55 = .ok (.iload_n 2, 1) := by decide +kernel
theorem dX6_holds_56 : decode cX6_holds 56 = .ok (.iadd, 1) := by decide +kernel
theorem dX6_holds_57 : decode cX6_holds 57 = .ok (.iaload, 1) := by decide +kernel
theorem dX6_holds_58 : decode cX6_holds 58 = .ok (.bipush (-4), 2) := by decide +kernel
theorem dX6_holds_60 : decode cX6_holds 60 = .ok (.if_icmp .ne 7, 3) := by decide +kernel
theorem dX6_holds_63 : decode cX6_holds 63 = .ok (.iconst 0, 1) := by decide +kernel
theorem dX6_holds_64 : decode cX6_holds 64 = .ok (.goto 4, 3) := by decide +kernel
theorem dX6_holds_67 : decode cX6_holds 67 = .ok (.iconst 1, 1) := by decide +kernel
theorem dX6_holds_68 : decode cX6_holds 68 = .ok (.iadd, 1) := by decide +kernel
theorem dX6_holds_69 : decode cX6_holds 69 = .ok (.istore_n 1, 1) := by decide +kernel
theorem dX6_holds_70 : decode cX6_holds 70 = .ok (.iinc 2 1, 3) := by decide +kernel
theorem dX6_holds_73 : decode cX6_holds 73 = .ok (.goto (-69), 3) := by decide +kernel
theorem dX6_holds_76 : decode cX6_holds 76 = .ok (.iconst 0, 1) := by decide +kernel
theorem dX6_holds_77 : decode cX6_holds 77 = .ok (.istore_n 2, 1) := by decide +kernel
theorem dX6_holds_78 : decode cX6_holds 78 = .ok (.iload_n 2, 1) := by decide +kernel
theorem dX6_holds_79 : decode cX6_holds 79 = .ok (.aload_n 0, 1) := by decide +kernel
theorem dX6_holds_80 : decode cX6_holds 80 = .ok (.getfield 13, 3) := by decide +kernel
theorem dX6_holds_83 : decode cX6_holds 83 = .ok (.iconst 0, 1) := by decide +kernel
theorem dX6_holds_84 : decode cX6_holds 84 = .ok (.iaload, 1) := by decide +kernel
theorem dX6_holds_85 : decode cX6_holds 85 = .ok (.if_icmp .ge 53, 3) := by decide +kernel
theorem dX6_holds_88 : decode cX6_holds 88 = .ok (.aload_n 0, 1) := by decide +kernel
theorem dX6_holds_89 : decode cX6_holds 89 = .ok (.getfield 19, 3) := by decide +kernel
theorem dX6_holds_92 : decode cX6_holds 92 = .ok (.iload_n 2, 1) := by decide +kernel
theorem dX6_holds_93 : decode cX6_holds 93 = .ok (.aload_n 0, 1) := by decide +kernel
theorem dX6_holds_94 : decode cX6_holds 94 = .ok (.getfield 19, 3) := by decide +kernel
theorem dX6_holds_97 : decode cX6_holds 97 = .ok (.iload_n 2, 1) := by decide +kernel
theorem dX6_holds_98 : decode cX6_holds 98 = .ok (.iaload, 1) := by decide +kernel
theorem dX6_holds_99 : decode cX6_holds 99 = .ok (.aload_n 0, 1) := by decide +kernel
theorem dX6_holds_100 : decode cX6_holds 100 = .ok (.getfield 13, 3) := by decide +kernel
theorem dX6_holds_103 : decode cX6_holds 103 = .ok (.iconst 3, 1) := by decide +kernel
theorem dX6_holds_104 : decode cX6_holds 104 = .ok (.iaload, 1) := by decide +kernel
theorem dX6_holds_105 : decode cX6_holds 105 = .ok (.iadd, 1) := by decide +kernel
theorem dX6_holds_106 : decode cX6_holds 106 = .ok (.sipush 999, 3) := by decide +kernel
theorem dX6_holds_109 : decode cX6_holds 109 = .ok (.if_icmp .le 9, 3) := by decide +kernel
theorem dX6_holds_112 : decode cX6_holds 112 = .ok (.sipush 999, 3) := by decide +kernel
theorem dX6_holds_115 : decode cX6_holds 115 = .ok (.goto 16, 3) := by decide +kernel
theorem dX6_holds_118 : decode cX6_holds 118 = .ok (.aload_n 0, 1) := by decide +kernel
theorem dX6_holds_119 : decode cX6_holds 119 = .ok (.getfield 19, 3) := by decide +kernel
theorem dX6_holds_122 : decode cX6_holds 122 = .ok (.iload_n 2, 1) := by decide +kernel
theorem dX6_holds_123 : decode cX6_holds 123 = .ok (.iaload, 1) := by decide +kernel
theorem dX6_holds_124 : decode cX6_holds 124 = .ok (.aload_n 0, 1) := by decide +kernel
theorem dX6_holds_125 : decode cX6_holds 125 = .ok (.getfield 13, 3) := by decide +kernel
theorem dX6_holds_128 : decode cX6_holds 128 = .ok (.iconst 3, 1) := by decide +kernel
theorem dX6_holds_129 : decode cX6_holds 129 = .ok (.iaload, 1) := by decide +kernel
theorem dX6_holds_130 : decode cX6_holds 130 = .ok (.iadd, 1) := by decide +kernel
theorem dX6_holds_131 : decode cX6_holds 131 = .ok (.iastore, 1) := by decide +kernel
theorem dX6_holds_132 : decode cX6_holds 132 = .ok (.iinc 2 1, 3) := by decide +kernel
theorem dX6_holds_135 : decode cX6_holds 135 = .ok (.goto (-57), 3) := by decide +kernel
theorem dX6_holds_138 : decode cX6_holds 138 = .ok (.aload_n 0, 1) := by decide +kernel
theorem dX6_holds_139 : decode cX6_holds 139 = .ok (.getfield 19, 3) := by decide +kernel
theorem dX6_holds_142 : decode cX6_holds 142 = .ok (.bipush 54, 2) := by decide +kernel
theorem dX6_holds_144 : decode cX6_holds 144 = .ok (.dup2, 1) := by decide +kernel
theorem dX6_holds_145 : decode cX6_holds 145 = .ok (.iaload, 1) := by decide +kernel
theorem dX6_holds_146 : decode cX6_holds 146 = .ok (.iconst 1, 1) := by decide +kernel
theorem dX6_holds_147 : decode cX6_holds 147 = .ok (.iadd, 1) := by decide +kernel
theorem dX6_holds_148 : decode cX6_holds 148 = .ok (.iastore, 1) := by decide +kernel
theorem dX6_holds_149 : decode cX6_holds 149 = .ok (.iload_n 1, 1) := by decide +kernel
theorem dX6_holds_150 : decode cX6_holds 150 = .ok (.ireturn, 1) := by decide +kernel
theorem dX6_fair_0 : decode cX6_fair 0 = .ok (.aload_n 0, 1) := by decide +kernel
theorem dX6_fair_1 : decode cX6_fair 1 = .ok (.getfield 19, 3) := by decide +kernel
theorem dX6_fair_4 : decode cX6_fair 4 = .ok (.bipush 54, 2) := by decide +kernel
theorem dX6_fair_6 : decode cX6_fair 6 = .ok (.iaload, 1) := by decide +kernel
theorem dX6_fair_7 : decode cX6_fair 7 = .ok (.bipush 99, 2) := by decide +kernel
theorem dX6_fair_9 : decode cX6_fair 9 = .ok (.if_icmp .ne 6, 3) := by decide +kernel
theorem dX6_fair_12 : decode cX6_fair 12 = .ok (.bipush (-2), 2) := by decide +kernel
theorem dX6_fair_14 : decode cX6_fair 14 = .ok (.ireturn, 1) := by decide +kernel
theorem dX6_fair_15 : decode cX6_fair 15 = .ok (.aload_n 0, 1) := by decide +kernel
theorem dX6_fair_16 : decode cX6_fair 16 = .ok (.invokevirtual 132, 3) := by decide +kernel
theorem dX6_fair_19 : decode cX6_fair 19 = .ok (.aload_n 0, 1) := by decide +kernel
theorem dX6_fair_20 : decode cX6_fair 20 = .ok (.invokevirtual 148, 3) := by decide +kernel
theorem dX6_fair_23 : decode cX6_fair 23 = .ok (.ireturn, 1) := by decide +kernel
theorem dX6_give_0 : decode cX6_give 0 = .ok (.aload_n 0, 1) := by decide +kernel
theorem dX6_give_1 : decode cX6_give 1 = .ok (.iload_n 1, 1) := by decide +kernel
theorem dX6_give_2 : decode cX6_give 2 = .ok (.invokevirtual 113, 3) := by decide +kernel
theorem dX6_give_5 : decode cX6_give 5 = .ok (.ifCond .eq 26, 3) := by decide +kernel
theorem dX6_give_8 : decode cX6_give 8 = .ok (.aload_n 0, 1) := by decide +kernel
theorem dX6_give_9 : decode cX6_give 9 = .ok (.iload_n 2, 1) := by decide +kernel
theorem dX6_give_10 : decode cX6_give 10 = .ok (.invokevirtual 113, 3) := by decide +kernel
theorem dX6_give_13 : decode cX6_give 13 = .ok (.ifCond .eq 18, 3) := by decide +kernel
theorem dX6_give_16 : decode cX6_give 16 = .ok (.iload_n 1, 1) := by decide +kernel
theorem dX6_give_17 : decode cX6_give 17 = .ok (.iload_n 2, 1) := by decide +kernel
theorem dX6_give_18 : decode cX6_give 18 = .ok (.if_icmp .eq 13, 3) := by decide +kernel
theorem dX6_give_21 : decode cX6_give 21 = .ok (.iload_n 3, 1) := by decide +kernel
theorem dX6_give_22 : decode cX6_give 22 = .ok (.iconst 1, 1) := by decide +kernel
theorem dX6_give_23 : decode cX6_give 23 = .ok (.bipush 99, 2) := by decide +kernel
theorem dX6_give_25 : decode cX6_give 25 = .ok (.invokestatic 56, 3) := by decide +kernel
theorem dX6_give_28 : decode cX6_give 28 = .ok (.ifCond .ne 5, 3) := by decide +kernel
theorem dX6_give_31 : decode cX6_give 31 = .ok (.iconst (-1), 1) := by decide +kernel
theorem dX6_give_32 : decode cX6_give 32 = .ok (.ireturn, 1) := by decide +kernel
theorem dX6_give_33 : decode cX6_give 33 = .ok (.aload_n 0, 1) := by decide +kernel
theorem dX6_give_34 : decode cX6_give 34 = .ok (.getfield 19, 3) := by decide +kernel
theorem dX6_give_37 : decode cX6_give 37 = .ok (.iload_n 1, 1) := by decide +kernel
theorem dX6_give_38 : decode cX6_give 38 = .ok (.iaload, 1) := by decide +kernel
theorem dX6_give_39 : decode cX6_give 39 = .ok (.iload_n 3, 1) := by decide +kernel
theorem dX6_give_40 : decode cX6_give 40 = .ok (.if_icmp .ge 6, 3) := by decide +kernel
theorem dX6_give_43 : decode cX6_give 43 = .ok (.bipush (-2), 2) := by decide +kernel
theorem dX6_give_45 : decode cX6_give 45 = .ok (.ireturn, 1) := by decide +kernel
theorem dX6_give_46 : decode cX6_give 46 = .ok (.aload_n 0, 1) := by decide +kernel
theorem dX6_give_47 : decode cX6_give 47 = .ok (.getfield 19, 3) := by decide +kernel
theorem dX6_give_50 : decode cX6_give 50 = .ok (.iload_n 2, 1) := by decide +kernel
theorem dX6_give_51 : decode cX6_give 51 = .ok (.iaload, 1) := by decide +kernel
theorem dX6_give_52 : decode cX6_give 52 = .ok (.iload_n 3, 1) := by decide +kernel
theorem dX6_give_53 : decode cX6_give 53 = .ok (.iadd, 1) := by decide +kernel
theorem dX6_give_54 : decode cX6_give 54 = .ok (.sipush 999, 3) := by decide +kernel
theorem dX6_give_57 : decode cX6_give 57 = .ok (.if_icmp .le 6, 3) := by decide +kernel
theorem dX6_give_60 : decode cX6_give 60 = .ok (.bipush (-3), 2) := by decide +kernel
theorem dX6_give_62 : decode cX6_give 62 = .ok (.ireturn, 1) := by decide +kernel
theorem dX6_give_63 : decode cX6_give 63 = .ok (.aload_n 0, 1) := by decide +kernel
theorem dX6_give_64 : decode cX6_give 64 = .ok (.invokevirtual 132, 3) := by decide +kernel
theorem dX6_give_67 : decode cX6_give 67 = .ok (.aload_n 0, 1) := by decide +kernel
theorem dX6_give_68 : decode cX6_give 68 = .ok (.getfield 19, 3) := by decide +kernel
theorem dX6_give_71 : decode cX6_give 71 = .ok (.iload_n 1, 1) := by decide +kernel
theorem dX6_give_72 : decode cX6_give 72 = .ok (.dup2, 1) := by decide +kernel
theorem dX6_give_73 : decode cX6_give 73 = .ok (.iaload, 1) := by decide +kernel
theorem dX6_give_74 : decode cX6_give 74 = .ok (.iload_n 3, 1) := by decide +kernel
theorem dX6_give_75 : decode cX6_give 75 = .ok (.isub, 1) := by decide +kernel
theorem dX6_give_76 : decode cX6_give 76 = .ok (.iastore, 1) := by decide +kernel
theorem dX6_give_77 : decode cX6_give 77 = .ok (.aload_n 0, 1) := by decide +kernel
theorem dX6_give_78 : decode cX6_give 78 = .ok (.getfield 19, 3) := by decide +kernel
theorem dX6_give_81 : decode cX6_give 81 = .ok (.iload_n 2, 1) := by decide +kernel
theorem dX6_give_82 : decode cX6_give 82 = .ok (.dup2, 1) := by decide +kernel
theorem dX6_give_83 : decode cX6_give 83 = .ok (.iaload, 1) := by decide +kernel
theorem dX6_give_84 : decode cX6_give 84 = .ok (.iload_n 3, 1) := by decide +kernel
theorem dX6_give_85 : decode cX6_give 85 = .ok (.iadd, 1) := by decide +kernel
theorem dX6_give_86 : decode cX6_give 86 = .ok (.iastore, 1) := by decide +kernel
theorem dX6_give_87 : decode cX6_give 87 = .ok (.aload_n 0, 1) := by decide +kernel
theorem dX6_give_88 : decode cX6_give 88 = .ok (.getfield 19, 3) := by decide +kernel
theorem dX6_give_91 : decode cX6_give 91 = .ok (.iload_n 1, 1) := by decide +kernel
theorem dX6_give_92 : decode cX6_give 92 = .ok (.iaload, 1) := by decide +kernel
theorem dX6_give_93 : decode cX6_give 93 = .ok (.ireturn, 1) := by decide +kernel
theorem dX6_undo_0 : decode cX6_undo 0 = .ok (.aload_n 0, 1) := by decide +kernel
theorem dX6_undo_1 : decode cX6_undo 1 = .ok (.getfield 88, 3) := by decide +kernel
theorem dX6_undo_4 : decode cX6_undo 4 = .ok (.ifCond .ne 6, 3) := by decide +kernel
theorem dX6_undo_7 : decode cX6_undo 7 = .ok (.bipush (-2), 2) := by decide +kernel
theorem dX6_undo_9 : decode cX6_undo 9 = .ok (.ireturn, 1) := by decide +kernel
theorem dX6_undo_10 : decode cX6_undo 10 = .ok (.aload_n 0, 1) := by decide +kernel
theorem dX6_undo_11 : decode cX6_undo 11 = .ok (.dup, 1) := by decide +kernel
theorem dX6_undo_12 : decode cX6_undo 12 = .ok (.getfield 88, 3) := by decide +kernel
theorem dX6_undo_15 : decode cX6_undo 15 = .ok (.iconst 1, 1) := by decide +kernel
theorem dX6_undo_16 : decode cX6_undo 16 = .ok (.isub, 1) := by decide +kernel
theorem dX6_undo_17 : decode cX6_undo 17 = .ok (.putfield 88, 3) := by decide +kernel
theorem dX6_undo_20 : decode cX6_undo 20 = .ok (.iconst 0, 1) := by decide +kernel
theorem dX6_undo_21 : decode cX6_undo 21 = .ok (.istore_n 1, 1) := by decide +kernel
theorem dX6_undo_22 : decode cX6_undo 22 = .ok (.iload_n 1, 1) := by decide +kernel
theorem dX6_undo_23 : decode cX6_undo 23 = .ok (.bipush 55, 2) := by decide +kernel
theorem dX6_undo_25 : decode cX6_undo 25 = .ok (.if_icmp .ge 29, 3) := by decide +kernel
theorem dX6_undo_28 : decode cX6_undo 28 = .ok (.aload_n 0, 1) := by decide +kernel
theorem dX6_undo_29 : decode cX6_undo 29 = .ok (.getfield 19, 3) := by decide +kernel
theorem dX6_undo_32 : decode cX6_undo 32 = .ok (.iload_n 1, 1) := by decide +kernel
theorem dX6_undo_33 : decode cX6_undo 33 = .ok (.aload_n 0, 1) := by decide +kernel
theorem dX6_undo_34 : decode cX6_undo 34 = .ok (.getfield 22, 3) := by decide +kernel
theorem dX6_undo_37 : decode cX6_undo 37 = .ok (.bipush 55, 2) := by decide +kernel
theorem dX6_undo_39 : decode cX6_undo 39 = .ok (.aload_n 0, 1) := by decide +kernel
theorem dX6_undo_40 : decode cX6_undo 40 = .ok (.getfield 88, 3) := by decide +kernel
theorem dX6_undo_43 : decode cX6_undo 43 = .ok (.imul, 1) := by decide +kernel
theorem dX6_undo_44 : decode cX6_undo 44 = .ok (.iload_n 1, 1) := by decide +kernel
theorem dX6_undo_45 : decode cX6_undo 45 = .ok (.iadd, 1) := by decide +kernel
theorem dX6_undo_46 : decode cX6_undo 46 = .ok (.iaload, 1) := by decide +kernel
theorem dX6_undo_47 : decode cX6_undo 47 = .ok (.iastore, 1) := by decide +kernel
theorem dX6_undo_48 : decode cX6_undo 48 = .ok (.iinc 1 1, 3) := by decide +kernel
theorem dX6_undo_51 : decode cX6_undo 51 = .ok (.goto (-29), 3) := by decide +kernel
theorem dX6_undo_54 : decode cX6_undo 54 = .ok (.aload_n 0, 1) := by decide +kernel
theorem dX6_undo_55 : decode cX6_undo 55 = .ok (.getfield 88, 3) := by decide +kernel
theorem dX6_undo_58 : decode cX6_undo 58 = .ok (.ireturn, 1) := by decide +kernel
theorem dX6_remembers_0 : decode cX6_remembers 0 = .ok (.iconst 0, 1) := by decide +kernel
theorem dX6_remembers_1 : decode cX6_remembers 1 = .ok (.istore_n 1, 1) := by decide +kernel
theorem dX6_remembers_2 : decode cX6_remembers 2 = .ok (.iload_n 1, 1) := by decide +kernel
theorem dX6_remembers_3 : decode cX6_remembers 3 = .ok (.bipush 55, 2) := by decide +kernel
theorem dX6_remembers_5 : decode cX6_remembers 5 = .ok (.if_icmp .ge 21, 3) := by decide +kernel
theorem dX6_remembers_8 : decode cX6_remembers 8 = .ok (.aload_n 0, 1) := by decide +kernel
theorem dX6_remembers_9 : decode cX6_remembers 9 = .ok (.getfield 35, 3) := by decide +kernel
theorem dX6_remembers_12 : decode cX6_remembers 12 = .ok (.iload_n 1, 1) := by decide +kernel
theorem dX6_remembers_13 : decode cX6_remembers 13 = .ok (.aload_n 0, 1) := by decide +kernel
theorem dX6_remembers_14 : decode cX6_remembers 14 = .ok (.getfield 19, 3) := by decide +kernel
theorem dX6_remembers_17 : decode cX6_remembers 17 = .ok (.iload_n 1, 1) := by decide +kernel
theorem dX6_remembers_18 : decode cX6_remembers 18 = .ok (.iaload, 1) := by decide +kernel
theorem dX6_remembers_19 : decode cX6_remembers 19 = .ok (.iastore, 1) := by decide +kernel
theorem dX6_remembers_20 : decode cX6_remembers 20 = .ok (.iinc 1 1, 3) := by decide +kernel
theorem dX6_remembers_23 : decode cX6_remembers 23 = .ok (.goto (-21), 3) := by decide +kernel
theorem dX6_remembers_26 : decode cX6_remembers 26 = .ok (.return_, 1) := by decide +kernel
theorem dX6_lets_0 : decode cX6_lets 0 = .ok (.iconst 0, 1) := by decide +kernel
theorem dX6_lets_1 : decode cX6_lets 1 = .ok (.istore_n 1, 1) := by decide +kernel
theorem dX6_lets_2 : decode cX6_lets 2 = .ok (.iload_n 1, 1) := by decide +kernel
theorem dX6_lets_3 : decode cX6_lets 3 = .ok (.bipush 55, 2) := by decide +kernel
theorem dX6_lets_5 : decode cX6_lets 5 = .ok (.if_icmp .ge 21, 3) := by decide +kernel
theorem dX6_lets_8 : decode cX6_lets 8 = .ok (.aload_n 0, 1) := by decide +kernel
theorem dX6_lets_9 : decode cX6_lets 9 = .ok (.getfield 19, 3) := by decide +kernel
theorem dX6_lets_12 : decode cX6_lets 12 = .ok (.iload_n 1, 1) := by decide +kernel
theorem dX6_lets_13 : decode cX6_lets 13 = .ok (.aload_n 0, 1) := by decide +kernel
theorem dX6_lets_14 : decode cX6_lets 14 = .ok (.getfield 35, 3) := by decide +kernel
theorem dX6_lets_17 : decode cX6_lets 17 = .ok (.iload_n 1, 1) := by decide +kernel
theorem dX6_lets_18 : decode cX6_lets 18 = .ok (.iaload, 1) := by decide +kernel
theorem dX6_lets_19 : decode cX6_lets 19 = .ok (.iastore, 1) := by decide +kernel
theorem dX6_lets_20 : decode cX6_lets 20 = .ok (.iinc 1 1, 3) := by decide +kernel
theorem dX6_lets_23 : decode cX6_lets 23 = .ok (.goto (-21), 3) := by decide +kernel
theorem dX6_lets_26 : decode cX6_lets 26 = .ok (.return_, 1) := by decide +kernel
theorem dX6_whoseBehind_0 : decode cX6_whoseBehind 0 = .ok (.iconst 0, 1) := by decide +kernel
theorem dX6_whoseBehind_1 : decode cX6_whoseBehind 1 = .ok (.istore_n 3, 1) := by decide +kernel
theorem dX6_whoseBehind_2 : decode cX6_whoseBehind 2 = .ok (.iload_n 3, 1) := by decide +kernel
theorem dX6_whoseBehind_3 : decode cX6_whoseBehind 3 = .ok (.iload_n 2, 1) := by decide +kernel
theorem dX6_whoseBehind_4 : decode cX6_whoseBehind 4 = .ok (.if_icmp .ge 14, 3) := by decide +kernel
theorem dX6_whoseBehind_7 : decode cX6_whoseBehind 7 = .ok (.aload_n 0, 1) := by decide +kernel
theorem dX6_whoseBehind_8 : decode cX6_whoseBehind 8 = .ok (.invokevirtual 148, 3) := by decide +kernel
theorem dX6_whoseBehind_11 : decode cX6_whoseBehind 11 = .ok (.pop, 1) := by decide +kernel
theorem dX6_whoseBehind_12 : decode cX6_whoseBehind 12 = .ok (.iinc 3 1, 3) := by decide +kernel
theorem dX6_whoseBehind_15 : decode cX6_whoseBehind 15 = .ok (.goto (-13), 3) := by decide +kernel
theorem dX6_whoseBehind_18 : decode cX6_whoseBehind 18 = .ok (.aload_n 0, 1) := by decide +kernel
theorem dX6_whoseBehind_19 : decode cX6_whoseBehind 19 = .ok (.getfield 19, 3) := by decide +kernel
theorem dX6_whoseBehind_22 : decode cX6_whoseBehind 22 = .ok (.bipush 6, 2) := by decide +kernel
theorem dX6_whoseBehind_24 : decode cX6_whoseBehind 24 = .ok (.iload_n 1, 1) := by decide +kernel
theorem dX6_whoseBehind_25 : decode cX6_whoseBehind 25 = .ok (.iadd, 1) := by decide +kernel
theorem dX6_whoseBehind_26 : decode cX6_whoseBehind 26 = .ok (.iaload, 1) := by decide +kernel
theorem dX6_whoseBehind_27 : decode cX6_whoseBehind 27 = .ok (.istore_n 3, 1) := by decide +kernel
theorem dX6_whoseBehind_28 : decode cX6_whoseBehind 28 = .ok (.aload_n 0, 1) := by decide +kernel
theorem dX6_whoseBehind_29 : decode cX6_whoseBehind 29 = .ok (.invokevirtual 151, 3) := by decide +kernel
theorem dX6_whoseBehind_32 : decode cX6_whoseBehind 32 = .ok (.iload_n 3, 1) := by decide +kernel
theorem dX6_whoseBehind_33 : decode cX6_whoseBehind 33 = .ok (.ireturn, 1) := by decide +kernel
theorem dX6_goesBehind_0 : decode cX6_goesBehind 0 = .ok (.bipush (-4), 2) := by decide +kernel
theorem dX6_goesBehind_2 : decode cX6_goesBehind 2 = .ok (.istore_n 2, 1) := by decide +kernel
theorem dX6_goesBehind_3 : decode cX6_goesBehind 3 = .ok (.iconst 0, 1) := by decide +kernel
theorem dX6_goesBehind_4 : decode cX6_goesBehind 4 = .ok (.istore_n 3, 1) := by decide +kernel
theorem dX6_goesBehind_5 : decode cX6_goesBehind 5 = .ok (.iload_n 3, 1) := by decide +kernel
theorem dX6_goesBehind_6 : decode cX6_goesBehind 6 = .ok (.bipush 9, 2) := by decide +kernel
theorem dX6_goesBehind_8 : decode cX6_goesBehind 8 = .ok (.if_icmp .gt 41, 3) := by decide +kernel
theorem dX6_goesBehind_11 : decode cX6_goesBehind 11 = .ok (.iload_n 2, 1) := by decide +kernel
theorem dX6_goesBehind_12 : decode cX6_goesBehind 12 = .ok (.bipush (-4), 2) := by decide +kernel
theorem dX6_goesBehind_14 : decode cX6_goesBehind 14 = .ok (.if_icmp .ne 35, 3) := by decide +kernel
theorem dX6_goesBehind_17 : decode cX6_goesBehind 17 = .ok (.aload_n 0, 1) := by decide +kernel
theorem dX6_goesBehind_18 : decode cX6_goesBehind 18 = .ok (.getfield 19, 3) := by decide +kernel
theorem dX6_goesBehind_21 : decode cX6_goesBehind 21 = .ok (.bipush 6, 2) := by decide +kernel
theorem dX6_goesBehind_23 : decode cX6_goesBehind 23 = .ok (.iload_n 1, 1) := by decide +kernel
theorem dX6_goesBehind_24 : decode cX6_goesBehind 24 = .ok (.iadd, 1) := by decide +kernel
theorem dX6_goesBehind_25 : decode cX6_goesBehind 25 = .ok (.iaload, 1) := by decide +kernel
theorem dX6_goesBehind_26 : decode cX6_goesBehind 26 = .ok (.bipush (-4), 2) := by decide +kernel
theorem dX6_goesBehind_28 : decode cX6_goesBehind 28 = .ok (.if_icmp .ne 8, 3) := by decide +kernel
theorem dX6_goesBehind_31 : decode cX6_goesBehind 31 = .ok (.bipush (-4), 2) := by decide +kernel
theorem dX6_goesBehind_33 : decode cX6_goesBehind 33 = .ok (.goto 4, 3) := by decide +kernel
theorem dX6_goesBehind_36 : decode cX6_goesBehind 36 = .ok (.iload_n 3, 1) := by decide +kernel
theorem dX6_goesBehind_37 : decode cX6_goesBehind 37 = .ok (.istore_n 2, 1) := by decide +kernel
theorem dX6_goesBehind_38 : decode cX6_goesBehind 38 = .ok (.aload_n 0, 1) := by decide +kernel
theorem dX6_goesBehind_39 : decode cX6_goesBehind 39 = .ok (.invokevirtual 148, 3) := by decide +kernel
theorem dX6_goesBehind_42 : decode cX6_goesBehind 42 = .ok (.pop, 1) := by decide +kernel
theorem dX6_goesBehind_43 : decode cX6_goesBehind 43 = .ok (.iinc 3 1, 3) := by decide +kernel
theorem dX6_goesBehind_46 : decode cX6_goesBehind 46 = .ok (.goto (-41), 3) := by decide +kernel
theorem dX6_goesBehind_49 : decode cX6_goesBehind 49 = .ok (.aload_n 0, 1) := by decide +kernel
theorem dX6_goesBehind_50 : decode cX6_goesBehind 50 = .ok (.invokevirtual 151, 3) := by decide +kernel
theorem dX6_goesBehind_53 : decode cX6_goesBehind 53 = .ok (.iload_n 2, 1) := by decide +kernel
theorem dX6_goesBehind_54 : decode cX6_goesBehind 54 = .ok (.ireturn, 1) := by decide +kernel
theorem dX6_behind_0 : decode cX6_behind 0 = .ok (.aload_n 0, 1) := by decide +kernel
theorem dX6_behind_1 : decode cX6_behind 1 = .ok (.iload_n 1, 1) := by decide +kernel
theorem dX6_behind_2 : decode cX6_behind 2 = .ok (.invokevirtual 119, 3) := by decide +kernel
theorem dX6_behind_5 : decode cX6_behind 5 = .ok (.ifCond .eq 13, 3) := by decide +kernel
theorem dX6_behind_8 : decode cX6_behind 8 = .ok (.iload_n 2, 1) := by decide +kernel
theorem dX6_behind_9 : decode cX6_behind 9 = .ok (.iconst 0, 1) := by decide +kernel
theorem dX6_behind_10 : decode cX6_behind 10 = .ok (.bipush 9, 2) := by decide +kernel
theorem dX6_behind_12 : decode cX6_behind 12 = .ok (.invokestatic 56, 3) := by decide +kernel
theorem dX6_behind_15 : decode cX6_behind 15 = .ok (.ifCond .ne 5, 3) := by decide +kernel
theorem dX6_behind_18 : decode cX6_behind 18 = .ok (.iconst (-1), 1) := by decide +kernel
theorem dX6_behind_19 : decode cX6_behind 19 = .ok (.ireturn, 1) := by decide +kernel
theorem dX6_behind_20 : decode cX6_behind 20 = .ok (.aload_n 0, 1) := by decide +kernel
theorem dX6_behind_21 : decode cX6_behind 21 = .ok (.invokevirtual 154, 3) := by decide +kernel
theorem dX6_behind_24 : decode cX6_behind 24 = .ok (.aload_n 0, 1) := by decide +kernel
theorem dX6_behind_25 : decode cX6_behind 25 = .ok (.iload_n 1, 1) := by decide +kernel
theorem dX6_behind_26 : decode cX6_behind 26 = .ok (.iload_n 2, 1) := by decide +kernel
theorem dX6_behind_27 : decode cX6_behind 27 = .ok (.invokevirtual 157, 3) := by decide +kernel
theorem dX6_behind_30 : decode cX6_behind 30 = .ok (.ireturn, 1) := by decide +kernel
theorem dX6_goes_0 : decode cX6_goes 0 = .ok (.aload_n 0, 1) := by decide +kernel
theorem dX6_goes_1 : decode cX6_goes 1 = .ok (.iload_n 1, 1) := by decide +kernel
theorem dX6_goes_2 : decode cX6_goes 2 = .ok (.invokevirtual 119, 3) := by decide +kernel
theorem dX6_goes_5 : decode cX6_goes 5 = .ok (.ifCond .ne 5, 3) := by decide +kernel
theorem dX6_goes_8 : decode cX6_goes 8 = .ok (.iconst (-1), 1) := by decide +kernel
theorem dX6_goes_9 : decode cX6_goes 9 = .ok (.ireturn, 1) := by decide +kernel
theorem dX6_goes_10 : decode cX6_goes 10 = .ok (.aload_n 0, 1) := by decide +kernel
theorem dX6_goes_11 : decode cX6_goes 11 = .ok (.invokevirtual 154, 3) := by decide +kernel
theorem dX6_goes_14 : decode cX6_goes 14 = .ok (.aload_n 0, 1) := by decide +kernel
theorem dX6_goes_15 : decode cX6_goes 15 = .ok (.iload_n 1, 1) := by decide +kernel
theorem dX6_goes_16 : decode cX6_goes 16 = .ok (.invokevirtual 160, 3) := by decide +kernel
theorem dX6_goes_19 : decode cX6_goes 19 = .ok (.ireturn, 1) := by decide +kernel
theorem dX6_never_0 : decode cX6_never 0 = .ok (.iconst 0, 1) := by decide +kernel
theorem dX6_never_1 : decode cX6_never 1 = .ok (.istore_n 1, 1) := by decide +kernel
theorem dX6_never_2 : decode cX6_never 2 = .ok (.iconst 0, 1) := by decide +kernel
theorem dX6_never_3 : decode cX6_never 3 = .ok (.istore_n 2, 1) := by decide +kernel
theorem dX6_never_4 : decode cX6_never 4 = .ok (.iload_n 2, 1) := by decide +kernel
theorem dX6_never_5 : decode cX6_never 5 = .ok (.aload_n 0, 1) := by decide +kernel
theorem dX6_never_6 : decode cX6_never 6 = .ok (.getfield 13, 3) := by decide +kernel
theorem dX6_never_9 : decode cX6_never 9 = .ok (.iconst 1, 1) := by decide +kernel
theorem dX6_never_10 : decode cX6_never 10 = .ok (.iaload, 1) := by decide +kernel
theorem dX6_never_11 : decode cX6_never 11 = .ok (.if_icmp .ge 31, 3) := by decide +kernel
theorem dX6_never_14 : decode cX6_never 14 = .ok (.iload_n 1, 1) := by decide +kernel
theorem dX6_never_15 : decode cX6_never 15 = .ok (.aload_n 0, 1) := by decide +kernel
theorem dX6_never_16 : decode cX6_never 16 = .ok (.iload_n 2, 1) := by decide +kernel
theorem dX6_never_17 : decode cX6_never 17 = .ok (.bipush 9, 2) := by decide +kernel
theorem dX6_never_19 : decode cX6_never 19 = .ok (.invokevirtual 163, 3) := by decide +kernel
theorem dX6_never_22 : decode cX6_never 22 = .ok (.bipush (-4), 2) := by decide +kernel
theorem dX6_never_24 : decode cX6_never 24 = .ok (.if_icmp .ne 9, 3) := by decide +kernel
theorem dX6_never_27 : decode cX6_never 27 = .ok (.iconst 1, 1) := by decide +kernel
theorem dX6_never_28 : decode cX6_never 28 = .ok (.iload_n 2, 1) := by decide +kernel
theorem dX6_never_29 : decode cX6_never 29 = .ok (.ishl, 1) := by decide +kernel
theorem dX6_never_30 : decode cX6_never 30 = .ok (.goto 4, 3) := by decide +kernel
theorem dX6_never_33 : decode cX6_never 33 = .ok (.iconst 0, 1) := by decide +kernel
theorem dX6_never_34 : decode cX6_never 34 = .ok (.ior, 1) := by decide +kernel
theorem dX6_never_35 : decode cX6_never 35 = .ok (.istore_n 1, 1) := by decide +kernel
theorem dX6_never_36 : decode cX6_never 36 = .ok (.iinc 2 1, 3) := by decide +kernel
theorem dX6_never_39 : decode cX6_never 39 = .ok (.goto (-35), 3) := by decide +kernel
theorem dX6_never_42 : decode cX6_never 42 = .ok (.iload_n 1, 1) := by decide +kernel
theorem dX6_never_43 : decode cX6_never 43 = .ok (.ireturn, 1) := by decide +kernel
theorem dX6_stop_0 : decode cX6_stop 0 = .ok (.aload_n 0, 1) := by decide +kernel
theorem dX6_stop_1 : decode cX6_stop 1 = .ok (.iload_n 1, 1) := by decide +kernel
theorem dX6_stop_2 : decode cX6_stop 2 = .ok (.invokevirtual 113, 3) := by decide +kernel
theorem dX6_stop_5 : decode cX6_stop 5 = .ok (.ifCond .eq 20, 3) := by decide +kernel
theorem dX6_stop_8 : decode cX6_stop 8 = .ok (.aload_n 0, 1) := by decide +kernel
theorem dX6_stop_9 : decode cX6_stop 9 = .ok (.iload_n 2, 1) := by decide +kernel
theorem dX6_stop_10 : decode cX6_stop 10 = .ok (.invokevirtual 119, 3) := by decide +kernel
theorem dX6_stop_13 : decode cX6_stop 13 = .ok (.ifCond .eq 12, 3) := by decide +kernel
theorem dX6_stop_16 : decode cX6_stop 16 = .ok (.iload_n 3, 1) := by decide +kernel
theorem dX6_stop_17 : decode cX6_stop 17 = .ok (.iconst 0, 1) := by decide +kernel
theorem dX6_stop_18 : decode cX6_stop 18 = .ok (.iconst 1, 1) := by decide +kernel
theorem dX6_stop_19 : decode cX6_stop 19 = .ok (.invokestatic 56, 3) := by decide +kernel
theorem dX6_stop_22 : decode cX6_stop 22 = .ok (.ifCond .ne 5, 3) := by decide +kernel
theorem dX6_stop_25 : decode cX6_stop 25 = .ok (.iconst (-1), 1) := by decide +kernel
theorem dX6_stop_26 : decode cX6_stop 26 = .ok (.ireturn, 1) := by decide +kernel
theorem dX6_stop_27 : decode cX6_stop 27 = .ok (.aload_n 0, 1) := by decide +kernel
theorem dX6_stop_28 : decode cX6_stop 28 = .ok (.invokevirtual 154, 3) := by decide +kernel
theorem dX6_stop_31 : decode cX6_stop 31 = .ok (.aload_n 0, 1) := by decide +kernel
theorem dX6_stop_32 : decode cX6_stop 32 = .ok (.iload_n 2, 1) := by decide +kernel
theorem dX6_stop_33 : decode cX6_stop 33 = .ok (.bipush 9, 2) := by decide +kernel
theorem dX6_stop_35 : decode cX6_stop 35 = .ok (.invokevirtual 157, 3) := by decide +kernel
theorem dX6_stop_38 : decode cX6_stop 38 = .ok (.iload_n 1, 1) := by decide +kernel
theorem dX6_stop_39 : decode cX6_stop 39 = .ok (.if_icmp .ne 17, 3) := by decide +kernel
theorem dX6_stop_42 : decode cX6_stop 42 = .ok (.iload_n 3, 1) := by decide +kernel
theorem dX6_stop_43 : decode cX6_stop 43 = .ok (.ifCond .ne 7, 3) := by decide +kernel
theorem dX6_stop_46 : decode cX6_stop 46 = .ok (.iconst 0, 1) := by decide +kernel
theorem dX6_stop_47 : decode cX6_stop 47 = .ok (.goto 8, 3) := by decide +kernel
theorem dX6_stop_50 : decode cX6_stop 50 = .ok (.aload_n 0, 1) := by decide +kernel
theorem dX6_stop_51 : decode cX6_stop 51 = .ok (.iload_n 2, 1) := by decide +kernel
theorem dX6_stop_52 : decode cX6_stop 52 = .ok (.invokevirtual 160, 3) := by decide +kernel
theorem dX6_stop_55 : decode cX6_stop 55 = .ok (.ireturn, 1) := by decide +kernel
theorem dX6_stop_56 : decode cX6_stop 56 = .ok (.iconst 1, 1) := by decide +kernel
theorem dX6_stop_57 : decode cX6_stop 57 = .ok (.istore 4, 2) := by decide +kernel
theorem dX6_stop_59 : decode cX6_stop 59 = .ok (.iload 4, 2) := by decide +kernel
theorem dX6_stop_61 : decode cX6_stop 61 = .ok (.bipush 31, 2) := by decide +kernel
theorem dX6_stop_63 : decode cX6_stop 63 = .ok (.if_icmp .ge 67, 3) := by decide +kernel
theorem dX6_stop_66 : decode cX6_stop 66 = .ok (.aload_n 0, 1) := by decide +kernel
theorem dX6_stop_67 : decode cX6_stop 67 = .ok (.iload_n 1, 1) := by decide +kernel
theorem dX6_stop_68 : decode cX6_stop 68 = .ok (.iload_n 2, 1) := by decide +kernel
theorem dX6_stop_69 : decode cX6_stop 69 = .ok (.iload 4, 2) := by decide +kernel
theorem dX6_stop_71 : decode cX6_stop 71 = .ok (.invokevirtual 135, 3) := by decide +kernel
theorem dX6_stop_74 : decode cX6_stop 74 = .ok (.aload_n 0, 1) := by decide +kernel
theorem dX6_stop_75 : decode cX6_stop 75 = .ok (.iload_n 2, 1) := by decide +kernel
theorem dX6_stop_76 : decode cX6_stop 76 = .ok (.bipush 9, 2) := by decide +kernel
theorem dX6_stop_78 : decode cX6_stop 78 = .ok (.invokevirtual 157, 3) := by decide +kernel
theorem dX6_stop_81 : decode cX6_stop 81 = .ok (.iload_n 1, 1) := by decide +kernel
theorem dX6_stop_82 : decode cX6_stop 82 = .ok (.if_icmp .ne 7, 3) := by decide +kernel
theorem dX6_stop_85 : decode cX6_stop 85 = .ok (.iconst 1, 1) := by decide +kernel
theorem dX6_stop_86 : decode cX6_stop 86 = .ok (.goto 4, 3) := by decide +kernel
theorem dX6_stop_89 : decode cX6_stop 89 = .ok (.iconst 0, 1) := by decide +kernel
theorem dX6_stop_90 : decode cX6_stop 90 = .ok (.istore 5, 2) := by decide +kernel
theorem dX6_stop_92 : decode cX6_stop 92 = .ok (.aload_n 0, 1) := by decide +kernel
theorem dX6_stop_93 : decode cX6_stop 93 = .ok (.iload_n 1, 1) := by decide +kernel
theorem dX6_stop_94 : decode cX6_stop 94 = .ok (.iload_n 2, 1) := by decide +kernel
theorem dX6_stop_95 : decode cX6_stop 95 = .ok (.iload 4, 2) := by decide +kernel
theorem dX6_stop_97 : decode cX6_stop 97 = .ok (.invokevirtual 135, 3) := by decide +kernel
theorem dX6_stop_100 : decode cX6_stop 100 = .ok (.aload_n 0, 1) := by decide +kernel
theorem dX6_stop_101 : decode cX6_stop 101 = .ok (.iload_n 2, 1) := by decide +kernel
theorem dX6_stop_102 : decode cX6_stop 102 = .ok (.invokevirtual 160, 3) := by decide +kernel
theorem dX6_stop_105 : decode cX6_stop 105 = .ok (.istore 6, 2) := by decide +kernel
theorem dX6_stop_107 : decode cX6_stop 107 = .ok (.iload 5, 2) := by decide +kernel
theorem dX6_stop_109 : decode cX6_stop 109 = .ok (.ifCond .eq 15, 3) := by decide +kernel
theorem dX6_stop_112 : decode cX6_stop 112 = .ok (.iload_n 3, 1) := by decide +kernel
theorem dX6_stop_113 : decode cX6_stop 113 = .ok (.ifCond .ne 8, 3) := by decide +kernel
theorem dX6_stop_116 : decode cX6_stop 116 = .ok (.iload 4, 2) := by decide +kernel
theorem dX6_stop_118 : decode cX6_stop 118 = .ok (.goto 5, 3) := by decide +kernel
theorem dX6_stop_121 : decode cX6_stop 121 = .ok (.iload 6, 2) := by decide +kernel
theorem dX6_stop_123 : decode cX6_stop 123 = .ok (.ireturn, 1) := by decide +kernel
theorem dX6_stop_124 : decode cX6_stop 124 = .ok (.iinc 4 1, 3) := by decide +kernel
theorem dX6_stop_127 : decode cX6_stop 127 = .ok (.goto (-68), 3) := by decide +kernel
theorem dX6_stop_130 : decode cX6_stop 130 = .ok (.bipush (-4), 2) := by decide +kernel
theorem dX6_stop_132 : decode cX6_stop 132 = .ok (.ireturn, 1) := by decide +kernel
theorem dX6_rank_0 : decode cX6_rank 0 = .ok (.aload_n 0, 1) := by decide +kernel
theorem dX6_rank_1 : decode cX6_rank 1 = .ok (.iload_n 1, 1) := by decide +kernel
theorem dX6_rank_2 : decode cX6_rank 2 = .ok (.invokevirtual 113, 3) := by decide +kernel
theorem dX6_rank_5 : decode cX6_rank 5 = .ok (.ifCond .eq 7, 3) := by decide +kernel
theorem dX6_rank_8 : decode cX6_rank 8 = .ok (.iload_n 2, 1) := by decide +kernel
theorem dX6_rank_9 : decode cX6_rank 9 = .ok (.ifCond .ge 5, 3) := by decide +kernel
theorem dX6_rank_12 : decode cX6_rank 12 = .ok (.iconst (-1), 1) := by decide +kernel
theorem dX6_rank_13 : decode cX6_rank 13 = .ok (.ireturn, 1) := by decide +kernel
theorem dX6_rank_14 : decode cX6_rank 14 = .ok (.bipush (-4), 2) := by decide +kernel
theorem dX6_rank_16 : decode cX6_rank 16 = .ok (.istore_n 3, 1) := by decide +kernel
theorem dX6_rank_17 : decode cX6_rank 17 = .ok (.iconst 0, 1) := by decide +kernel
theorem dX6_rank_18 : decode cX6_rank 18 = .ok (.istore 4, 2) := by decide +kernel
theorem dX6_rank_20 : decode cX6_rank 20 = .ok (.iload 4, 2) := by decide +kernel
theorem dX6_rank_22 : decode cX6_rank 22 = .ok (.aload_n 0, 1) := by decide +kernel
theorem dX6_rank_23 : decode cX6_rank 23 = .ok (.getfield 13, 3) := by decide +kernel
theorem dX6_rank_26 : decode cX6_rank 26 = .ok (.iconst 1, 1) := by decide +kernel
theorem dX6_rank_27 : decode cX6_rank 27 = .ok (.iaload, 1) := by decide +kernel
theorem dX6_rank_28 : decode cX6_rank 28 = .ok (.if_icmp .ge 128, 3) := by decide +kernel
theorem dX6_rank_31 : decode cX6_rank 31 = .ok (.iconst 0, 1) := by decide +kernel
theorem dX6_rank_32 : decode cX6_rank 32 = .ok (.istore 5, 2) := by decide +kernel
theorem dX6_rank_34 : decode cX6_rank 34 = .ok (.iconst 0, 1) := by decide +kernel
theorem dX6_rank_35 : decode cX6_rank 35 = .ok (.istore 6, 2) := by decide +kernel
theorem dX6_rank_37 : decode cX6_rank 37 = .ok (.iload 6, 2) := by decide +kernel
theorem dX6_rank_39 : decode cX6_rank 39 = .ok (.aload_n 0, 1) := by decide +kernel
theorem dX6_rank_40 : decode cX6_rank 40 = .ok (.getfield 13, 3) := by decide +kernel
theorem dX6_rank_43 : decode cX6_rank 43 = .ok (.iconst 1, 1) := by decide +kernel
theorem dX6_rank_44 : decode cX6_rank 44 = .ok (.iaload, 1) := by decide +kernel
theorem dX6_rank_45 : decode cX6_rank 45 = .ok (.if_icmp .ge 82, 3) := by decide +kernel
theorem dX6_rank_48 : decode cX6_rank 48 = .ok (.aload_n 0, 1) := by decide +kernel
theorem dX6_rank_49 : decode cX6_rank 49 = .ok (.iload_n 1, 1) := by decide +kernel
theorem dX6_rank_50 : decode cX6_rank 50 = .ok (.iload 6, 2) := by decide +kernel
theorem dX6_rank_52 : decode cX6_rank 52 = .ok (.invokevirtual 125, 3) := by decide +kernel
theorem dX6_rank_55 : decode cX6_rank 55 = .ok (.ifCond .eq 48, 3) := by decide +kernel
theorem dX6_rank_58 : decode cX6_rank 58 = .ok (.aload_n 0, 1) := by decide +kernel
theorem dX6_rank_59 : decode cX6_rank 59 = .ok (.iload_n 1, 1) := by decide +kernel
theorem dX6_rank_60 : decode cX6_rank 60 = .ok (.iload 6, 2) := by decide +kernel
theorem dX6_rank_62 : decode cX6_rank 62 = .ok (.invokevirtual 129, 3) := by decide +kernel
theorem dX6_rank_65 : decode cX6_rank 65 = .ok (.aload_n 0, 1) := by decide +kernel
theorem dX6_rank_66 : decode cX6_rank 66 = .ok (.iload_n 1, 1) := by decide +kernel
theorem dX6_rank_67 : decode cX6_rank 67 = .ok (.iload 4, 2) := by decide +kernel
theorem dX6_rank_69 : decode cX6_rank 69 = .ok (.invokevirtual 129, 3) := by decide +kernel
theorem dX6_rank_72 : decode cX6_rank 72 = .ok (.if_icmp .gt 27, 3) := by decide +kernel
theorem dX6_rank_75 : decode cX6_rank 75 = .ok (.aload_n 0, 1) := by decide +kernel
theorem dX6_rank_76 : decode cX6_rank 76 = .ok (.iload_n 1, 1) := by decide +kernel
theorem dX6_rank_77 : decode cX6_rank 77 = .ok (.iload 6, 2) := by decide +kernel
theorem dX6_rank_79 : decode cX6_rank 79 = .ok (.invokevirtual 129, 3) := by decide +kernel
theorem dX6_rank_82 : decode cX6_rank 82 = .ok (.aload_n 0, 1) := by decide +kernel
theorem dX6_rank_83 : decode cX6_rank 83 = .ok (.iload_n 1, 1) := by decide +kernel
theorem dX6_rank_84 : decode cX6_rank 84 = .ok (.iload 4, 2) := by decide +kernel
theorem dX6_rank_86 : decode cX6_rank 86 = .ok (.invokevirtual 129, 3) := by decide +kernel
theorem dX6_rank_89 : decode cX6_rank 89 = .ok (.if_icmp .ne 14, 3) := by decide +kernel
theorem dX6_rank_92 : decode cX6_rank 92 = .ok (.iload 6, 2) := by decide +kernel
theorem dX6_rank_94 : decode cX6_rank 94 = .ok (.iload 4, 2) := by decide +kernel
theorem dX6_rank_96 : decode cX6_rank 96 = .ok (.if_icmp .ge 7, 3) := by decide +kernel
theorem dX6_rank_99 : decode cX6_rank 99 = .ok (.iconst 1, 1) := by decide +kernel
theorem dX6_rank_100 : decode cX6_rank 100 = .ok (.goto 4, 3) := by decide +kernel
theorem dX6_rank_103 : decode cX6_rank 103 = .ok (.iconst 0, 1) := by decide +kernel
theorem dX6_rank_104 : decode cX6_rank 104 = .ok (.istore 7, 2) := by decide +kernel
theorem dX6_rank_106 : decode cX6_rank 106 = .ok (.iload 5, 2) := by decide +kernel
theorem dX6_rank_108 : decode cX6_rank 108 = .ok (.iload 7, 2) := by decide +kernel
theorem dX6_rank_110 : decode cX6_rank 110 = .ok (.ifCond .eq 7, 3) := by decide +kernel
theorem dX6_rank_113 : decode cX6_rank 113 = .ok (.iconst 1, 1) := by decide +kernel
theorem dX6_rank_114 : decode cX6_rank 114 = .ok (.goto 4, 3) := by decide +kernel
theorem dX6_rank_117 : decode cX6_rank 117 = .ok (.iconst 0, 1) := by decide +kernel
theorem dX6_rank_118 : decode cX6_rank 118 = .ok (.iadd, 1) := by decide +kernel
theorem dX6_rank_119 : decode cX6_rank 119 = .ok (.istore 5, 2) := by decide +kernel
theorem dX6_rank_121 : decode cX6_rank 121 = .ok (.iinc 6 1, 3) := by decide +kernel
theorem dX6_rank_124 : decode cX6_rank 124 = .ok (.goto (-87), 3) := by decide +kernel
theorem dX6_rank_127 : decode cX6_rank 127 = .ok (.aload_n 0, 1) := by decide +kernel
theorem dX6_rank_128 : decode cX6_rank 128 = .ok (.iload_n 1, 1) := by decide +kernel
theorem dX6_rank_129 : decode cX6_rank 129 = .ok (.iload 4, 2) := by decide +kernel
theorem dX6_rank_131 : decode cX6_rank 131 = .ok (.invokevirtual 125, 3) := by decide +kernel
theorem dX6_rank_134 : decode cX6_rank 134 = .ok (.ifCond .eq 14, 3) := by decide +kernel
theorem dX6_rank_137 : decode cX6_rank 137 = .ok (.iload 5, 2) := by decide +kernel
theorem dX6_rank_139 : decode cX6_rank 139 = .ok (.iload_n 2, 1) := by decide +kernel
theorem dX6_rank_140 : decode cX6_rank 140 = .ok (.if_icmp .ne 8, 3) := by decide +kernel
theorem dX6_rank_143 : decode cX6_rank 143 = .ok (.iload 4, 2) := by decide +kernel
theorem dX6_rank_145 : decode cX6_rank 145 = .ok (.goto 4, 3) := by decide +kernel
theorem dX6_rank_148 : decode cX6_rank 148 = .ok (.iload_n 3, 1) := by decide +kernel
theorem dX6_rank_149 : decode cX6_rank 149 = .ok (.istore_n 3, 1) := by decide +kernel
theorem dX6_rank_150 : decode cX6_rank 150 = .ok (.iinc 4 1, 3) := by decide +kernel
theorem dX6_rank_153 : decode cX6_rank 153 = .ok (.goto (-133), 3) := by decide +kernel
theorem dX6_rank_156 : decode cX6_rank 156 = .ok (.iload_n 3, 1) := by decide +kernel
theorem dX6_rank_157 : decode cX6_rank 157 = .ok (.ireturn, 1) := by decide +kernel
theorem dX6_wants_0 : decode cX6_wants 0 = .ok (.iconst 0, 1) := by decide +kernel
theorem dX6_wants_1 : decode cX6_wants 1 = .ok (.istore_n 2, 1) := by decide +kernel
theorem dX6_wants_2 : decode cX6_wants 2 = .ok (.iconst 0, 1) := by decide +kernel
theorem dX6_wants_3 : decode cX6_wants 3 = .ok (.istore_n 3, 1) := by decide +kernel
theorem dX6_wants_4 : decode cX6_wants 4 = .ok (.iload_n 3, 1) := by decide +kernel
theorem dX6_wants_5 : decode cX6_wants 5 = .ok (.aload_n 0, 1) := by decide +kernel
theorem dX6_wants_6 : decode cX6_wants 6 = .ok (.getfield 13, 3) := by decide +kernel
theorem dX6_wants_9 : decode cX6_wants 9 = .ok (.iconst 0, 1) := by decide +kernel
theorem dX6_wants_10 : decode cX6_wants 10 = .ok (.iaload, 1) := by decide +kernel
theorem dX6_wants_11 : decode cX6_wants 11 = .ok (.if_icmp .ge 26, 3) := by decide +kernel
theorem dX6_wants_14 : decode cX6_wants 14 = .ok (.iload_n 2, 1) := by decide +kernel
theorem dX6_wants_15 : decode cX6_wants 15 = .ok (.aload_n 0, 1) := by decide +kernel
theorem dX6_wants_16 : decode cX6_wants 16 = .ok (.iload_n 3, 1) := by decide +kernel
theorem dX6_wants_17 : decode cX6_wants 17 = .ok (.iload_n 1, 1) := by decide +kernel
theorem dX6_wants_18 : decode cX6_wants 18 = .ok (.invokevirtual 125, 3) := by decide +kernel
theorem dX6_wants_21 : decode cX6_wants 21 = .ok (.ifCond .eq 7, 3) := by decide +kernel
theorem dX6_wants_24 : decode cX6_wants 24 = .ok (.iconst 1, 1) := by decide +kernel
theorem dX6_wants_25 : decode cX6_wants 25 = .ok (.goto 4, 3) := by decide +kernel
theorem dX6_wants_28 : decode cX6_wants 28 = .ok (.iconst 0, 1) := by decide +kernel
theorem dX6_wants_29 : decode cX6_wants 29 = .ok (.iadd, 1) := by decide +kernel
theorem dX6_wants_30 : decode cX6_wants 30 = .ok (.istore_n 2, 1) := by decide +kernel
theorem dX6_wants_31 : decode cX6_wants 31 = .ok (.iinc 3 1, 3) := by decide +kernel
theorem dX6_wants_34 : decode cX6_wants 34 = .ok (.goto (-30), 3) := by decide +kernel
theorem dX6_wants_37 : decode cX6_wants 37 = .ok (.iload_n 2, 1) := by decide +kernel
theorem dX6_wants_38 : decode cX6_wants 38 = .ok (.ireturn, 1) := by decide +kernel
theorem dX6_wanted_0 : decode cX6_wanted 0 = .ok (.iload_n 1, 1) := by decide +kernel
theorem dX6_wanted_1 : decode cX6_wanted 1 = .ok (.iconst 0, 1) := by decide +kernel
theorem dX6_wanted_2 : decode cX6_wanted 2 = .ok (.iconst 1, 1) := by decide +kernel
theorem dX6_wanted_3 : decode cX6_wanted 3 = .ok (.invokestatic 56, 3) := by decide +kernel
theorem dX6_wanted_6 : decode cX6_wanted 6 = .ok (.ifCond .ne 5, 3) := by decide +kernel
theorem dX6_wanted_9 : decode cX6_wanted 9 = .ok (.iconst (-1), 1) := by decide +kernel
theorem dX6_wanted_10 : decode cX6_wanted 10 = .ok (.ireturn, 1) := by decide +kernel
theorem dX6_wanted_11 : decode cX6_wanted 11 = .ok (.iconst 0, 1) := by decide +kernel
theorem dX6_wanted_12 : decode cX6_wanted 12 = .ok (.istore_n 2, 1) := by decide +kernel
theorem dX6_wanted_13 : decode cX6_wanted 13 = .ok (.iconst 1, 1) := by decide +kernel
theorem dX6_wanted_14 : decode cX6_wanted 14 = .ok (.istore_n 3, 1) := by decide +kernel
theorem dX6_wanted_15 : decode cX6_wanted 15 = .ok (.iload_n 3, 1) := by decide +kernel
theorem dX6_wanted_16 : decode cX6_wanted 16 = .ok (.aload_n 0, 1) := by decide +kernel
theorem dX6_wanted_17 : decode cX6_wanted 17 = .ok (.getfield 13, 3) := by decide +kernel
theorem dX6_wanted_20 : decode cX6_wanted 20 = .ok (.iconst 1, 1) := by decide +kernel
theorem dX6_wanted_21 : decode cX6_wanted 21 = .ok (.iaload, 1) := by decide +kernel
theorem dX6_wanted_22 : decode cX6_wanted 22 = .ok (.if_icmp .ge 28, 3) := by decide +kernel
theorem dX6_wanted_25 : decode cX6_wanted 25 = .ok (.aload_n 0, 1) := by decide +kernel
theorem dX6_wanted_26 : decode cX6_wanted 26 = .ok (.iload_n 3, 1) := by decide +kernel
theorem dX6_wanted_27 : decode cX6_wanted 27 = .ok (.invokevirtual 166, 3) := by decide +kernel
theorem dX6_wanted_30 : decode cX6_wanted 30 = .ok (.aload_n 0, 1) := by decide +kernel
theorem dX6_wanted_31 : decode cX6_wanted 31 = .ok (.iload_n 2, 1) := by decide +kernel
theorem dX6_wanted_32 : decode cX6_wanted 32 = .ok (.invokevirtual 166, 3) := by decide +kernel
theorem dX6_wanted_35 : decode cX6_wanted 35 = .ok (.if_icmp .le 7, 3) := by decide +kernel
theorem dX6_wanted_38 : decode cX6_wanted 38 = .ok (.iload_n 3, 1) := by decide +kernel
theorem dX6_wanted_39 : decode cX6_wanted 39 = .ok (.goto 4, 3) := by decide +kernel
theorem dX6_wanted_42 : decode cX6_wanted 42 = .ok (.iload_n 2, 1) := by decide +kernel
theorem dX6_wanted_43 : decode cX6_wanted 43 = .ok (.istore_n 2, 1) := by decide +kernel
theorem dX6_wanted_44 : decode cX6_wanted 44 = .ok (.iinc 3 1, 3) := by decide +kernel
theorem dX6_wanted_47 : decode cX6_wanted 47 = .ok (.goto (-32), 3) := by decide +kernel
theorem dX6_wanted_50 : decode cX6_wanted 50 = .ok (.iload_n 1, 1) := by decide +kernel
theorem dX6_wanted_51 : decode cX6_wanted 51 = .ok (.ifCond .ne 7, 3) := by decide +kernel
theorem dX6_wanted_54 : decode cX6_wanted 54 = .ok (.iload_n 2, 1) := by decide +kernel
theorem dX6_wanted_55 : decode cX6_wanted 55 = .ok (.goto 8, 3) := by decide +kernel
theorem dX6_wanted_58 : decode cX6_wanted 58 = .ok (.aload_n 0, 1) := by decide +kernel
theorem dX6_wanted_59 : decode cX6_wanted 59 = .ok (.iload_n 2, 1) := by decide +kernel
theorem dX6_wanted_60 : decode cX6_wanted 60 = .ok (.invokevirtual 166, 3) := by decide +kernel
theorem dX6_wanted_63 : decode cX6_wanted 63 = .ok (.ireturn, 1) := by decide +kernel
theorem dX6_seen_0 : decode cX6_seen 0 = .ok (.aload_n 0, 1) := by decide +kernel
theorem dX6_seen_1 : decode cX6_seen 1 = .ok (.iload_n 1, 1) := by decide +kernel
theorem dX6_seen_2 : decode cX6_seen 2 = .ok (.invokevirtual 119, 3) := by decide +kernel
theorem dX6_seen_5 : decode cX6_seen 5 = .ok (.ifCond .eq 21, 3) := by decide +kernel
theorem dX6_seen_8 : decode cX6_seen 8 = .ok (.aload_n 0, 1) := by decide +kernel
theorem dX6_seen_9 : decode cX6_seen 9 = .ok (.iload_n 2, 1) := by decide +kernel
theorem dX6_seen_10 : decode cX6_seen 10 = .ok (.invokevirtual 113, 3) := by decide +kernel
theorem dX6_seen_13 : decode cX6_seen 13 = .ok (.ifCond .eq 13, 3) := by decide +kernel
theorem dX6_seen_16 : decode cX6_seen 16 = .ok (.iload_n 3, 1) := by decide +kernel
theorem dX6_seen_17 : decode cX6_seen 17 = .ok (.iconst 1, 1) := by decide +kernel
theorem dX6_seen_18 : decode cX6_seen 18 = .ok (.bipush 9, 2) := by decide +kernel
theorem dX6_seen_20 : decode cX6_seen 20 = .ok (.invokestatic 56, 3) := by decide +kernel
theorem dX6_seen_23 : decode cX6_seen 23 = .ok (.ifCond .ne 5, 3) := by decide +kernel
theorem dX6_seen_26 : decode cX6_seen 26 = .ok (.iconst (-1), 1) := by decide +kernel
theorem dX6_seen_27 : decode cX6_seen 27 = .ok (.ireturn, 1) := by decide +kernel
theorem dX6_seen_28 : decode cX6_seen 28 = .ok (.aload_n 0, 1) := by decide +kernel
theorem dX6_seen_29 : decode cX6_seen 29 = .ok (.getfield 94, 3) := by decide +kernel
theorem dX6_seen_32 : decode cX6_seen 32 = .ok (.bipush 6, 2) := by decide +kernel
theorem dX6_seen_34 : decode cX6_seen 34 = .ok (.if_icmp .ne 6, 3) := by decide +kernel
theorem dX6_seen_37 : decode cX6_seen 37 = .ok (.bipush (-3), 2) := by decide +kernel
theorem dX6_seen_39 : decode cX6_seen 39 = .ok (.ireturn, 1) := by decide +kernel
theorem dX6_seen_40 : decode cX6_seen 40 = .ok (.aload_n 0, 1) := by decide +kernel
theorem dX6_seen_41 : decode cX6_seen 41 = .ok (.getfield 28, 3) := by decide +kernel
theorem dX6_seen_44 : decode cX6_seen 44 = .ok (.aload_n 0, 1) := by decide +kernel
theorem dX6_seen_45 : decode cX6_seen 45 = .ok (.getfield 94, 3) := by decide +kernel
theorem dX6_seen_48 : decode cX6_seen 48 = .ok (.bipush 100, 2) := by decide +kernel
theorem dX6_seen_50 : decode cX6_seen 50 = .ok (.iload_n 3, 1) := by decide +kernel
theorem dX6_seen_51 : decode cX6_seen 51 = .ok (.imul, 1) := by decide +kernel
theorem dX6_seen_52 : decode cX6_seen 52 = .ok (.bipush 10, 2) := by decide +kernel
theorem dX6_seen_54 : decode cX6_seen 54 = .ok (.iload_n 1, 1) := by decide +kernel
theorem dX6_seen_55 : decode cX6_seen 55 = .ok (.imul, 1) := by decide +kernel
theorem dX6_seen_56 : decode cX6_seen 56 = .ok (.iadd, 1) := by decide +kernel
theorem dX6_seen_57 : decode cX6_seen 57 = .ok (.iload_n 2, 1) := by decide +kernel
theorem dX6_seen_58 : decode cX6_seen 58 = .ok (.iadd, 1) := by decide +kernel
theorem dX6_seen_59 : decode cX6_seen 59 = .ok (.iastore, 1) := by decide +kernel
theorem dX6_seen_60 : decode cX6_seen 60 = .ok (.aload_n 0, 1) := by decide +kernel
theorem dX6_seen_61 : decode cX6_seen 61 = .ok (.dup, 1) := by decide +kernel
theorem dX6_seen_62 : decode cX6_seen 62 = .ok (.getfield 94, 3) := by decide +kernel
theorem dX6_seen_65 : decode cX6_seen 65 = .ok (.iconst 1, 1) := by decide +kernel
theorem dX6_seen_66 : decode cX6_seen 66 = .ok (.iadd, 1) := by decide +kernel
theorem dX6_seen_67 : decode cX6_seen 67 = .ok (.putfield 94, 3) := by decide +kernel
theorem dX6_seen_70 : decode cX6_seen 70 = .ok (.aload_n 0, 1) := by decide +kernel
theorem dX6_seen_71 : decode cX6_seen 71 = .ok (.getfield 94, 3) := by decide +kernel
theorem dX6_seen_74 : decode cX6_seen 74 = .ok (.ireturn, 1) := by decide +kernel
theorem dX6_forget_0 : decode cX6_forget 0 = .ok (.aload_n 0, 1) := by decide +kernel
theorem dX6_forget_1 : decode cX6_forget 1 = .ok (.getfield 94, 3) := by decide +kernel
theorem dX6_forget_4 : decode cX6_forget 4 = .ok (.istore_n 1, 1) := by decide +kernel
theorem dX6_forget_5 : decode cX6_forget 5 = .ok (.aload_n 0, 1) := by decide +kernel
theorem dX6_forget_6 : decode cX6_forget 6 = .ok (.iconst 0, 1) := by decide +kernel
theorem dX6_forget_7 : decode cX6_forget 7 = .ok (.putfield 94, 3) := by decide +kernel
theorem dX6_forget_10 : decode cX6_forget 10 = .ok (.iload_n 1, 1) := by decide +kernel
