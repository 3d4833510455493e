theorem dX6_forget_11 : decode cX6_forget 11 = .ok (.ireturn, 1) := by decide +kernel
theorem dX6_isSo_0 : decode cX6_isSo 0 = .ok (.aload_n 0, 1) := by decide +kernel
theorem dX6_isSo_1 : decode cX6_isSo 1 = .ok (.invokevirtual 154, 3) := by decide +kernel
theorem dX6_isSo_4 : decode cX6_isSo 4 = .ok (.aload_n 0, 1) := by decide +kernel
theorem dX6_isSo_5 : decode cX6_isSo 5 = .ok (.iload_n 1, 1) := by decide +kernel
theorem dX6_isSo_6 : decode cX6_isSo 6 = .ok (.putfield 31, 3) := by decide +kernel
theorem dX6_isSo_9 : decode cX6_isSo 9 = .ok (.aload_n 0, 1) := by decide +kernel
theorem dX6_isSo_10 : decode cX6_isSo 10 = .ok (.invokevirtual 85, 3) := by decide +kernel
theorem dX6_isSo_13 : decode cX6_isSo 13 = .ok (.iconst 1, 1) := by decide +kernel
theorem dX6_isSo_14 : decode cX6_isSo 14 = .ok (.istore_n 2, 1) := by decide +kernel
theorem dX6_isSo_15 : decode cX6_isSo 15 = .ok (.iconst 1, 1) := by decide +kernel
theorem dX6_isSo_16 : decode cX6_isSo 16 = .ok (.istore_n 3, 1) := by decide +kernel
theorem dX6_isSo_17 : decode cX6_isSo 17 = .ok (.iload_n 3, 1) := by decide +kernel
theorem dX6_isSo_18 : decode cX6_isSo 18 = .ok (.bipush 9, 2) := by decide +kernel
theorem dX6_isSo_20 : decode cX6_isSo 20 = .ok (.if_icmp .gt 90, 3) := by decide +kernel
theorem dX6_isSo_23 : decode cX6_isSo 23 = .ok (.aload_n 0, 1) := by decide +kernel
theorem dX6_isSo_24 : decode cX6_isSo 24 = .ok (.invokevirtual 148, 3) := by decide +kernel
theorem dX6_isSo_27 : decode cX6_isSo 27 = .ok (.pop, 1) := by decide +kernel
theorem dX6_isSo_28 : decode cX6_isSo 28 = .ok (.iconst 0, 1) := by decide +kernel
theorem dX6_isSo_29 : decode cX6_isSo 29 = .ok (.istore 4, 2) := by decide +kernel
theorem dX6_isSo_31 : decode cX6_isSo 31 = .ok (.iload 4, 2) := by decide +kernel
theorem dX6_isSo_33 : decode cX6_isSo 33 = .ok (.aload_n 0, 1) := by decide +kernel
theorem dX6_isSo_34 : decode cX6_isSo 34 = .ok (.getfield 94, 3) := by decide +kernel
theorem dX6_isSo_37 : decode cX6_isSo 37 = .ok (.if_icmp .ge 67, 3) := by decide +kernel
theorem dX6_isSo_40 : decode cX6_isSo 40 = .ok (.iload_n 2, 1) := by decide +kernel
theorem dX6_isSo_41 : decode cX6_isSo 41 = .ok (.ifCond .eq 55, 3) := by decide +kernel
theorem dX6_isSo_44 : decode cX6_isSo 44 = .ok (.aload_n 0, 1) := by decide +kernel
theorem dX6_isSo_45 : decode cX6_isSo 45 = .ok (.getfield 28, 3) := by decide +kernel
theorem dX6_isSo_48 : decode cX6_isSo 48 = .ok (.iload 4, 2) := by decide +kernel
theorem dX6_isSo_50 : decode cX6_isSo 50 = .ok (.iaload, 1) := by decide +kernel
theorem dX6_isSo_51 : decode cX6_isSo 51 = .ok (.bipush 100, 2) := by decide +kernel
theorem dX6_isSo_53 : decode cX6_isSo 53 = .ok (.idiv, 1) := by decide +kernel
theorem dX6_isSo_54 : decode cX6_isSo 54 = .ok (.iload_n 3, 1) := by decide +kernel
theorem dX6_isSo_55 : decode cX6_isSo 55 = .ok (.if_icmp .ne 37, 3) := by decide +kernel
theorem dX6_isSo_58 : decode cX6_isSo 58 = .ok (.aload_n 0, 1) := by decide +kernel
theorem dX6_isSo_59 : decode cX6_isSo 59 = .ok (.getfield 19, 3) := by decide +kernel
theorem dX6_isSo_62 : decode cX6_isSo 62 = .ok (.bipush 6, 2) := by decide +kernel
theorem dX6_isSo_64 : decode cX6_isSo 64 = .ok (.aload_n 0, 1) := by decide +kernel
theorem dX6_isSo_65 : decode cX6_isSo 65 = .ok (.getfield 28, 3) := by decide +kernel
theorem dX6_isSo_68 : decode cX6_isSo 68 = .ok (.iload 4, 2) := by decide +kernel
theorem dX6_isSo_70 : decode cX6_isSo 70 = .ok (.iaload, 1) := by decide +kernel
theorem dX6_isSo_71 : decode cX6_isSo 71 = .ok (.bipush 10, 2) := by decide +kernel
theorem dX6_isSo_73 : decode cX6_isSo 73 = .ok (.idiv, 1) := by decide +kernel
theorem dX6_isSo_74 : decode cX6_isSo 74 = .ok (.bipush 10, 2) := by decide +kernel
theorem dX6_isSo_76 : decode cX6_isSo 76 = .ok (.irem, 1) := by decide +kernel
theorem dX6_isSo_77 : decode cX6_isSo 77 = .ok (.iadd, 1) := by decide +kernel
theorem dX6_isSo_78 : decode cX6_isSo 78 = .ok (.iaload, 1) := by decide +kernel
theorem dX6_isSo_79 : decode cX6_isSo 79 = .ok (.aload_n 0, 1) := by decide +kernel
theorem dX6_isSo_80 : decode cX6_isSo 80 = .ok (.getfield 28, 3) := by decide +kernel
theorem dX6_isSo_83 : decode cX6_isSo 83 = .ok (.iload 4, 2) := by decide +kernel
theorem dX6_isSo_85 : decode cX6_isSo 85 = .ok (.iaload, 1) := by decide +kernel
theorem dX6_isSo_86 : decode cX6_isSo 86 = .ok (.bipush 10, 2) := by decide +kernel
theorem dX6_isSo_88 : decode cX6_isSo 88 = .ok (.irem, 1) := by decide +kernel
theorem dX6_isSo_89 : decode cX6_isSo 89 = .ok (.if_icmp .ne 7, 3) := by decide +kernel
theorem dX6_isSo_92 : decode cX6_isSo 92 = .ok (.iconst 1, 1) := by decide +kernel
theorem dX6_isSo_93 : decode cX6_isSo 93 = .ok (.goto 4, 3) := by decide +kernel
theorem dX6_isSo_96 : decode cX6_isSo 96 = .ok (.iconst 0, 1) := by decide +kernel
theorem dX6_isSo_97 : decode cX6_isSo 97 = .ok (.istore_n 2, 1) := by decide +kernel
theorem dX6_isSo_98 : decode cX6_isSo 98 = .ok (.iinc 4 1, 3) := by decide +kernel
theorem dX6_isSo_101 : decode cX6_isSo 101 = .ok (.goto (-70), 3) := by decide +kernel
theorem dX6_isSo_104 : decode cX6_isSo 104 = .ok (.iinc 3 1, 3) := by decide +kernel
theorem dX6_isSo_107 : decode cX6_isSo 107 = .ok (.goto (-90), 3) := by decide +kernel
theorem dX6_isSo_110 : decode cX6_isSo 110 = .ok (.aload_n 0, 1) := by decide +kernel
theorem dX6_isSo_111 : decode cX6_isSo 111 = .ok (.bipush (-4), 2) := by decide +kernel
theorem dX6_isSo_113 : decode cX6_isSo 113 = .ok (.putfield 31, 3) := by decide +kernel
theorem dX6_isSo_116 : decode cX6_isSo 116 = .ok (.aload_n 0, 1) := by decide +kernel
theorem dX6_isSo_117 : decode cX6_isSo 117 = .ok (.invokevirtual 151, 3) := by decide +kernel
theorem dX6_isSo_120 : decode cX6_isSo 120 = .ok (.iload_n 2, 1) := by decide +kernel
theorem dX6_isSo_121 : decode cX6_isSo 121 = .ok (.ireturn, 1) := by decide +kernel
theorem dX6_feigned_0 : decode cX6_feigned 0 = .ok (.iload_n 1, 1) := by decide +kernel
theorem dX6_feigned_1 : decode cX6_feigned 1 = .ok (.iconst 0, 1) := by decide +kernel
theorem dX6_feigned_2 : decode cX6_feigned 2 = .ok (.iconst 1, 1) := by decide +kernel
theorem dX6_feigned_3 : decode cX6_feigned 3 = .ok (.invokestatic 56, 3) := by decide +kernel
theorem dX6_feigned_6 : decode cX6_feigned 6 = .ok (.ifCond .ne 5, 3) := by decide +kernel
theorem dX6_feigned_9 : decode cX6_feigned 9 = .ok (.iconst (-1), 1) := by decide +kernel
theorem dX6_feigned_10 : decode cX6_feigned 10 = .ok (.ireturn, 1) := by decide +kernel
theorem dX6_feigned_11 : decode cX6_feigned 11 = .ok (.iconst 0, 1) := by decide +kernel
theorem dX6_feigned_12 : decode cX6_feigned 12 = .ok (.istore_n 2, 1) := by decide +kernel
theorem dX6_feigned_13 : decode cX6_feigned 13 = .ok (.iconst 0, 1) := by decide +kernel
theorem dX6_feigned_14 : decode cX6_feigned 14 = .ok (.istore_n 3, 1) := by decide +kernel
theorem dX6_feigned_15 : decode cX6_feigned 15 = .ok (.iload_n 3, 1) := by decide +kernel
theorem dX6_feigned_16 : decode cX6_feigned 16 = .ok (.aload_n 0, 1) := by decide +kernel
theorem dX6_feigned_17 : decode cX6_feigned 17 = .ok (.getfield 13, 3) := by decide +kernel
theorem dX6_feigned_20 : decode cX6_feigned 20 = .ok (.iconst 0, 1) := by decide +kernel
theorem dX6_feigned_21 : decode cX6_feigned 21 = .ok (.iaload, 1) := by decide +kernel
theorem dX6_feigned_22 : decode cX6_feigned 22 = .ok (.if_icmp .ge 27, 3) := by decide +kernel
theorem dX6_feigned_25 : decode cX6_feigned 25 = .ok (.iload_n 2, 1) := by decide +kernel
theorem dX6_feigned_26 : decode cX6_feigned 26 = .ok (.aload_n 0, 1) := by decide +kernel
theorem dX6_feigned_27 : decode cX6_feigned 27 = .ok (.iload_n 3, 1) := by decide +kernel
theorem dX6_feigned_28 : decode cX6_feigned 28 = .ok (.invokevirtual 169, 3) := by decide +kernel
theorem dX6_feigned_31 : decode cX6_feigned 31 = .ok (.ifCond .eq 9, 3) := by decide +kernel
theorem dX6_feigned_34 : decode cX6_feigned 34 = .ok (.iconst 1, 1) := by decide +kernel
theorem dX6_feigned_35 : decode cX6_feigned 35 = .ok (.iload_n 3, 1) := by decide +kernel
theorem dX6_feigned_36 : decode cX6_feigned 36 = .ok (.ishl, 1) := by decide +kernel
theorem dX6_feigned_37 : decode cX6_feigned 37 = .ok (.goto 4, 3) := by decide +kernel
theorem dX6_feigned_40 : decode cX6_feigned 40 = .ok (.iconst 0, 1) := by decide +kernel
theorem dX6_feigned_41 : decode cX6_feigned 41 = .ok (.ior, 1) := by decide +kernel
theorem dX6_feigned_42 : decode cX6_feigned 42 = .ok (.istore_n 2, 1) := by decide +kernel
theorem dX6_feigned_43 : decode cX6_feigned 43 = .ok (.iinc 3 1, 3) := by decide +kernel
theorem dX6_feigned_46 : decode cX6_feigned 46 = .ok (.goto (-31), 3) := by decide +kernel
theorem dX6_feigned_49 : decode cX6_feigned 49 = .ok (.iload_n 1, 1) := by decide +kernel
theorem dX6_feigned_50 : decode cX6_feigned 50 = .ok (.ifCond .ne 7, 3) := by decide +kernel
theorem dX6_feigned_53 : decode cX6_feigned 53 = .ok (.iload_n 2, 1) := by decide +kernel
theorem dX6_feigned_54 : decode cX6_feigned 54 = .ok (.goto 17, 3) := by decide +kernel
theorem dX6_feigned_57 : decode cX6_feigned 57 = .ok (.aload_n 0, 1) := by decide +kernel
theorem dX6_feigned_58 : decode cX6_feigned 58 = .ok (.bipush (-4), 2) := by decide +kernel
theorem dX6_feigned_60 : decode cX6_feigned 60 = .ok (.invokevirtual 169, 3) := by decide +kernel
theorem dX6_feigned_63 : decode cX6_feigned 63 = .ok (.ifCond .eq 7, 3) := by decide +kernel
theorem dX6_feigned_66 : decode cX6_feigned 66 = .ok (.iconst 1, 1) := by decide +kernel
theorem dX6_feigned_67 : decode cX6_feigned 67 = .ok (.goto 4, 3) := by decide +kernel
theorem dX6_feigned_70 : decode cX6_feigned 70 = .ok (.iconst 0, 1) := by decide +kernel
theorem dX6_feigned_71 : decode cX6_feigned 71 = .ok (.ireturn, 1) := by decide +kernel
theorem dX6_counts_0 : decode cX6_counts 0 = .ok (.aload_n 0, 1) := by decide +kernel
theorem dX6_counts_1 : decode cX6_counts 1 = .ok (.iload_n 1, 1) := by decide +kernel
theorem dX6_counts_2 : decode cX6_counts 2 = .ok (.invokevirtual 113, 3) := by decide +kernel
theorem dX6_counts_5 : decode cX6_counts 5 = .ok (.ifCond .eq 21, 3) := by decide +kernel
theorem dX6_counts_8 : decode cX6_counts 8 = .ok (.iload_n 2, 1) := by decide +kernel
theorem dX6_counts_9 : decode cX6_counts 9 = .ok (.iconst 0, 1) := by decide +kernel
theorem dX6_counts_10 : decode cX6_counts 10 = .ok (.iconst 4, 1) := by decide +kernel
theorem dX6_counts_11 : decode cX6_counts 11 = .ok (.invokestatic 56, 3) := by decide +kernel
theorem dX6_counts_14 : decode cX6_counts 14 = .ok (.ifCond .eq 12, 3) := by decide +kernel
theorem dX6_counts_17 : decode cX6_counts 17 = .ok (.iload_n 3, 1) := by decide +kernel
theorem dX6_counts_18 : decode cX6_counts 18 = .ok (.iconst 0, 1) := by decide +kernel
theorem dX6_counts_19 : decode cX6_counts 19 = .ok (.iconst 1, 1) := by decide +kernel
theorem dX6_counts_20 : decode cX6_counts 20 = .ok (.invokestatic 56, 3) := by decide +kernel
theorem dX6_counts_23 : decode cX6_counts 23 = .ok (.ifCond .ne 5, 3) := by decide +kernel
theorem dX6_counts_26 : decode cX6_counts 26 = .ok (.iconst (-1), 1) := by decide +kernel
theorem dX6_counts_27 : decode cX6_counts 27 = .ok (.ireturn, 1) := by decide +kernel
theorem dX6_counts_28 : decode cX6_counts 28 = .ok (.iconst 0, 1) := by decide +kernel
theorem dX6_counts_29 : decode cX6_counts 29 = .ok (.istore 4, 2) := by decide +kernel
theorem dX6_counts_31 : decode cX6_counts 31 = .ok (.iconst 1, 1) := by decide +kernel
theorem dX6_counts_32 : decode cX6_counts 32 = .ok (.istore 5, 2) := by decide +kernel
theorem dX6_counts_34 : decode cX6_counts 34 = .ok (.iload 5, 2) := by decide +kernel
theorem dX6_counts_36 : decode cX6_counts 36 = .ok (.bipush 13, 2) := by decide +kernel
theorem dX6_counts_38 : decode cX6_counts 38 = .ok (.if_icmp .ge 38, 3) := by decide +kernel
theorem dX6_counts_41 : decode cX6_counts 41 = .ok (.iload 4, 2) := by decide +kernel
theorem dX6_counts_43 : decode cX6_counts 43 = .ok (.aload_n 0, 1) := by decide +kernel
theorem dX6_counts_44 : decode cX6_counts 44 = .ok (.aload_n 0, 1) := by decide +kernel
theorem dX6_counts_45 : decode cX6_counts 45 = .ok (.getfield 13, 3) := by decide +kernel
theorem dX6_counts_48 : decode cX6_counts 48 = .ok (.iconst 5, 1) := by decide +kernel
theorem dX6_counts_49 : decode cX6_counts 49 = .ok (.iload_n 1, 1) := by decide +kernel
theorem dX6_counts_50 : decode cX6_counts 50 = .ok (.iadd, 1) := by decide +kernel
theorem dX6_counts_51 : decode cX6_counts 51 = .ok (.iaload, 1) := by decide +kernel
theorem dX6_counts_52 : decode cX6_counts 52 = .ok (.iload 5, 2) := by decide +kernel
theorem dX6_counts_54 : decode cX6_counts 54 = .ok (.invokevirtual 104, 3) := by decide +kernel
theorem dX6_counts_57 : decode cX6_counts 57 = .ok (.bipush 9, 2) := by decide +kernel
theorem dX6_counts_59 : decode cX6_counts 59 = .ok (.if_icmp .ge 7, 3) := by decide +kernel
theorem dX6_counts_62 : decode cX6_counts 62 = .ok (.iconst 1, 1) := by decide +kernel
theorem dX6_counts_63 : decode cX6_counts 63 = .ok (.goto 4, 3) := by decide +kernel
theorem dX6_counts_66 : decode cX6_counts 66 = .ok (.iconst 0, 1) := by decide +kernel
theorem dX6_counts_67 : decode cX6_counts 67 = .ok (.iadd, 1) := by decide +kernel
theorem dX6_counts_68 : decode cX6_counts 68 = .ok (.istore 4, 2) := by decide +kernel
theorem dX6_counts_70 : decode cX6_counts 70 = .ok (.iinc 5 1, 3) := by decide +kernel
theorem dX6_counts_73 : decode cX6_counts 73 = .ok (.goto (-39), 3) := by decide +kernel
theorem dX6_counts_76 : decode cX6_counts 76 = .ok (.iconst 1, 1) := by decide +kernel
theorem dX6_counts_77 : decode cX6_counts 77 = .ok (.istore 5, 2) := by decide +kernel
theorem dX6_counts_79 : decode cX6_counts 79 = .ok (.iconst 1, 1) := by decide +kernel
theorem dX6_counts_80 : decode cX6_counts 80 = .ok (.istore 6, 2) := by decide +kernel
theorem dX6_counts_82 : decode cX6_counts 82 = .ok (.iconst 0, 1) := by decide +kernel
theorem dX6_counts_83 : decode cX6_counts 83 = .ok (.istore 7, 2) := by decide +kernel
theorem dX6_counts_85 : decode cX6_counts 85 = .ok (.iload 7, 2) := by decide +kernel
theorem dX6_counts_87 : decode cX6_counts 87 = .ok (.iload_n 2, 1) := by decide +kernel
theorem dX6_counts_88 : decode cX6_counts 88 = .ok (.if_icmp .ge 23, 3) := by decide +kernel
theorem dX6_counts_91 : decode cX6_counts 91 = .ok (.iload 5, 2) := by decide +kernel
theorem dX6_counts_93 : decode cX6_counts 93 = .ok (.iload 4, 2) := by decide +kernel
theorem dX6_counts_95 : decode cX6_counts 95 = .ok (.imul, 1) := by decide +kernel
theorem dX6_counts_96 : decode cX6_counts 96 = .ok (.istore 5, 2) := by decide +kernel
theorem dX6_counts_98 : decode cX6_counts 98 = .ok (.iload 6, 2) := by decide +kernel
theorem dX6_counts_100 : decode cX6_counts 100 = .ok (.bipush 12, 2) := by decide +kernel
theorem dX6_counts_102 : decode cX6_counts 102 = .ok (.imul, 1) := by decide +kernel
theorem dX6_counts_103 : decode cX6_counts 103 = .ok (.istore 6, 2) := by decide +kernel
theorem dX6_counts_105 : decode cX6_counts 105 = .ok (.iinc 7 1, 3) := by decide +kernel
theorem dX6_counts_108 : decode cX6_counts 108 = .ok (.goto (-23), 3) := by decide +kernel
theorem dX6_counts_111 : decode cX6_counts 111 = .ok (.iload 6, 2) := by decide +kernel
theorem dX6_counts_113 : decode cX6_counts 113 = .ok (.iload 5, 2) := by decide +kernel
theorem dX6_counts_115 : decode cX6_counts 115 = .ok (.isub, 1) := by decide +kernel
theorem dX6_counts_116 : decode cX6_counts 116 = .ok (.istore 7, 2) := by decide +kernel
theorem dX6_counts_118 : decode cX6_counts 118 = .ok (.iload 7, 2) := by decide +kernel
theorem dX6_counts_120 : decode cX6_counts 120 = .ok (.istore 8, 2) := by decide +kernel
theorem dX6_counts_122 : decode cX6_counts 122 = .ok (.iload 6, 2) := by decide +kernel
theorem dX6_counts_124 : decode cX6_counts 124 = .ok (.istore 9, 2) := by decide +kernel
theorem dX6_counts_126 : decode cX6_counts 126 = .ok (.iload 9, 2) := by decide +kernel
theorem dX6_counts_128 : decode cX6_counts 128 = .ok (.ifCond .le 21, 3) := by decide +kernel
theorem dX6_counts_131 : decode cX6_counts 131 = .ok (.iload 8, 2) := by decide +kernel
theorem dX6_counts_133 : decode cX6_counts 133 = .ok (.iload 9, 2) := by decide +kernel
theorem dX6_counts_135 : decode cX6_counts 135 = .ok (.irem, 1) := by decide +kernel
theorem dX6_counts_136 : decode cX6_counts 136 = .ok (.istore 10, 2) := by decide +kernel
theorem dX6_counts_138 : decode cX6_counts 138 = .ok (.iload 9, 2) := by decide +kernel
theorem dX6_counts_140 : decode cX6_counts 140 = .ok (.istore 8, 2) := by decide +kernel
theorem dX6_counts_142 : decode cX6_counts 142 = .ok (.iload 10, 2) := by decide +kernel
theorem dX6_counts_144 : decode cX6_counts 144 = .ok (.istore 9, 2) := by decide +kernel
theorem dX6_counts_146 : decode cX6_counts 146 = .ok (.goto (-20), 3) := by decide +kernel
theorem dX6_counts_149 : decode cX6_counts 149 = .ok (.iload_n 3, 1) := by decide +kernel
theorem dX6_counts_150 : decode cX6_counts 150 = .ok (.ifCond .ne 11, 3) := by decide +kernel
theorem dX6_counts_153 : decode cX6_counts 153 = .ok (.iload 7, 2) := by decide +kernel
theorem dX6_counts_155 : decode cX6_counts 155 = .ok (.iload 8, 2) := by decide +kernel
theorem dX6_counts_157 : decode cX6_counts 157 = .ok (.idiv, 1) := by decide +kernel
theorem dX6_counts_158 : decode cX6_counts 158 = .ok (.goto 8, 3) := by decide +kernel
theorem dX6_counts_161 : decode cX6_counts 161 = .ok (.iload 6, 2) := by decide +kernel
theorem dX6_counts_163 : decode cX6_counts 163 = .ok (.iload 8, 2) := by decide +kernel
theorem dX6_counts_165 : decode cX6_counts 165 = .ok (.idiv, 1) := by decide +kernel
theorem dX6_counts_166 : decode cX6_counts 166 = .ok (.ireturn, 1) := by decide +kernel
theorem dX6_cheapest_0 : decode cX6_cheapest 0 = .ok (.aload_n 0, 1) := by decide +kernel
theorem dX6_cheapest_1 : decode cX6_cheapest 1 = .ok (.iload_n 1, 1) := by decide +kernel
theorem dX6_cheapest_2 : decode cX6_cheapest 2 = .ok (.invokevirtual 119, 3) := by decide +kernel
theorem dX6_cheapest_5 : decode cX6_cheapest 5 = .ok (.ifCond .eq 12, 3) := by decide +kernel
theorem dX6_cheapest_8 : decode cX6_cheapest 8 = .ok (.iload_n 2, 1) := by decide +kernel
theorem dX6_cheapest_9 : decode cX6_cheapest 9 = .ok (.iconst 0, 1) := by decide +kernel
theorem dX6_cheapest_10 : decode cX6_cheapest 10 = .ok (.iconst 1, 1) := by decide +kernel
theorem dX6_cheapest_11 : decode cX6_cheapest 11 = .ok (.invokestatic 56, 3) := by decide +kernel
theorem dX6_cheapest_14 : decode cX6_cheapest 14 = .ok (.ifCond .ne 5, 3) := by decide +kernel
theorem dX6_cheapest_17 : decode cX6_cheapest 17 = .ok (.iconst (-1), 1) := by decide +kernel
theorem dX6_cheapest_18 : decode cX6_cheapest 18 = .ok (.ireturn, 1) := by decide +kernel
theorem dX6_cheapest_19 : decode cX6_cheapest 19 = .ok (.bipush (-4), 2) := by decide +kernel
theorem dX6_cheapest_21 : decode cX6_cheapest 21 = .ok (.istore_n 3, 1) := by decide +kernel
theorem dX6_cheapest_22 : decode cX6_cheapest 22 = .ok (.aload_n 0, 1) := by decide +kernel
theorem dX6_cheapest_23 : decode cX6_cheapest 23 = .ok (.getfield 13, 3) := by decide +kernel
theorem dX6_cheapest_26 : decode cX6_cheapest 26 = .ok (.iconst 0, 1) := by decide +kernel
theorem dX6_cheapest_27 : decode cX6_cheapest 27 = .ok (.iaload, 1) := by decide +kernel
theorem dX6_cheapest_28 : decode cX6_cheapest 28 = .ok (.iconst 1, 1) := by decide +kernel
theorem dX6_cheapest_29 : decode cX6_cheapest 29 = .ok (.isub, 1) := by decide +kernel
theorem dX6_cheapest_30 : decode cX6_cheapest 30 = .ok (.istore 4, 2) := by decide +kernel
theorem dX6_cheapest_32 : decode cX6_cheapest 32 = .ok (.iload 4, 2) := by decide +kernel
theorem dX6_cheapest_34 : decode cX6_cheapest 34 = .ok (.ifCond .lt 48, 3) := by decide +kernel
theorem dX6_cheapest_37 : decode cX6_cheapest 37 = .ok (.aload_n 0, 1) := by decide +kernel
theorem dX6_cheapest_38 : decode cX6_cheapest 38 = .ok (.iload 4, 2) := by decide +kernel
theorem dX6_cheapest_40 : decode cX6_cheapest 40 = .ok (.iload_n 1, 1) := by decide +kernel
theorem dX6_cheapest_41 : decode cX6_cheapest 41 = .ok (.invokevirtual 125, 3) := by decide +kernel
theorem dX6_cheapest_44 : decode cX6_cheapest 44 = .ok (.ifCond .eq 30, 3) := by decide +kernel
theorem dX6_cheapest_47 : decode cX6_cheapest 47 = .ok (.iload_n 3, 1) := by decide +kernel
theorem dX6_cheapest_48 : decode cX6_cheapest 48 = .ok (.bipush (-4), 2) := by decide +kernel
theorem dX6_cheapest_50 : decode cX6_cheapest 50 = .ok (.if_icmp .eq 19, 3) := by decide +kernel
theorem dX6_cheapest_53 : decode cX6_cheapest 53 = .ok (.aload_n 0, 1) := by decide +kernel
theorem dX6_cheapest_54 : decode cX6_cheapest 54 = .ok (.iload 4, 2) := by decide +kernel
theorem dX6_cheapest_56 : decode cX6_cheapest 56 = .ok (.iload_n 1, 1) := by decide +kernel
theorem dX6_cheapest_57 : decode cX6_cheapest 57 = .ok (.invokevirtual 129, 3) := by decide +kernel
theorem dX6_cheapest_60 : decode cX6_cheapest 60 = .ok (.aload_n 0, 1) := by decide +kernel
theorem dX6_cheapest_61 : decode cX6_cheapest 61 = .ok (.iload_n 3, 1) := by decide +kernel
theorem dX6_cheapest_62 : decode cX6_cheapest 62 = .ok (.iload_n 1, 1) := by decide +kernel
theorem dX6_cheapest_63 : decode cX6_cheapest 63 = .ok (.invokevirtual 129, 3) := by decide +kernel
theorem dX6_cheapest_66 : decode cX6_cheapest 66 = .ok (.if_icmp .gt 8, 3) := by decide +kernel
theorem dX6_cheapest_69 : decode cX6_cheapest 69 = .ok (.iload 4, 2) := by decide +kernel
theorem dX6_cheapest_71 : decode cX6_cheapest 71 = .ok (.goto 4, 3) := by decide +kernel
theorem dX6_cheapest_74 : decode cX6_cheapest 74 = .ok (.iload_n 3, 1) := by decide +kernel
theorem dX6_cheapest_75 : decode cX6_cheapest 75 = .ok (.istore_n 3, 1) := by decide +kernel
theorem dX6_cheapest_76 : decode cX6_cheapest 76 = .ok (.iinc 4 (-1), 3) := by decide +kernel
theorem dX6_cheapest_79 : decode cX6_cheapest 79 = .ok (.goto (-47), 3) := by decide +kernel
theorem dX6_cheapest_82 : decode cX6_cheapest 82 = .ok (.iload_n 2, 1) := by decide +kernel
theorem dX6_cheapest_83 : decode cX6_cheapest 83 = .ok (.ifCond .eq 9, 3) := by decide +kernel
theorem dX6_cheapest_86 : decode cX6_cheapest 86 = .ok (.iload_n 3, 1) := by decide +kernel
theorem dX6_cheapest_87 : decode cX6_cheapest 87 = .ok (.bipush (-4), 2) := by decide +kernel
theorem dX6_cheapest_89 : decode cX6_cheapest 89 = .ok (.if_icmp .ne 7, 3) := by decide +kernel
theorem dX6_cheapest_92 : decode cX6_cheapest 92 = .ok (.iload_n 3, 1) := by decide +kernel
theorem dX6_cheapest_93 : decode cX6_cheapest 93 = .ok (.goto 9, 3) := by decide +kernel
theorem dX6_cheapest_96 : decode cX6_cheapest 96 = .ok (.aload_n 0, 1) := by decide +kernel
theorem dX6_cheapest_97 : decode cX6_cheapest 97 = .ok (.iload_n 3, 1) := by decide +kernel
theorem dX6_cheapest_98 : decode cX6_cheapest 98 = .ok (.iload_n 1, 1) := by decide +kernel
theorem dX6_cheapest_99 : decode cX6_cheapest 99 = .ok (.invokevirtual 129, 3) := by decide +kernel
theorem dX6_cheapest_102 : decode cX6_cheapest 102 = .ok (.ireturn, 1) := by decide +kernel
theorem dX6_allCoins_0 : decode cX6_allCoins 0 = .ok (.iconst 0, 1) := by decide +kernel
theorem dX6_allCoins_1 : decode cX6_allCoins 1 = .ok (.istore_n 1, 1) := by decide +kernel
theorem dX6_allCoins_2 : decode cX6_allCoins 2 = .ok (.iconst 0, 1) := by decide +kernel
theorem dX6_allCoins_3 : decode cX6_allCoins 3 = .ok (.istore_n 2, 1) := by decide +kernel
theorem dX6_allCoins_4 : decode cX6_allCoins 4 = .ok (.iload_n 2, 1) := by decide +kernel
theorem dX6_allCoins_5 : decode cX6_allCoins 5 = .ok (.aload_n 0, 1) := by decide +kernel
theorem dX6_allCoins_6 : decode cX6_allCoins 6 = .ok (.getfield 13, 3) := by decide +kernel
theorem dX6_allCoins_9 : decode cX6_allCoins 9 = .ok (.iconst 0, 1) := by decide +kernel
theorem dX6_allCoins_10 : decode cX6_allCoins 10 = .ok (.iaload, 1) := by decide +kernel
theorem dX6_allCoins_11 : decode cX6_allCoins 11 = .ok (.if_icmp .ge 18, 3) := by decide +kernel
theorem dX6_allCoins_14 : decode cX6_allCoins 14 = .ok (.iload_n 1, 1) := by decide +kernel
theorem dX6_allCoins_15 : decode cX6_allCoins 15 = .ok (.aload_n 0, 1) := by decide +kernel
theorem dX6_allCoins_16 : decode cX6_allCoins 16 = .ok (.getfield 19, 3) := by decide +kernel
theorem dX6_allCoins_19 : decode cX6_allCoins 19 = .ok (.iload_n 2, 1) := by decide +kernel
theorem dX6_allCoins_20 : decode cX6_allCoins 20 = .ok (.iaload, 1) := by decide +kernel
theorem dX6_allCoins_21 : decode cX6_allCoins 21 = .ok (.iadd, 1) := by decide +kernel
theorem dX6_allCoins_22 : decode cX6_allCoins 22 = .ok (.istore_n 1, 1) := by decide +kernel
theorem dX6_allCoins_23 : decode cX6_allCoins 23 = .ok (.iinc 2 1, 3) := by decide +kernel
theorem dX6_allCoins_26 : decode cX6_allCoins 26 = .ok (.goto (-22), 3) := by decide +kernel
theorem dX6_allCoins_29 : decode cX6_allCoins 29 = .ok (.iload_n 1, 1) := by decide +kernel
theorem dX6_allCoins_30 : decode cX6_allCoins 30 = .ok (.ireturn, 1) := by decide +kernel
theorem dX6_taken_0 : decode cX6_taken 0 = .ok (.iconst 0, 1) := by decide +kernel
theorem dX6_taken_1 : decode cX6_taken 1 = .ok (.istore_n 1, 1) := by decide +kernel
theorem dX6_taken_2 : decode cX6_taken 2 = .ok (.iconst 0, 1) := by decide +kernel
theorem dX6_taken_3 : decode cX6_taken 3 = .ok (.istore_n 2, 1) := by decide +kernel
theorem dX6_taken_4 : decode cX6_taken 4 = .ok (.iload_n 2, 1) := by decide +kernel
theorem dX6_taken_5 : decode cX6_taken 5 = .ok (.aload_n 0, 1) := by decide +kernel
theorem dX6_taken_6 : decode cX6_taken 6 = .ok (.getfield 13, 3) := by decide +kernel
theorem dX6_taken_9 : decode cX6_taken 9 = .ok (.iconst 1, 1) := by decide +kernel
theorem dX6_taken_10 : decode cX6_taken 10 = .ok (.iaload, 1) := by decide +kernel
theorem dX6_taken_11 : decode cX6_taken 11 = .ok (.if_icmp .ge 31, 3) := by decide +kernel
theorem dX6_taken_14 : decode cX6_taken 14 = .ok (.iload_n 1, 1) := by decide +kernel
theorem dX6_taken_15 : decode cX6_taken 15 = .ok (.aload_n 0, 1) := by decide +kernel
theorem dX6_taken_16 : decode cX6_taken 16 = .ok (.getfield 19, 3) := by decide +kernel
theorem dX6_taken_19 : decode cX6_taken 19 = .ok (.bipush 6, 2) := by decide +kernel
theorem dX6_taken_21 : decode cX6_taken 21 = .ok (.iload_n 2, 1) := by decide +kernel
theorem dX6_taken_22 : decode cX6_taken 22 = .ok (.iadd, 1) := by decide +kernel
theorem dX6_taken_23 : decode cX6_taken 23 = .ok (.iaload, 1) := by decide +kernel
theorem dX6_taken_24 : decode cX6_taken 24 = .ok (.bipush (-4), 2) := by decide +kernel
theorem dX6_taken_26 : decode cX6_taken 26 = .ok (.if_icmp .ne 7, 3) := by decide +kernel
theorem dX6_taken_29 : decode cX6_taken 29 = .ok (.iconst 0, 1) := by decide +kernel
theorem dX6_taken_30 : decode cX6_taken 30 = .ok (.goto 4, 3) := by decide +kernel
theorem dX6_taken_33 : decode cX6_taken 33 = .ok (.iconst 1, 1) := by decide +kernel
theorem dX6_taken_34 : decode cX6_taken 34 = .ok (.iadd, 1) := by decide +kernel
theorem dX6_taken_35 : decode cX6_taken 35 = .ok (.istore_n 1, 1) := by decide +kernel
theorem dX6_taken_36 : decode cX6_taken 36 = .ok (.iinc 2 1, 3) := by decide +kernel
theorem dX6_taken_39 : decode cX6_taken 39 = .ok (.goto (-35), 3) := by decide +kernel
theorem dX6_taken_42 : decode cX6_taken 42 = .ok (.iload_n 1, 1) := by decide +kernel
theorem dX6_taken_43 : decode cX6_taken 43 = .ok (.ireturn, 1) := by decide +kernel
theorem dX6_greens_0 : decode cX6_greens 0 = .ok (.iload_n 1, 1) := by decide +kernel
theorem dX6_greens_1 : decode cX6_greens 1 = .ok (.iconst 0, 1) := by decide +kernel
theorem dX6_greens_2 : decode cX6_greens 2 = .ok (.sipush 9999, 3) := by decide +kernel
theorem dX6_greens_5 : decode cX6_greens 5 = .ok (.invokestatic 56, 3) := by decide +kernel
theorem dX6_greens_8 : decode cX6_greens 8 = .ok (.ifCond .eq 22, 3) := by decide +kernel
theorem dX6_greens_11 : decode cX6_greens 11 = .ok (.iload_n 2, 1) := by decide +kernel
theorem dX6_greens_12 : decode cX6_greens 12 = .ok (.iconst 1, 1) := by decide +kernel
theorem dX6_greens_13 : decode cX6_greens 13 = .ok (.bipush 9, 2) := by decide +kernel
theorem dX6_greens_15 : decode cX6_greens 15 = .ok (.invokestatic 56, 3) := by decide +kernel
theorem dX6_greens_18 : decode cX6_greens 18 = .ok (.ifCond .eq 12, 3) := by decide +kernel
theorem dX6_greens_21 : decode cX6_greens 21 = .ok (.iload_n 3, 1) := by decide +kernel
theorem dX6_greens_22 : decode cX6_greens 22 = .ok (.iconst 0, 1) := by decide +kernel
theorem dX6_greens_23 : decode cX6_greens 23 = .ok (.iconst 1, 1) := by decide +kernel
theorem dX6_greens_24 : decode cX6_greens 24 = .ok (.invokestatic 56, 3) := by decide +kernel
theorem dX6_greens_27 : decode cX6_greens 27 = .ok (.ifCond .ne 5, 3) := by decide +kernel
theorem dX6_greens_30 : decode cX6_greens 30 = .ok (.iconst (-1), 1) := by decide +kernel
theorem dX6_greens_31 : decode cX6_greens 31 = .ok (.ireturn, 1) := by decide +kernel
theorem dX6_greens_32 : decode cX6_greens 32 = .ok (.aload_n 0, 1) := by decide +kernel
theorem dX6_greens_33 : decode cX6_greens 33 = .ok (.invokevirtual 154, 3) := by decide +kernel
theorem dX6_greens_36 : decode cX6_greens 36 = .ok (.iconst 0, 1) := by decide +kernel
theorem dX6_greens_37 : decode cX6_greens 37 = .ok (.istore 4, 2) := by decide +kernel
theorem dX6_greens_39 : decode cX6_greens 39 = .ok (.iload 4, 2) := by decide +kernel
theorem dX6_greens_41 : decode cX6_greens 41 = .ok (.iload_n 2, 1) := by decide +kernel
theorem dX6_greens_42 : decode cX6_greens 42 = .ok (.if_icmp .ge 81, 3) := by decide +kernel
theorem dX6_greens_45 : decode cX6_greens 45 = .ok (.ldc2_w 172, 3) := by decide +kernel
theorem dX6_greens_48 : decode cX6_greens 48 = .ok (.iload_n 1, 1) := by decide +kernel
theorem dX6_greens_49 : decode cX6_greens 49 = .ok (.i2l, 1) := by decide +kernel
theorem dX6_greens_50 : decode cX6_greens 50 = .ok (.lmul, 1) := by decide +kernel
theorem dX6_greens_51 : decode cX6_greens 51 = .ok (.ldc2_w 174, 3) := by decide +kernel
theorem dX6_greens_54 : decode cX6_greens 54 = .ok (.iload 4, 2) := by decide +kernel
theorem dX6_greens_56 : decode cX6_greens 56 = .ok (.i2l, 1) := by decide +kernel
theorem dX6_greens_57 : decode cX6_greens 57 = .ok (.lmul, 1) := by decide +kernel
theorem dX6_greens_58 : decode cX6_greens 58 = .ok (.ladd, 1) := by decide +kernel
theorem dX6_greens_59 : decode cX6_greens 59 = .ok (.lconst 1, 1) := by decide +kernel
theorem dX6_greens_60 : decode cX6_greens 60 = .ok (.ladd, 1) := by decide +kernel
theorem dX6_greens_61 : decode cX6_greens 61 = .ok (.lstore 5, 2) := by decide +kernel
theorem dX6_greens_63 : decode cX6_greens 63 = .ok (.lload 5, 2) := by decide +kernel
theorem dX6_greens_65 : decode cX6_greens 65 = .ok (.lload 5, 2) := by decide +kernel
theorem dX6_greens_67 : decode cX6_greens 67 = .ok (.lmul, 1) := by decide +kernel
theorem dX6_greens_68 : decode cX6_greens 68 = .ok (.ldc2_w 176, 3) := by decide +kernel
theorem dX6_greens_71 : decode cX6_greens 71 = .ok (.lrem, 1) := by decide +kernel
theorem dX6_greens_72 : decode cX6_greens 72 = .ok (.l2i, 1) := by decide +kernel
theorem dX6_greens_73 : decode cX6_greens 73 = .ok (.iconst 4, 1) := by decide +kernel
theorem dX6_greens_74 : decode cX6_greens 74 = .ok (.idiv, 1) := by decide +kernel
theorem dX6_greens_75 : decode cX6_greens 75 = .ok (.istore 7, 2) := by decide +kernel
theorem dX6_greens_77 : decode cX6_greens 77 = .ok (.aload_n 0, 1) := by decide +kernel
theorem dX6_greens_78 : decode cX6_greens 78 = .ok (.iload 7, 2) := by decide +kernel
theorem dX6_greens_80 : decode cX6_greens 80 = .ok (.aload_n 0, 1) := by decide +kernel
theorem dX6_greens_81 : decode cX6_greens 81 = .ok (.getfield 13, 3) := by decide +kernel
theorem dX6_greens_84 : decode cX6_greens 84 = .ok (.iconst 0, 1) := by decide +kernel
theorem dX6_greens_85 : decode cX6_greens 85 = .ok (.iaload, 1) := by decide +kernel
theorem dX6_greens_86 : decode cX6_greens 86 = .ok (.irem, 1) := by decide +kernel
theorem dX6_greens_87 : decode cX6_greens 87 = .ok (.iload 7, 2) := by decide +kernel
theorem dX6_greens_89 : decode cX6_greens 89 = .ok (.bipush 8, 2) := by decide +kernel
theorem dX6_greens_91 : decode cX6_greens 91 = .ok (.idiv, 1) := by decide +kernel
theorem dX6_greens_92 : decode cX6_greens 92 = .ok (.aload_n 0, 1) := by decide +kernel
theorem dX6_greens_93 : decode cX6_greens 93 = .ok (.getfield 13, 3) := by decide +kernel
theorem dX6_greens_96 : decode cX6_greens 96 = .ok (.iconst 1, 1) := by decide +kernel
theorem dX6_greens_97 : decode cX6_greens 97 = .ok (.iaload, 1) := by decide +kernel
theorem dX6_greens_98 : decode cX6_greens 98 = .ok (.irem, 1) := by decide +kernel
theorem dX6_greens_99 : decode cX6_greens 99 = .ok (.iconst 1, 1) := by decide +kernel
theorem dX6_greens_100 : decode cX6_greens 100 = .ok (.iload 7, 2) := by decide +kernel
theorem dX6_greens_102 : decode cX6_greens 102 = .ok (.bipush 64, 2) := by decide +kernel
theorem dX6_greens_104 : decode cX6_greens 104 = .ok (.idiv, 1) := by decide +kernel
theorem dX6_greens_105 : decode cX6_greens 105 = .ok (.bipush 12, 2) := by decide +kernel
theorem dX6_greens_107 : decode cX6_greens 107 = .ok (.irem, 1) := by decide +kernel
theorem dX6_greens_108 : decode cX6_greens 108 = .ok (.iadd, 1) := by decide +kernel
theorem dX6_greens_109 : decode cX6_greens 109 = .ok (.invokevirtual 135, 3) := by decide +kernel
theorem dX6_greens_112 : decode cX6_greens 112 = .ok (.aload_n 0, 1) := by decide +kernel
theorem dX6_greens_113 : decode cX6_greens 113 = .ok (.invokevirtual 148, 3) := by decide +kernel
theorem dX6_greens_116 : decode cX6_greens 116 = .ok (.pop, 1) := by decide +kernel
theorem dX6_greens_117 : decode cX6_greens 117 = .ok (.iinc 4 1, 3) := by decide +kernel
theorem dX6_greens_120 : decode cX6_greens 120 = .ok (.goto (-81), 3) := by decide +kernel
theorem dX6_greens_123 : decode cX6_greens 123 = .ok (.iload_n 3, 1) := by decide +kernel
theorem dX6_greens_124 : decode cX6_greens 124 = .ok (.ifCond .ne 10, 3) := by decide +kernel
theorem dX6_greens_127 : decode cX6_greens 127 = .ok (.aload_n 0, 1) := by decide +kernel
theorem dX6_greens_128 : decode cX6_greens 128 = .ok (.invokevirtual 178, 3) := by decide +kernel
theorem dX6_greens_131 : decode cX6_greens 131 = .ok (.goto 7, 3) := by decide +kernel
theorem dX6_greens_134 : decode cX6_greens 134 = .ok (.aload_n 0, 1) := by decide +kernel
theorem dX6_greens_135 : decode cX6_greens 135 = .ok (.invokevirtual 181, 3) := by decide +kernel
theorem dX6_greens_138 : decode cX6_greens 138 = .ok (.istore 4, 2) := by decide +kernel
theorem dX6_greens_140 : decode cX6_greens 140 = .ok (.aload_n 0, 1) := by decide +kernel
theorem dX6_greens_141 : decode cX6_greens 141 = .ok (.invokevirtual 151, 3) := by decide +kernel
theorem dX6_greens_144 : decode cX6_greens 144 = .ok (.iload 4, 2) := by decide +kernel
theorem dX6_greens_146 : decode cX6_greens 146 = .ok (.ireturn, 1) := by decide +kernel
theorem dX6_keep_0 : decode cX6_keep 0 = .ok (.aload_n 0, 1) := by decide +kernel
theorem dX6_keep_1 : decode cX6_keep 1 = .ok (.getfield 91, 3) := by decide +kernel
theorem dX6_keep_4 : decode cX6_keep 4 = .ok (.iconst 2, 1) := by decide +kernel
theorem dX6_keep_5 : decode cX6_keep 5 = .ok (.if_icmp .ne 6, 3) := by decide +kernel
theorem dX6_keep_8 : decode cX6_keep 8 = .ok (.bipush (-3), 2) := by decide +kernel
theorem dX6_keep_10 : decode cX6_keep 10 = .ok (.ireturn, 1) := by decide +kernel
theorem dX6_keep_11 : decode cX6_keep 11 = .ok (.iconst 0, 1) := by decide +kernel
theorem dX6_keep_12 : decode cX6_keep 12 = .ok (.istore_n 1, 1) := by decide +kernel
theorem dX6_keep_13 : decode cX6_keep 13 = .ok (.iload_n 1, 1) := by decide +kernel
theorem dX6_keep_14 : decode cX6_keep 14 = .ok (.bipush 55, 2) := by decide +kernel
theorem dX6_keep_16 : decode cX6_keep 16 = .ok (.if_icmp .ge 29, 3) := by decide +kernel
theorem dX6_keep_19 : decode cX6_keep 19 = .ok (.aload_n 0, 1) := by decide +kernel
theorem dX6_keep_20 : decode cX6_keep 20 = .ok (.getfield 25, 3) := by decide +kernel
theorem dX6_keep_23 : decode cX6_keep 23 = .ok (.bipush 55, 2) := by decide +kernel
theorem dX6_keep_25 : decode cX6_keep 25 = .ok (.aload_n 0, 1) := by decide +kernel
theorem dX6_keep_26 : decode cX6_keep 26 = .ok (.getfield 91, 3) := by decide +kernel
theorem dX6_keep_29 : decode cX6_keep 29 = .ok (.imul, 1) := by decide +kernel
theorem dX6_keep_30 : decode cX6_keep 30 = .ok (.iload_n 1, 1) := by decide +kernel
theorem dX6_keep_31 : decode cX6_keep 31 = .ok (.iadd, 1) := by decide +kernel
theorem dX6_keep_32 : decode cX6_keep 32 = .ok (.aload_n 0, 1) := by decide +kernel
theorem dX6_keep_33 : decode cX6_keep 33 = .ok (.getfield 19, 3) := by decide +kernel
theorem dX6_keep_36 : decode cX6_keep 36 = .ok (.iload_n 1, 1) := by decide +kernel
theorem dX6_keep_37 : decode cX6_keep 37 = .ok (.iaload, 1) := by decide +kernel
theorem dX6_keep_38 : decode cX6_keep 38 = .ok (.iastore, 1) := by decide +kernel
theorem dX6_keep_39 : decode cX6_keep 39 = .ok (.iinc 1 1, 3) := by decide +kernel
theorem dX6_keep_42 : decode cX6_keep 42 = .ok (.goto (-29), 3) := by decide +kernel
theorem dX6_keep_45 : decode cX6_keep 45 = .ok (.aload_n 0, 1) := by decide +kernel
theorem dX6_keep_46 : decode cX6_keep 46 = .ok (.dup, 1) := by decide +kernel
theorem dX6_keep_47 : decode cX6_keep 47 = .ok (.getfield 91, 3) := by decide +kernel
theorem dX6_keep_50 : decode cX6_keep 50 = .ok (.iconst 1, 1) := by decide +kernel
theorem dX6_keep_51 : decode cX6_keep 51 = .ok (.iadd, 1) := by decide +kernel
theorem dX6_keep_52 : decode cX6_keep 52 = .ok (.putfield 91, 3) := by decide +kernel
theorem dX6_keep_55 : decode cX6_keep 55 = .ok (.aload_n 0, 1) := by decide +kernel
theorem dX6_keep_56 : decode cX6_keep 56 = .ok (.getfield 91, 3) := by decide +kernel
theorem dX6_keep_59 : decode cX6_keep 59 = .ok (.ireturn, 1) := by decide +kernel
theorem dX6_back_0 : decode cX6_back 0 = .ok (.aload_n 0, 1) := by decide +kernel
theorem dX6_back_1 : decode cX6_back 1 = .ok (.getfield 91, 3) := by decide +kernel
theorem dX6_back_4 : decode cX6_back 4 = .ok (.ifCond .ne 6, 3) := by decide +kernel
theorem dX6_back_7 : decode cX6_back 7 = .ok (.bipush (-2), 2) := by decide +kernel
theorem dX6_back_9 : decode cX6_back 9 = .ok (.ireturn, 1) := by decide +kernel
theorem dX6_back_10 : decode cX6_back 10 = .ok (.aload_n 0, 1) := by decide +kernel
theorem dX6_back_11 : decode cX6_back 11 = .ok (.dup, 1) := by decide +kernel
theorem dX6_back_12 : decode cX6_back 12 = .ok (.getfield 91, 3) := by decide +kernel
theorem dX6_back_15 : decode cX6_back 15 = .ok (.iconst 1, 1) := by decide +kernel
theorem dX6_back_16 : decode cX6_back 16 = .ok (.isub, 1) := by decide +kernel
theorem dX6_back_17 : decode cX6_back 17 = .ok (.putfield 91, 3) := by decide +kernel
theorem dX6_back_20 : decode cX6_back 20 = .ok (.iconst 0, 1) := by decide +kernel
theorem dX6_back_21 : decode cX6_back 21 = .ok (.istore_n 1, 1) := by decide +kernel
theorem dX6_back_22 : decode cX6_back 22 = .ok (.iload_n 1, 1) := by decide +kernel
theorem dX6_back_23 : decode cX6_back 23 = .ok (.bipush 55, 2) := by decide +kernel
theorem dX6_back_25 : decode cX6_back 25 = .ok (.if_icmp .ge 29, 3) := by decide +kernel
theorem dX6_back_28 : decode cX6_back 28 = .ok (.aload_n 0, 1) := by decide +kernel
theorem dX6_back_29 : decode cX6_back 29 = .ok (.getfield 19, 3) := by decide +kernel
theorem dX6_back_32 : decode cX6_back 32 = .ok (.iload_n 1, 1) := by decide +kernel
theorem dX6_back_33 : decode cX6_back 33 = .ok (.aload_n 0, 1) := by decide +kernel
theorem dX6_back_34 : decode cX6_back 34 = .ok (.getfield 25, 3) := by decide +kernel
theorem dX6_back_37 : decode cX6_back 37 = .ok (.bipush 55, 2) := by decide +kernel
theorem dX6_back_39 : decode cX6_back 39 = .ok (.aload_n 0, 1) := by decide +kernel
theorem dX6_back_40 : decode cX6_back 40 = .ok (.getfield 91, 3) := by decide +kernel
theorem dX6_back_43 : decode cX6_back 43 = .ok (.imul, 1) := by decide +kernel
theorem dX6_back_44 : decode cX6_back 44 = .ok (.iload_n 1, 1) := by decide +kernel
theorem dX6_back_45 : decode cX6_back 45 = .ok (.iadd, 1) := by decide +kernel
theorem dX6_back_46 : decode cX6_back 46 = .ok (.iaload, 1) := by decide +kernel
theorem dX6_back_47 : decode cX6_back 47 = .ok (.iastore, 1) := by decide +kernel
theorem dX6_back_48 : decode cX6_back 48 = .ok (.iinc 1 1, 3) := by decide +kernel
theorem dX6_back_51 : decode cX6_back 51 = .ok (.goto (-29), 3) := by decide +kernel
theorem dX6_back_54 : decode cX6_back 54 = .ok (.aload_n 0, 1) := by decide +kernel
theorem dX6_back_55 : decode cX6_back 55 = .ok (.iconst 0, 1) := by decide +kernel
theorem dX6_back_56 : decode cX6_back 56 = .ok (.putfield 88, 3) := by decide +kernel
theorem dX6_back_59 : decode cX6_back 59 = .ok (.aload_n 0, 1) := by decide +kernel
theorem dX6_back_60 : decode cX6_back 60 = .ok (.getfield 91, 3) := by decide +kernel
theorem dX6_back_63 : decode cX6_back 63 = .ok (.ireturn, 1) := by decide +kernel
theorem dX6_count_0 : decode cX6_count 0 = .ok (.iload_n 1, 1) := by decide +kernel
theorem dX6_count_1 : decode cX6_count 1 = .ok (.tableswitch 103 0 8 #[51, 58, 65, 73, 78, 83, 88, 93, 98], 51) := by decide +kernel
theorem dX6_count_52 : decode cX6_count 52 = .ok (.aload_n 0, 1) := by decide +kernel
theorem dX6_count_53 : decode cX6_count 53 = .ok (.getfield 13, 3) := by decide +kernel
theorem dX6_count_56 : decode cX6_count 56 = .ok (.iconst 0, 1) := by decide +kernel
theorem dX6_count_57 : decode cX6_count 57 = .ok (.iaload, 1) := by decide +kernel
theorem dX6_count_58 : decode cX6_count 58 = .ok (.ireturn, 1) := by decide +kernel
theorem dX6_count_59 : decode cX6_count 59 = .ok (.aload_n 0, 1) := by decide +kernel
theorem dX6_count_60 : decode cX6_count 60 = .ok (.getfield 13, 3) := by decide +kernel
theorem dX6_count_63 : decode cX6_count 63 = .ok (.iconst 1, 1) := by decide +kernel
theorem dX6_count_64 : decode cX6_count 64 = .ok (.iaload, 1) := by decide +kernel
theorem dX6_count_65 : decode cX6_count 65 = .ok (.ireturn, 1) := by decide +kernel
theorem dX6_count_66 : decode cX6_count 66 = .ok (.aload_n 0, 1) := by decide +kernel
theorem dX6_count_67 : decode cX6_count 67 = .ok (.getfield 19, 3) := by decide +kernel
theorem dX6_count_70 : decode cX6_count 70 = .ok (.bipush 54, 2) := by decide +kernel
theorem dX6_count_72 : decode cX6_count 72 = .ok (.iaload, 1) := by decide +kernel
theorem dX6_count_73 : decode cX6_count 73 = .ok (.ireturn, 1) := by decide +kernel
theorem dX6_count_74 : decode cX6_count 74 = .ok (.aload_n 0, 1) := by decide +kernel
theorem dX6_count_75 : decode cX6_count 75 = .ok (.invokevirtual 178, 3) := by decide +kernel
theorem dX6_count_78 : decode cX6_count 78 = .ok (.ireturn, 1) := by decide +kernel
theorem dX6_count_79 : decode cX6_count 79 = .ok (.aload_n 0, 1) := by decide +kernel
theorem dX6_count_80 : decode cX6_count 80 = .ok (.invokevirtual 181, 3) := by decide +kernel
theorem dX6_count_83 : decode cX6_count 83 = .ok (.ireturn, 1) := by decide +kernel
theorem dX6_count_84 : decode cX6_count 84 = .ok (.aload_n 0, 1) := by decide +kernel
theorem dX6_count_85 : decode cX6_count 85 = .ok (.getfield 94, 3) := by decide +kernel
theorem dX6_count_88 : decode cX6_count 88 = .ok (.ireturn, 1) := by decide +kernel
theorem dX6_count_89 : decode cX6_count 89 = .ok (.aload_n 0, 1) := by decide +kernel
theorem dX6_count_90 : decode cX6_count 90 = .ok (.getfield 88, 3) := by decide +kernel
theorem dX6_count_93 : decode cX6_count 93 = .ok (.ireturn, 1) := by decide +kernel
theorem dX6_count_94 : decode cX6_count 94 = .ok (.aload_n 0, 1) := by decide +kernel
theorem dX6_count_95 : decode cX6_count 95 = .ok (.getfield 91, 3) := by decide +kernel
theorem dX6_count_98 : decode cX6_count 98 = .ok (.ireturn, 1) := by decide +kernel
theorem dX6_count_99 : decode cX6_count 99 = .ok (.aload_n 0, 1) := by decide +kernel
theorem dX6_count_100 : decode cX6_count 100 = .ok (.getfield 60, 3) := by decide +kernel
theorem dX6_count_103 : decode cX6_count 103 = .ok (.ireturn, 1) := by decide +kernel
theorem dX6_count_104 : decode cX6_count 104 = .ok (.iconst (-1), 1) := by decide +kernel
theorem dX6_count_105 : decode cX6_count 105 = .ok (.ireturn, 1) := by decide +kernel
theorem dJ9_max_7cf53_0 : decode cJ9_max_7cf53 0 = .ok (.iload_n 0, 1) := by decide +kernel
theorem dJ9_max_7cf53_1 : decode cJ9_max_7cf53 1 = .ok (.iload_n 1, 1) := by decide +kernel
theorem dJ9_max_7cf53_2 : decode cJ9_max_7cf53 2 = .ok (.if_icmp .lt 7, 3) := by decide +kernel
theorem dJ9_max_7cf53_5 : decode cJ9_max_7cf53 5 = .ok (.iload_n 0, 1) := by decide +kernel
theorem dJ9_max_7cf53_6 : decode cJ9_max_7cf53 6 = .ok (.goto 4, 3) := by decide +kernel
theorem dJ9_max_7cf53_9 : decode cJ9_max_7cf53 9 = .ok (.iload_n 1, 1) := by decide +kernel
theorem dJ9_max_7cf53_10 : decode cJ9_max_7cf53 10 = .ok (.ireturn, 1) := by decide +kernel
theorem dJ9_min_7cf53_0 : decode cJ9_min_7cf53 0 = .ok (.iload_n 0, 1) := by decide +kernel
theorem dJ9_min_7cf53_1 : decode cJ9_min_7cf53 1 = .ok (.iload_n 1, 1) := by decide +kernel
theorem dJ9_min_7cf53_2 : decode cJ9_min_7cf53 2 = .ok (.if_icmp .gt 7, 3) := by decide +kernel
theorem dJ9_min_7cf53_5 : decode cJ9_min_7cf53 5 = .ok (.iload_n 0, 1) := by decide +kernel
theorem dJ9_min_7cf53_6 : decode cJ9_min_7cf53 6 = .ok (.goto 4, 3) := by decide +kernel
theorem dJ9_min_7cf53_9 : decode cJ9_min_7cf53 9 = .ok (.iload_n 1, 1) := by decide +kernel
theorem dJ9_min_7cf53_10 : decode cJ9_min_7cf53 10 = .ok (.ireturn, 1) := by decide +kernel
theorem dJ0_length_8abf5_0 : decode cJ0_length_8abf5 0 = .ok (.aload_n 0, 1) := by decide +kernel
theorem dJ0_length_8abf5_1 : decode cJ0_length_8abf5 1 = .ok (.getfield 9, 3) := by decide +kernel
theorem dJ0_length_8abf5_4 : decode cJ0_length_8abf5 4 = .ok (.arraylength, 1) := by decide +kernel
theorem dJ0_length_8abf5_5 : decode cJ0_length_8abf5 5 = .ok (.aload_n 0, 1) := by decide +kernel
theorem dJ0_length_8abf5_6 : decode cJ0_length_8abf5 6 = .ok (.invokevirtual 335, 3) := by decide +kernel
theorem dJ0_length_8abf5_9 : decode cJ0_length_8abf5 9 = .ok (.ishr, 1) := by decide +kernel
theorem dJ0_length_8abf5_10 : decode cJ0_length_8abf5 10 = .ok (.ireturn, 1) := by decide +kernel
theorem dJ0_charAt_5068e_0 : decode cJ0_charAt_5068e 0 = .ok (.aload_n 0, 1) := by decide +kernel
theorem dJ0_charAt_5068e_1 : decode cJ0_charAt_5068e 1 = .ok (.invokevirtual 492, 3) := by decide +kernel
theorem dJ0_charAt_5068e_4 : decode cJ0_charAt_5068e 4 = .ok (.ifCond .eq 12, 3) := by decide +kernel
theorem dJ0_charAt_5068e_7 : decode cJ0_charAt_5068e 7 = .ok (.aload_n 0, 1) := by decide +kernel
theorem dJ0_charAt_5068e_8 : decode cJ0_charAt_5068e 8 = .ok (.getfield 9, 3) := by decide +kernel
theorem dJ0_charAt_5068e_11 : decode cJ0_charAt_5068e 11 = .ok (.iload_n 1, 1) := by decide +kernel
theorem dJ0_charAt_5068e_12 : decode cJ0_charAt_5068e 12 = .ok (.invokestatic 495, 3) := by decide +kernel
theorem dJ0_charAt_5068e_15 : decode cJ0_charAt_5068e 15 = .ok (.ireturn, 1) := by decide +kernel
theorem dJ0_charAt_5068e_16 : decode cJ0_charAt_5068e 16 = .ok (.aload_n 0, 1) := by decide +kernel
theorem dJ0_charAt_5068e_17 : decode cJ0_charAt_5068e 17 = .ok (.getfield 9, 3) := by decide +kernel
theorem dJ0_charAt_5068e_20 : decode cJ0_charAt_5068e 20 = .ok (.iload_n 1, 1) := by decide +kernel
theorem dJ0_charAt_5068e_21 : decode cJ0_charAt_5068e 21 = .ok (.invokestatic 498, 3) := by decide +kernel
theorem dJ0_charAt_5068e_24 : decode cJ0_charAt_5068e 24 = .ok (.ireturn, 1) := by decide +kernel
theorem dJ0_coder_7d493_0 : decode cJ0_coder_7d493 0 = .ok (.getstatic 38, 3) := by decide +kernel
theorem dJ0_coder_7d493_3 : decode cJ0_coder_7d493 3 = .ok (.ifCond .eq 10, 3) := by decide +kernel
theorem dJ0_coder_7d493_6 : decode cJ0_coder_7d493 6 = .ok (.aload_n 0, 1) := by decide +kernel
theorem dJ0_coder_7d493_7 : decode cJ0_coder_7d493 7 = .ok (.getfield 15, 3) := by decide +kernel
theorem dJ0_coder_7d493_10 : decode cJ0_coder_7d493 10 = .ok (.goto 4, 3) := by decide +kernel
theorem dJ0_coder_7d493_13 : decode cJ0_coder_7d493 13 = .ok (.iconst 1, 1) := by decide +kernel
theorem dJ0_coder_7d493_14 : decode cJ0_coder_7d493 14 = .ok (.ireturn, 1) := by decide +kernel
theorem dJ0_isLatin1_aae02_0 : decode cJ0_isLatin1_aae02 0 = .ok (.getstatic 38, 3) := by decide +kernel
theorem dJ0_isLatin1_aae02_3 : decode cJ0_isLatin1_aae02 3 = .ok (.ifCond .eq 14, 3) := by decide +kernel
theorem dJ0_isLatin1_aae02_6 : decode cJ0_isLatin1_aae02 6 = .ok (.aload_n 0, 1) := by decide +kernel
theorem dJ0_isLatin1_aae02_7 : decode cJ0_isLatin1_aae02 7 = .ok (.getfield 15, 3) := by decide +kernel
theorem dJ0_isLatin1_aae02_10 : decode cJ0_isLatin1_aae02 10 = .ok (.ifCond .ne 7, 3) := by decide +kernel
theorem dJ0_isLatin1_aae02_13 : decode cJ0_isLatin1_aae02 13 = .ok (.iconst 1, 1) := by decide +kernel
theorem dJ0_isLatin1_aae02_14 : decode cJ0_isLatin1_aae02 14 = .ok (.goto 4, 3) := by decide +kernel
theorem dJ0_isLatin1_aae02_17 : decode cJ0_isLatin1_aae02 17 = .ok (.iconst 0, 1) := by decide +kernel
theorem dJ0_isLatin1_aae02_18 : decode cJ0_isLatin1_aae02 18 = .ok (.ireturn, 1) := by decide +kernel
theorem dJ0_checkIndex_df160_0 : decode cJ0_checkIndex_df160 0 = .ok (.iload_n 0, 1) := by decide +kernel
theorem dJ0_checkIndex_df160_1 : decode cJ0_checkIndex_df160 1 = .ok (.iload_n 1, 1) := by decide +kernel
theorem dJ0_checkIndex_df160_2 : decode cJ0_checkIndex_df160 2 = .ok (.getstatic 1053, 3) := by decide +kernel
theorem dJ0_checkIndex_df160_5 : decode cJ0_checkIndex_df160 5 = .ok (.invokestatic 1059, 3) := by decide +kernel
theorem dJ0_checkIndex_df160_8 : decode cJ0_checkIndex_df160 8 = .ok (.pop, 1) := by decide +kernel
theorem dJ0_checkIndex_df160_9 : decode cJ0_checkIndex_df160 9 = .ok (.return_, 1) := by decide +kernel
theorem dJ1_charAt_3b067_0 : decode cJ1_charAt_3b067 0 = .ok (.iload_n 1, 1) := by decide +kernel
theorem dJ1_charAt_3b067_1 : decode cJ1_charAt_3b067 1 = .ok (.aload_n 0, 1) := by decide +kernel
theorem dJ1_charAt_3b067_2 : decode cJ1_charAt_3b067 2 = .ok (.arraylength, 1) := by decide +kernel
theorem dJ1_charAt_3b067_3 : decode cJ1_charAt_3b067 3 = .ok (.invokestatic 9, 3) := by decide +kernel
theorem dJ1_charAt_3b067_6 : decode cJ1_charAt_3b067 6 = .ok (.aload_n 0, 1) := by decide +kernel
theorem dJ1_charAt_3b067_7 : decode cJ1_charAt_3b067 7 = .ok (.iload_n 1, 1) := by decide +kernel
theorem dJ1_charAt_3b067_8 : decode cJ1_charAt_3b067 8 = .ok (.baload, 1) := by decide +kernel
theorem dJ1_charAt_3b067_9 : decode cJ1_charAt_3b067 9 = .ok (.sipush 255, 3) := by decide +kernel
theorem dJ1_charAt_3b067_12 : decode cJ1_charAt_3b067 12 = .ok (.iand, 1) := by decide +kernel
theorem dJ1_charAt_3b067_13 : decode cJ1_charAt_3b067 13 = .ok (.i2c, 1) := by decide +kernel
theorem dJ1_charAt_3b067_14 : decode cJ1_charAt_3b067 14 = .ok (.ireturn, 1) := by decide +kernel
theorem dJ2_getChar_3b067_0 : decode cJ2_getChar_3b067 0 = .ok (.getstatic 44, 3) := by decide +kernel
theorem dJ2_getChar_3b067_3 : decode cJ2_getChar_3b067 3 = .ok (.ifCond .ne 25, 3) := by decide +kernel
theorem dJ2_getChar_3b067_6 : decode cJ2_getChar_3b067 6 = .ok (.iload_n 1, 1) := by decide +kernel
theorem dJ2_getChar_3b067_7 : decode cJ2_getChar_3b067 7 = .ok (.ifCond .lt 11, 3) := by decide +kernel
theorem dJ2_getChar_3b067_10 : decode cJ2_getChar_3b067 10 = .ok (.iload_n 1, 1) := by decide +kernel
theorem dJ2_getChar_3b067_11 : decode cJ2_getChar_3b067 11 = .ok (.aload_n 0, 1) := by decide +kernel
theorem dJ2_getChar_3b067_12 : decode cJ2_getChar_3b067 12 = .ok (.invokestatic 48, 3) := by decide +kernel
theorem dJ2_getChar_3b067_15 : decode cJ2_getChar_3b067 15 = .ok (.if_icmp .lt 13, 3) := by decide +kernel
theorem dJ2_getChar_3b067_18 : decode cJ2_getChar_3b067 18 = .ok (.new 52, 3) := by decide +kernel
theorem dJ2_getChar_3b067_21 : decode cJ2_getChar_3b067 21 = .ok (.dup, 1) := by decide +kernel
theorem dJ2_getChar_3b067_22 : decode cJ2_getChar_3b067 22 = .ok (.ldc 54, 2) := by decide +kernel
theorem dJ2_getChar_3b067_24 : decode cJ2_getChar_3b067 24 = .ok (.invokespecial 56, 3) := by decide +kernel
theorem dJ2_getChar_3b067_27 : decode cJ2_getChar_3b067 27 = .ok (.athrow, 1) := by decide +kernel
theorem dJ2_getChar_3b067_28 : decode cJ2_getChar_3b067 28 = .ok (.iload_n 1, 1) := by decide +kernel
theorem dJ2_getChar_3b067_29 : decode cJ2_getChar_3b067 29 = .ok (.iconst 1, 1) := by decide +kernel
theorem dJ2_getChar_3b067_30 : decode cJ2_getChar_3b067 30 = .ok (.ishl, 1) := by decide +kernel
theorem dJ2_getChar_3b067_31 : decode cJ2_getChar_3b067 31 = .ok (.istore_n 1, 1) := by decide +kernel
theorem dJ2_getChar_3b067_32 : decode cJ2_getChar_3b067 32 = .ok (.aload_n 0, 1) := by decide +kernel
theorem dJ2_getChar_3b067_33 : decode cJ2_getChar_3b067 33 = .ok (.iload_n 1, 1) := by decide +kernel
theorem dJ2_getChar_3b067_34 : decode cJ2_getChar_3b067 34 = .ok (.iinc 1 1, 3) := by decide +kernel
theorem dJ2_getChar_3b067_37 : decode cJ2_getChar_3b067 37 = .ok (.baload, 1) := by decide +kernel
theorem dJ2_getChar_3b067_38 : decode cJ2_getChar_3b067 38 = .ok (.sipush 255, 3) := by decide +kernel
theorem dJ2_getChar_3b067_41 : decode cJ2_getChar_3b067 41 = .ok (.iand, 1) := by decide +kernel
theorem dJ2_getChar_3b067_42 : decode cJ2_getChar_3b067 42 = .ok (.getstatic 59, 3) := by decide +kernel
theorem dJ2_getChar_3b067_45 : decode cJ2_getChar_3b067 45 = .ok (.ishl, 1) := by decide +kernel
theorem dJ2_getChar_3b067_46 : decode cJ2_getChar_3b067 46 = .ok (.aload_n 0, 1) := by decide +kernel
theorem dJ2_getChar_3b067_47 : decode cJ2_getChar_3b067 47 = .ok (.iload_n 1, 1) := by decide +kernel
theorem dJ2_getChar_3b067_48 : decode cJ2_getChar_3b067 48 = .ok (.baload, 1) := by decide +kernel
theorem dJ2_getChar_3b067_49 : decode cJ2_getChar_3b067 49 = .ok (.sipush 255, 3) := by decide +kernel
theorem dJ2_getChar_3b067_52 : decode cJ2_getChar_3b067 52 = .ok (.iand, 1) := by decide +kernel
theorem dJ2_getChar_3b067_53 : decode cJ2_getChar_3b067 53 = .ok (.getstatic 63, 3) := by decide +kernel
theorem dJ2_getChar_3b067_56 : decode cJ2_getChar_3b067 56 = .ok (.ishl, 1) := by decide +kernel
theorem dJ2_getChar_3b067_57 : decode cJ2_getChar_3b067 57 = .ok (.ior, 1) := by decide +kernel
theorem dJ2_getChar_3b067_58 : decode cJ2_getChar_3b067 58 = .ok (.i2c, 1) := by decide +kernel
theorem dJ2_getChar_3b067_59 : decode cJ2_getChar_3b067 59 = .ok (.ireturn, 1) := by decide +kernel
theorem dJ2_length_9d52b_0 : decode cJ2_length_9d52b 0 = .ok (.aload_n 0, 1) := by decide +kernel
theorem dJ2_length_9d52b_1 : decode cJ2_length_9d52b 1 = .ok (.arraylength, 1) := by decide +kernel
theorem dJ2_length_9d52b_2 : decode cJ2_length_9d52b 2 = .ok (.iconst 1, 1) := by decide +kernel
theorem dJ2_length_9d52b_3 : decode cJ2_length_9d52b 3 = .ok (.ishr, 1) := by decide +kernel
theorem dJ2_length_9d52b_4 : decode cJ2_length_9d52b 4 = .ok (.ireturn, 1) := by decide +kernel
theorem dJ2_charAt_3b067_0 : decode cJ2_charAt_3b067 0 = .ok (.iload_n 1, 1) := by decide +kernel
theorem dJ2_charAt_3b067_1 : decode cJ2_charAt_3b067 1 = .ok (.aload_n 0, 1) := by decide +kernel
theorem dJ2_charAt_3b067_2 : decode cJ2_charAt_3b067 2 = .ok (.invokestatic 67, 3) := by decide +kernel
theorem dJ2_charAt_3b067_5 : decode cJ2_charAt_3b067 5 = .ok (.aload_n 0, 1) := by decide +kernel
theorem dJ2_charAt_3b067_6 : decode cJ2_charAt_3b067 6 = .ok (.iload_n 1, 1) := by decide +kernel
theorem dJ2_charAt_3b067_7 : decode cJ2_charAt_3b067 7 = .ok (.invokestatic 71, 3) := by decide +kernel
theorem dJ2_charAt_3b067_10 : decode cJ2_charAt_3b067 10 = .ok (.ireturn, 1) := by decide +kernel
theorem dJ2_checkIndex_2214a_0 : decode cJ2_checkIndex_2214a 0 = .ok (.iload_n 0, 1) := by decide +kernel
theorem dJ2_checkIndex_2214a_1 : decode cJ2_checkIndex_2214a 1 = .ok (.aload_n 1, 1) := by decide +kernel
theorem dJ2_checkIndex_2214a_2 : decode cJ2_checkIndex_2214a 2 = .ok (.invokestatic 48, 3) := by decide +kernel
theorem dJ2_checkIndex_2214a_5 : decode cJ2_checkIndex_2214a 5 = .ok (.invokestatic 414, 3) := by decide +kernel
theorem dJ2_checkIndex_2214a_8 : decode cJ2_checkIndex_2214a 8 = .ok (.return_, 1) := by decide +kernel
theorem dJ7_fill_53178_0 : decode cJ7_fill_53178 0 = .ok (.iconst 0, 1) := by decide +kernel
theorem dJ7_fill_53178_1 : decode cJ7_fill_53178 1 = .ok (.istore_n 2, 1) := by decide +kernel
theorem dJ7_fill_53178_2 : decode cJ7_fill_53178 2 = .ok (.aload_n 0, 1) := by decide +kernel
theorem dJ7_fill_53178_3 : decode cJ7_fill_53178 3 = .ok (.arraylength, 1) := by decide +kernel
theorem dJ7_fill_53178_4 : decode cJ7_fill_53178 4 = .ok (.istore_n 3, 1) := by decide +kernel
theorem dJ7_fill_53178_5 : decode cJ7_fill_53178 5 = .ok (.iload_n 2, 1) := by decide +kernel
theorem dJ7_fill_53178_6 : decode cJ7_fill_53178 6 = .ok (.iload_n 3, 1) := by decide +kernel
theorem dJ7_fill_53178_7 : decode cJ7_fill_53178 7 = .ok (.if_icmp .ge 13, 3) := by decide +kernel
theorem dJ7_fill_53178_10 : decode cJ7_fill_53178 10 = .ok (.aload_n 0, 1) := by decide +kernel
theorem dJ7_fill_53178_11 : decode cJ7_fill_53178 11 = .ok (.iload_n 2, 1) := by decide +kernel
theorem dJ7_fill_53178_12 : decode cJ7_fill_53178 12 = .ok (.iload_n 1, 1) := by decide +kernel
theorem dJ7_fill_53178_13 : decode cJ7_fill_53178 13 = .ok (.iastore, 1) := by decide +kernel
theorem dJ7_fill_53178_14 : decode cJ7_fill_53178 14 = .ok (.iinc 2 1, 3) := by decide +kernel
theorem dJ7_fill_53178_17 : decode cJ7_fill_53178 17 = .ok (.goto (-12), 3) := by decide +kernel
theorem dJ7_fill_53178_20 : decode cJ7_fill_53178 20 = .ok (.return_, 1) := by decide +kernel
theorem dJ3_checkIndex_8e157_0 : decode cJ3_checkIndex_8e157 0 = .ok (.iload_n 0, 1) := by decide +kernel
theorem dJ3_checkIndex_8e157_1 : decode cJ3_checkIndex_8e157 1 = .ok (.ifCond .lt 8, 3) := by decide +kernel
theorem dJ3_checkIndex_8e157_4 : decode cJ3_checkIndex_8e157 4 = .ok (.iload_n 0, 1) := by decide +kernel
theorem dJ3_checkIndex_8e157_5 : decode cJ3_checkIndex_8e157 5 = .ok (.iload_n 1, 1) := by decide +kernel
theorem dJ3_checkIndex_8e157_6 : decode cJ3_checkIndex_8e157 6 = .ok (.if_icmp .lt 10, 3) := by decide +kernel
theorem dJ3_checkIndex_8e157_9 : decode cJ3_checkIndex_8e157 9 = .ok (.aload_n 2, 1) := by decide +kernel
theorem dJ3_checkIndex_8e157_10 : decode cJ3_checkIndex_8e157 10 = .ok (.iload_n 0, 1) := by decide +kernel
theorem dJ3_checkIndex_8e157_11 : decode cJ3_checkIndex_8e157 11 = .ok (.iload_n 1, 1) := by decide +kernel
theorem dJ3_checkIndex_8e157_12 : decode cJ3_checkIndex_8e157 12 = .ok (.invokestatic 95, 3) := by decide +kernel
theorem dJ3_checkIndex_8e157_15 : decode cJ3_checkIndex_8e157 15 = .ok (.athrow, 1) := by decide +kernel
theorem dJ3_checkIndex_8e157_16 : decode cJ3_checkIndex_8e157 16 = .ok (.iload_n 0, 1) := by decide +kernel
theorem dJ3_checkIndex_8e157_17 : decode cJ3_checkIndex_8e157 17 = .ok (.ireturn, 1) := by decide +kernel
theorem dL_law_0 : decode cL_law 0 = .ok (.new 7, 3) := by decide +kernel
theorem dL_law_3 : decode cL_law 3 = .ok (.dup, 1) := by decide +kernel
theorem dL_law_4 : decode cL_law 4 = .ok (.invokespecial 9, 3) := by decide +kernel
theorem dL_law_7 : decode cL_law 7 = .ok (.astore_n 1, 1) := by decide +kernel
theorem dL_law_8 : decode cL_law 8 = .ok (.new 10, 3) := by decide +kernel
theorem dL_law_11 : decode cL_law 11 = .ok (.dup, 1) := by decide +kernel
theorem dL_law_12 : decode cL_law 12 = .ok (.invokespecial 12, 3) := by decide +kernel
theorem dL_law_15 : decode cL_law 15 = .ok (.astore_n 2, 1) := by decide +kernel
theorem dL_law_16 : decode cL_law 16 = .ok (.iconst 0, 1) := by decide +kernel
theorem dL_law_17 : decode cL_law 17 = .ok (.istore_n 3, 1) := by decide +kernel
theorem dL_law_18 : decode cL_law 18 = .ok (.iload_n 3, 1) := by decide +kernel
theorem dL_law_19 : decode cL_law 19 = .ok (.aload_n 0, 1) := by decide +kernel
theorem dL_law_20 : decode cL_law 20 = .ok (.arraylength, 1) := by decide +kernel
theorem dL_law_21 : decode cL_law 21 = .ok (.iconst 4, 1) := by decide +kernel
theorem dL_law_22 : decode cL_law 22 = .ok (.isub, 1) := by decide +kernel
theorem dL_law_23 : decode cL_law 23 = .ok (.if_icmp .gt 833, 3) := by decide +kernel
theorem dL_law_26 : decode cL_law 26 = .ok (.aload_n 0, 1) := by decide +kernel
theorem dL_law_27 : decode cL_law 27 = .ok (.iload_n 3, 1) := by decide +kernel
theorem dL_law_28 : decode cL_law 28 = .ok (.iaload, 1) := by decide +kernel
theorem dL_law_29 : decode cL_law 29 = .ok (.bipush 31, 2) := by decide +kernel
theorem dL_law_31 : decode cL_law 31 = .ok (.iand, 1) := by decide +kernel
theorem dL_law_32 : decode cL_law 32 = .ok (.tableswitch 818 0 25 #[120, 143, 156, 169, 182, 215, 248, 291, 334, 347, 390, 403, 436, 459, 472, 515, 548, 571, 614, 627, 650, 693, 726, 769, 782, 795], 120) := by decide +kernel
theorem dL_law_152 : decode cL_law 152 = .ok (.aload_n 1, 1) := by decide +kernel
theorem dL_law_153 : decode cL_law 153 = .ok (.aload_n 0, 1) := by decide +kernel
theorem dL_law_154 : decode cL_law 154 = .ok (.iload_n 3, 1) := by decide +kernel
theorem dL_law_155 : decode cL_law 155 = .ok (.iconst 1, 1) := by decide +kernel
theorem dL_law_156 : decode cL_law 156 = .ok (.iadd, 1) := by decide +kernel
theorem dL_law_157 : decode cL_law 157 = .ok (.iaload, 1) := by decide +kernel
theorem dL_law_158 : decode cL_law 158 = .ok (.invokevirtual 13, 3) := by decide +kernel
theorem dL_law_161 : decode cL_law 161 = .ok (.aload_n 2, 1) := by decide +kernel
theorem dL_law_162 : decode cL_law 162 = .ok (.aload_n 0, 1) := by decide +kernel
theorem dL_law_163 : decode cL_law 163 = .ok (.iload_n 3, 1) := by decide +kernel
theorem dL_law_164 : decode cL_law 164 = .ok (.iconst 1, 1) := by decide +kernel
theorem dL_law_165 : decode cL_law 165 = .ok (.iadd, 1) := by decide +kernel
theorem dL_law_166 : decode cL_law 166 = .ok (.iaload, 1) := by decide +kernel
theorem dL_law_167 : decode cL_law 167 = .ok (.invokevirtual 17, 3) := by decide +kernel
theorem dL_law_170 : decode cL_law 170 = .ok (.if_icmp .eq 680, 3) := by decide +kernel
theorem dL_law_173 : decode cL_law 173 = .ok (.iconst 0, 1) := by decide +kernel
theorem dL_law_174 : decode cL_law 174 = .ok (.ireturn, 1) := by decide +kernel
theorem dL_law_175 : decode cL_law 175 = .ok (.aload_n 1, 1) := by decide +kernel
theorem dL_law_176 : decode cL_law 176 = .ok (.invokevirtual 18, 3) := by decide +kernel
theorem dL_law_179 : decode cL_law 179 = .ok (.aload_n 2, 1) := by decide +kernel
theorem dL_law_180 : decode cL_law 180 = .ok (.invokevirtual 22, 3) := by decide +kernel
theorem dL_law_183 : decode cL_law 183 = .ok (.if_icmp .eq 667, 3) := by decide +kernel
theorem dL_law_186 : decode cL_law 186 = .ok (.iconst 0, 1) := by decide +kernel
theorem dL_law_187 : decode cL_law 187 = .ok (.ireturn, 1) := by decide +kernel
theorem dL_law_188 : decode cL_law 188 = .ok (.aload_n 1, 1) := by decide +kernel
theorem dL_law_189 : decode cL_law 189 = .ok (.invokevirtual 23, 3) := by decide +kernel
theorem dL_law_192 : decode cL_law 192 = .ok (.aload_n 2, 1) := by decide +kernel
theorem dL_law_193 : decode cL_law 193 = .ok (.invokevirtual 26, 3) := by decide +kernel
theorem dL_law_196 : decode cL_law 196 = .ok (.if_icmp .eq 654, 3) := by decide +kernel
theorem dL_law_199 : decode cL_law 199 = .ok (.iconst 0, 1) := by decide +kernel
theorem dL_law_200 : decode cL_law 200 = .ok (.ireturn, 1) := by decide +kernel
theorem dL_law_201 : decode cL_law 201 = .ok (.aload_n 1, 1) := by decide +kernel
theorem dL_law_202 : decode cL_law 202 = .ok (.invokevirtual 27, 3) := by decide +kernel
theorem dL_law_205 : decode cL_law 205 = .ok (.aload_n 2, 1) := by decide +kernel
theorem dL_law_206 : decode cL_law 206 = .ok (.invokevirtual 30, 3) := by decide +kernel
theorem dL_law_209 : decode cL_law 209 = .ok (.if_icmp .eq 641, 3) := by decide +kernel
theorem dL_law_212 : decode cL_law 212 = .ok (.iconst 0, 1) := by decide +kernel
theorem dL_law_213 : decode cL_law 213 = .ok (.ireturn, 1) := by decide +kernel
theorem dL_law_214 : decode cL_law 214 = .ok (.aload_n 1, 1) := by decide +kernel
theorem dL_law_215 : decode cL_law 215 = .ok (.aload_n 0, 1) := by decide +kernel
theorem dL_law_216 : decode cL_law 216 = .ok (.iload_n 3, 1) := by decide +kernel
theorem dL_law_217 : decode cL_law 217 = .ok (.iconst 1, 1) := by decide +kernel
theorem dL_law_218 : decode cL_law 218 = .ok (.iadd, 1) := by decide +kernel
theorem dL_law_219 : decode cL_law 219 = .ok (.iaload, 1) := by decide +kernel
theorem dL_law_220 : decode cL_law 220 = .ok (.aload_n 0, 1) := by decide +kernel
theorem dL_law_221 : decode cL_law 221 = .ok (.iload_n 3, 1) := by decide +kernel
theorem dL_law_222 : decode cL_law 222 = .ok (.iconst 2, 1) := by decide +kernel
theorem dL_law_223 : decode cL_law 223 = .ok (.iadd, 1) := by decide +kernel
theorem dL_law_224 : decode cL_law 224 = .ok (.iaload, 1) := by decide +kernel
theorem dL_law_225 : decode cL_law 225 = .ok (.invokevirtual 31, 3) := by decide +kernel
theorem dL_law_228 : decode cL_law 228 = .ok (.aload_n 2, 1) := by decide +kernel
theorem dL_law_229 : decode cL_law 229 = .ok (.aload_n 0, 1) := by decide +kernel
theorem dL_law_230 : decode cL_law 230 = .ok (.iload_n 3, 1) := by decide +kernel
theorem dL_law_231 : decode cL_law 231 = .ok (.iconst 1, 1) := by decide +kernel
theorem dL_law_232 : decode cL_law 232 = .ok (.iadd, 1) := by decide +kernel
theorem dL_law_233 : decode cL_law 233 = .ok (.iaload, 1) := by decide +kernel
theorem dL_law_234 : decode cL_law 234 = .ok (.aload_n 0, 1) := by decide +kernel
theorem dL_law_235 : decode cL_law 235 = .ok (.iload_n 3, 1) := by decide +kernel
theorem dL_law_236 : decode cL_law 236 = .ok (.iconst 2, 1) := by decide +kernel
theorem dL_law_237 : decode cL_law 237 = .ok (.iadd, 1) := by decide +kernel
theorem dL_law_238 : decode cL_law 238 = .ok (.iaload, 1) := by decide +kernel
theorem dL_law_239 : decode cL_law 239 = .ok (.invokevirtual 35, 3) := by decide +kernel
theorem dL_law_242 : decode cL_law 242 = .ok (.if_icmp .eq 608, 3) := by decide +kernel
theorem dL_law_245 : decode cL_law 245 = .ok (.iconst 0, 1) := by decide +kernel
theorem dL_law_246 : decode cL_law 246 = .ok (.ireturn, 1) := by decide +kernel
theorem dL_law_247 : decode cL_law 247 = .ok (.aload_n 1, 1) := by decide +kernel
theorem dL_law_248 : decode cL_law 248 = .ok (.aload_n 0, 1) := by decide +kernel
theorem dL_law_249 : decode cL_law 249 = .ok (.iload_n 3, 1) := by decide +kernel
theorem dL_law_250 : decode cL_law 250 = .ok (.iconst 1, 1) := by decide +kernel
theorem dL_law_251 : decode cL_law 251 = .ok (.iadd, 1) := by decide +kernel
theorem dL_law_252 : decode cL_law 252 = .ok (.iaload, 1) := by decide +kernel
theorem dL_law_253 : decode cL_law 253 = .ok (.aload_n 0, 1) := by decide +kernel
theorem dL_law_254 : decode cL_law 254 = .ok (.iload_n 3, 1) := by decide +kernel
theorem dL_law_255 : decode cL_law 255 = .ok (.iconst 2, 1) := by decide +kernel
theorem dL_law_256 : decode cL_law 256 = .ok (.iadd, 1) := by decide +kernel
theorem dL_law_257 : decode cL_law 257 = .ok (.iaload, 1) := by decide +kernel
theorem dL_law_258 : decode cL_law 258 = .ok (.invokevirtual 36, 3) := by decide +kernel
theorem dL_law_261 : decode cL_law 261 = .ok (.aload_n 2, 1) := by decide +kernel
theorem dL_law_262 : decode cL_law 262 = .ok (.aload_n 0, 1) := by decide +kernel
theorem dL_law_263 : decode cL_law 263 = .ok (.iload_n 3, 1) := by decide +kernel
theorem dL_law_264 : decode cL_law 264 = .ok (.iconst 1, 1) := by decide +kernel
theorem dL_law_265 : decode cL_law 265 = .ok (.iadd, 1) := by decide +kernel
theorem dL_law_266 : decode cL_law 266 = .ok (.iaload, 1) := by decide +kernel
theorem dL_law_267 : decode cL_law 267 = .ok (.aload_n 0, 1) := by decide +kernel
theorem dL_law_268 : decode cL_law 268 = .ok (.iload_n 3, 1) := by decide +kernel
theorem dL_law_269 : decode cL_law 269 = .ok (.iconst 2, 1) := by decide +kernel
theorem dL_law_270 : decode cL_law 270 = .ok (.iadd, 1) := by decide +kernel
theorem dL_law_271 : decode cL_law 271 = .ok (.iaload, 1) := by decide +kernel
theorem dL_law_272 : decode cL_law 272 = .ok (.invokevirtual 39, 3) := by decide +kernel
theorem dL_law_275 : decode cL_law 275 = .ok (.if_icmp .eq 575, 3) := by decide +kernel
theorem dL_law_278 : decode cL_law 278 = .ok (.iconst 0, 1) := by decide +kernel
theorem dL_law_279 : decode cL_law 279 = .ok (.ireturn, 1) := by decide +kernel
theorem dL_law_280 : decode cL_law 280 = .ok (.aload_n 1, 1) := by decide +kernel
theorem dL_law_281 : decode cL_law 281 = .ok (.aload_n 0, 1) := by decide +kernel
theorem dL_law_282 : decode cL_law 282 = .ok (.iload_n 3, 1) := by decide +kernel
theorem dL_law_283 : decode cL_law 283 = .ok (.iconst 1, 1) := by decide +kernel
theorem dL_law_284 : decode cL_law 284 = .ok (.iadd, 1) := by decide +kernel
theorem dL_law_285 : decode cL_law 285 = .ok (.iaload, 1) := by decide +kernel
theorem dL_law_286 : decode cL_law 286 = .ok (.aload_n 0, 1) := by decide +kernel
theorem dL_law_287 : decode cL_law 287 = .ok (.iload_n 3, 1) := by decide +kernel
theorem dL_law_288 : decode cL_law 288 = .ok (.iconst 2, 1) := by decide +kernel
theorem dL_law_289 : decode cL_law 289 = .ok (.iadd, 1) := by decide +kernel
theorem dL_law_290 : decode cL_law 290 = .ok (.iaload, 1) := by decide +kernel
theorem dL_law_291 : decode cL_law 291 = .ok (.aload_n 0, 1) := by decide +kernel
theorem dL_law_292 : decode cL_law 292 = .ok (.iload_n 3, 1) := by decide +kernel
theorem dL_law_293 : decode cL_law 293 = .ok (.iconst 3, 1) := by decide +kernel
theorem dL_law_294 : decode cL_law 294 = .ok (.iadd, 1) := by decide +kernel
theorem dL_law_295 : decode cL_law 295 = .ok (.iaload, 1) := by decide +kernel
theorem dL_law_296 : decode cL_law 296 = .ok (.invokevirtual 40, 3) := by decide +kernel
theorem dL_law_299 : decode cL_law 299 = .ok (.aload_n 2, 1) := by decide +kernel
theorem dL_law_300 : decode cL_law 300 = .ok (.aload_n 0, 1) := by decide +kernel
theorem dL_law_301 : decode cL_law 301 = .ok (.iload_n 3, 1) := by decide +kernel
theorem dL_law_302 : decode cL_law 302 = .ok (.iconst 1, 1) := by decide +kernel
theorem dL_law_303 : decode cL_law 303 = .ok (.iadd, 1) := by decide +kernel
theorem dL_law_304 : decode cL_law 304 = .ok (.iaload, 1) := by decide +kernel
theorem dL_law_305 : decode cL_law 305 = .ok (.aload_n 0, 1) := by decide +kernel
theorem dL_law_306 : decode cL_law 306 = .ok (.iload_n 3, 1) := by decide +kernel
theorem dL_law_307 : decode cL_law 307 = .ok (.iconst 2, 1) := by decide +kernel
theorem dL_law_308 : decode cL_law 308 = .ok (.iadd, 1) := by decide +kernel
theorem dL_law_309 : decode cL_law 309 = .ok (.iaload, 1) := by decide +kernel
theorem dL_law_310 : decode cL_law 310 = .ok (.aload_n 0, 1) := by decide +kernel
theorem dL_law_311 : decode cL_law 311 = .ok (.iload_n 3, 1) := by decide +kernel
theorem dL_law_312 : decode cL_law 312 = .ok (.iconst 3, 1) := by decide +kernel
theorem dL_law_313 : decode cL_law 313 = .ok (.iadd, 1) := by decide +kernel
theorem dL_law_314 : decode cL_law 314 = .ok (.iaload, 1) := by decide +kernel
theorem dL_law_315 : decode cL_law 315 = .ok (.invokevirtual 44, 3) := by decide +kernel
theorem dL_law_318 : decode cL_law 318 = .ok (.if_icmp .eq 532, 3) := by decide +kernel
theorem dL_law_321 : decode cL_law 321 = .ok (.iconst 0, 1) := by decide +kernel
theorem dL_law_322 : decode cL_law 322 = .ok (.ireturn, 1) := by decide +kernel
theorem dL_law_323 : decode cL_law 323 = .ok (.aload_n 1, 1) := by decide +kernel
theorem dL_law_324 : decode cL_law 324 = .ok (.aload_n 0, 1) := by decide +kernel
theorem dL_law_325 : decode cL_law 325 = .ok (.iload_n 3, 1) := by decide +kernel
theorem dL_law_326 : decode cL_law 326 = .ok (.iconst 1, 1) := by decide +kernel
theorem dL_law_327 : decode cL_law 327 = .ok (.iadd, 1) := by decide +kernel
theorem dL_law_328 : decode cL_law 328 = .ok (.iaload, 1) := by decide +kernel
theorem dL_law_329 : decode cL_law 329 = .ok (.aload_n 0, 1) := by decide +kernel
theorem dL_law_330 : decode cL_law 330 = .ok (.iload_n 3, 1) := by decide +kernel
theorem dL_law_331 : decode cL_law 331 = .ok (.iconst 2, 1) := by decide +kernel
theorem dL_law_332 : decode cL_law 332 = .ok (.iadd, 1) := by decide +kernel
theorem dL_law_333 : decode cL_law 333 = .ok (.iaload, 1) := by decide +kernel
theorem dL_law_334 : decode cL_law 334 = .ok (.aload_n 0, 1) := by decide +kernel
theorem dL_law_335 : decode cL_law 335 = .ok (.iload_n 3, 1) := by decide +kernel
theorem dL_law_336 : decode cL_law 336 = .ok (.iconst 3, 1) := by decide +kernel
theorem dL_law_337 : decode cL_law 337 = .ok (.iadd, 1) := by decide +kernel
theorem dL_law_338 : decode cL_law 338 = .ok (.iaload, 1) := by decide +kernel
theorem dL_law_339 : decode cL_law 339 = .ok (.invokevirtual 45, 3) := by decide +kernel
theorem dL_law_342 : decode cL_law 342 = .ok (.aload_n 2, 1) := by decide +kernel
theorem dL_law_343 : decode cL_law 343 = .ok (.aload_n 0, 1) := by decide +kernel
theorem dL_law_344 : decode cL_law 344 = .ok (.iload_n 3, 1) := by decide +kernel
theorem dL_law_345 : decode cL_law 345 = .ok (.iconst 1, 1) := by decide +kernel
theorem dL_law_346 : decode cL_law 346 = .ok (.iadd, 1) := by decide +kernel
theorem dL_law_347 : decode cL_law 347 = .ok (.iaload, 1) := by decide +kernel
theorem dL_law_348 : decode cL_law 348 = .ok (.aload_n 0, 1) := by decide +kernel
theorem dL_law_349 : decode cL_law 349 = .ok (.iload_n 3, 1) := by decide +kernel
theorem dL_law_350 : decode cL_law 350 = .ok (.iconst 2, 1) := by decide +kernel
theorem dL_law_351 : decode cL_law 351 = .ok (.iadd, 1) := by decide +kernel
theorem dL_law_352 : decode cL_law 352 = .ok (.iaload, 1) := by decide +kernel
theorem dL_law_353 : decode cL_law 353 = .ok (.aload_n 0, 1) := by decide +kernel
theorem dL_law_354 : decode cL_law 354 = .ok (.iload_n 3, 1) := by decide +kernel
theorem dL_law_355 : decode cL_law 355 = .ok (.iconst 3, 1) := by decide +kernel
theorem dL_law_356 : decode cL_law 356 = .ok (.iadd, 1) := by decide +kernel
theorem dL_law_357 : decode cL_law 357 = .ok (.iaload, 1) := by decide +kernel
theorem dL_law_358 : decode cL_law 358 = .ok (.invokevirtual 48, 3) := by decide +kernel
theorem dL_law_361 : decode cL_law 361 = .ok (.if_icmp .eq 489, 3) := by decide +kernel
theorem dL_law_364 : decode cL_law 364 = .ok (.iconst 0, 1) := by decide +kernel
theorem dL_law_365 : decode cL_law 365 = .ok (.ireturn, 1) := by decide +kernel
theorem dL_law_366 : decode cL_law 366 = .ok (.aload_n 1, 1) := by decide +kernel
theorem dL_law_367 : decode cL_law 367 = .ok (.invokevirtual 49, 3) := by decide +kernel
theorem dL_law_370 : decode cL_law 370 = .ok (.aload_n 2, 1) := by decide +kernel
theorem dL_law_371 : decode cL_law 371 = .ok (.invokevirtual 52, 3) := by decide +kernel
theorem dL_law_374 : decode cL_law 374 = .ok (.if_icmp .eq 476, 3) := by decide +kernel
theorem dL_law_377 : decode cL_law 377 = .ok (.iconst 0, 1) := by decide +kernel
theorem dL_law_378 : decode cL_law 378 = .ok (.ireturn, 1) := by decide +kernel
theorem dL_law_379 : decode cL_law 379 = .ok (.aload_n 1, 1) := by decide +kernel
theorem dL_law_380 : decode cL_law 380 = .ok (.aload_n 0, 1) := by decide +kernel
theorem dL_law_381 : decode cL_law 381 = .ok (.iload_n 3, 1) := by decide +kernel
theorem dL_law_382 : decode cL_law 382 = .ok (.iconst 1, 1) := by decide +kernel
theorem dL_law_383 : decode cL_law 383 = .ok (.iadd, 1) := by decide +kernel
theorem dL_law_384 : decode cL_law 384 = .ok (.iaload, 1) := by decide +kernel
theorem dL_law_385 : decode cL_law 385 = .ok (.aload_n 0, 1) := by decide +kernel
theorem dL_law_386 : decode cL_law 386 = .ok (.iload_n 3, 1) := by decide +kernel
theorem dL_law_387 : decode cL_law 387 = .ok (.iconst 2, 1) := by decide +kernel
theorem dL_law_388 : decode cL_law 388 = .ok (.iadd, 1) := by decide +kernel
theorem dL_law_389 : decode cL_law 389 = .ok (.iaload, 1) := by decide +kernel
theorem dL_law_390 : decode cL_law 390 = .ok (.aload_n 0, 1) := by decide +kernel
theorem dL_law_391 : decode cL_law 391 = .ok (.iload_n 3, 1) := by decide +kernel
theorem dL_law_392 : decode cL_law 392 = .ok (.iconst 3, 1) := by decide +kernel
theorem dL_law_393 : decode cL_law 393 = .ok (.iadd, 1) := by decide +kernel
theorem dL_law_394 : decode cL_law 394 = .ok (.iaload, 1) := by decide +kernel
theorem dL_law_395 : decode cL_law 395 = .ok (.invokevirtual 53, 3) := by decide +kernel
theorem dL_law_398 : decode cL_law 398 = .ok (.aload_n 2, 1) := by decide +kernel
theorem dL_law_399 : decode cL_law 399 = .ok (.aload_n 0, 1) := by decide +kernel
theorem dL_law_400 : decode cL_law 400 = .ok (.iload_n 3, 1) := by decide +kernel
theorem dL_law_401 : decode cL_law 401 = .ok (.iconst 1, 1) := by decide +kernel
theorem dL_law_402 : decode cL_law 402 = .ok (.iadd, 1) := by decide +kernel
theorem dL_law_403 : decode cL_law 403 = .ok (.iaload, 1) := by decide +kernel
theorem dL_law_404 : decode cL_law 404 = .ok (.aload_n 0, 1) := by decide +kernel
theorem dL_law_405 : decode cL_law 405 = .ok (.iload_n 3, 1) := by decide +kernel
theorem dL_law_406 : decode cL_law 406 = .ok (.iconst 2, 1) := by decide +kernel
theorem dL_law_407 : decode cL_law 407 = .ok (.iadd, 1) := by decide +kernel
theorem dL_law_408 : decode cL_law 408 = .ok (.iaload, 1) := by decide +kernel
theorem dL_law_409 : decode cL_law 409 = .ok (.aload_n 0, 1) := by decide +kernel
theorem dL_law_410 : decode cL_law 410 = .ok (.iload_n 3, 1) := by decide +kernel
theorem dL_law_411 : decode cL_law 411 = .ok (.iconst 3, 1) := by decide +kernel
theorem dL_law_412 : decode cL_law 412 = .ok (.iadd, 1) := by decide +kernel
theorem dL_law_413 : decode cL_law 413 = .ok (.iaload, 1) := by decide +kernel
theorem dL_law_414 : decode cL_law 414 = .ok (.invokevirtual 56, 3) := by decide +kernel
theorem dL_law_417 : decode cL_law 417 = .ok (.if_icmp .eq 433, 3) := by decide +kernel
theorem dL_law_420 : decode cL_law 420 = .ok (.iconst 0, 1) := by decide +kernel
theorem dL_law_421 : decode cL_law 421 = .ok (.ireturn, 1) := by decide +kernel
theorem dL_law_422 : decode cL_law 422 = .ok (.aload_n 1, 1) := by decide +kernel
theorem dL_law_423 : decode cL_law 423 = .ok (.invokevirtual 57, 3) := by decide +kernel
theorem dL_law_426 : decode cL_law 426 = .ok (.aload_n 2, 1) := by decide +kernel
theorem dL_law_427 : decode cL_law 427 = .ok (.invokevirtual 60, 3) := by decide +kernel
theorem dL_law_430 : decode cL_law 430 = .ok (.if_icmp .eq 420, 3) := by decide +kernel
theorem dL_law_433 : decode cL_law 433 = .ok (.iconst 0, 1) := by decide +kernel
theorem dL_law_434 : decode cL_law 434 = .ok (.ireturn, 1) := by decide +kernel
theorem dL_law_435 : decode cL_law 435 = .ok (.aload_n 1, 1) := by decide +kernel
theorem dL_law_436 : decode cL_law 436 = .ok (.aload_n 0, 1) := by decide +kernel
theorem dL_law_437 : decode cL_law 437 = .ok (.iload_n 3, 1) := by decide +kernel
theorem dL_law_438 : decode cL_law 438 = .ok (.iconst 1, 1) := by decide +kernel
theorem dL_law_439 : decode cL_law 439 = .ok (.iadd, 1) := by decide +kernel
theorem dL_law_440 : decode cL_law 440 = .ok (.iaload, 1) := by decide +kernel
theorem dL_law_441 : decode cL_law 441 = .ok (.aload_n 0, 1) := by decide +kernel
theorem dL_law_442 : decode cL_law 442 = .ok (.iload_n 3, 1) := by decide +kernel
theorem dL_law_443 : decode cL_law 443 = .ok (.iconst 2, 1) := by decide +kernel
theorem dL_law_444 : decode cL_law 444 = .ok (.iadd, 1) := by decide +kernel
theorem dL_law_445 : decode cL_law 445 = .ok (.iaload, 1) := by decide +kernel
theorem dL_law_446 : decode cL_law 446 = .ok (.invokevirtual 61, 3) := by decide +kernel
theorem dL_law_449 : decode cL_law 449 = .ok (.aload_n 2, 1) := by decide +kernel
theorem dL_law_450 : decode cL_law 450 = .ok (.aload_n 0, 1) := by decide +kernel
theorem dL_law_451 : decode cL_law 451 = .ok (.iload_n 3, 1) := by decide +kernel
theorem dL_law_452 : decode cL_law 452 = .ok (.iconst 1, 1) := by decide +kernel
theorem dL_law_453 : decode cL_law 453 = .ok (.iadd, 1) := by decide +kernel
theorem dL_law_454 : decode cL_law 454 = .ok (.iaload, 1) := by decide +kernel
theorem dL_law_455 : decode cL_law 455 = .ok (.aload_n 0, 1) := by decide +kernel
theorem dL_law_456 : decode cL_law 456 = .ok (.iload_n 3, 1) := by decide +kernel
theorem dL_law_457 : decode cL_law 457 = .ok (.iconst 2, 1) := by decide +kernel
theorem dL_law_458 : decode cL_law 458 = .ok (.iadd, 1) := by decide +kernel
theorem dL_law_459 : decode cL_law 459 = .ok (.iaload, 1) := by decide +kernel
theorem dL_law_460 : decode cL_law 460 = .ok (.invokevirtual 64, 3) := by decide +kernel
theorem dL_law_463 : decode cL_law 463 = .ok (.if_icmp .eq 387, 3) := by decide +kernel
theorem dL_law_466 : decode cL_law 466 = .ok (.iconst 0, 1) := by decide +kernel
theorem dL_law_467 : decode cL_law 467 = .ok (.ireturn, 1) := by decide +kernel
theorem dL_law_468 : decode cL_law 468 = .ok (.aload_n 1, 1) := by decide +kernel
theorem dL_law_469 : decode cL_law 469 = .ok (.aload_n 0, 1) := by decide +kernel
theorem dL_law_470 : decode cL_law 470 = .ok (.iload_n 3, 1) := by decide +kernel
theorem dL_law_471 : decode cL_law 471 = .ok (.iconst 1, 1) := by decide +kernel
theorem dL_law_472 : decode cL_law 472 = .ok (.iadd, 1) := by decide +kernel
theorem dL_law_473 : decode cL_law 473 = .ok (.iaload, 1) := by decide +kernel
theorem dL_law_474 : decode cL_law 474 = .ok (.invokevirtual 65, 3) := by decide +kernel
theorem dL_law_477 : decode cL_law 477 = .ok (.aload_n 2, 1) := by decide +kernel
theorem dL_law_478 : decode cL_law 478 = .ok (.aload_n 0, 1) := by decide +kernel
theorem dL_law_479 : decode cL_law 479 = .ok (.iload_n 3, 1) := by decide +kernel
theorem dL_law_480 : decode cL_law 480 = .ok (.iconst 1, 1) := by decide +kernel
theorem dL_law_481 : decode cL_law 481 = .ok (.iadd, 1) := by decide +kernel
theorem dL_law_482 : decode cL_law 482 = .ok (.iaload, 1) := by decide +kernel
theorem dL_law_483 : decode cL_law 483 = .ok (.invokevirtual 68, 3) := by decide +kernel
theorem dL_law_486 : decode cL_law 486 = .ok (.if_icmp .eq 364, 3) := by decide +kernel
theorem dL_law_489 : decode cL_law 489 = .ok (.iconst 0, 1) := by decide +kernel
theorem dL_law_490 : decode cL_law 490 = .ok (.ireturn, 1) := by decide +kernel
theorem dL_law_491 : decode cL_law 491 = .ok (.aload_n 1, 1) := by decide +kernel
theorem dL_law_492 : decode cL_law 492 = .ok (.invokevirtual 69, 3) := by decide +kernel
theorem dL_law_495 : decode cL_law 495 = .ok (.aload_n 2, 1) := by decide +kernel
theorem dL_law_496 : decode cL_law 496 = .ok (.invokevirtual 72, 3) := by decide +kernel
theorem dL_law_499 : decode cL_law 499 = .ok (.if_icmp .eq 351, 3) := by decide +kernel
theorem dL_law_502 : decode cL_law 502 = .ok (.iconst 0, 1) := by decide +kernel
theorem dL_law_503 : decode cL_law 503 = .ok (.ireturn, 1) := by decide +kernel
theorem dL_law_504 : decode cL_law 504 = .ok (.aload_n 1, 1) := by decide +kernel
theorem dL_law_505 : decode cL_law 505 = .ok (.aload_n 0, 1) := by decide +kernel
theorem dL_law_506 : decode cL_law 506 = .ok (.iload_n 3, 1) := by decide +kernel
theorem dL_law_507 : decode cL_law 507 = .ok (.iconst 1, 1) := by decide +kernel
theorem dL_law_508 : decode cL_law 508 = .ok (.iadd, 1) := by decide +kernel
theorem dL_law_509 : decode cL_law 509 = .ok (.iaload, 1) := by decide +kernel
theorem dL_law_510 : decode cL_law 510 = .ok (.aload_n 0, 1) := by decide +kernel
theorem dL_law_511 : decode cL_law 511 = .ok (.iload_n 3, 1) := by decide +kernel
theorem dL_law_512 : decode cL_law 512 = .ok (.iconst 2, 1) := by decide +kernel
theorem dL_law_513 : decode cL_law 513 = .ok (.iadd, 1) := by decide +kernel
theorem dL_law_514 : decode cL_law 514 = .ok (.iaload, 1) := by decide +kernel
theorem dL_law_515 : decode cL_law 515 = .ok (.aload_n 0, 1) := by decide +kernel
theorem dL_law_516 : decode cL_law 516 = .ok (.iload_n 3, 1) := by decide +kernel
theorem dL_law_517 : decode cL_law 517 = .ok (.iconst 3, 1) := by decide +kernel
theorem dL_law_518 : decode cL_law 518 = .ok (.iadd, 1) := by decide +kernel
theorem dL_law_519 : decode cL_law 519 = .ok (.iaload, 1) := by decide +kernel
theorem dL_law_520 : decode cL_law 520 = .ok (.invokevirtual 73, 3) := by decide +kernel
theorem dL_law_523 : decode cL_law 523 = .ok (.aload_n 2, 1) := by decide +kernel
theorem dL_law_524 : decode cL_law 524 = .ok (.aload_n 0, 1) := by decide +kernel
theorem dL_law_525 : decode cL_law 525 = .ok (.iload_n 3, 1) := by decide +kernel
theorem dL_law_526 : decode cL_law 526 = .ok (.iconst 1, 1) := by decide +kernel
theorem dL_law_527 : decode cL_law 527 = .ok (.iadd, 1) := by decide +kernel
theorem dL_law_528 : decode cL_law 528 = .ok (.iaload, 1) := by decide +kernel
theorem dL_law_529 : decode cL_law 529 = .ok (.aload_n 0, 1) := by decide +kernel
theorem dL_law_530 : decode cL_law 530 = .ok (.iload_n 3, 1) := by decide +kernel
theorem dL_law_531 : decode cL_law 531 = .ok (.iconst 2, 1) := by decide +kernel
theorem dL_law_532 : decode cL_law 532 = .ok (.iadd, 1) := by decide +kernel
theorem dL_law_533 : decode cL_law 533 = .ok (.iaload, 1) := by decide +kernel
theorem dL_law_534 : decode cL_law 534 = .ok (.aload_n 0, 1) := by decide +kernel
theorem dL_law_535 : decode cL_law 535 = .ok (.iload_n 3, 1) := by decide +kernel
theorem dL_law_536 : decode cL_law 536 = .ok (.iconst 3, 1) := by decide +kernel
theorem dL_law_537 : decode cL_law 537 = .ok (.iadd, 1) := by decide +kernel
theorem dL_law_538 : decode cL_law 538 = .ok (.iaload, 1) := by decide +kernel
theorem dL_law_539 : decode cL_law 539 = .ok (.invokevirtual 76, 3) := by decide +kernel
theorem dL_law_542 : decode cL_law 542 = .ok (.if_icmp .eq 308, 3) := by decide +kernel
theorem dL_law_545 : decode cL_law 545 = .ok (.iconst 0, 1) := by decide +kernel
theorem dL_law_546 : decode cL_law 546 = .ok (.ireturn, 1) := by decide +kernel
theorem dL_law_547 : decode cL_law 547 = .ok (.aload_n 1, 1) := by decide +kernel
theorem dL_law_548 : decode cL_law 548 = .ok (.aload_n 0, 1) := by decide +kernel
theorem dL_law_549 : decode cL_law 549 = .ok (.iload_n 3, 1) := by decide +kernel
theorem dL_law_550 : decode cL_law 550 = .ok (.iconst 1, 1) := by decide +kernel
theorem dL_law_551 : decode cL_law 551 = .ok (.iadd, 1) := by decide +kernel
theorem dL_law_552 : decode cL_law 552 = .ok (.iaload, 1) := by decide +kernel
theorem dL_law_553 : decode cL_law 553 = .ok (.aload_n 0, 1) := by decide +kernel
theorem dL_law_554 : decode cL_law 554 = .ok (.iload_n 3, 1) := by decide +kernel
theorem dL_law_555 : decode cL_law 555 = .ok (.iconst 2, 1) := by decide +kernel
theorem dL_law_556 : decode cL_law 556 = .ok (.iadd, 1) := by decide +kernel
theorem dL_law_557 : decode cL_law 557 = .ok (.iaload, 1) := by decide +kernel
theorem dL_law_558 : decode cL_law 558 = .ok (.invokevirtual 77, 3) := by decide +kernel
theorem dL_law_561 : decode cL_law 561 = .ok (.aload_n 2, 1) := by decide +kernel
theorem dL_law_562 : decode cL_law 562 = .ok (.aload_n 0, 1) := by decide +kernel
theorem dL_law_563 : decode cL_law 563 = .ok (.iload_n 3, 1) := by decide +kernel
theorem dL_law_564 : decode cL_law 564 = .ok (.iconst 1, 1) := by decide +kernel
theorem dL_law_565 : decode cL_law 565 = .ok (.iadd, 1) := by decide +kernel
theorem dL_law_566 : decode cL_law 566 = .ok (.iaload, 1) := by decide +kernel
theorem dL_law_567 : decode cL_law 567 = .ok (.aload_n 0, 1) := by decide +kernel
theorem dL_law_568 : decode cL_law 568 = .ok (.iload_n 3, 1) := by decide +kernel
theorem dL_law_569 : decode cL_law 569 = .ok (.iconst 2, 1) := by decide +kernel
theorem dL_law_570 : decode cL_law 570 = .ok (.iadd, 1) := by decide +kernel
theorem dL_law_571 : decode cL_law 571 = .ok (.iaload, 1) := by decide +kernel
theorem dL_law_572 : decode cL_law 572 = .ok (.invokevirtual 80, 3) := by decide +kernel
theorem dL_law_575 : decode cL_law 575 = .ok (.if_icmp .eq 275, 3) := by decide +kernel
theorem dL_law_578 : decode cL_law 578 = .ok (.iconst 0, 1) := by decide +kernel
theorem dL_law_579 : decode cL_law 579 = .ok (.ireturn, 1) := by decide +kernel
theorem dL_law_580 : decode cL_law 580 = .ok (.aload_n 1, 1) := by decide +kernel
theorem dL_law_581 : decode cL_law 581 = .ok (.aload_n 0, 1) := by decide +kernel
theorem dL_law_582 : decode cL_law 582 = .ok (.iload_n 3, 1) := by decide +kernel
theorem dL_law_583 : decode cL_law 583 = .ok (.iconst 1, 1) := by decide +kernel
theorem dL_law_584 : decode cL_law 584 = .ok (.iadd, 1) := by decide +kernel
theorem dL_law_585 : decode cL_law 585 = .ok (.iaload, 1) := by decide +kernel
theorem dL_law_586 : decode cL_law 586 = .ok (.invokevirtual 81, 3) := by decide +kernel
theorem dL_law_589 : decode cL_law 589 = .ok (.aload_n 2, 1) := by decide +kernel
theorem dL_law_590 : decode cL_law 590 = .ok (.aload_n 0, 1) := by decide +kernel
theorem dL_law_591 : decode cL_law 591 = .ok (.iload_n 3, 1) := by decide +kernel
theorem dL_law_592 : decode cL_law 592 = .ok (.iconst 1, 1) := by decide +kernel
theorem dL_law_593 : decode cL_law 593 = .ok (.iadd, 1) := by decide +kernel
theorem dL_law_594 : decode cL_law 594 = .ok (.iaload, 1) := by decide +kernel
theorem dL_law_595 : decode cL_law 595 = .ok (.invokevirtual 84, 3) := by decide +kernel
theorem dL_law_598 : decode cL_law 598 = .ok (.if_icmp .eq 252, 3) := by decide +kernel
theorem dL_law_601 : decode cL_law 601 = .ok (.iconst 0, 1) := by decide +kernel
theorem dL_law_602 : decode cL_law 602 = .ok (.ireturn, 1) := by decide +kernel
theorem dL_law_603 : decode cL_law 603 = .ok (.aload_n 1, 1) := by decide +kernel
theorem dL_law_604 : decode cL_law 604 = .ok (.aload_n 0, 1) := by decide +kernel
theorem dL_law_605 : decode cL_law 605 = .ok (.iload_n 3, 1) := by decide +kernel
theorem dL_law_606 : decode cL_law 606 = .ok (.iconst 1, 1) := by decide +kernel
theorem dL_law_607 : decode cL_law 607 = .ok (.iadd, 1) := by decide +kernel
theorem dL_law_608 : decode cL_law 608 = .ok (.iaload, 1) := by decide +kernel
theorem dL_law_609 : decode cL_law 609 = .ok (.aload_n 0, 1) := by decide +kernel
theorem dL_law_610 : decode cL_law 610 = .ok (.iload_n 3, 1) := by decide +kernel
theorem dL_law_611 : decode cL_law 611 = .ok (.iconst 2, 1) := by decide +kernel
theorem dL_law_612 : decode cL_law 612 = .ok (.iadd, 1) := by decide +kernel
theorem dL_law_613 : decode cL_law 613 = .ok (.iaload, 1) := by decide +kernel
theorem dL_law_614 : decode cL_law 614 = .ok (.aload_n 0, 1) := by decide +kernel
theorem dL_law_615 : decode cL_law 615 = .ok (.iload_n 3, 1) := by decide +kernel
theorem dL_law_616 : decode cL_law 616 = .ok (.iconst 3, 1) := by decide +kernel
theorem dL_law_617 : decode cL_law 617 = .ok (.iadd, 1) := by decide +kernel
theorem dL_law_618 : decode cL_law 618 = .ok (.iaload, 1) := by decide +kernel
theorem dL_law_619 : decode cL_law 619 = .ok (.invokevirtual 85, 3) := by decide +kernel
theorem dL_law_622 : decode cL_law 622 = .ok (.aload_n 2, 1) := by decide +kernel
theorem dL_law_623 : decode cL_law 623 = .ok (.aload_n 0, 1) := by decide +kernel
theorem dL_law_624 : decode cL_law 624 = .ok (.iload_n 3, 1) := by decide +kernel
theorem dL_law_625 : decode cL_law 625 = .ok (.iconst 1, 1) := by decide +kernel
theorem dL_law_626 : decode cL_law 626 = .ok (.iadd, 1) := by decide +kernel
theorem dL_law_627 : decode cL_law 627 = .ok (.iaload, 1) := by decide +kernel
theorem dL_law_628 : decode cL_law 628 = .ok (.aload_n 0, 1) := by decide +kernel
theorem dL_law_629 : decode cL_law 629 = .ok (.iload_n 3, 1) := by decide +kernel
theorem dL_law_630 : decode cL_law 630 = .ok (.iconst 2, 1) := by decide +kernel
theorem dL_law_631 : decode cL_law 631 = .ok (.iadd, 1) := by decide +kernel
theorem dL_law_632 : decode cL_law 632 = .ok (.iaload, 1) := by decide +kernel
theorem dL_law_633 : decode cL_law 633 = .ok (.aload_n 0, 1) := by decide +kernel
theorem dL_law_634 : decode cL_law 634 = .ok (.iload_n 3, 1) := by decide +kernel
theorem dL_law_635 : decode cL_law 635 = .ok (.iconst 3, 1) := by decide +kernel
theorem dL_law_636 : decode cL_law 636 = .ok (.iadd, 1) := by decide +kernel
theorem dL_law_637 : decode cL_law 637 = .ok (.iaload, 1) := by decide +kernel
theorem dL_law_638 : decode cL_law 638 = .ok (.invokevirtual 88, 3) := by decide +kernel
theorem dL_law_641 : decode cL_law 641 = .ok (.if_icmp .eq 209, 3) := by decide +kernel
theorem dL_law_644 : decode cL_law 644 = .ok (.iconst 0, 1) := by decide +kernel
theorem dL_law_645 : decode cL_law 645 = .ok (.ireturn, 1) := by decide +kernel
theorem dL_law_646 : decode cL_law 646 = .ok (.aload_n 1, 1) := by decide +kernel
theorem dL_law_647 : decode cL_law 647 = .ok (.invokevirtual 89, 3) := by decide +kernel
theorem dL_law_650 : decode cL_law 650 = .ok (.aload_n 2, 1) := by decide +kernel
theorem dL_law_651 : decode cL_law 651 = .ok (.invokevirtual 92, 3) := by decide +kernel
theorem dL_law_654 : decode cL_law 654 = .ok (.if_icmp .eq 196, 3) := by decide +kernel
theorem dL_law_657 : decode cL_law 657 = .ok (.iconst 0, 1) := by decide +kernel
theorem dL_law_658 : decode cL_law 658 = .ok (.ireturn, 1) := by decide +kernel
theorem dL_law_659 : decode cL_law 659 = .ok (.aload_n 1, 1) := by decide +kernel
theorem dL_law_660 : decode cL_law 660 = .ok (.aload_n 0, 1) := by decide +kernel
theorem dL_law_661 : decode cL_law 661 = .ok (.iload_n 3, 1) := by decide +kernel
theorem dL_law_662 : decode cL_law 662 = .ok (.iconst 1, 1) := by decide +kernel
theorem dL_law_663 : decode cL_law 663 = .ok (.iadd, 1) := by decide +kernel
theorem dL_law_664 : decode cL_law 664 = .ok (.iaload, 1) := by decide +kernel
theorem dL_law_665 : decode cL_law 665 = .ok (.invokevirtual 93, 3) := by decide +kernel
theorem dL_law_668 : decode cL_law 668 = .ok (.aload_n 2, 1) := by decide +kernel
theorem dL_law_669 : decode cL_law 669 = .ok (.aload_n 0, 1) := by decide +kernel
theorem dL_law_670 : decode cL_law 670 = .ok (.iload_n 3, 1) := by decide +kernel
theorem dL_law_671 : decode cL_law 671 = .ok (.iconst 1, 1) := by decide +kernel
theorem dL_law_672 : decode cL_law 672 = .ok (.iadd, 1) := by decide +kernel
theorem dL_law_673 : decode cL_law 673 = .ok (.iaload, 1) := by decide +kernel
theorem dL_law_674 : decode cL_law 674 = .ok (.invokevirtual 96, 3) := by decide +kernel
theorem dL_law_677 : decode cL_law 677 = .ok (.if_icmp .eq 173, 3) := by decide +kernel
theorem dL_law_680 : decode cL_law 680 = .ok (.iconst 0, 1) := by decide +kernel
theorem dL_law_681 : decode cL_law 681 = .ok (.ireturn, 1) := by decide +kernel
theorem dL_law_682 : decode cL_law 682 = .ok (.aload_n 1, 1) := by decide +kernel
theorem dL_law_683 : decode cL_law 683 = .ok (.aload_n 0, 1) := by decide +kernel
theorem dL_law_684 : decode cL_law 684 = .ok (.iload_n 3, 1) := by decide +kernel
theorem dL_law_685 : decode cL_law 685 = .ok (.iconst 1, 1) := by decide +kernel
theorem dL_law_686 : decode cL_law 686 = .ok (.iadd, 1) := by decide +kernel
theorem dL_law_687 : decode cL_law 687 = .ok (.iaload, 1) := by decide +kernel
theorem dL_law_688 : decode cL_law 688 = .ok (.aload_n 0, 1) := by decide +kernel
theorem dL_law_689 : decode cL_law 689 = .ok (.iload_n 3, 1) := by decide +kernel
theorem dL_law_690 : decode cL_law 690 = .ok (.iconst 2, 1) := by decide +kernel
theorem dL_law_691 : decode cL_law 691 = .ok (.iadd, 1) := by decide +kernel
theorem dL_law_692 : decode cL_law 692 = .ok (.iaload, 1) := by decide +kernel
theorem dL_law_693 : decode cL_law 693 = .ok (.aload_n 0, 1) := by decide +kernel
theorem dL_law_694 : decode cL_law 694 = .ok (.iload_n 3, 1) := by decide +kernel
theorem dL_law_695 : decode cL_law 695 = .ok (.iconst 3, 1) := by decide +kernel
theorem dL_law_696 : decode cL_law 696 = .ok (.iadd, 1) := by decide +kernel
theorem dL_law_697 : decode cL_law 697 = .ok (.iaload, 1) := by decide +kernel
theorem dL_law_698 : decode cL_law 698 = .ok (.invokevirtual 97, 3) := by decide +kernel
theorem dL_law_701 : decode cL_law 701 = .ok (.aload_n 2, 1) := by decide +kernel
theorem dL_law_702 : decode cL_law 702 = .ok (.aload_n 0, 1) := by decide +kernel
theorem dL_law_703 : decode cL_law 703 = .ok (.iload_n 3, 1) := by decide +kernel
