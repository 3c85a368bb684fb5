theorem dX7_sumOfFirst_0 : decode cX7_sumOfFirst 0 = .ok (.iconst 0, 1) := by decide +kernel
theorem dX7_sumOfFirst_1 : decode cX7_sumOfFirst 1 = .ok (.istore_n 2, 1) := by decide +kernel
theorem dX7_sumOfFirst_2 : decode cX7_sumOfFirst 2 = .ok (.iconst 0, 1) := by decide +kernel
theorem dX7_sumOfFirst_3 : decode cX7_sumOfFirst 3 = .ok (.istore_n 3, 1) := by decide +kernel
theorem dX7_sumOfFirst_4 : decode cX7_sumOfFirst 4 = .ok (.iload_n 3, 1) := by decide +kernel
theorem dX7_sumOfFirst_5 : decode cX7_sumOfFirst 5 = .ok (.iload_n 1, 1) := by decide +kernel
theorem dX7_sumOfFirst_6 : decode cX7_sumOfFirst 6 = .ok (.if_icmp .ge 20, 3) := by decide +kernel
theorem dX7_sumOfFirst_9 : decode cX7_sumOfFirst 9 = .ok (.iload_n 2, 1) := by decide +kernel
theorem dX7_sumOfFirst_10 : decode cX7_sumOfFirst 10 = .ok (.aload_n 0, 1) := by decide +kernel
theorem dX7_sumOfFirst_11 : decode cX7_sumOfFirst 11 = .ok (.getfield 27, 3) := by decide +kernel
theorem dX7_sumOfFirst_14 : decode cX7_sumOfFirst 14 = .ok (.iload_n 3, 1) := by decide +kernel
theorem dX7_sumOfFirst_15 : decode cX7_sumOfFirst 15 = .ok (.invokevirtual 31, 3) := by decide +kernel
theorem dX7_sumOfFirst_18 : decode cX7_sumOfFirst 18 = .ok (.iadd, 1) := by decide +kernel
theorem dX7_sumOfFirst_19 : decode cX7_sumOfFirst 19 = .ok (.istore_n 2, 1) := by decide +kernel
theorem dX7_sumOfFirst_20 : decode cX7_sumOfFirst 20 = .ok (.iinc 3 1, 3) := by decide +kernel
theorem dX7_sumOfFirst_23 : decode cX7_sumOfFirst 23 = .ok (.goto (-19), 3) := by decide +kernel
theorem dX7_sumOfFirst_26 : decode cX7_sumOfFirst 26 = .ok (.iload_n 2, 1) := by decide +kernel
theorem dX7_sumOfFirst_27 : decode cX7_sumOfFirst 27 = .ok (.ireturn, 1) := by decide +kernel
theorem dX7_balance_0 : decode cX7_balance 0 = .ok (.iload_n 1, 1) := by decide +kernel
theorem dX7_balance_1 : decode cX7_balance 1 = .ok (.bipush 6, 2) := by decide +kernel
theorem dX7_balance_3 : decode cX7_balance 3 = .ok (.invokestatic 37, 3) := by decide +kernel
theorem dX7_balance_6 : decode cX7_balance 6 = .ok (.istore 5, 2) := by decide +kernel
theorem dX7_balance_8 : decode cX7_balance 8 = .ok (.aload_n 0, 1) := by decide +kernel
theorem dX7_balance_9 : decode cX7_balance 9 = .ok (.iconst 0, 1) := by decide +kernel
theorem dX7_balance_10 : decode cX7_balance 10 = .ok (.iload 5, 2) := by decide +kernel
theorem dX7_balance_12 : decode cX7_balance 12 = .ok (.aload_n 0, 1) := by decide +kernel
theorem dX7_balance_13 : decode cX7_balance 13 = .ok (.getfield 11, 3) := by decide +kernel
theorem dX7_balance_16 : decode cX7_balance 16 = .ok (.invokevirtual 43, 3) := by decide +kernel
theorem dX7_balance_19 : decode cX7_balance 19 = .ok (.aload_n 0, 1) := by decide +kernel
theorem dX7_balance_20 : decode cX7_balance 20 = .ok (.iload 5, 2) := by decide +kernel
theorem dX7_balance_22 : decode cX7_balance 22 = .ok (.iload_n 1, 1) := by decide +kernel
theorem dX7_balance_23 : decode cX7_balance 23 = .ok (.iload 5, 2) := by decide +kernel
theorem dX7_balance_25 : decode cX7_balance 25 = .ok (.isub, 1) := by decide +kernel
theorem dX7_balance_26 : decode cX7_balance 26 = .ok (.aload_n 0, 1) := by decide +kernel
theorem dX7_balance_27 : decode cX7_balance 27 = .ok (.getfield 15, 3) := by decide +kernel
theorem dX7_balance_30 : decode cX7_balance 30 = .ok (.invokevirtual 43, 3) := by decide +kernel
theorem dX7_balance_33 : decode cX7_balance 33 = .ok (.iload_n 2, 1) := by decide +kernel
theorem dX7_balance_34 : decode cX7_balance 34 = .ok (.iload_n 3, 1) := by decide +kernel
theorem dX7_balance_35 : decode cX7_balance 35 = .ok (.isub, 1) := by decide +kernel
theorem dX7_balance_36 : decode cX7_balance 36 = .ok (.aload_n 0, 1) := by decide +kernel
theorem dX7_balance_37 : decode cX7_balance 37 = .ok (.iload_n 1, 1) := by decide +kernel
theorem dX7_balance_38 : decode cX7_balance 38 = .ok (.invokevirtual 47, 3) := by decide +kernel
theorem dX7_balance_41 : decode cX7_balance 41 = .ok (.isub, 1) := by decide +kernel
theorem dX7_balance_42 : decode cX7_balance 42 = .ok (.istore 6, 2) := by decide +kernel
theorem dX7_balance_44 : decode cX7_balance 44 = .ok (.iconst 1, 1) := by decide +kernel
theorem dX7_balance_45 : decode cX7_balance 45 = .ok (.iload 5, 2) := by decide +kernel
theorem dX7_balance_47 : decode cX7_balance 47 = .ok (.ishl, 1) := by decide +kernel
theorem dX7_balance_48 : decode cX7_balance 48 = .ok (.iconst 1, 1) := by decide +kernel
theorem dX7_balance_49 : decode cX7_balance 49 = .ok (.isub, 1) := by decide +kernel
theorem dX7_balance_50 : decode cX7_balance 50 = .ok (.istore 7, 2) := by decide +kernel
theorem dX7_balance_52 : decode cX7_balance 52 = .ok (.iconst 0, 1) := by decide +kernel
theorem dX7_balance_53 : decode cX7_balance 53 = .ok (.istore 8, 2) := by decide +kernel
theorem dX7_balance_55 : decode cX7_balance 55 = .ok (.ldc 50, 2) := by decide +kernel
theorem dX7_balance_57 : decode cX7_balance 57 = .ok (.istore 9, 2) := by decide +kernel
theorem dX7_balance_59 : decode cX7_balance 59 = .ok (.iconst 0, 1) := by decide +kernel
theorem dX7_balance_60 : decode cX7_balance 60 = .ok (.istore 10, 2) := by decide +kernel
theorem dX7_balance_62 : decode cX7_balance 62 = .ok (.iload 10, 2) := by decide +kernel
theorem dX7_balance_64 : decode cX7_balance 64 = .ok (.iconst 1, 1) := by decide +kernel
theorem dX7_balance_65 : decode cX7_balance 65 = .ok (.iload_n 1, 1) := by decide +kernel
theorem dX7_balance_66 : decode cX7_balance 66 = .ok (.ishl, 1) := by decide +kernel
theorem dX7_balance_67 : decode cX7_balance 67 = .ok (.if_icmp .ge 65, 3) := by decide +kernel
theorem dX7_balance_70 : decode cX7_balance 70 = .ok (.iload_n 1, 1) := by decide +kernel
theorem dX7_balance_71 : decode cX7_balance 71 = .ok (.bipush 12, 2) := by decide +kernel
theorem dX7_balance_73 : decode cX7_balance 73 = .ok (.if_icmp .gt 59, 3) := by decide +kernel
theorem dX7_balance_76 : decode cX7_balance 76 = .ok (.aload_n 0, 1) := by decide +kernel
theorem dX7_balance_77 : decode cX7_balance 77 = .ok (.getfield 11, 3) := by decide +kernel
theorem dX7_balance_80 : decode cX7_balance 80 = .ok (.iload 10, 2) := by decide +kernel
theorem dX7_balance_82 : decode cX7_balance 82 = .ok (.iload 7, 2) := by decide +kernel
theorem dX7_balance_84 : decode cX7_balance 84 = .ok (.iand, 1) := by decide +kernel
theorem dX7_balance_85 : decode cX7_balance 85 = .ok (.iaload, 1) := by decide +kernel
theorem dX7_balance_86 : decode cX7_balance 86 = .ok (.aload_n 0, 1) := by decide +kernel
theorem dX7_balance_87 : decode cX7_balance 87 = .ok (.getfield 15, 3) := by decide +kernel
theorem dX7_balance_90 : decode cX7_balance 90 = .ok (.iload 10, 2) := by decide +kernel
theorem dX7_balance_92 : decode cX7_balance 92 = .ok (.iload 5, 2) := by decide +kernel
theorem dX7_balance_94 : decode cX7_balance 94 = .ok (.ishr, 1) := by decide +kernel
theorem dX7_balance_95 : decode cX7_balance 95 = .ok (.iaload, 1) := by decide +kernel
theorem dX7_balance_96 : decode cX7_balance 96 = .ok (.iadd, 1) := by decide +kernel
theorem dX7_balance_97 : decode cX7_balance 97 = .ok (.istore 11, 2) := by decide +kernel
theorem dX7_balance_99 : decode cX7_balance 99 = .ok (.iload 6, 2) := by decide +kernel
theorem dX7_balance_101 : decode cX7_balance 101 = .ok (.iconst 2, 1) := by decide +kernel
theorem dX7_balance_102 : decode cX7_balance 102 = .ok (.iload 11, 2) := by decide +kernel
theorem dX7_balance_104 : decode cX7_balance 104 = .ok (.imul, 1) := by decide +kernel
theorem dX7_balance_105 : decode cX7_balance 105 = .ok (.iadd, 1) := by decide +kernel
theorem dX7_balance_106 : decode cX7_balance 106 = .ok (.invokestatic 51, 3) := by decide +kernel
theorem dX7_balance_109 : decode cX7_balance 109 = .ok (.istore 12, 2) := by decide +kernel
theorem dX7_balance_111 : decode cX7_balance 111 = .ok (.iload 12, 2) := by decide +kernel
theorem dX7_balance_113 : decode cX7_balance 113 = .ok (.iload 9, 2) := by decide +kernel
theorem dX7_balance_115 : decode cX7_balance 115 = .ok (.if_icmp .ge 11, 3) := by decide +kernel
theorem dX7_balance_118 : decode cX7_balance 118 = .ok (.iload 12, 2) := by decide +kernel
theorem dX7_balance_120 : decode cX7_balance 120 = .ok (.istore 9, 2) := by decide +kernel
theorem dX7_balance_122 : decode cX7_balance 122 = .ok (.iload 10, 2) := by decide +kernel
theorem dX7_balance_124 : decode cX7_balance 124 = .ok (.istore 8, 2) := by decide +kernel
theorem dX7_balance_126 : decode cX7_balance 126 = .ok (.iinc 10 1, 3) := by decide +kernel
theorem dX7_balance_129 : decode cX7_balance 129 = .ok (.goto (-67), 3) := by decide +kernel
theorem dX7_balance_132 : decode cX7_balance 132 = .ok (.iload 4, 2) := by decide +kernel
theorem dX7_balance_134 : decode cX7_balance 134 = .ok (.ifCond .ne 8, 3) := by decide +kernel
theorem dX7_balance_137 : decode cX7_balance 137 = .ok (.iload 9, 2) := by decide +kernel
theorem dX7_balance_139 : decode cX7_balance 139 = .ok (.goto 5, 3) := by decide +kernel
theorem dX7_balance_142 : decode cX7_balance 142 = .ok (.iload 8, 2) := by decide +kernel
theorem dX7_balance_144 : decode cX7_balance 144 = .ok (.ireturn, 1) := by decide +kernel
theorem dX7_fitFamilies_0 : decode cX7_fitFamilies 0 = .ok (.iconst 0, 1) := by decide +kernel
theorem dX7_fitFamilies_1 : decode cX7_fitFamilies 1 = .ok (.istore 4, 2) := by decide +kernel
theorem dX7_fitFamilies_3 : decode cX7_fitFamilies 3 = .ok (.iload 4, 2) := by decide +kernel
theorem dX7_fitFamilies_5 : decode cX7_fitFamilies 5 = .ok (.iload_n 2, 1) := by decide +kernel
theorem dX7_fitFamilies_6 : decode cX7_fitFamilies 6 = .ok (.if_icmp .ge 30, 3) := by decide +kernel
theorem dX7_fitFamilies_9 : decode cX7_fitFamilies 9 = .ok (.aload_n 0, 1) := by decide +kernel
theorem dX7_fitFamilies_10 : decode cX7_fitFamilies 10 = .ok (.getfield 27, 3) := by decide +kernel
theorem dX7_fitFamilies_13 : decode cX7_fitFamilies 13 = .ok (.iload 4, 2) := by decide +kernel
theorem dX7_fitFamilies_15 : decode cX7_fitFamilies 15 = .ok (.invokevirtual 31, 3) := by decide +kernel
theorem dX7_fitFamilies_18 : decode cX7_fitFamilies 18 = .ok (.iconst 1, 1) := by decide +kernel
theorem dX7_fitFamilies_19 : decode cX7_fitFamilies 19 = .ok (.bipush 9, 2) := by decide +kernel
theorem dX7_fitFamilies_21 : decode cX7_fitFamilies 21 = .ok (.invokestatic 54, 3) := by decide +kernel
theorem dX7_fitFamilies_24 : decode cX7_fitFamilies 24 = .ok (.ifCond .ne 6, 3) := by decide +kernel
theorem dX7_fitFamilies_27 : decode cX7_fitFamilies 27 = .ok (.bipush (-2), 2) := by decide +kernel
theorem dX7_fitFamilies_29 : decode cX7_fitFamilies 29 = .ok (.ireturn, 1) := by decide +kernel
theorem dX7_fitFamilies_30 : decode cX7_fitFamilies 30 = .ok (.iinc 4 1, 3) := by decide +kernel
theorem dX7_fitFamilies_33 : decode cX7_fitFamilies 33 = .ok (.goto (-30), 3) := by decide +kernel
theorem dX7_fitFamilies_36 : decode cX7_fitFamilies 36 = .ok (.aload_n 0, 1) := by decide +kernel
theorem dX7_fitFamilies_37 : decode cX7_fitFamilies 37 = .ok (.iconst 0, 1) := by decide +kernel
theorem dX7_fitFamilies_38 : decode cX7_fitFamilies 38 = .ok (.iload_n 2, 1) := by decide +kernel
theorem dX7_fitFamilies_39 : decode cX7_fitFamilies 39 = .ok (.aload_n 0, 1) := by decide +kernel
theorem dX7_fitFamilies_40 : decode cX7_fitFamilies 40 = .ok (.getfield 11, 3) := by decide +kernel
theorem dX7_fitFamilies_43 : decode cX7_fitFamilies 43 = .ok (.invokevirtual 43, 3) := by decide +kernel
theorem dX7_fitFamilies_46 : decode cX7_fitFamilies 46 = .ok (.iconst 1, 1) := by decide +kernel
theorem dX7_fitFamilies_47 : decode cX7_fitFamilies 47 = .ok (.iload_n 2, 1) := by decide +kernel
theorem dX7_fitFamilies_48 : decode cX7_fitFamilies 48 = .ok (.ishl, 1) := by decide +kernel
theorem dX7_fitFamilies_49 : decode cX7_fitFamilies 49 = .ok (.iconst 1, 1) := by decide +kernel
theorem dX7_fitFamilies_50 : decode cX7_fitFamilies 50 = .ok (.isub, 1) := by decide +kernel
theorem dX7_fitFamilies_51 : decode cX7_fitFamilies 51 = .ok (.istore 4, 2) := by decide +kernel
theorem dX7_fitFamilies_53 : decode cX7_fitFamilies 53 = .ok (.lconst 1, 1) := by decide +kernel
theorem dX7_fitFamilies_54 : decode cX7_fitFamilies 54 = .ok (.lstore 5, 2) := by decide +kernel
theorem dX7_fitFamilies_56 : decode cX7_fitFamilies 56 = .ok (.iconst 0, 1) := by decide +kernel
theorem dX7_fitFamilies_57 : decode cX7_fitFamilies 57 = .ok (.istore 7, 2) := by decide +kernel
theorem dX7_fitFamilies_59 : decode cX7_fitFamilies 59 = .ok (.iload 7, 2) := by decide +kernel
theorem dX7_fitFamilies_61 : decode cX7_fitFamilies 61 = .ok (.bipush 16, 2) := by decide +kernel
theorem dX7_fitFamilies_63 : decode cX7_fitFamilies 63 = .ok (.if_icmp .ge 28, 3) := by decide +kernel
theorem dX7_fitFamilies_66 : decode cX7_fitFamilies 66 = .ok (.aload_n 0, 1) := by decide +kernel
theorem dX7_fitFamilies_67 : decode cX7_fitFamilies 67 = .ok (.lload 5, 2) := by decide +kernel
theorem dX7_fitFamilies_69 : decode cX7_fitFamilies 69 = .ok (.iload 4, 2) := by decide +kernel
theorem dX7_fitFamilies_71 : decode cX7_fitFamilies 71 = .ok (.bipush 9, 2) := by decide +kernel
theorem dX7_fitFamilies_73 : decode cX7_fitFamilies 73 = .ok (.aload_n 1, 1) := by decide +kernel
theorem dX7_fitFamilies_74 : decode cX7_fitFamilies 74 = .ok (.iload 7, 2) := by decide +kernel
theorem dX7_fitFamilies_76 : decode cX7_fitFamilies 76 = .ok (.invokevirtual 58, 3) := by decide +kernel
theorem dX7_fitFamilies_79 : decode cX7_fitFamilies 79 = .ok (.isub, 1) := by decide +kernel
theorem dX7_fitFamilies_80 : decode cX7_fitFamilies 80 = .ok (.invokevirtual 63, 3) := by decide +kernel
theorem dX7_fitFamilies_83 : decode cX7_fitFamilies 83 = .ok (.lstore 5, 2) := by decide +kernel
theorem dX7_fitFamilies_85 : decode cX7_fitFamilies 85 = .ok (.iinc 7 1, 3) := by decide +kernel
theorem dX7_fitFamilies_88 : decode cX7_fitFamilies 88 = .ok (.goto (-29), 3) := by decide +kernel
theorem dX7_fitFamilies_91 : decode cX7_fitFamilies 91 = .ok (.iconst 0, 1) := by decide +kernel
theorem dX7_fitFamilies_92 : decode cX7_fitFamilies 92 = .ok (.istore 7, 2) := by decide +kernel
theorem dX7_fitFamilies_94 : decode cX7_fitFamilies 94 = .ok (.iconst 0, 1) := by decide +kernel
theorem dX7_fitFamilies_95 : decode cX7_fitFamilies 95 = .ok (.istore 8, 2) := by decide +kernel
theorem dX7_fitFamilies_97 : decode cX7_fitFamilies 97 = .ok (.iload 8, 2) := by decide +kernel
theorem dX7_fitFamilies_99 : decode cX7_fitFamilies 99 = .ok (.iload 4, 2) := by decide +kernel
theorem dX7_fitFamilies_101 : decode cX7_fitFamilies 101 = .ok (.if_icmp .gt 38, 3) := by decide +kernel
theorem dX7_fitFamilies_104 : decode cX7_fitFamilies 104 = .ok (.lload 5, 2) := by decide +kernel
theorem dX7_fitFamilies_106 : decode cX7_fitFamilies 106 = .ok (.iload 8, 2) := by decide +kernel
theorem dX7_fitFamilies_108 : decode cX7_fitFamilies 108 = .ok (.lshr, 1) := by decide +kernel
theorem dX7_fitFamilies_109 : decode cX7_fitFamilies 109 = .ok (.lconst 1, 1) := by decide +kernel
theorem dX7_fitFamilies_110 : decode cX7_fitFamilies 110 = .ok (.land, 1) := by decide +kernel
theorem dX7_fitFamilies_111 : decode cX7_fitFamilies 111 = .ok (.lconst 0, 1) := by decide +kernel
theorem dX7_fitFamilies_112 : decode cX7_fitFamilies 112 = .ok (.lcmp, 1) := by decide +kernel
theorem dX7_fitFamilies_113 : decode cX7_fitFamilies 113 = .ok (.ifCond .eq 20, 3) := by decide +kernel
theorem dX7_fitFamilies_116 : decode cX7_fitFamilies 116 = .ok (.iload 8, 2) := by decide +kernel
theorem dX7_fitFamilies_118 : decode cX7_fitFamilies 118 = .ok (.invokestatic 67, 3) := by decide +kernel
theorem dX7_fitFamilies_121 : decode cX7_fitFamilies 121 = .ok (.iload 7, 2) := by decide +kernel
theorem dX7_fitFamilies_123 : decode cX7_fitFamilies 123 = .ok (.invokestatic 67, 3) := by decide +kernel
theorem dX7_fitFamilies_126 : decode cX7_fitFamilies 126 = .ok (.if_icmp .le 7, 3) := by decide +kernel
theorem dX7_fitFamilies_129 : decode cX7_fitFamilies 129 = .ok (.iload 8, 2) := by decide +kernel
theorem dX7_fitFamilies_131 : decode cX7_fitFamilies 131 = .ok (.istore 7, 2) := by decide +kernel
theorem dX7_fitFamilies_133 : decode cX7_fitFamilies 133 = .ok (.iinc 8 1, 3) := by decide +kernel
theorem dX7_fitFamilies_136 : decode cX7_fitFamilies 136 = .ok (.goto (-39), 3) := by decide +kernel
theorem dX7_fitFamilies_139 : decode cX7_fitFamilies 139 = .ok (.iload_n 3, 1) := by decide +kernel
theorem dX7_fitFamilies_140 : decode cX7_fitFamilies 140 = .ok (.ifCond .ne 11, 3) := by decide +kernel
theorem dX7_fitFamilies_143 : decode cX7_fitFamilies 143 = .ok (.iload 7, 2) := by decide +kernel
theorem dX7_fitFamilies_145 : decode cX7_fitFamilies 145 = .ok (.invokestatic 67, 3) := by decide +kernel
theorem dX7_fitFamilies_148 : decode cX7_fitFamilies 148 = .ok (.goto 5, 3) := by decide +kernel
theorem dX7_fitFamilies_151 : decode cX7_fitFamilies 151 = .ok (.iload 7, 2) := by decide +kernel
theorem dX7_fitFamilies_153 : decode cX7_fitFamilies 153 = .ok (.ireturn, 1) := by decide +kernel
theorem dX7_withOnePewMore_0 : decode cX7_withOnePewMore 0 = .ok (.lload_n 1, 1) := by decide +kernel
theorem dX7_withOnePewMore_1 : decode cX7_withOnePewMore 1 = .ok (.lstore 5, 2) := by decide +kernel
theorem dX7_withOnePewMore_3 : decode cX7_withOnePewMore 3 = .ok (.iconst 0, 1) := by decide +kernel
theorem dX7_withOnePewMore_4 : decode cX7_withOnePewMore 4 = .ok (.istore 7, 2) := by decide +kernel
theorem dX7_withOnePewMore_6 : decode cX7_withOnePewMore 6 = .ok (.iload 7, 2) := by decide +kernel
theorem dX7_withOnePewMore_8 : decode cX7_withOnePewMore 8 = .ok (.iload_n 3, 1) := by decide +kernel
theorem dX7_withOnePewMore_9 : decode cX7_withOnePewMore 9 = .ok (.if_icmp .gt 75, 3) := by decide +kernel
theorem dX7_withOnePewMore_12 : decode cX7_withOnePewMore 12 = .ok (.lload_n 1, 1) := by decide +kernel
theorem dX7_withOnePewMore_13 : decode cX7_withOnePewMore 13 = .ok (.iload 7, 2) := by decide +kernel
theorem dX7_withOnePewMore_15 : decode cX7_withOnePewMore 15 = .ok (.lshr, 1) := by decide +kernel
theorem dX7_withOnePewMore_16 : decode cX7_withOnePewMore 16 = .ok (.lconst 1, 1) := by decide +kernel
theorem dX7_withOnePewMore_17 : decode cX7_withOnePewMore 17 = .ok (.land, 1) := by decide +kernel
theorem dX7_withOnePewMore_18 : decode cX7_withOnePewMore 18 = .ok (.lconst 0, 1) := by decide +kernel
theorem dX7_withOnePewMore_19 : decode cX7_withOnePewMore 19 = .ok (.lcmp, 1) := by decide +kernel
theorem dX7_withOnePewMore_20 : decode cX7_withOnePewMore 20 = .ok (.ifCond .eq 10, 3) := by decide +kernel
theorem dX7_withOnePewMore_23 : decode cX7_withOnePewMore 23 = .ok (.iload_n 3, 1) := by decide +kernel
theorem dX7_withOnePewMore_24 : decode cX7_withOnePewMore 24 = .ok (.iload 7, 2) := by decide +kernel
theorem dX7_withOnePewMore_26 : decode cX7_withOnePewMore 26 = .ok (.isub, 1) := by decide +kernel
theorem dX7_withOnePewMore_27 : decode cX7_withOnePewMore 27 = .ok (.goto 4, 3) := by decide +kernel
theorem dX7_withOnePewMore_30 : decode cX7_withOnePewMore 30 = .ok (.iconst 0, 1) := by decide +kernel
theorem dX7_withOnePewMore_31 : decode cX7_withOnePewMore 31 = .ok (.istore 8, 2) := by decide +kernel
theorem dX7_withOnePewMore_33 : decode cX7_withOnePewMore 33 = .ok (.iload 8, 2) := by decide +kernel
theorem dX7_withOnePewMore_35 : decode cX7_withOnePewMore 35 = .ok (.istore 9, 2) := by decide +kernel
theorem dX7_withOnePewMore_37 : decode cX7_withOnePewMore 37 = .ok (.iload 9, 2) := by decide +kernel
theorem dX7_withOnePewMore_39 : decode cX7_withOnePewMore 39 = .ok (.ifCond .le 39, 3) := by decide +kernel
theorem dX7_withOnePewMore_42 : decode cX7_withOnePewMore 42 = .ok (.aload_n 0, 1) := by decide +kernel
theorem dX7_withOnePewMore_43 : decode cX7_withOnePewMore 43 = .ok (.getfield 11, 3) := by decide +kernel
theorem dX7_withOnePewMore_46 : decode cX7_withOnePewMore 46 = .ok (.iload 9, 2) := by decide +kernel
theorem dX7_withOnePewMore_48 : decode cX7_withOnePewMore 48 = .ok (.iaload, 1) := by decide +kernel
theorem dX7_withOnePewMore_49 : decode cX7_withOnePewMore 49 = .ok (.iload 4, 2) := by decide +kernel
theorem dX7_withOnePewMore_51 : decode cX7_withOnePewMore 51 = .ok (.if_icmp .gt 15, 3) := by decide +kernel
theorem dX7_withOnePewMore_54 : decode cX7_withOnePewMore 54 = .ok (.lload 5, 2) := by decide +kernel
theorem dX7_withOnePewMore_56 : decode cX7_withOnePewMore 56 = .ok (.lconst 1, 1) := by decide +kernel
theorem dX7_withOnePewMore_57 : decode cX7_withOnePewMore 57 = .ok (.iload 7, 2) := by decide +kernel
theorem dX7_withOnePewMore_59 : decode cX7_withOnePewMore 59 = .ok (.iload 9, 2) := by decide +kernel
theorem dX7_withOnePewMore_61 : decode cX7_withOnePewMore 61 = .ok (.ior, 1) := by decide +kernel
theorem dX7_withOnePewMore_62 : decode cX7_withOnePewMore 62 = .ok (.lshl, 1) := by decide +kernel
theorem dX7_withOnePewMore_63 : decode cX7_withOnePewMore 63 = .ok (.lor, 1) := by decide +kernel
theorem dX7_withOnePewMore_64 : decode cX7_withOnePewMore 64 = .ok (.lstore 5, 2) := by decide +kernel
theorem dX7_withOnePewMore_66 : decode cX7_withOnePewMore 66 = .ok (.iload 9, 2) := by decide +kernel
theorem dX7_withOnePewMore_68 : decode cX7_withOnePewMore 68 = .ok (.iconst 1, 1) := by decide +kernel
theorem dX7_withOnePewMore_69 : decode cX7_withOnePewMore 69 = .ok (.isub, 1) := by decide +kernel
theorem dX7_withOnePewMore_70 : decode cX7_withOnePewMore 70 = .ok (.iload 8, 2) := by decide +kernel
theorem dX7_withOnePewMore_72 : decode cX7_withOnePewMore 72 = .ok (.iand, 1) := by decide +kernel
theorem dX7_withOnePewMore_73 : decode cX7_withOnePewMore 73 = .ok (.istore 9, 2) := by decide +kernel
theorem dX7_withOnePewMore_75 : decode cX7_withOnePewMore 75 = .ok (.goto (-38), 3) := by decide +kernel
theorem dX7_withOnePewMore_78 : decode cX7_withOnePewMore 78 = .ok (.iinc 7 1, 3) := by decide +kernel
theorem dX7_withOnePewMore_81 : decode cX7_withOnePewMore 81 = .ok (.goto (-75), 3) := by decide +kernel
theorem dX7_withOnePewMore_84 : decode cX7_withOnePewMore 84 = .ok (.lload 5, 2) := by decide +kernel
theorem dX7_withOnePewMore_86 : decode cX7_withOnePewMore 86 = .ok (.lreturn, 1) := by decide +kernel
theorem dX7_leadInRow_0 : decode cX7_leadInRow 0 = .ok (.aload_n 0, 1) := by decide +kernel
theorem dX7_leadInRow_1 : decode cX7_leadInRow 1 = .ok (.getfield 18, 3) := by decide +kernel
theorem dX7_leadInRow_4 : decode cX7_leadInRow 4 = .ok (.iconst 0, 1) := by decide +kernel
theorem dX7_leadInRow_5 : decode cX7_leadInRow 5 = .ok (.invokestatic 72, 3) := by decide +kernel
theorem dX7_leadInRow_8 : decode cX7_leadInRow 8 = .ok (.iconst 0, 1) := by decide +kernel
theorem dX7_leadInRow_9 : decode cX7_leadInRow 9 = .ok (.istore 4, 2) := by decide +kernel
theorem dX7_leadInRow_11 : decode cX7_leadInRow 11 = .ok (.iconst 0, 1) := by decide +kernel
theorem dX7_leadInRow_12 : decode cX7_leadInRow 12 = .ok (.istore 5, 2) := by decide +kernel
theorem dX7_leadInRow_14 : decode cX7_leadInRow 14 = .ok (.iload 5, 2) := by decide +kernel
theorem dX7_leadInRow_16 : decode cX7_leadInRow 16 = .ok (.iload_n 1, 1) := by decide +kernel
theorem dX7_leadInRow_17 : decode cX7_leadInRow 17 = .ok (.if_icmp .ge 63, 3) := by decide +kernel
theorem dX7_leadInRow_20 : decode cX7_leadInRow 20 = .ok (.aload_n 0, 1) := by decide +kernel
theorem dX7_leadInRow_21 : decode cX7_leadInRow 21 = .ok (.iload_n 2, 1) := by decide +kernel
theorem dX7_leadInRow_22 : decode cX7_leadInRow 22 = .ok (.invokevirtual 78, 3) := by decide +kernel
theorem dX7_leadInRow_25 : decode cX7_leadInRow 25 = .ok (.istore 6, 2) := by decide +kernel
theorem dX7_leadInRow_27 : decode cX7_leadInRow 27 = .ok (.iload 5, 2) := by decide +kernel
theorem dX7_leadInRow_29 : decode cX7_leadInRow 29 = .ok (.iload_n 3, 1) := by decide +kernel
theorem dX7_leadInRow_30 : decode cX7_leadInRow 30 = .ok (.if_icmp .ne 11, 3) := by decide +kernel
theorem dX7_leadInRow_33 : decode cX7_leadInRow 33 = .ok (.aload_n 0, 1) := by decide +kernel
theorem dX7_leadInRow_34 : decode cX7_leadInRow 34 = .ok (.getfield 18, 3) := by decide +kernel
theorem dX7_leadInRow_37 : decode cX7_leadInRow 37 = .ok (.iload 6, 2) := by decide +kernel
theorem dX7_leadInRow_39 : decode cX7_leadInRow 39 = .ok (.iaload, 1) := by decide +kernel
theorem dX7_leadInRow_40 : decode cX7_leadInRow 40 = .ok (.ireturn, 1) := by decide +kernel
theorem dX7_leadInRow_41 : decode cX7_leadInRow 41 = .ok (.aload_n 0, 1) := by decide +kernel
theorem dX7_leadInRow_42 : decode cX7_leadInRow 42 = .ok (.getfield 18, 3) := by decide +kernel
theorem dX7_leadInRow_45 : decode cX7_leadInRow 45 = .ok (.iload 6, 2) := by decide +kernel
theorem dX7_leadInRow_47 : decode cX7_leadInRow 47 = .ok (.dup2, 1) := by decide +kernel
theorem dX7_leadInRow_48 : decode cX7_leadInRow 48 = .ok (.iaload, 1) := by decide +kernel
theorem dX7_leadInRow_49 : decode cX7_leadInRow 49 = .ok (.aload_n 0, 1) := by decide +kernel
theorem dX7_leadInRow_50 : decode cX7_leadInRow 50 = .ok (.getfield 27, 3) := by decide +kernel
theorem dX7_leadInRow_53 : decode cX7_leadInRow 53 = .ok (.iload 5, 2) := by decide +kernel
theorem dX7_leadInRow_55 : decode cX7_leadInRow 55 = .ok (.invokevirtual 31, 3) := by decide +kernel
theorem dX7_leadInRow_58 : decode cX7_leadInRow 58 = .ok (.iadd, 1) := by decide +kernel
theorem dX7_leadInRow_59 : decode cX7_leadInRow 59 = .ok (.iastore, 1) := by decide +kernel
theorem dX7_leadInRow_60 : decode cX7_leadInRow 60 = .ok (.iload 4, 2) := by decide +kernel
theorem dX7_leadInRow_62 : decode cX7_leadInRow 62 = .ok (.aload_n 0, 1) := by decide +kernel
theorem dX7_leadInRow_63 : decode cX7_leadInRow 63 = .ok (.getfield 18, 3) := by decide +kernel
theorem dX7_leadInRow_66 : decode cX7_leadInRow 66 = .ok (.iload 6, 2) := by decide +kernel
theorem dX7_leadInRow_68 : decode cX7_leadInRow 68 = .ok (.iaload, 1) := by decide +kernel
theorem dX7_leadInRow_69 : decode cX7_leadInRow 69 = .ok (.invokestatic 81, 3) := by decide +kernel
theorem dX7_leadInRow_72 : decode cX7_leadInRow 72 = .ok (.istore 4, 2) := by decide +kernel
theorem dX7_leadInRow_74 : decode cX7_leadInRow 74 = .ok (.iinc 5 1, 3) := by decide +kernel
theorem dX7_leadInRow_77 : decode cX7_leadInRow 77 = .ok (.goto (-63), 3) := by decide +kernel
theorem dX7_leadInRow_80 : decode cX7_leadInRow 80 = .ok (.iload 4, 2) := by decide +kernel
theorem dX7_leadInRow_82 : decode cX7_leadInRow 82 = .ok (.ireturn, 1) := by decide +kernel
theorem dX7_firstFree_0 : decode cX7_firstFree 0 = .ok (.iconst 0, 1) := by decide +kernel
theorem dX7_firstFree_1 : decode cX7_firstFree 1 = .ok (.istore_n 2, 1) := by decide +kernel
theorem dX7_firstFree_2 : decode cX7_firstFree 2 = .ok (.iconst 1, 1) := by decide +kernel
theorem dX7_firstFree_3 : decode cX7_firstFree 3 = .ok (.istore_n 3, 1) := by decide +kernel
theorem dX7_firstFree_4 : decode cX7_firstFree 4 = .ok (.iload_n 3, 1) := by decide +kernel
theorem dX7_firstFree_5 : decode cX7_firstFree 5 = .ok (.iload_n 1, 1) := by decide +kernel
theorem dX7_firstFree_6 : decode cX7_firstFree 6 = .ok (.if_icmp .ge 32, 3) := by decide +kernel
theorem dX7_firstFree_9 : decode cX7_firstFree 9 = .ok (.iload_n 3, 1) := by decide +kernel
theorem dX7_firstFree_10 : decode cX7_firstFree 10 = .ok (.bipush 8, 2) := by decide +kernel
theorem dX7_firstFree_12 : decode cX7_firstFree 12 = .ok (.if_icmp .ge 26, 3) := by decide +kernel
theorem dX7_firstFree_15 : decode cX7_firstFree 15 = .ok (.aload_n 0, 1) := by decide +kernel
theorem dX7_firstFree_16 : decode cX7_firstFree 16 = .ok (.getfield 18, 3) := by decide +kernel
theorem dX7_firstFree_19 : decode cX7_firstFree 19 = .ok (.iload_n 3, 1) := by decide +kernel
theorem dX7_firstFree_20 : decode cX7_firstFree 20 = .ok (.iaload, 1) := by decide +kernel
theorem dX7_firstFree_21 : decode cX7_firstFree 21 = .ok (.aload_n 0, 1) := by decide +kernel
theorem dX7_firstFree_22 : decode cX7_firstFree 22 = .ok (.getfield 18, 3) := by decide +kernel
theorem dX7_firstFree_25 : decode cX7_firstFree 25 = .ok (.iload_n 2, 1) := by decide +kernel
theorem dX7_firstFree_26 : decode cX7_firstFree 26 = .ok (.iaload, 1) := by decide +kernel
theorem dX7_firstFree_27 : decode cX7_firstFree 27 = .ok (.if_icmp .ge 5, 3) := by decide +kernel
theorem dX7_firstFree_30 : decode cX7_firstFree 30 = .ok (.iload_n 3, 1) := by decide +kernel
theorem dX7_firstFree_31 : decode cX7_firstFree 31 = .ok (.istore_n 2, 1) := by decide +kernel
theorem dX7_firstFree_32 : decode cX7_firstFree 32 = .ok (.iinc 3 1, 3) := by decide +kernel
theorem dX7_firstFree_35 : decode cX7_firstFree 35 = .ok (.goto (-31), 3) := by decide +kernel
theorem dX7_firstFree_38 : decode cX7_firstFree 38 = .ok (.iload_n 2, 1) := by decide +kernel
theorem dX7_firstFree_39 : decode cX7_firstFree 39 = .ok (.ireturn, 1) := by decide +kernel
theorem dX7_leadInBestRow_0 : decode cX7_leadInBestRow 0 = .ok (.iconst 0, 1) := by decide +kernel
theorem dX7_leadInBestRow_1 : decode cX7_leadInBestRow 1 = .ok (.istore_n 3, 1) := by decide +kernel
theorem dX7_leadInBestRow_2 : decode cX7_leadInBestRow 2 = .ok (.iconst 0, 1) := by decide +kernel
theorem dX7_leadInBestRow_3 : decode cX7_leadInBestRow 3 = .ok (.istore 4, 2) := by decide +kernel
theorem dX7_leadInBestRow_5 : decode cX7_leadInBestRow 5 = .ok (.iload 4, 2) := by decide +kernel
theorem dX7_leadInBestRow_7 : decode cX7_leadInBestRow 7 = .ok (.iload_n 1, 1) := by decide +kernel
theorem dX7_leadInBestRow_8 : decode cX7_leadInBestRow 8 = .ok (.if_icmp .ge 23, 3) := by decide +kernel
theorem dX7_leadInBestRow_11 : decode cX7_leadInBestRow 11 = .ok (.iload_n 3, 1) := by decide +kernel
theorem dX7_leadInBestRow_12 : decode cX7_leadInBestRow 12 = .ok (.aload_n 0, 1) := by decide +kernel
theorem dX7_leadInBestRow_13 : decode cX7_leadInBestRow 13 = .ok (.getfield 27, 3) := by decide +kernel
theorem dX7_leadInBestRow_16 : decode cX7_leadInBestRow 16 = .ok (.iload 4, 2) := by decide +kernel
theorem dX7_leadInBestRow_18 : decode cX7_leadInBestRow 18 = .ok (.invokevirtual 31, 3) := by decide +kernel
theorem dX7_leadInBestRow_21 : decode cX7_leadInBestRow 21 = .ok (.invokestatic 81, 3) := by decide +kernel
theorem dX7_leadInBestRow_24 : decode cX7_leadInBestRow 24 = .ok (.istore_n 3, 1) := by decide +kernel
theorem dX7_leadInBestRow_25 : decode cX7_leadInBestRow 25 = .ok (.iinc 4 1, 3) := by decide +kernel
theorem dX7_leadInBestRow_28 : decode cX7_leadInBestRow 28 = .ok (.goto (-23), 3) := by decide +kernel
theorem dX7_leadInBestRow_31 : decode cX7_leadInBestRow 31 = .ok (.iload_n 3, 1) := by decide +kernel
theorem dX7_leadInBestRow_32 : decode cX7_leadInBestRow 32 = .ok (.istore 4, 2) := by decide +kernel
theorem dX7_leadInBestRow_34 : decode cX7_leadInBestRow 34 = .ok (.aload_n 0, 1) := by decide +kernel
theorem dX7_leadInBestRow_35 : decode cX7_leadInBestRow 35 = .ok (.iload_n 1, 1) := by decide +kernel
theorem dX7_leadInBestRow_36 : decode cX7_leadInBestRow 36 = .ok (.invokevirtual 47, 3) := by decide +kernel
theorem dX7_leadInBestRow_39 : decode cX7_leadInBestRow 39 = .ok (.istore 5, 2) := by decide +kernel
theorem dX7_leadInBestRow_41 : decode cX7_leadInBestRow 41 = .ok (.iconst 0, 1) := by decide +kernel
theorem dX7_leadInBestRow_42 : decode cX7_leadInBestRow 42 = .ok (.istore 6, 2) := by decide +kernel
theorem dX7_leadInBestRow_44 : decode cX7_leadInBestRow 44 = .ok (.iload 6, 2) := by decide +kernel
theorem dX7_leadInBestRow_46 : decode cX7_leadInBestRow 46 = .ok (.bipush 32, 2) := by decide +kernel
theorem dX7_leadInBestRow_48 : decode cX7_leadInBestRow 48 = .ok (.if_icmp .ge 49, 3) := by decide +kernel
theorem dX7_leadInBestRow_51 : decode cX7_leadInBestRow 51 = .ok (.iload 4, 2) := by decide +kernel
theorem dX7_leadInBestRow_53 : decode cX7_leadInBestRow 53 = .ok (.iload 5, 2) := by decide +kernel
theorem dX7_leadInBestRow_55 : decode cX7_leadInBestRow 55 = .ok (.if_icmp .ge 42, 3) := by decide +kernel
theorem dX7_leadInBestRow_58 : decode cX7_leadInBestRow 58 = .ok (.iload 4, 2) := by decide +kernel
theorem dX7_leadInBestRow_60 : decode cX7_leadInBestRow 60 = .ok (.iload 5, 2) := by decide +kernel
theorem dX7_leadInBestRow_62 : decode cX7_leadInBestRow 62 = .ok (.iadd, 1) := by decide +kernel
theorem dX7_leadInBestRow_63 : decode cX7_leadInBestRow 63 = .ok (.iconst 2, 1) := by decide +kernel
theorem dX7_leadInBestRow_64 : decode cX7_leadInBestRow 64 = .ok (.idiv, 1) := by decide +kernel
theorem dX7_leadInBestRow_65 : decode cX7_leadInBestRow 65 = .ok (.istore 7, 2) := by decide +kernel
theorem dX7_leadInBestRow_67 : decode cX7_leadInBestRow 67 = .ok (.aload_n 0, 1) := by decide +kernel
theorem dX7_leadInBestRow_68 : decode cX7_leadInBestRow 68 = .ok (.iload_n 1, 1) := by decide +kernel
theorem dX7_leadInBestRow_69 : decode cX7_leadInBestRow 69 = .ok (.iload 7, 2) := by decide +kernel
theorem dX7_leadInBestRow_71 : decode cX7_leadInBestRow 71 = .ok (.invokevirtual 84, 3) := by decide +kernel
theorem dX7_leadInBestRow_74 : decode cX7_leadInBestRow 74 = .ok (.iload_n 2, 1) := by decide +kernel
theorem dX7_leadInBestRow_75 : decode cX7_leadInBestRow 75 = .ok (.if_icmp .gt 10, 3) := by decide +kernel
theorem dX7_leadInBestRow_78 : decode cX7_leadInBestRow 78 = .ok (.iload 7, 2) := by decide +kernel
theorem dX7_leadInBestRow_80 : decode cX7_leadInBestRow 80 = .ok (.istore 5, 2) := by decide +kernel
theorem dX7_leadInBestRow_82 : decode cX7_leadInBestRow 82 = .ok (.goto 9, 3) := by decide +kernel
theorem dX7_leadInBestRow_85 : decode cX7_leadInBestRow 85 = .ok (.iload 7, 2) := by decide +kernel
theorem dX7_leadInBestRow_87 : decode cX7_leadInBestRow 87 = .ok (.iconst 1, 1) := by decide +kernel
theorem dX7_leadInBestRow_88 : decode cX7_leadInBestRow 88 = .ok (.iadd, 1) := by decide +kernel
theorem dX7_leadInBestRow_89 : decode cX7_leadInBestRow 89 = .ok (.istore 4, 2) := by decide +kernel
theorem dX7_leadInBestRow_91 : decode cX7_leadInBestRow 91 = .ok (.iinc 6 1, 3) := by decide +kernel
theorem dX7_leadInBestRow_94 : decode cX7_leadInBestRow 94 = .ok (.goto (-50), 3) := by decide +kernel
theorem dX7_leadInBestRow_97 : decode cX7_leadInBestRow 97 = .ok (.iload 4, 2) := by decide +kernel
theorem dX7_leadInBestRow_99 : decode cX7_leadInBestRow 99 = .ok (.ireturn, 1) := by decide +kernel
theorem dX7_ushersFor_0 : decode cX7_ushersFor 0 = .ok (.aload_n 0, 1) := by decide +kernel
theorem dX7_ushersFor_1 : decode cX7_ushersFor 1 = .ok (.getfield 24, 3) := by decide +kernel
theorem dX7_ushersFor_4 : decode cX7_ushersFor 4 = .ok (.iconst 0, 1) := by decide +kernel
theorem dX7_ushersFor_5 : decode cX7_ushersFor 5 = .ok (.iconst 0, 1) := by decide +kernel
theorem dX7_ushersFor_6 : decode cX7_ushersFor 6 = .ok (.iastore, 1) := by decide +kernel
theorem dX7_ushersFor_7 : decode cX7_ushersFor 7 = .ok (.iconst 1, 1) := by decide +kernel
theorem dX7_ushersFor_8 : decode cX7_ushersFor 8 = .ok (.istore_n 3, 1) := by decide +kernel
theorem dX7_ushersFor_9 : decode cX7_ushersFor 9 = .ok (.iload_n 3, 1) := by decide +kernel
theorem dX7_ushersFor_10 : decode cX7_ushersFor 10 = .ok (.iconst 1, 1) := by decide +kernel
theorem dX7_ushersFor_11 : decode cX7_ushersFor 11 = .ok (.iload_n 1, 1) := by decide +kernel
theorem dX7_ushersFor_12 : decode cX7_ushersFor 12 = .ok (.ishl, 1) := by decide +kernel
theorem dX7_ushersFor_13 : decode cX7_ushersFor 13 = .ok (.if_icmp .ge 94, 3) := by decide +kernel
theorem dX7_ushersFor_16 : decode cX7_ushersFor 16 = .ok (.iload_n 3, 1) := by decide +kernel
theorem dX7_ushersFor_17 : decode cX7_ushersFor 17 = .ok (.aload_n 0, 1) := by decide +kernel
theorem dX7_ushersFor_18 : decode cX7_ushersFor 18 = .ok (.getfield 24, 3) := by decide +kernel
theorem dX7_ushersFor_21 : decode cX7_ushersFor 21 = .ok (.arraylength, 1) := by decide +kernel
theorem dX7_ushersFor_22 : decode cX7_ushersFor 22 = .ok (.if_icmp .ge 85, 3) := by decide +kernel
theorem dX7_ushersFor_25 : decode cX7_ushersFor 25 = .ok (.aload_n 0, 1) := by decide +kernel
theorem dX7_ushersFor_26 : decode cX7_ushersFor 26 = .ok (.getfield 24, 3) := by decide +kernel
theorem dX7_ushersFor_29 : decode cX7_ushersFor 29 = .ok (.iload_n 3, 1) := by decide +kernel
theorem dX7_ushersFor_30 : decode cX7_ushersFor 30 = .ok (.ldc 50, 2) := by decide +kernel
theorem dX7_ushersFor_32 : decode cX7_ushersFor 32 = .ok (.iastore, 1) := by decide +kernel
theorem dX7_ushersFor_33 : decode cX7_ushersFor 33 = .ok (.iconst 0, 1) := by decide +kernel
theorem dX7_ushersFor_34 : decode cX7_ushersFor 34 = .ok (.istore 4, 2) := by decide +kernel
theorem dX7_ushersFor_36 : decode cX7_ushersFor 36 = .ok (.iload 4, 2) := by decide +kernel
theorem dX7_ushersFor_38 : decode cX7_ushersFor 38 = .ok (.iload_n 1, 1) := by decide +kernel
theorem dX7_ushersFor_39 : decode cX7_ushersFor 39 = .ok (.if_icmp .ge 62, 3) := by decide +kernel
theorem dX7_ushersFor_42 : decode cX7_ushersFor 42 = .ok (.iload_n 3, 1) := by decide +kernel
theorem dX7_ushersFor_43 : decode cX7_ushersFor 43 = .ok (.iload 4, 2) := by decide +kernel
theorem dX7_ushersFor_45 : decode cX7_ushersFor 45 = .ok (.ishr, 1) := by decide +kernel
theorem dX7_ushersFor_46 : decode cX7_ushersFor 46 = .ok (.iconst 1, 1) := by decide +kernel
theorem dX7_ushersFor_47 : decode cX7_ushersFor 47 = .ok (.iand, 1) := by decide +kernel
theorem dX7_ushersFor_48 : decode cX7_ushersFor 48 = .ok (.iconst 1, 1) := by decide +kernel
theorem dX7_ushersFor_49 : decode cX7_ushersFor 49 = .ok (.if_icmp .ne 46, 3) := by decide +kernel
theorem dX7_ushersFor_52 : decode cX7_ushersFor 52 = .ok (.aload_n 0, 1) := by decide +kernel
theorem dX7_ushersFor_53 : decode cX7_ushersFor 53 = .ok (.getfield 24, 3) := by decide +kernel
theorem dX7_ushersFor_56 : decode cX7_ushersFor 56 = .ok (.iload_n 3, 1) := by decide +kernel
theorem dX7_ushersFor_57 : decode cX7_ushersFor 57 = .ok (.iconst 1, 1) := by decide +kernel
theorem dX7_ushersFor_58 : decode cX7_ushersFor 58 = .ok (.iload 4, 2) := by decide +kernel
theorem dX7_ushersFor_60 : decode cX7_ushersFor 60 = .ok (.ishl, 1) := by decide +kernel
theorem dX7_ushersFor_61 : decode cX7_ushersFor 61 = .ok (.isub, 1) := by decide +kernel
theorem dX7_ushersFor_62 : decode cX7_ushersFor 62 = .ok (.iaload, 1) := by decide +kernel
theorem dX7_ushersFor_63 : decode cX7_ushersFor 63 = .ok (.istore 5, 2) := by decide +kernel
theorem dX7_ushersFor_65 : decode cX7_ushersFor 65 = .ok (.aload_n 0, 1) := by decide +kernel
theorem dX7_ushersFor_66 : decode cX7_ushersFor 66 = .ok (.getfield 24, 3) := by decide +kernel
theorem dX7_ushersFor_69 : decode cX7_ushersFor 69 = .ok (.iload_n 3, 1) := by decide +kernel
theorem dX7_ushersFor_70 : decode cX7_ushersFor 70 = .ok (.aload_n 0, 1) := by decide +kernel
theorem dX7_ushersFor_71 : decode cX7_ushersFor 71 = .ok (.getfield 24, 3) := by decide +kernel
theorem dX7_ushersFor_74 : decode cX7_ushersFor 74 = .ok (.iload_n 3, 1) := by decide +kernel
theorem dX7_ushersFor_75 : decode cX7_ushersFor 75 = .ok (.iaload, 1) := by decide +kernel
theorem dX7_ushersFor_76 : decode cX7_ushersFor 76 = .ok (.iload 5, 2) := by decide +kernel
theorem dX7_ushersFor_78 : decode cX7_ushersFor 78 = .ok (.aload_n 0, 1) := by decide +kernel
theorem dX7_ushersFor_79 : decode cX7_ushersFor 79 = .ok (.getfield 27, 3) := by decide +kernel
theorem dX7_ushersFor_82 : decode cX7_ushersFor 82 = .ok (.iload 4, 2) := by decide +kernel
theorem dX7_ushersFor_84 : decode cX7_ushersFor 84 = .ok (.invokevirtual 31, 3) := by decide +kernel
theorem dX7_ushersFor_87 : decode cX7_ushersFor 87 = .ok (.iload_n 2, 1) := by decide +kernel
theorem dX7_ushersFor_88 : decode cX7_ushersFor 88 = .ok (.invokestatic 87, 3) := by decide +kernel
theorem dX7_ushersFor_91 : decode cX7_ushersFor 91 = .ok (.invokestatic 37, 3) := by decide +kernel
theorem dX7_ushersFor_94 : decode cX7_ushersFor 94 = .ok (.iastore, 1) := by decide +kernel
theorem dX7_ushersFor_95 : decode cX7_ushersFor 95 = .ok (.iinc 4 1, 3) := by decide +kernel
theorem dX7_ushersFor_98 : decode cX7_ushersFor 98 = .ok (.goto (-62), 3) := by decide +kernel
theorem dX7_ushersFor_101 : decode cX7_ushersFor 101 = .ok (.iinc 3 1, 3) := by decide +kernel
theorem dX7_ushersFor_104 : decode cX7_ushersFor 104 = .ok (.goto (-95), 3) := by decide +kernel
theorem dX7_ushersFor_107 : decode cX7_ushersFor 107 = .ok (.aload_n 0, 1) := by decide +kernel
theorem dX7_ushersFor_108 : decode cX7_ushersFor 108 = .ok (.getfield 24, 3) := by decide +kernel
theorem dX7_ushersFor_111 : decode cX7_ushersFor 111 = .ok (.iconst 1, 1) := by decide +kernel
theorem dX7_ushersFor_112 : decode cX7_ushersFor 112 = .ok (.iload_n 1, 1) := by decide +kernel
theorem dX7_ushersFor_113 : decode cX7_ushersFor 113 = .ok (.ishl, 1) := by decide +kernel
theorem dX7_ushersFor_114 : decode cX7_ushersFor 114 = .ok (.iconst 1, 1) := by decide +kernel
theorem dX7_ushersFor_115 : decode cX7_ushersFor 115 = .ok (.isub, 1) := by decide +kernel
theorem dX7_ushersFor_116 : decode cX7_ushersFor 116 = .ok (.iaload, 1) := by decide +kernel
theorem dX7_ushersFor_117 : decode cX7_ushersFor 117 = .ok (.istore_n 3, 1) := by decide +kernel
theorem dX7_ushersFor_118 : decode cX7_ushersFor 118 = .ok (.iload_n 3, 1) := by decide +kernel
theorem dX7_ushersFor_119 : decode cX7_ushersFor 119 = .ok (.sipush 4096, 3) := by decide +kernel
theorem dX7_ushersFor_122 : decode cX7_ushersFor 122 = .ok (.idiv, 1) := by decide +kernel
theorem dX7_ushersFor_123 : decode cX7_ushersFor 123 = .ok (.iload_n 3, 1) := by decide +kernel
theorem dX7_ushersFor_124 : decode cX7_ushersFor 124 = .ok (.sipush 4096, 3) := by decide +kernel
theorem dX7_ushersFor_127 : decode cX7_ushersFor 127 = .ok (.irem, 1) := by decide +kernel
theorem dX7_ushersFor_128 : decode cX7_ushersFor 128 = .ok (.ifCond .le 7, 3) := by decide +kernel
theorem dX7_ushersFor_131 : decode cX7_ushersFor 131 = .ok (.iconst 1, 1) := by decide +kernel
theorem dX7_ushersFor_132 : decode cX7_ushersFor 132 = .ok (.goto 4, 3) := by decide +kernel
theorem dX7_ushersFor_135 : decode cX7_ushersFor 135 = .ok (.iconst 0, 1) := by decide +kernel
theorem dX7_ushersFor_136 : decode cX7_ushersFor 136 = .ok (.iadd, 1) := by decide +kernel
theorem dX7_ushersFor_137 : decode cX7_ushersFor 137 = .ok (.ireturn, 1) := by decide +kernel
theorem dX7_withOneMore_0 : decode cX7_withOneMore 0 = .ok (.iload_n 0, 1) := by decide +kernel
theorem dX7_withOneMore_1 : decode cX7_withOneMore 1 = .ok (.sipush 4096, 3) := by decide +kernel
theorem dX7_withOneMore_4 : decode cX7_withOneMore 4 = .ok (.irem, 1) := by decide +kernel
theorem dX7_withOneMore_5 : decode cX7_withOneMore 5 = .ok (.iload_n 1, 1) := by decide +kernel
theorem dX7_withOneMore_6 : decode cX7_withOneMore 6 = .ok (.iadd, 1) := by decide +kernel
theorem dX7_withOneMore_7 : decode cX7_withOneMore 7 = .ok (.iload_n 2, 1) := by decide +kernel
theorem dX7_withOneMore_8 : decode cX7_withOneMore 8 = .ok (.if_icmp .gt 7, 3) := by decide +kernel
theorem dX7_withOneMore_11 : decode cX7_withOneMore 11 = .ok (.iload_n 0, 1) := by decide +kernel
theorem dX7_withOneMore_12 : decode cX7_withOneMore 12 = .ok (.iload_n 1, 1) := by decide +kernel
theorem dX7_withOneMore_13 : decode cX7_withOneMore 13 = .ok (.iadd, 1) := by decide +kernel
theorem dX7_withOneMore_14 : decode cX7_withOneMore 14 = .ok (.ireturn, 1) := by decide +kernel
theorem dX7_withOneMore_15 : decode cX7_withOneMore 15 = .ok (.iload_n 0, 1) := by decide +kernel
theorem dX7_withOneMore_16 : decode cX7_withOneMore 16 = .ok (.sipush 4096, 3) := by decide +kernel
theorem dX7_withOneMore_19 : decode cX7_withOneMore 19 = .ok (.idiv, 1) := by decide +kernel
theorem dX7_withOneMore_20 : decode cX7_withOneMore 20 = .ok (.iconst 1, 1) := by decide +kernel
theorem dX7_withOneMore_21 : decode cX7_withOneMore 21 = .ok (.iadd, 1) := by decide +kernel
theorem dX7_withOneMore_22 : decode cX7_withOneMore 22 = .ok (.sipush 4096, 3) := by decide +kernel
theorem dX7_withOneMore_25 : decode cX7_withOneMore 25 = .ok (.imul, 1) := by decide +kernel
theorem dX7_withOneMore_26 : decode cX7_withOneMore 26 = .ok (.iload_n 1, 1) := by decide +kernel
theorem dX7_withOneMore_27 : decode cX7_withOneMore 27 = .ok (.iadd, 1) := by decide +kernel
theorem dX7_withOneMore_28 : decode cX7_withOneMore 28 = .ok (.ireturn, 1) := by decide +kernel
theorem dX7_heightsInRow_0 : decode cX7_heightsInRow 0 = .ok (.iload_n 2, 1) := by decide +kernel
theorem dX7_heightsInRow_1 : decode cX7_heightsInRow 1 = .ok (.ifCond .ne 9, 3) := by decide +kernel
theorem dX7_heightsInRow_4 : decode cX7_heightsInRow 4 = .ok (.aload_n 0, 1) := by decide +kernel
theorem dX7_heightsInRow_5 : decode cX7_heightsInRow 5 = .ok (.iload_n 1, 1) := by decide +kernel
theorem dX7_heightsInRow_6 : decode cX7_heightsInRow 6 = .ok (.invokevirtual 91, 3) := by decide +kernel
theorem dX7_heightsInRow_9 : decode cX7_heightsInRow 9 = .ok (.ireturn, 1) := by decide +kernel
theorem dX7_heightsInRow_10 : decode cX7_heightsInRow 10 = .ok (.iload_n 2, 1) := by decide +kernel
theorem dX7_heightsInRow_11 : decode cX7_heightsInRow 11 = .ok (.iconst 1, 1) := by decide +kernel
theorem dX7_heightsInRow_12 : decode cX7_heightsInRow 12 = .ok (.if_icmp .ne 11, 3) := by decide +kernel
theorem dX7_heightsInRow_15 : decode cX7_heightsInRow 15 = .ok (.aload_n 0, 1) := by decide +kernel
theorem dX7_heightsInRow_16 : decode cX7_heightsInRow 16 = .ok (.iload_n 1, 1) := by decide +kernel
theorem dX7_heightsInRow_17 : decode cX7_heightsInRow 17 = .ok (.invokevirtual 94, 3) := by decide +kernel
theorem dX7_heightsInRow_20 : decode cX7_heightsInRow 20 = .ok (.goto 10, 3) := by decide +kernel
theorem dX7_heightsInRow_23 : decode cX7_heightsInRow 23 = .ok (.iload_n 1, 1) := by decide +kernel
theorem dX7_heightsInRow_24 : decode cX7_heightsInRow 24 = .ok (.aload_n 0, 1) := by decide +kernel
theorem dX7_heightsInRow_25 : decode cX7_heightsInRow 25 = .ok (.iload_n 1, 1) := by decide +kernel
theorem dX7_heightsInRow_26 : decode cX7_heightsInRow 26 = .ok (.invokevirtual 97, 3) := by decide +kernel
theorem dX7_heightsInRow_29 : decode cX7_heightsInRow 29 = .ok (.isub, 1) := by decide +kernel
theorem dX7_heightsInRow_30 : decode cX7_heightsInRow 30 = .ok (.ireturn, 1) := by decide +kernel
theorem dX7_seenFromFront_0 : decode cX7_seenFromFront 0 = .ok (.iconst 0, 1) := by decide +kernel
theorem dX7_seenFromFront_1 : decode cX7_seenFromFront 1 = .ok (.istore_n 2, 1) := by decide +kernel
theorem dX7_seenFromFront_2 : decode cX7_seenFromFront 2 = .ok (.iconst (-1), 1) := by decide +kernel
theorem dX7_seenFromFront_3 : decode cX7_seenFromFront 3 = .ok (.istore_n 3, 1) := by decide +kernel
theorem dX7_seenFromFront_4 : decode cX7_seenFromFront 4 = .ok (.iconst 0, 1) := by decide +kernel
theorem dX7_seenFromFront_5 : decode cX7_seenFromFront 5 = .ok (.istore 4, 2) := by decide +kernel
theorem dX7_seenFromFront_7 : decode cX7_seenFromFront 7 = .ok (.iload 4, 2) := by decide +kernel
theorem dX7_seenFromFront_9 : decode cX7_seenFromFront 9 = .ok (.iload_n 1, 1) := by decide +kernel
theorem dX7_seenFromFront_10 : decode cX7_seenFromFront 10 = .ok (.if_icmp .ge 35, 3) := by decide +kernel
theorem dX7_seenFromFront_13 : decode cX7_seenFromFront 13 = .ok (.aload_n 0, 1) := by decide +kernel
theorem dX7_seenFromFront_14 : decode cX7_seenFromFront 14 = .ok (.getfield 27, 3) := by decide +kernel
theorem dX7_seenFromFront_17 : decode cX7_seenFromFront 17 = .ok (.iload 4, 2) := by decide +kernel
theorem dX7_seenFromFront_19 : decode cX7_seenFromFront 19 = .ok (.invokevirtual 31, 3) := by decide +kernel
theorem dX7_seenFromFront_22 : decode cX7_seenFromFront 22 = .ok (.iload_n 3, 1) := by decide +kernel
theorem dX7_seenFromFront_23 : decode cX7_seenFromFront 23 = .ok (.if_icmp .le 16, 3) := by decide +kernel
theorem dX7_seenFromFront_26 : decode cX7_seenFromFront 26 = .ok (.aload_n 0, 1) := by decide +kernel
theorem dX7_seenFromFront_27 : decode cX7_seenFromFront 27 = .ok (.getfield 27, 3) := by decide +kernel
theorem dX7_seenFromFront_30 : decode cX7_seenFromFront 30 = .ok (.iload 4, 2) := by decide +kernel
theorem dX7_seenFromFront_32 : decode cX7_seenFromFront 32 = .ok (.invokevirtual 31, 3) := by decide +kernel
theorem dX7_seenFromFront_35 : decode cX7_seenFromFront 35 = .ok (.istore_n 3, 1) := by decide +kernel
theorem dX7_seenFromFront_36 : decode cX7_seenFromFront 36 = .ok (.iinc 2 1, 3) := by decide +kernel
theorem dX7_seenFromFront_39 : decode cX7_seenFromFront 39 = .ok (.iinc 4 1, 3) := by decide +kernel
theorem dX7_seenFromFront_42 : decode cX7_seenFromFront 42 = .ok (.goto (-35), 3) := by decide +kernel
theorem dX7_seenFromFront_45 : decode cX7_seenFromFront 45 = .ok (.iload_n 2, 1) := by decide +kernel
theorem dX7_seenFromFront_46 : decode cX7_seenFromFront 46 = .ok (.ireturn, 1) := by decide +kernel
theorem dX7_changesTillRising_0 : decode cX7_changesTillRising 0 = .ok (.iconst 0, 1) := by decide +kernel
theorem dX7_changesTillRising_1 : decode cX7_changesTillRising 1 = .ok (.istore_n 2, 1) := by decide +kernel
theorem dX7_changesTillRising_2 : decode cX7_changesTillRising 2 = .ok (.iconst 0, 1) := by decide +kernel
theorem dX7_changesTillRising_3 : decode cX7_changesTillRising 3 = .ok (.istore_n 3, 1) := by decide +kernel
theorem dX7_changesTillRising_4 : decode cX7_changesTillRising 4 = .ok (.iload_n 3, 1) := by decide +kernel
theorem dX7_changesTillRising_5 : decode cX7_changesTillRising 5 = .ok (.iload_n 1, 1) := by decide +kernel
theorem dX7_changesTillRising_6 : decode cX7_changesTillRising 6 = .ok (.if_icmp .ge 47, 3) := by decide +kernel
theorem dX7_changesTillRising_9 : decode cX7_changesTillRising 9 = .ok (.iconst 0, 1) := by decide +kernel
theorem dX7_changesTillRising_10 : decode cX7_changesTillRising 10 = .ok (.istore 4, 2) := by decide +kernel
theorem dX7_changesTillRising_12 : decode cX7_changesTillRising 12 = .ok (.iload 4, 2) := by decide +kernel
theorem dX7_changesTillRising_14 : decode cX7_changesTillRising 14 = .ok (.iload_n 3, 1) := by decide +kernel
theorem dX7_changesTillRising_15 : decode cX7_changesTillRising 15 = .ok (.if_icmp .ge 32, 3) := by decide +kernel
theorem dX7_changesTillRising_18 : decode cX7_changesTillRising 18 = .ok (.aload_n 0, 1) := by decide +kernel
theorem dX7_changesTillRising_19 : decode cX7_changesTillRising 19 = .ok (.getfield 27, 3) := by decide +kernel
theorem dX7_changesTillRising_22 : decode cX7_changesTillRising 22 = .ok (.iload_n 3, 1) := by decide +kernel
theorem dX7_changesTillRising_23 : decode cX7_changesTillRising 23 = .ok (.invokevirtual 31, 3) := by decide +kernel
theorem dX7_changesTillRising_26 : decode cX7_changesTillRising 26 = .ok (.aload_n 0, 1) := by decide +kernel
theorem dX7_changesTillRising_27 : decode cX7_changesTillRising 27 = .ok (.getfield 27, 3) := by decide +kernel
theorem dX7_changesTillRising_30 : decode cX7_changesTillRising 30 = .ok (.iload 4, 2) := by decide +kernel
theorem dX7_changesTillRising_32 : decode cX7_changesTillRising 32 = .ok (.invokevirtual 31, 3) := by decide +kernel
theorem dX7_changesTillRising_35 : decode cX7_changesTillRising 35 = .ok (.if_icmp .ge 6, 3) := by decide +kernel
theorem dX7_changesTillRising_38 : decode cX7_changesTillRising 38 = .ok (.iinc 2 1, 3) := by decide +kernel
theorem dX7_changesTillRising_41 : decode cX7_changesTillRising 41 = .ok (.iinc 4 1, 3) := by decide +kernel
theorem dX7_changesTillRising_44 : decode cX7_changesTillRising 44 = .ok (.goto (-32), 3) := by decide +kernel
theorem dX7_changesTillRising_47 : decode cX7_changesTillRising 47 = .ok (.iinc 3 1, 3) := by decide +kernel
theorem dX7_changesTillRising_50 : decode cX7_changesTillRising 50 = .ok (.goto (-46), 3) := by decide +kernel
theorem dX7_changesTillRising_53 : decode cX7_changesTillRising 53 = .ok (.iload_n 2, 1) := by decide +kernel
theorem dX7_changesTillRising_54 : decode cX7_changesTillRising 54 = .ok (.ireturn, 1) := by decide +kernel
theorem dX7_longestRising_0 : decode cX7_longestRising 0 = .ok (.iconst 0, 1) := by decide +kernel
theorem dX7_longestRising_1 : decode cX7_longestRising 1 = .ok (.istore_n 2, 1) := by decide +kernel
theorem dX7_longestRising_2 : decode cX7_longestRising 2 = .ok (.iconst 0, 1) := by decide +kernel
theorem dX7_longestRising_3 : decode cX7_longestRising 3 = .ok (.istore_n 3, 1) := by decide +kernel
theorem dX7_longestRising_4 : decode cX7_longestRising 4 = .ok (.iload_n 3, 1) := by decide +kernel
theorem dX7_longestRising_5 : decode cX7_longestRising 5 = .ok (.iload_n 1, 1) := by decide +kernel
theorem dX7_longestRising_6 : decode cX7_longestRising 6 = .ok (.if_icmp .ge 92, 3) := by decide +kernel
theorem dX7_longestRising_9 : decode cX7_longestRising 9 = .ok (.iload_n 3, 1) := by decide +kernel
theorem dX7_longestRising_10 : decode cX7_longestRising 10 = .ok (.bipush 12, 2) := by decide +kernel
theorem dX7_longestRising_12 : decode cX7_longestRising 12 = .ok (.if_icmp .ge 86, 3) := by decide +kernel
theorem dX7_longestRising_15 : decode cX7_longestRising 15 = .ok (.aload_n 0, 1) := by decide +kernel
theorem dX7_longestRising_16 : decode cX7_longestRising 16 = .ok (.getfield 21, 3) := by decide +kernel
theorem dX7_longestRising_19 : decode cX7_longestRising 19 = .ok (.iload_n 3, 1) := by decide +kernel
theorem dX7_longestRising_20 : decode cX7_longestRising 20 = .ok (.iconst 1, 1) := by decide +kernel
theorem dX7_longestRising_21 : decode cX7_longestRising 21 = .ok (.iastore, 1) := by decide +kernel
theorem dX7_longestRising_22 : decode cX7_longestRising 22 = .ok (.iconst 0, 1) := by decide +kernel
theorem dX7_longestRising_23 : decode cX7_longestRising 23 = .ok (.istore 4, 2) := by decide +kernel
theorem dX7_longestRising_25 : decode cX7_longestRising 25 = .ok (.iload 4, 2) := by decide +kernel
theorem dX7_longestRising_27 : decode cX7_longestRising 27 = .ok (.iload_n 3, 1) := by decide +kernel
theorem dX7_longestRising_28 : decode cX7_longestRising 28 = .ok (.if_icmp .ge 53, 3) := by decide +kernel
theorem dX7_longestRising_31 : decode cX7_longestRising 31 = .ok (.aload_n 0, 1) := by decide +kernel
theorem dX7_longestRising_32 : decode cX7_longestRising 32 = .ok (.getfield 27, 3) := by decide +kernel
theorem dX7_longestRising_35 : decode cX7_longestRising 35 = .ok (.iload 4, 2) := by decide +kernel
theorem dX7_longestRising_37 : decode cX7_longestRising 37 = .ok (.invokevirtual 31, 3) := by decide +kernel
theorem dX7_longestRising_40 : decode cX7_longestRising 40 = .ok (.aload_n 0, 1) := by decide +kernel
theorem dX7_longestRising_41 : decode cX7_longestRising 41 = .ok (.getfield 27, 3) := by decide +kernel
theorem dX7_longestRising_44 : decode cX7_longestRising 44 = .ok (.iload_n 3, 1) := by decide +kernel
theorem dX7_longestRising_45 : decode cX7_longestRising 45 = .ok (.invokevirtual 31, 3) := by decide +kernel
theorem dX7_longestRising_48 : decode cX7_longestRising 48 = .ok (.if_icmp .ge 27, 3) := by decide +kernel
theorem dX7_longestRising_51 : decode cX7_longestRising 51 = .ok (.aload_n 0, 1) := by decide +kernel
theorem dX7_longestRising_52 : decode cX7_longestRising 52 = .ok (.getfield 21, 3) := by decide +kernel
theorem dX7_longestRising_55 : decode cX7_longestRising 55 = .ok (.iload_n 3, 1) := by decide +kernel
theorem dX7_longestRising_56 : decode cX7_longestRising 56 = .ok (.aload_n 0, 1) := by decide +kernel
theorem dX7_longestRising_57 : decode cX7_longestRising 57 = .ok (.getfield 21, 3) := by decide +kernel
theorem dX7_longestRising_60 : decode cX7_longestRising 60 = .ok (.iload_n 3, 1) := by decide +kernel
theorem dX7_longestRising_61 : decode cX7_longestRising 61 = .ok (.iaload, 1) := by decide +kernel
theorem dX7_longestRising_62 : decode cX7_longestRising 62 = .ok (.aload_n 0, 1) := by decide +kernel
theorem dX7_longestRising_63 : decode cX7_longestRising 63 = .ok (.getfield 21, 3) := by decide +kernel
theorem dX7_longestRising_66 : decode cX7_longestRising 66 = .ok (.iload 4, 2) := by decide +kernel
theorem dX7_longestRising_68 : decode cX7_longestRising 68 = .ok (.iaload, 1) := by decide +kernel
theorem dX7_longestRising_69 : decode cX7_longestRising 69 = .ok (.iconst 1, 1) := by decide +kernel
theorem dX7_longestRising_70 : decode cX7_longestRising 70 = .ok (.iadd, 1) := by decide +kernel
theorem dX7_longestRising_71 : decode cX7_longestRising 71 = .ok (.invokestatic 81, 3) := by decide +kernel
theorem dX7_longestRising_74 : decode cX7_longestRising 74 = .ok (.iastore, 1) := by decide +kernel
theorem dX7_longestRising_75 : decode cX7_longestRising 75 = .ok (.iinc 4 1, 3) := by decide +kernel
theorem dX7_longestRising_78 : decode cX7_longestRising 78 = .ok (.goto (-53), 3) := by decide +kernel
theorem dX7_longestRising_81 : decode cX7_longestRising 81 = .ok (.iload_n 2, 1) := by decide +kernel
theorem dX7_longestRising_82 : decode cX7_longestRising 82 = .ok (.aload_n 0, 1) := by decide +kernel
theorem dX7_longestRising_83 : decode cX7_longestRising 83 = .ok (.getfield 21, 3) := by decide +kernel
theorem dX7_longestRising_86 : decode cX7_longestRising 86 = .ok (.iload_n 3, 1) := by decide +kernel
theorem dX7_longestRising_87 : decode cX7_longestRising 87 = .ok (.iaload, 1) := by decide +kernel
theorem dX7_longestRising_88 : decode cX7_longestRising 88 = .ok (.invokestatic 81, 3) := by decide +kernel
theorem dX7_longestRising_91 : decode cX7_longestRising 91 = .ok (.istore_n 2, 1) := by decide +kernel
theorem dX7_longestRising_92 : decode cX7_longestRising 92 = .ok (.iinc 3 1, 3) := by decide +kernel
theorem dX7_longestRising_95 : decode cX7_longestRising 95 = .ok (.goto (-91), 3) := by decide +kernel
theorem dX7_longestRising_98 : decode cX7_longestRising 98 = .ok (.iload_n 2, 1) := by decide +kernel
theorem dX7_longestRising_99 : decode cX7_longestRising 99 = .ok (.ireturn, 1) := by decide +kernel
theorem dX8_init_0 : decode cX8_init 0 = .ok (.aload_n 0, 1) := by decide +kernel
theorem dX8_init_1 : decode cX8_init 1 = .ok (.invokespecial 1, 3) := by decide +kernel
theorem dX8_init_4 : decode cX8_init 4 = .ok (.aload_n 0, 1) := by decide +kernel
theorem dX8_init_5 : decode cX8_init 5 = .ok (.sipush 260, 3) := by decide +kernel
theorem dX8_init_8 : decode cX8_init 8 = .ok (.newarray .int, 2) := by decide +kernel
theorem dX8_init_10 : decode cX8_init 10 = .ok (.putfield 9, 3) := by decide +kernel
theorem dX8_init_13 : decode cX8_init 13 = .ok (.aload_n 0, 1) := by decide +kernel
theorem dX8_init_14 : decode cX8_init 14 = .ok (.iconst 0, 1) := by decide +kernel
theorem dX8_init_15 : decode cX8_init 15 = .ok (.putfield 13, 3) := by decide +kernel
theorem dX8_init_18 : decode cX8_init 18 = .ok (.return_, 1) := by decide +kernel
theorem dX8_hasRoomForFive_0 : decode cX8_hasRoomForFive 0 = .ok (.aload_n 0, 1) := by decide +kernel
theorem dX8_hasRoomForFive_1 : decode cX8_hasRoomForFive 1 = .ok (.getfield 13, 3) := by decide +kernel
theorem dX8_hasRoomForFive_4 : decode cX8_hasRoomForFive 4 = .ok (.bipush 20, 2) := by decide +kernel
theorem dX8_hasRoomForFive_6 : decode cX8_hasRoomForFive 6 = .ok (.iadd, 1) := by decide +kernel
theorem dX8_hasRoomForFive_7 : decode cX8_hasRoomForFive 7 = .ok (.sipush 260, 3) := by decide +kernel
theorem dX8_hasRoomForFive_10 : decode cX8_hasRoomForFive 10 = .ok (.if_icmp .gt 7, 3) := by decide +kernel
theorem dX8_hasRoomForFive_13 : decode cX8_hasRoomForFive 13 = .ok (.iconst 1, 1) := by decide +kernel
theorem dX8_hasRoomForFive_14 : decode cX8_hasRoomForFive 14 = .ok (.goto 4, 3) := by decide +kernel
theorem dX8_hasRoomForFive_17 : decode cX8_hasRoomForFive 17 = .ok (.iconst 0, 1) := by decide +kernel
theorem dX8_hasRoomForFive_18 : decode cX8_hasRoomForFive 18 = .ok (.ireturn, 1) := by decide +kernel
theorem dX8_append_0 : decode cX8_append 0 = .ok (.bipush 24, 2) := by decide +kernel
theorem dX8_append_2 : decode cX8_append 2 = .ok (.istore_n 2, 1) := by decide +kernel
theorem dX8_append_3 : decode cX8_append 3 = .ok (.iload_n 2, 1) := by decide +kernel
theorem dX8_append_4 : decode cX8_append 4 = .ok (.ifCond .lt 45, 3) := by decide +kernel
theorem dX8_append_7 : decode cX8_append 7 = .ok (.aload_n 0, 1) := by decide +kernel
theorem dX8_append_8 : decode cX8_append 8 = .ok (.getfield 13, 3) := by decide +kernel
theorem dX8_append_11 : decode cX8_append 11 = .ok (.sipush 260, 3) := by decide +kernel
theorem dX8_append_14 : decode cX8_append 14 = .ok (.if_icmp .ge 35, 3) := by decide +kernel
theorem dX8_append_17 : decode cX8_append 17 = .ok (.aload_n 0, 1) := by decide +kernel
theorem dX8_append_18 : decode cX8_append 18 = .ok (.getfield 9, 3) := by decide +kernel
theorem dX8_append_21 : decode cX8_append 21 = .ok (.aload_n 0, 1) := by decide +kernel
theorem dX8_append_22 : decode cX8_append 22 = .ok (.getfield 13, 3) := by decide +kernel
theorem dX8_append_25 : decode cX8_append 25 = .ok (.iload_n 1, 1) := by decide +kernel
theorem dX8_append_26 : decode cX8_append 26 = .ok (.iload_n 2, 1) := by decide +kernel
theorem dX8_append_27 : decode cX8_append 27 = .ok (.iushr, 1) := by decide +kernel
theorem dX8_append_28 : decode cX8_append 28 = .ok (.sipush 255, 3) := by decide +kernel
theorem dX8_append_31 : decode cX8_append 31 = .ok (.iand, 1) := by decide +kernel
theorem dX8_append_32 : decode cX8_append 32 = .ok (.iastore, 1) := by decide +kernel
theorem dX8_append_33 : decode cX8_append 33 = .ok (.aload_n 0, 1) := by decide +kernel
theorem dX8_append_34 : decode cX8_append 34 = .ok (.dup, 1) := by decide +kernel
theorem dX8_append_35 : decode cX8_append 35 = .ok (.getfield 13, 3) := by decide +kernel
theorem dX8_append_38 : decode cX8_append 38 = .ok (.iconst 1, 1) := by decide +kernel
theorem dX8_append_39 : decode cX8_append 39 = .ok (.iadd, 1) := by decide +kernel
theorem dX8_append_40 : decode cX8_append 40 = .ok (.putfield 13, 3) := by decide +kernel
theorem dX8_append_43 : decode cX8_append 43 = .ok (.iinc 2 (-8), 3) := by decide +kernel
theorem dX8_append_46 : decode cX8_append 46 = .ok (.goto (-43), 3) := by decide +kernel
theorem dX8_append_49 : decode cX8_append 49 = .ok (.return_, 1) := by decide +kernel
theorem dX8_holds_0 : decode cX8_holds 0 = .ok (.iload_n 1, 1) := by decide +kernel
theorem dX8_holds_1 : decode cX8_holds 1 = .ok (.iload_n 2, 1) := by decide +kernel
theorem dX8_holds_2 : decode cX8_holds 2 = .ok (.iload_n 3, 1) := by decide +kernel
theorem dX8_holds_3 : decode cX8_holds 3 = .ok (.invokestatic 17, 3) := by decide +kernel
theorem dX8_holds_6 : decode cX8_holds 6 = .ok (.ifCond .eq 15, 3) := by decide +kernel
theorem dX8_holds_9 : decode cX8_holds 9 = .ok (.iload_n 1, 1) := by decide +kernel
theorem dX8_holds_10 : decode cX8_holds 10 = .ok (.aload_n 0, 1) := by decide +kernel
theorem dX8_holds_11 : decode cX8_holds 11 = .ok (.getfield 13, 3) := by decide +kernel
theorem dX8_holds_14 : decode cX8_holds 14 = .ok (.if_icmp .gt 7, 3) := by decide +kernel
theorem dX8_holds_17 : decode cX8_holds 17 = .ok (.iconst 1, 1) := by decide +kernel
theorem dX8_holds_18 : decode cX8_holds 18 = .ok (.goto 4, 3) := by decide +kernel
theorem dX8_holds_21 : decode cX8_holds 21 = .ok (.iconst 0, 1) := by decide +kernel
theorem dX8_holds_22 : decode cX8_holds 22 = .ok (.ireturn, 1) := by decide +kernel
theorem dX8_byteAt_0 : decode cX8_byteAt 0 = .ok (.iload_n 1, 1) := by decide +kernel
theorem dX8_byteAt_1 : decode cX8_byteAt 1 = .ok (.ifCond .lt 20, 3) := by decide +kernel
theorem dX8_byteAt_4 : decode cX8_byteAt 4 = .ok (.iload_n 1, 1) := by decide +kernel
theorem dX8_byteAt_5 : decode cX8_byteAt 5 = .ok (.aload_n 0, 1) := by decide +kernel
theorem dX8_byteAt_6 : decode cX8_byteAt 6 = .ok (.getfield 13, 3) := by decide +kernel
theorem dX8_byteAt_9 : decode cX8_byteAt 9 = .ok (.if_icmp .ge 12, 3) := by decide +kernel
theorem dX8_byteAt_12 : decode cX8_byteAt 12 = .ok (.aload_n 0, 1) := by decide +kernel
theorem dX8_byteAt_13 : decode cX8_byteAt 13 = .ok (.getfield 9, 3) := by decide +kernel
theorem dX8_byteAt_16 : decode cX8_byteAt 16 = .ok (.iload_n 1, 1) := by decide +kernel
theorem dX8_byteAt_17 : decode cX8_byteAt 17 = .ok (.iaload, 1) := by decide +kernel
theorem dX8_byteAt_18 : decode cX8_byteAt 18 = .ok (.goto 4, 3) := by decide +kernel
theorem dX8_byteAt_21 : decode cX8_byteAt 21 = .ok (.iconst 0, 1) := by decide +kernel
theorem dX8_byteAt_22 : decode cX8_byteAt 22 = .ok (.ireturn, 1) := by decide +kernel
theorem dX8_clear_0 : decode cX8_clear 0 = .ok (.aload_n 0, 1) := by decide +kernel
theorem dX8_clear_1 : decode cX8_clear 1 = .ok (.iconst 0, 1) := by decide +kernel
theorem dX8_clear_2 : decode cX8_clear 2 = .ok (.putfield 13, 3) := by decide +kernel
theorem dX8_clear_5 : decode cX8_clear 5 = .ok (.return_, 1) := by decide +kernel
theorem dX9_init_0 : decode cX9_init 0 = .ok (.aload_n 0, 1) := by decide +kernel
theorem dX9_init_1 : decode cX9_init 1 = .ok (.invokespecial 3, 3) := by decide +kernel
theorem dX9_init_4 : decode cX9_init 4 = .ok (.aload_n 0, 1) := by decide +kernel
theorem dX9_init_5 : decode cX9_init 5 = .ok (.iconst 0, 1) := by decide +kernel
theorem dX9_init_6 : decode cX9_init 6 = .ok (.putfield 9, 3) := by decide +kernel
theorem dX9_init_9 : decode cX9_init 9 = .ok (.aload_n 0, 1) := by decide +kernel
theorem dX9_init_10 : decode cX9_init 10 = .ok (.iconst 0, 1) := by decide +kernel
theorem dX9_init_11 : decode cX9_init 11 = .ok (.putfield 15, 3) := by decide +kernel
theorem dX9_init_14 : decode cX9_init 14 = .ok (.aload_n 0, 1) := by decide +kernel
theorem dX9_init_15 : decode cX9_init 15 = .ok (.iconst 0, 1) := by decide +kernel
theorem dX9_init_16 : decode cX9_init 16 = .ok (.putfield 18, 3) := by decide +kernel
theorem dX9_init_19 : decode cX9_init 19 = .ok (.aload_n 0, 1) := by decide +kernel
theorem dX9_init_20 : decode cX9_init 20 = .ok (.iconst 0, 1) := by decide +kernel
theorem dX9_init_21 : decode cX9_init 21 = .ok (.putfield 21, 3) := by decide +kernel
theorem dX9_init_24 : decode cX9_init 24 = .ok (.aload_n 0, 1) := by decide +kernel
theorem dX9_init_25 : decode cX9_init 25 = .ok (.iconst (-1), 1) := by decide +kernel
theorem dX9_init_26 : decode cX9_init 26 = .ok (.putfield 24, 3) := by decide +kernel
theorem dX9_init_29 : decode cX9_init 29 = .ok (.aload_n 0, 1) := by decide +kernel
theorem dX9_init_30 : decode cX9_init 30 = .ok (.aload_n 1, 1) := by decide +kernel
theorem dX9_init_31 : decode cX9_init 31 = .ok (.getfield 27, 3) := by decide +kernel
theorem dX9_init_34 : decode cX9_init 34 = .ok (.putfield 33, 3) := by decide +kernel
theorem dX9_init_37 : decode cX9_init 37 = .ok (.return_, 1) := by decide +kernel
theorem dX9_open_0 : decode cX9_open 0 = .ok (.aload_n 0, 1) := by decide +kernel
theorem dX9_open_1 : decode cX9_open 1 = .ok (.iload_n 1, 1) := by decide +kernel
theorem dX9_open_2 : decode cX9_open 2 = .ok (.aload_n 0, 1) := by decide +kernel
theorem dX9_open_3 : decode cX9_open 3 = .ok (.getfield 33, 3) := by decide +kernel
theorem dX9_open_6 : decode cX9_open 6 = .ok (.arraylength, 1) := by decide +kernel
theorem dX9_open_7 : decode cX9_open 7 = .ok (.invokestatic 34, 3) := by decide +kernel
theorem dX9_open_10 : decode cX9_open 10 = .ok (.putfield 9, 3) := by decide +kernel
theorem dX9_open_13 : decode cX9_open 13 = .ok (.aload_n 0, 1) := by decide +kernel
theorem dX9_open_14 : decode cX9_open 14 = .ok (.iconst 0, 1) := by decide +kernel
theorem dX9_open_15 : decode cX9_open 15 = .ok (.putfield 15, 3) := by decide +kernel
theorem dX9_open_18 : decode cX9_open 18 = .ok (.aload_n 0, 1) := by decide +kernel
theorem dX9_open_19 : decode cX9_open 19 = .ok (.iconst 0, 1) := by decide +kernel
theorem dX9_open_20 : decode cX9_open 20 = .ok (.putfield 18, 3) := by decide +kernel
theorem dX9_open_23 : decode cX9_open 23 = .ok (.aload_n 0, 1) := by decide +kernel
theorem dX9_open_24 : decode cX9_open 24 = .ok (.iconst 0, 1) := by decide +kernel
theorem dX9_open_25 : decode cX9_open 25 = .ok (.putfield 21, 3) := by decide +kernel
theorem dX9_open_28 : decode cX9_open 28 = .ok (.aload_n 0, 1) := by decide +kernel
theorem dX9_open_29 : decode cX9_open 29 = .ok (.aload_n 0, 1) := by decide +kernel
theorem dX9_open_30 : decode cX9_open 30 = .ok (.getfield 9, 3) := by decide +kernel
theorem dX9_open_33 : decode cX9_open 33 = .ok (.ifCond .le 12, 3) := by decide +kernel
theorem dX9_open_36 : decode cX9_open 36 = .ok (.aload_n 0, 1) := by decide +kernel
theorem dX9_open_37 : decode cX9_open 37 = .ok (.getfield 33, 3) := by decide +kernel
theorem dX9_open_40 : decode cX9_open 40 = .ok (.iconst 0, 1) := by decide +kernel
theorem dX9_open_41 : decode cX9_open 41 = .ok (.iaload, 1) := by decide +kernel
theorem dX9_open_42 : decode cX9_open 42 = .ok (.goto 4, 3) := by decide +kernel
theorem dX9_open_45 : decode cX9_open 45 = .ok (.iconst (-1), 1) := by decide +kernel
theorem dX9_open_46 : decode cX9_open 46 = .ok (.putfield 24, 3) := by decide +kernel
theorem dX9_open_49 : decode cX9_open 49 = .ok (.return_, 1) := by decide +kernel
theorem dX9_hasFault_0 : decode cX9_hasFault 0 = .ok (.aload_n 0, 1) := by decide +kernel
theorem dX9_hasFault_1 : decode cX9_hasFault 1 = .ok (.getfield 15, 3) := by decide +kernel
theorem dX9_hasFault_4 : decode cX9_hasFault 4 = .ok (.ifCond .eq 7, 3) := by decide +kernel
theorem dX9_hasFault_7 : decode cX9_hasFault 7 = .ok (.iconst 1, 1) := by decide +kernel
theorem dX9_hasFault_8 : decode cX9_hasFault 8 = .ok (.goto 4, 3) := by decide +kernel
theorem dX9_hasFault_11 : decode cX9_hasFault 11 = .ok (.iconst 0, 1) := by decide +kernel
theorem dX9_hasFault_12 : decode cX9_hasFault 12 = .ok (.ireturn, 1) := by decide +kernel
theorem dX9_faultAnswer_0 : decode cX9_faultAnswer 0 = .ok (.sipush (-1000), 3) := by decide +kernel
theorem dX9_faultAnswer_3 : decode cX9_faultAnswer 3 = .ok (.aload_n 0, 1) := by decide +kernel
theorem dX9_faultAnswer_4 : decode cX9_faultAnswer 4 = .ok (.getfield 15, 3) := by decide +kernel
theorem dX9_faultAnswer_7 : decode cX9_faultAnswer 7 = .ok (.imul, 1) := by decide +kernel
theorem dX9_faultAnswer_8 : decode cX9_faultAnswer 8 = .ok (.aload_n 0, 1) := by decide +kernel
theorem dX9_faultAnswer_9 : decode cX9_faultAnswer 9 = .ok (.getfield 18, 3) := by decide +kernel
theorem dX9_faultAnswer_12 : decode cX9_faultAnswer 12 = .ok (.isub, 1) := by decide +kernel
theorem dX9_faultAnswer_13 : decode cX9_faultAnswer 13 = .ok (.ireturn, 1) := by decide +kernel
theorem dX9_fail_0 : decode cX9_fail 0 = .ok (.aload_n 0, 1) := by decide +kernel
theorem dX9_fail_1 : decode cX9_fail 1 = .ok (.getfield 15, 3) := by decide +kernel
theorem dX9_fail_4 : decode cX9_fail 4 = .ok (.ifCond .ne 13, 3) := by decide +kernel
theorem dX9_fail_7 : decode cX9_fail 7 = .ok (.aload_n 0, 1) := by decide +kernel
theorem dX9_fail_8 : decode cX9_fail 8 = .ok (.iload_n 1, 1) := by decide +kernel
theorem dX9_fail_9 : decode cX9_fail 9 = .ok (.putfield 15, 3) := by decide +kernel
theorem dX9_fail_12 : decode cX9_fail 12 = .ok (.aload_n 0, 1) := by decide +kernel
theorem dX9_fail_13 : decode cX9_fail 13 = .ok (.iload_n 2, 1) := by decide +kernel
theorem dX9_fail_14 : decode cX9_fail 14 = .ok (.putfield 18, 3) := by decide +kernel
theorem dX9_fail_17 : decode cX9_fail 17 = .ok (.return_, 1) := by decide +kernel
theorem dX9_isDigit_0 : decode cX9_isDigit 0 = .ok (.aload_n 0, 1) := by decide +kernel
theorem dX9_isDigit_1 : decode cX9_isDigit 1 = .ok (.getfield 24, 3) := by decide +kernel
theorem dX9_isDigit_4 : decode cX9_isDigit 4 = .ok (.bipush 48, 2) := by decide +kernel
theorem dX9_isDigit_6 : decode cX9_isDigit 6 = .ok (.if_icmp .lt 16, 3) := by decide +kernel
theorem dX9_isDigit_9 : decode cX9_isDigit 9 = .ok (.aload_n 0, 1) := by decide +kernel
theorem dX9_isDigit_10 : decode cX9_isDigit 10 = .ok (.getfield 24, 3) := by decide +kernel
theorem dX9_isDigit_13 : decode cX9_isDigit 13 = .ok (.bipush 57, 2) := by decide +kernel
theorem dX9_isDigit_15 : decode cX9_isDigit 15 = .ok (.if_icmp .gt 7, 3) := by decide +kernel
theorem dX9_isDigit_18 : decode cX9_isDigit 18 = .ok (.iconst 1, 1) := by decide +kernel
theorem dX9_isDigit_19 : decode cX9_isDigit 19 = .ok (.goto 4, 3) := by decide +kernel
theorem dX9_isDigit_22 : decode cX9_isDigit 22 = .ok (.iconst 0, 1) := by decide +kernel
theorem dX9_isDigit_23 : decode cX9_isDigit 23 = .ok (.ireturn, 1) := by decide +kernel
theorem dX9_skip_0 : decode cX9_skip 0 = .ok (.aload_n 0, 1) := by decide +kernel
theorem dX9_skip_1 : decode cX9_skip 1 = .ok (.getfield 21, 3) := by decide +kernel
theorem dX9_skip_4 : decode cX9_skip 4 = .ok (.aload_n 0, 1) := by decide +kernel
theorem dX9_skip_5 : decode cX9_skip 5 = .ok (.getfield 9, 3) := by decide +kernel
theorem dX9_skip_8 : decode cX9_skip 8 = .ok (.if_icmp .ge 13, 3) := by decide +kernel
theorem dX9_skip_11 : decode cX9_skip 11 = .ok (.aload_n 0, 1) := by decide +kernel
theorem dX9_skip_12 : decode cX9_skip 12 = .ok (.dup, 1) := by decide +kernel
theorem dX9_skip_13 : decode cX9_skip 13 = .ok (.getfield 21, 3) := by decide +kernel
theorem dX9_skip_16 : decode cX9_skip 16 = .ok (.iconst 1, 1) := by decide +kernel
theorem dX9_skip_17 : decode cX9_skip 17 = .ok (.iadd, 1) := by decide +kernel
theorem dX9_skip_18 : decode cX9_skip 18 = .ok (.putfield 21, 3) := by decide +kernel
theorem dX9_skip_21 : decode cX9_skip 21 = .ok (.aload_n 0, 1) := by decide +kernel
theorem dX9_skip_22 : decode cX9_skip 22 = .ok (.aload_n 0, 1) := by decide +kernel
theorem dX9_skip_23 : decode cX9_skip 23 = .ok (.getfield 21, 3) := by decide +kernel
theorem dX9_skip_26 : decode cX9_skip 26 = .ok (.aload_n 0, 1) := by decide +kernel
theorem dX9_skip_27 : decode cX9_skip 27 = .ok (.getfield 9, 3) := by decide +kernel
theorem dX9_skip_30 : decode cX9_skip 30 = .ok (.if_icmp .ge 15, 3) := by decide +kernel
theorem dX9_skip_33 : decode cX9_skip 33 = .ok (.aload_n 0, 1) := by decide +kernel
theorem dX9_skip_34 : decode cX9_skip 34 = .ok (.getfield 33, 3) := by decide +kernel
theorem dX9_skip_37 : decode cX9_skip 37 = .ok (.aload_n 0, 1) := by decide +kernel
theorem dX9_skip_38 : decode cX9_skip 38 = .ok (.getfield 21, 3) := by decide +kernel
theorem dX9_skip_41 : decode cX9_skip 41 = .ok (.iaload, 1) := by decide +kernel
theorem dX9_skip_42 : decode cX9_skip 42 = .ok (.goto 4, 3) := by decide +kernel
theorem dX9_skip_45 : decode cX9_skip 45 = .ok (.iconst (-1), 1) := by decide +kernel
theorem dX9_skip_46 : decode cX9_skip 46 = .ok (.putfield 24, 3) := by decide +kernel
theorem dX9_skip_49 : decode cX9_skip 49 = .ok (.return_, 1) := by decide +kernel
theorem dX9_passes_0 : decode cX9_passes 0 = .ok (.aload_n 0, 1) := by decide +kernel
theorem dX9_passes_1 : decode cX9_passes 1 = .ok (.invokevirtual 40, 3) := by decide +kernel
theorem dX9_passes_4 : decode cX9_passes 4 = .ok (.ifCond .ne 11, 3) := by decide +kernel
theorem dX9_passes_7 : decode cX9_passes 7 = .ok (.aload_n 0, 1) := by decide +kernel
theorem dX9_passes_8 : decode cX9_passes 8 = .ok (.getfield 24, 3) := by decide +kernel
theorem dX9_passes_11 : decode cX9_passes 11 = .ok (.iload_n 1, 1) := by decide +kernel
theorem dX9_passes_12 : decode cX9_passes 12 = .ok (.if_icmp .eq 5, 3) := by decide +kernel
theorem dX9_passes_15 : decode cX9_passes 15 = .ok (.iconst 0, 1) := by decide +kernel
theorem dX9_passes_16 : decode cX9_passes 16 = .ok (.ireturn, 1) := by decide +kernel
theorem dX9_passes_17 : decode cX9_passes 17 = .ok (.aload_n 0, 1) := by decide +kernel
theorem dX9_passes_18 : decode cX9_passes 18 = .ok (.invokevirtual 44, 3) := by decide +kernel
theorem dX9_passes_21 : decode cX9_passes 21 = .ok (.iconst 1, 1) := by decide +kernel
theorem dX9_passes_22 : decode cX9_passes 22 = .ok (.ireturn, 1) := by decide +kernel
theorem dX9_expects_0 : decode cX9_expects 0 = .ok (.aload_n 0, 1) := by decide +kernel
theorem dX9_expects_1 : decode cX9_expects 1 = .ok (.invokevirtual 40, 3) := by decide +kernel
theorem dX9_expects_4 : decode cX9_expects 4 = .ok (.ifCond .ne 11, 3) := by decide +kernel
theorem dX9_expects_7 : decode cX9_expects 7 = .ok (.aload_n 0, 1) := by decide +kernel
theorem dX9_expects_8 : decode cX9_expects 8 = .ok (.getfield 24, 3) := by decide +kernel
theorem dX9_expects_11 : decode cX9_expects 11 = .ok (.iload_n 1, 1) := by decide +kernel
theorem dX9_expects_12 : decode cX9_expects 12 = .ok (.if_icmp .eq 14, 3) := by decide +kernel
theorem dX9_expects_15 : decode cX9_expects 15 = .ok (.aload_n 0, 1) := by decide +kernel
theorem dX9_expects_16 : decode cX9_expects 16 = .ok (.iconst 1, 1) := by decide +kernel
theorem dX9_expects_17 : decode cX9_expects 17 = .ok (.aload_n 0, 1) := by decide +kernel
theorem dX9_expects_18 : decode cX9_expects 18 = .ok (.getfield 21, 3) := by decide +kernel
theorem dX9_expects_21 : decode cX9_expects 21 = .ok (.invokevirtual 47, 3) := by decide +kernel
theorem dX9_expects_24 : decode cX9_expects 24 = .ok (.iconst 0, 1) := by decide +kernel
theorem dX9_expects_25 : decode cX9_expects 25 = .ok (.ireturn, 1) := by decide +kernel
theorem dX9_expects_26 : decode cX9_expects 26 = .ok (.aload_n 0, 1) := by decide +kernel
theorem dX9_expects_27 : decode cX9_expects 27 = .ok (.invokevirtual 44, 3) := by decide +kernel
theorem dX9_expects_30 : decode cX9_expects 30 = .ok (.iconst 1, 1) := by decide +kernel
theorem dX9_expects_31 : decode cX9_expects 31 = .ok (.ireturn, 1) := by decide +kernel
theorem dX9_whichOf_0 : decode cX9_whichOf 0 = .ok (.aload_n 0, 1) := by decide +kernel
theorem dX9_whichOf_1 : decode cX9_whichOf 1 = .ok (.invokevirtual 40, 3) := by decide +kernel
theorem dX9_whichOf_4 : decode cX9_whichOf 4 = .ok (.ifCond .ne 11, 3) := by decide +kernel
theorem dX9_whichOf_7 : decode cX9_whichOf 7 = .ok (.aload_n 0, 1) := by decide +kernel
theorem dX9_whichOf_8 : decode cX9_whichOf 8 = .ok (.getfield 24, 3) := by decide +kernel
theorem dX9_whichOf_11 : decode cX9_whichOf 11 = .ok (.iconst (-1), 1) := by decide +kernel
theorem dX9_whichOf_12 : decode cX9_whichOf 12 = .ok (.if_icmp .ne 7, 3) := by decide +kernel
theorem dX9_whichOf_15 : decode cX9_whichOf 15 = .ok (.iconst (-1), 1) := by decide +kernel
theorem dX9_whichOf_16 : decode cX9_whichOf 16 = .ok (.goto 12, 3) := by decide +kernel
theorem dX9_whichOf_19 : decode cX9_whichOf 19 = .ok (.aload_n 1, 1) := by decide +kernel
theorem dX9_whichOf_20 : decode cX9_whichOf 20 = .ok (.aload_n 0, 1) := by decide +kernel
theorem dX9_whichOf_21 : decode cX9_whichOf 21 = .ok (.getfield 24, 3) := by decide +kernel
theorem dX9_whichOf_24 : decode cX9_whichOf 24 = .ok (.i2c, 1) := by decide +kernel
theorem dX9_whichOf_25 : decode cX9_whichOf 25 = .ok (.invokevirtual 51, 3) := by decide +kernel
theorem dX9_whichOf_28 : decode cX9_whichOf 28 = .ok (.ireturn, 1) := by decide +kernel
theorem dX9_choose_0 : decode cX9_choose 0 = .ok (.aload_n 0, 1) := by decide +kernel
theorem dX9_choose_1 : decode cX9_choose 1 = .ok (.aload_n 1, 1) := by decide +kernel
theorem dX9_choose_2 : decode cX9_choose 2 = .ok (.invokevirtual 57, 3) := by decide +kernel
theorem dX9_choose_5 : decode cX9_choose 5 = .ok (.istore_n 2, 1) := by decide +kernel
theorem dX9_choose_6 : decode cX9_choose 6 = .ok (.iload_n 2, 1) := by decide +kernel
theorem dX9_choose_7 : decode cX9_choose 7 = .ok (.iconst (-1), 1) := by decide +kernel
theorem dX9_choose_8 : decode cX9_choose 8 = .ok (.if_icmp .ne 15, 3) := by decide +kernel
theorem dX9_choose_11 : decode cX9_choose 11 = .ok (.aload_n 0, 1) := by decide +kernel
theorem dX9_choose_12 : decode cX9_choose 12 = .ok (.iconst 1, 1) := by decide +kernel
theorem dX9_choose_13 : decode cX9_choose 13 = .ok (.aload_n 0, 1) := by decide +kernel
theorem dX9_choose_14 : decode cX9_choose 14 = .ok (.getfield 21, 3) := by decide +kernel
theorem dX9_choose_17 : decode cX9_choose 17 = .ok (.invokevirtual 47, 3) := by decide +kernel
theorem dX9_choose_20 : decode cX9_choose 20 = .ok (.goto 7, 3) := by decide +kernel
theorem dX9_choose_23 : decode cX9_choose 23 = .ok (.aload_n 0, 1) := by decide +kernel
theorem dX9_choose_24 : decode cX9_choose 24 = .ok (.invokevirtual 44, 3) := by decide +kernel
theorem dX9_choose_27 : decode cX9_choose 27 = .ok (.iload_n 2, 1) := by decide +kernel
theorem dX9_choose_28 : decode cX9_choose 28 = .ok (.ireturn, 1) := by decide +kernel
theorem dX9_number_0 : decode cX9_number 0 = .ok (.aload_n 0, 1) := by decide +kernel
theorem dX9_number_1 : decode cX9_number 1 = .ok (.invokevirtual 61, 3) := by decide +kernel
theorem dX9_number_4 : decode cX9_number 4 = .ok (.ifCond .ne 12, 3) := by decide +kernel
theorem dX9_number_7 : decode cX9_number 7 = .ok (.aload_n 0, 1) := by decide +kernel
theorem dX9_number_8 : decode cX9_number 8 = .ok (.iconst 1, 1) := by decide +kernel
theorem dX9_number_9 : decode cX9_number 9 = .ok (.aload_n 0, 1) := by decide +kernel
theorem dX9_number_10 : decode cX9_number 10 = .ok (.getfield 21, 3) := by decide +kernel
theorem dX9_number_13 : decode cX9_number 13 = .ok (.invokevirtual 47, 3) := by decide +kernel
theorem dX9_number_16 : decode cX9_number 16 = .ok (.iconst 0, 1) := by decide +kernel
theorem dX9_number_17 : decode cX9_number 17 = .ok (.istore_n 2, 1) := by decide +kernel
theorem dX9_number_18 : decode cX9_number 18 = .ok (.iconst 0, 1) := by decide +kernel
theorem dX9_number_19 : decode cX9_number 19 = .ok (.istore_n 3, 1) := by decide +kernel
theorem dX9_number_20 : decode cX9_number 20 = .ok (.iload_n 3, 1) := by decide +kernel
theorem dX9_number_21 : decode cX9_number 21 = .ok (.iload_n 1, 1) := by decide +kernel
theorem dX9_number_22 : decode cX9_number 22 = .ok (.if_icmp .ge 33, 3) := by decide +kernel
theorem dX9_number_25 : decode cX9_number 25 = .ok (.aload_n 0, 1) := by decide +kernel
theorem dX9_number_26 : decode cX9_number 26 = .ok (.invokevirtual 61, 3) := by decide +kernel
theorem dX9_number_29 : decode cX9_number 29 = .ok (.ifCond .eq 26, 3) := by decide +kernel
theorem dX9_number_32 : decode cX9_number 32 = .ok (.bipush 10, 2) := by decide +kernel
theorem dX9_number_34 : decode cX9_number 34 = .ok (.iload_n 2, 1) := by decide +kernel
theorem dX9_number_35 : decode cX9_number 35 = .ok (.imul, 1) := by decide +kernel
theorem dX9_number_36 : decode cX9_number 36 = .ok (.aload_n 0, 1) := by decide +kernel
theorem dX9_number_37 : decode cX9_number 37 = .ok (.getfield 24, 3) := by decide +kernel
theorem dX9_number_40 : decode cX9_number 40 = .ok (.iadd, 1) := by decide +kernel
theorem dX9_number_41 : decode cX9_number 41 = .ok (.bipush 48, 2) := by decide +kernel
theorem dX9_number_43 : decode cX9_number 43 = .ok (.isub, 1) := by decide +kernel
theorem dX9_number_44 : decode cX9_number 44 = .ok (.istore_n 2, 1) := by decide +kernel
theorem dX9_number_45 : decode cX9_number 45 = .ok (.aload_n 0, 1) := by decide +kernel
theorem dX9_number_46 : decode cX9_number 46 = .ok (.invokevirtual 44, 3) := by decide +kernel
theorem dX9_number_49 : decode cX9_number 49 = .ok (.iinc 3 1, 3) := by decide +kernel
theorem dX9_number_52 : decode cX9_number 52 = .ok (.goto (-32), 3) := by decide +kernel
theorem dX9_number_55 : decode cX9_number 55 = .ok (.aload_n 0, 1) := by decide +kernel
theorem dX9_number_56 : decode cX9_number 56 = .ok (.invokevirtual 61, 3) := by decide +kernel
theorem dX9_number_59 : decode cX9_number 59 = .ok (.ifCond .eq 12, 3) := by decide +kernel
theorem dX9_number_62 : decode cX9_number 62 = .ok (.aload_n 0, 1) := by decide +kernel
theorem dX9_number_63 : decode cX9_number 63 = .ok (.iconst 2, 1) := by decide +kernel
theorem dX9_number_64 : decode cX9_number 64 = .ok (.aload_n 0, 1) := by decide +kernel
theorem dX9_number_65 : decode cX9_number 65 = .ok (.getfield 21, 3) := by decide +kernel
theorem dX9_number_68 : decode cX9_number 68 = .ok (.invokevirtual 47, 3) := by decide +kernel
theorem dX9_number_71 : decode cX9_number 71 = .ok (.iload_n 2, 1) := by decide +kernel
theorem dX9_number_72 : decode cX9_number 72 = .ok (.ireturn, 1) := by decide +kernel
theorem dX9_expectEnd_0 : decode cX9_expectEnd 0 = .ok (.aload_n 0, 1) := by decide +kernel
theorem dX9_expectEnd_1 : decode cX9_expectEnd 1 = .ok (.getfield 21, 3) := by decide +kernel
theorem dX9_expectEnd_4 : decode cX9_expectEnd 4 = .ok (.aload_n 0, 1) := by decide +kernel
theorem dX9_expectEnd_5 : decode cX9_expectEnd 5 = .ok (.getfield 9, 3) := by decide +kernel
theorem dX9_expectEnd_8 : decode cX9_expectEnd 8 = .ok (.if_icmp .ge 12, 3) := by decide +kernel
theorem dX9_expectEnd_11 : decode cX9_expectEnd 11 = .ok (.aload_n 0, 1) := by decide +kernel
theorem dX9_expectEnd_12 : decode cX9_expectEnd 12 = .ok (.iconst 1, 1) := by decide +kernel
theorem dX9_expectEnd_13 : decode cX9_expectEnd 13 = .ok (.aload_n 0, 1) := by decide +kernel
theorem dX9_expectEnd_14 : decode cX9_expectEnd 14 = .ok (.getfield 21, 3) := by decide +kernel
theorem dX9_expectEnd_17 : decode cX9_expectEnd 17 = .ok (.invokevirtual 47, 3) := by decide +kernel
theorem dX9_expectEnd_20 : decode cX9_expectEnd 20 = .ok (.return_, 1) := by decide +kernel
theorem dX10_init_0 : decode cX10_init 0 = .ok (.aload_n 0, 1) := by decide +kernel
theorem dX10_init_1 : decode cX10_init 1 = .ok (.invokespecial 3, 3) := by decide +kernel
theorem dX10_init_4 : decode cX10_init 4 = .ok (.aload_n 0, 1) := by decide +kernel
theorem dX10_init_5 : decode cX10_init 5 = .ok (.bipush 12, 2) := by decide +kernel
theorem dX10_init_7 : decode cX10_init 7 = .ok (.newarray .int, 2) := by decide +kernel
theorem dX10_init_9 : decode cX10_init 9 = .ok (.putfield 11, 3) := by decide +kernel
theorem dX10_init_12 : decode cX10_init 12 = .ok (.aload_n 0, 1) := by decide +kernel
theorem dX10_init_13 : decode cX10_init 13 = .ok (.bipush (-2), 2) := by decide +kernel
theorem dX10_init_15 : decode cX10_init 15 = .ok (.putfield 15, 3) := by decide +kernel
theorem dX10_init_18 : decode cX10_init 18 = .ok (.return_, 1) := by decide +kernel
theorem dX10_leadMany_0 : decode cX10_leadMany 0 = .ok (.iload_n 3, 1) := by decide +kernel
theorem dX10_leadMany_1 : decode cX10_leadMany 1 = .ok (.aload_n 1, 1) := by decide +kernel
theorem dX10_leadMany_2 : decode cX10_leadMany 2 = .ok (.getfield 19, 3) := by decide +kernel
theorem dX10_leadMany_5 : decode cX10_leadMany 5 = .ok (.invokestatic 24, 3) := by decide +kernel
theorem dX10_leadMany_8 : decode cX10_leadMany 8 = .ok (.istore 4, 2) := by decide +kernel
theorem dX10_leadMany_10 : decode cX10_leadMany 10 = .ok (.aload_n 1, 1) := by decide +kernel
theorem dX10_leadMany_11 : decode cX10_leadMany 11 = .ok (.getfield 30, 3) := by decide +kernel
theorem dX10_leadMany_14 : decode cX10_leadMany 14 = .ok (.istore 5, 2) := by decide +kernel
theorem dX10_leadMany_16 : decode cX10_leadMany 16 = .ok (.aload_n 0, 1) := by decide +kernel
theorem dX10_leadMany_17 : decode cX10_leadMany 17 = .ok (.bipush (-2), 2) := by decide +kernel
theorem dX10_leadMany_19 : decode cX10_leadMany 19 = .ok (.putfield 15, 3) := by decide +kernel
theorem dX10_leadMany_22 : decode cX10_leadMany 22 = .ok (.iconst 0, 1) := by decide +kernel
theorem dX10_leadMany_23 : decode cX10_leadMany 23 = .ok (.istore 6, 2) := by decide +kernel
theorem dX10_leadMany_25 : decode cX10_leadMany 25 = .ok (.iload 6, 2) := by decide +kernel
theorem dX10_leadMany_27 : decode cX10_leadMany 27 = .ok (.iload 4, 2) := by decide +kernel
theorem dX10_leadMany_29 : decode cX10_leadMany 29 = .ok (.if_icmp .ge 26, 3) := by decide +kernel
theorem dX10_leadMany_32 : decode cX10_leadMany 32 = .ok (.aload_n 0, 1) := by decide +kernel
theorem dX10_leadMany_33 : decode cX10_leadMany 33 = .ok (.aload_n 0, 1) := by decide +kernel
theorem dX10_leadMany_34 : decode cX10_leadMany 34 = .ok (.aload_n 1, 1) := by decide +kernel
theorem dX10_leadMany_35 : decode cX10_leadMany 35 = .ok (.aload_n 2, 1) := by decide +kernel
theorem dX10_leadMany_36 : decode cX10_leadMany 36 = .ok (.aload_n 1, 1) := by decide +kernel
theorem dX10_leadMany_37 : decode cX10_leadMany 37 = .ok (.getfield 33, 3) := by decide +kernel
theorem dX10_leadMany_40 : decode cX10_leadMany 40 = .ok (.iload 6, 2) := by decide +kernel
theorem dX10_leadMany_42 : decode cX10_leadMany 42 = .ok (.iaload, 1) := by decide +kernel
theorem dX10_leadMany_43 : decode cX10_leadMany 43 = .ok (.invokevirtual 36, 3) := by decide +kernel
theorem dX10_leadMany_46 : decode cX10_leadMany 46 = .ok (.putfield 15, 3) := by decide +kernel
theorem dX10_leadMany_49 : decode cX10_leadMany 49 = .ok (.iinc 6 1, 3) := by decide +kernel
theorem dX10_leadMany_52 : decode cX10_leadMany 52 = .ok (.goto (-27), 3) := by decide +kernel
theorem dX10_leadMany_55 : decode cX10_leadMany 55 = .ok (.aload_n 1, 1) := by decide +kernel
theorem dX10_leadMany_56 : decode cX10_leadMany 56 = .ok (.iload 4, 2) := by decide +kernel
theorem dX10_leadMany_58 : decode cX10_leadMany 58 = .ok (.invokevirtual 40, 3) := by decide +kernel
theorem dX10_leadMany_61 : decode cX10_leadMany 61 = .ok (.aload_n 1, 1) := by decide +kernel
theorem dX10_leadMany_62 : decode cX10_leadMany 62 = .ok (.getfield 30, 3) := by decide +kernel
theorem dX10_leadMany_65 : decode cX10_leadMany 65 = .ok (.iload 5, 2) := by decide +kernel
theorem dX10_leadMany_67 : decode cX10_leadMany 67 = .ok (.isub, 1) := by decide +kernel
theorem dX10_leadMany_68 : decode cX10_leadMany 68 = .ok (.ireturn, 1) := by decide +kernel
theorem dX10_leadOne_0 : decode cX10_leadOne 0 = .ok (.iload_n 3, 1) := by decide +kernel
theorem dX10_leadOne_1 : decode cX10_leadOne 1 = .ok (.invokestatic 44, 3) := by decide +kernel
theorem dX10_leadOne_4 : decode cX10_leadOne 4 = .ok (.istore 4, 2) := by decide +kernel
theorem dX10_leadOne_6 : decode cX10_leadOne 6 = .ok (.aload_n 0, 1) := by decide +kernel
theorem dX10_leadOne_7 : decode cX10_leadOne 7 = .ok (.aload_n 1, 1) := by decide +kernel
theorem dX10_leadOne_8 : decode cX10_leadOne 8 = .ok (.iload_n 3, 1) := by decide +kernel
theorem dX10_leadOne_9 : decode cX10_leadOne 9 = .ok (.invokevirtual 50, 3) := by decide +kernel
theorem dX10_leadOne_12 : decode cX10_leadOne 12 = .ok (.aload_n 1, 1) := by decide +kernel
theorem dX10_leadOne_13 : decode cX10_leadOne 13 = .ok (.invokevirtual 54, 3) := by decide +kernel
theorem dX10_leadOne_16 : decode cX10_leadOne 16 = .ok (.aload_n 2, 1) := by decide +kernel
theorem dX10_leadOne_17 : decode cX10_leadOne 17 = .ok (.iconst 1, 1) := by decide +kernel
theorem dX10_leadOne_18 : decode cX10_leadOne 18 = .ok (.aload_n 0, 1) := by decide +kernel
theorem dX10_leadOne_19 : decode cX10_leadOne 19 = .ok (.getfield 11, 3) := by decide +kernel
theorem dX10_leadOne_22 : decode cX10_leadOne 22 = .ok (.bipush 10, 2) := by decide +kernel
theorem dX10_leadOne_24 : decode cX10_leadOne 24 = .ok (.invokevirtual 60, 3) := by decide +kernel
theorem dX10_leadOne_27 : decode cX10_leadOne 27 = .ok (.if_icmp .ge 7, 3) := by decide +kernel
theorem dX10_leadOne_30 : decode cX10_leadOne 30 = .ok (.iconst 1, 1) := by decide +kernel
theorem dX10_leadOne_31 : decode cX10_leadOne 31 = .ok (.goto 4, 3) := by decide +kernel
theorem dX10_leadOne_34 : decode cX10_leadOne 34 = .ok (.iconst 0, 1) := by decide +kernel
theorem dX10_leadOne_35 : decode cX10_leadOne 35 = .ok (.istore 5, 2) := by decide +kernel
theorem dX10_leadOne_37 : decode cX10_leadOne 37 = .ok (.iload 5, 2) := by decide +kernel
theorem dX10_leadOne_39 : decode cX10_leadOne 39 = .ok (.ifCond .eq 13, 3) := by decide +kernel
theorem dX10_leadOne_42 : decode cX10_leadOne 42 = .ok (.aload_n 0, 1) := by decide +kernel
theorem dX10_leadOne_43 : decode cX10_leadOne 43 = .ok (.aload_n 1, 1) := by decide +kernel
theorem dX10_leadOne_44 : decode cX10_leadOne 44 = .ok (.iload 4, 2) := by decide +kernel
theorem dX10_leadOne_46 : decode cX10_leadOne 46 = .ok (.invokevirtual 64, 3) := by decide +kernel
theorem dX10_leadOne_49 : decode cX10_leadOne 49 = .ok (.goto 11, 3) := by decide +kernel
theorem dX10_leadOne_52 : decode cX10_leadOne 52 = .ok (.aload_n 0, 1) := by decide +kernel
theorem dX10_leadOne_53 : decode cX10_leadOne 53 = .ok (.aload_n 1, 1) := by decide +kernel
theorem dX10_leadOne_54 : decode cX10_leadOne 54 = .ok (.aload_n 2, 1) := by decide +kernel
theorem dX10_leadOne_55 : decode cX10_leadOne 55 = .ok (.iload 4, 2) := by decide +kernel
theorem dX10_leadOne_57 : decode cX10_leadOne 57 = .ok (.invokevirtual 68, 3) := by decide +kernel
theorem dX10_leadOne_60 : decode cX10_leadOne 60 = .ok (.istore 6, 2) := by decide +kernel
theorem dX10_leadOne_62 : decode cX10_leadOne 62 = .ok (.iload 6, 2) := by decide +kernel
theorem dX10_leadOne_64 : decode cX10_leadOne 64 = .ok (.iconst (-1), 1) := by decide +kernel
theorem dX10_leadOne_65 : decode cX10_leadOne 65 = .ok (.if_icmp .ne 8, 3) := by decide +kernel
theorem dX10_leadOne_68 : decode cX10_leadOne 68 = .ok (.bipush (-2), 2) := by decide +kernel
theorem dX10_leadOne_70 : decode cX10_leadOne 70 = .ok (.goto 13, 3) := by decide +kernel
theorem dX10_leadOne_73 : decode cX10_leadOne 73 = .ok (.aload_n 0, 1) := by decide +kernel
theorem dX10_leadOne_74 : decode cX10_leadOne 74 = .ok (.aload_n 1, 1) := by decide +kernel
theorem dX10_leadOne_75 : decode cX10_leadOne 75 = .ok (.aload_n 2, 1) := by decide +kernel
theorem dX10_leadOne_76 : decode cX10_leadOne 76 = .ok (.iload 6, 2) := by decide +kernel
theorem dX10_leadOne_78 : decode cX10_leadOne 78 = .ok (.iload 4, 2) := by decide +kernel
theorem dX10_leadOne_80 : decode cX10_leadOne 80 = .ok (.invokevirtual 71, 3) := by decide +kernel
theorem dX10_leadOne_83 : decode cX10_leadOne 83 = .ok (.istore 7, 2) := by decide +kernel
theorem dX10_leadOne_85 : decode cX10_leadOne 85 = .ok (.iload 7, 2) := by decide +kernel
theorem dX10_leadOne_87 : decode cX10_leadOne 87 = .ok (.bipush (-2), 2) := by decide +kernel
theorem dX10_leadOne_89 : decode cX10_leadOne 89 = .ok (.if_icmp .ne 16, 3) := by decide +kernel
theorem dX10_leadOne_92 : decode cX10_leadOne 92 = .ok (.aload_n 1, 1) := by decide +kernel
theorem dX10_leadOne_93 : decode cX10_leadOne 93 = .ok (.dup, 1) := by decide +kernel
theorem dX10_leadOne_94 : decode cX10_leadOne 94 = .ok (.getfield 75, 3) := by decide +kernel
theorem dX10_leadOne_97 : decode cX10_leadOne 97 = .ok (.iconst 1, 1) := by decide +kernel
theorem dX10_leadOne_98 : decode cX10_leadOne 98 = .ok (.iadd, 1) := by decide +kernel
theorem dX10_leadOne_99 : decode cX10_leadOne 99 = .ok (.putfield 75, 3) := by decide +kernel
theorem dX10_leadOne_102 : decode cX10_leadOne 102 = .ok (.goto 10, 3) := by decide +kernel
theorem dX10_leadOne_105 : decode cX10_leadOne 105 = .ok (.aload_n 1, 1) := by decide +kernel
theorem dX10_leadOne_106 : decode cX10_leadOne 106 = .ok (.iload 7, 2) := by decide +kernel
theorem dX10_leadOne_108 : decode cX10_leadOne 108 = .ok (.iload_n 3, 1) := by decide +kernel
theorem dX10_leadOne_109 : decode cX10_leadOne 109 = .ok (.invokevirtual 78, 3) := by decide +kernel
theorem dX10_leadOne_112 : decode cX10_leadOne 112 = .ok (.aload_n 1, 1) := by decide +kernel
theorem dX10_leadOne_113 : decode cX10_leadOne 113 = .ok (.dup, 1) := by decide +kernel
theorem dX10_leadOne_114 : decode cX10_leadOne 114 = .ok (.getfield 82, 3) := by decide +kernel
theorem dX10_leadOne_117 : decode cX10_leadOne 117 = .ok (.iconst 1, 1) := by decide +kernel
theorem dX10_leadOne_118 : decode cX10_leadOne 118 = .ok (.iadd, 1) := by decide +kernel
theorem dX10_leadOne_119 : decode cX10_leadOne 119 = .ok (.putfield 82, 3) := by decide +kernel
theorem dX10_leadOne_122 : decode cX10_leadOne 122 = .ok (.iload 7, 2) := by decide +kernel
theorem dX10_leadOne_124 : decode cX10_leadOne 124 = .ok (.ireturn, 1) := by decide +kernel
theorem dX10_emptiestPew_0 : decode cX10_emptiestPew 0 = .ok (.iconst (-1), 1) := by decide +kernel
theorem dX10_emptiestPew_1 : decode cX10_emptiestPew 1 = .ok (.istore_n 3, 1) := by decide +kernel
theorem dX10_emptiestPew_2 : decode cX10_emptiestPew 2 = .ok (.bipush 10, 2) := by decide +kernel
theorem dX10_emptiestPew_4 : decode cX10_emptiestPew 4 = .ok (.istore 4, 2) := by decide +kernel
theorem dX10_emptiestPew_6 : decode cX10_emptiestPew 6 = .ok (.iconst 0, 1) := by decide +kernel
theorem dX10_emptiestPew_7 : decode cX10_emptiestPew 7 = .ok (.istore 5, 2) := by decide +kernel
theorem dX10_emptiestPew_9 : decode cX10_emptiestPew 9 = .ok (.iload 5, 2) := by decide +kernel
theorem dX10_emptiestPew_11 : decode cX10_emptiestPew 11 = .ok (.bipush 16, 2) := by decide +kernel
theorem dX10_emptiestPew_13 : decode cX10_emptiestPew 13 = .ok (.if_icmp .ge 42, 3) := by decide +kernel
theorem dX10_emptiestPew_16 : decode cX10_emptiestPew 16 = .ok (.aload_n 1, 1) := by decide +kernel
theorem dX10_emptiestPew_17 : decode cX10_emptiestPew 17 = .ok (.iload 5, 2) := by decide +kernel
theorem dX10_emptiestPew_19 : decode cX10_emptiestPew 19 = .ok (.invokevirtual 85, 3) := by decide +kernel
theorem dX10_emptiestPew_22 : decode cX10_emptiestPew 22 = .ok (.istore 6, 2) := by decide +kernel
theorem dX10_emptiestPew_24 : decode cX10_emptiestPew 24 = .ok (.iload 6, 2) := by decide +kernel
theorem dX10_emptiestPew_26 : decode cX10_emptiestPew 26 = .ok (.iload 4, 2) := by decide +kernel
theorem dX10_emptiestPew_28 : decode cX10_emptiestPew 28 = .ok (.if_icmp .ge 21, 3) := by decide +kernel
theorem dX10_emptiestPew_31 : decode cX10_emptiestPew 31 = .ok (.aload_n 1, 1) := by decide +kernel
theorem dX10_emptiestPew_32 : decode cX10_emptiestPew 32 = .ok (.iload 5, 2) := by decide +kernel
theorem dX10_emptiestPew_34 : decode cX10_emptiestPew 34 = .ok (.iload_n 2, 1) := by decide +kernel
theorem dX10_emptiestPew_35 : decode cX10_emptiestPew 35 = .ok (.invokevirtual 88, 3) := by decide +kernel
theorem dX10_emptiestPew_38 : decode cX10_emptiestPew 38 = .ok (.iconst (-1), 1) := by decide +kernel
theorem dX10_emptiestPew_39 : decode cX10_emptiestPew 39 = .ok (.if_icmp .eq 10, 3) := by decide +kernel
theorem dX10_emptiestPew_42 : decode cX10_emptiestPew 42 = .ok (.iload 5, 2) := by decide +kernel
theorem dX10_emptiestPew_44 : decode cX10_emptiestPew 44 = .ok (.istore_n 3, 1) := by decide +kernel
theorem dX10_emptiestPew_45 : decode cX10_emptiestPew 45 = .ok (.iload 6, 2) := by decide +kernel
theorem dX10_emptiestPew_47 : decode cX10_emptiestPew 47 = .ok (.istore 4, 2) := by decide +kernel
theorem dX10_emptiestPew_49 : decode cX10_emptiestPew 49 = .ok (.iinc 5 1, 3) := by decide +kernel
theorem dX10_emptiestPew_52 : decode cX10_emptiestPew 52 = .ok (.goto (-43), 3) := by decide +kernel
theorem dX10_emptiestPew_55 : decode cX10_emptiestPew 55 = .ok (.iload_n 3, 1) := by decide +kernel
theorem dX10_emptiestPew_56 : decode cX10_emptiestPew 56 = .ok (.ireturn, 1) := by decide +kernel
theorem dX10_fittestPew_0 : decode cX10_fittestPew 0 = .ok (.iconst (-1), 1) := by decide +kernel
theorem dX10_fittestPew_1 : decode cX10_fittestPew 1 = .ok (.istore 4, 2) := by decide +kernel
theorem dX10_fittestPew_3 : decode cX10_fittestPew 3 = .ok (.iconst 0, 1) := by decide +kernel
theorem dX10_fittestPew_4 : decode cX10_fittestPew 4 = .ok (.istore 5, 2) := by decide +kernel
theorem dX10_fittestPew_6 : decode cX10_fittestPew 6 = .ok (.iconst 0, 1) := by decide +kernel
theorem dX10_fittestPew_7 : decode cX10_fittestPew 7 = .ok (.istore 6, 2) := by decide +kernel
theorem dX10_fittestPew_9 : decode cX10_fittestPew 9 = .ok (.iload 6, 2) := by decide +kernel
theorem dX10_fittestPew_11 : decode cX10_fittestPew 11 = .ok (.bipush 16, 2) := by decide +kernel
theorem dX10_fittestPew_13 : decode cX10_fittestPew 13 = .ok (.if_icmp .ge 57, 3) := by decide +kernel
theorem dX10_fittestPew_16 : decode cX10_fittestPew 16 = .ok (.aload_n 1, 1) := by decide +kernel
theorem dX10_fittestPew_17 : decode cX10_fittestPew 17 = .ok (.iload 6, 2) := by decide +kernel
theorem dX10_fittestPew_19 : decode cX10_fittestPew 19 = .ok (.iload_n 3, 1) := by decide +kernel
theorem dX10_fittestPew_20 : decode cX10_fittestPew 20 = .ok (.invokevirtual 88, 3) := by decide +kernel
theorem dX10_fittestPew_23 : decode cX10_fittestPew 23 = .ok (.iconst (-1), 1) := by decide +kernel
theorem dX10_fittestPew_24 : decode cX10_fittestPew 24 = .ok (.if_icmp .eq 40, 3) := by decide +kernel
theorem dX10_fittestPew_27 : decode cX10_fittestPew 27 = .ok (.aload_n 0, 1) := by decide +kernel
theorem dX10_fittestPew_28 : decode cX10_fittestPew 28 = .ok (.aload_n 1, 1) := by decide +kernel
theorem dX10_fittestPew_29 : decode cX10_fittestPew 29 = .ok (.iload 6, 2) := by decide +kernel
theorem dX10_fittestPew_31 : decode cX10_fittestPew 31 = .ok (.iload_n 3, 1) := by decide +kernel
theorem dX10_fittestPew_32 : decode cX10_fittestPew 32 = .ok (.invokevirtual 91, 3) := by decide +kernel
theorem dX10_fittestPew_35 : decode cX10_fittestPew 35 = .ok (.aload_n 2, 1) := by decide +kernel
theorem dX10_fittestPew_36 : decode cX10_fittestPew 36 = .ok (.iconst 0, 1) := by decide +kernel
theorem dX10_fittestPew_37 : decode cX10_fittestPew 37 = .ok (.aload_n 0, 1) := by decide +kernel
theorem dX10_fittestPew_38 : decode cX10_fittestPew 38 = .ok (.getfield 11, 3) := by decide +kernel
theorem dX10_fittestPew_41 : decode cX10_fittestPew 41 = .ok (.sipush 9999, 3) := by decide +kernel
theorem dX10_fittestPew_44 : decode cX10_fittestPew 44 = .ok (.invokevirtual 60, 3) := by decide +kernel
theorem dX10_fittestPew_47 : decode cX10_fittestPew 47 = .ok (.istore 7, 2) := by decide +kernel
theorem dX10_fittestPew_49 : decode cX10_fittestPew 49 = .ok (.iload 7, 2) := by decide +kernel
theorem dX10_fittestPew_51 : decode cX10_fittestPew 51 = .ok (.iload 5, 2) := by decide +kernel
theorem dX10_fittestPew_53 : decode cX10_fittestPew 53 = .ok (.if_icmp .le 11, 3) := by decide +kernel
theorem dX10_fittestPew_56 : decode cX10_fittestPew 56 = .ok (.iload 6, 2) := by decide +kernel
theorem dX10_fittestPew_58 : decode cX10_fittestPew 58 = .ok (.istore 4, 2) := by decide +kernel
theorem dX10_fittestPew_60 : decode cX10_fittestPew 60 = .ok (.iload 7, 2) := by decide +kernel
theorem dX10_fittestPew_62 : decode cX10_fittestPew 62 = .ok (.istore 5, 2) := by decide +kernel
theorem dX10_fittestPew_64 : decode cX10_fittestPew 64 = .ok (.iinc 6 1, 3) := by decide +kernel
theorem dX10_fittestPew_67 : decode cX10_fittestPew 67 = .ok (.goto (-58), 3) := by decide +kernel
theorem dX10_fittestPew_70 : decode cX10_fittestPew 70 = .ok (.iload 4, 2) := by decide +kernel
theorem dX10_fittestPew_72 : decode cX10_fittestPew 72 = .ok (.ireturn, 1) := by decide +kernel
theorem dX10_seatIn_0 : decode cX10_seatIn 0 = .ok (.aload_n 0, 1) := by decide +kernel
theorem dX10_seatIn_1 : decode cX10_seatIn 1 = .ok (.aload_n 1, 1) := by decide +kernel
theorem dX10_seatIn_2 : decode cX10_seatIn 2 = .ok (.iload_n 3, 1) := by decide +kernel
theorem dX10_seatIn_3 : decode cX10_seatIn 3 = .ok (.iload 4, 2) := by decide +kernel
theorem dX10_seatIn_5 : decode cX10_seatIn 5 = .ok (.invokevirtual 91, 3) := by decide +kernel
theorem dX10_seatIn_8 : decode cX10_seatIn 8 = .ok (.aload_n 2, 1) := by decide +kernel
theorem dX10_seatIn_9 : decode cX10_seatIn 9 = .ok (.iconst 2, 1) := by decide +kernel
theorem dX10_seatIn_10 : decode cX10_seatIn 10 = .ok (.aload_n 0, 1) := by decide +kernel
theorem dX10_seatIn_11 : decode cX10_seatIn 11 = .ok (.getfield 11, 3) := by decide +kernel
theorem dX10_seatIn_14 : decode cX10_seatIn 14 = .ok (.invokevirtual 95, 3) := by decide +kernel
theorem dX10_seatIn_17 : decode cX10_seatIn 17 = .ok (.ifCond .eq 13, 3) := by decide +kernel
theorem dX10_seatIn_20 : decode cX10_seatIn 20 = .ok (.aload_n 1, 1) := by decide +kernel
theorem dX10_seatIn_21 : decode cX10_seatIn 21 = .ok (.iload_n 3, 1) := by decide +kernel
theorem dX10_seatIn_22 : decode cX10_seatIn 22 = .ok (.iload 4, 2) := by decide +kernel
theorem dX10_seatIn_24 : decode cX10_seatIn 24 = .ok (.invokevirtual 99, 3) := by decide +kernel
theorem dX10_seatIn_27 : decode cX10_seatIn 27 = .ok (.goto 10, 3) := by decide +kernel
theorem dX10_seatIn_30 : decode cX10_seatIn 30 = .ok (.aload_n 1, 1) := by decide +kernel
theorem dX10_seatIn_31 : decode cX10_seatIn 31 = .ok (.iload_n 3, 1) := by decide +kernel
theorem dX10_seatIn_32 : decode cX10_seatIn 32 = .ok (.iload 4, 2) := by decide +kernel
theorem dX10_seatIn_34 : decode cX10_seatIn 34 = .ok (.invokevirtual 88, 3) := by decide +kernel
theorem dX10_seatIn_37 : decode cX10_seatIn 37 = .ok (.istore 5, 2) := by decide +kernel
theorem dX10_seatIn_39 : decode cX10_seatIn 39 = .ok (.iload 5, 2) := by decide +kernel
theorem dX10_seatIn_41 : decode cX10_seatIn 41 = .ok (.iconst (-1), 1) := by decide +kernel
theorem dX10_seatIn_42 : decode cX10_seatIn 42 = .ok (.if_icmp .ne 8, 3) := by decide +kernel
theorem dX10_seatIn_45 : decode cX10_seatIn 45 = .ok (.bipush (-2), 2) := by decide +kernel
theorem dX10_seatIn_47 : decode cX10_seatIn 47 = .ok (.goto 5, 3) := by decide +kernel
theorem dX10_seatIn_50 : decode cX10_seatIn 50 = .ok (.iload 5, 2) := by decide +kernel
theorem dX10_seatIn_52 : decode cX10_seatIn 52 = .ok (.ireturn, 1) := by decide +kernel
theorem dX10_tellGuest_0 : decode cX10_tellGuest 0 = .ok (.aload_n 0, 1) := by decide +kernel
theorem dX10_tellGuest_1 : decode cX10_tellGuest 1 = .ok (.getfield 11, 3) := by decide +kernel
theorem dX10_tellGuest_4 : decode cX10_tellGuest 4 = .ok (.iconst 0, 1) := by decide +kernel
theorem dX10_tellGuest_5 : decode cX10_tellGuest 5 = .ok (.iload_n 2, 1) := by decide +kernel
theorem dX10_tellGuest_6 : decode cX10_tellGuest 6 = .ok (.invokestatic 102, 3) := by decide +kernel
theorem dX10_tellGuest_9 : decode cX10_tellGuest 9 = .ok (.iastore, 1) := by decide +kernel
theorem dX10_tellGuest_10 : decode cX10_tellGuest 10 = .ok (.aload_n 0, 1) := by decide +kernel
theorem dX10_tellGuest_11 : decode cX10_tellGuest 11 = .ok (.getfield 11, 3) := by decide +kernel
theorem dX10_tellGuest_14 : decode cX10_tellGuest 14 = .ok (.iconst 1, 1) := by decide +kernel
theorem dX10_tellGuest_15 : decode cX10_tellGuest 15 = .ok (.iload_n 2, 1) := by decide +kernel
theorem dX10_tellGuest_16 : decode cX10_tellGuest 16 = .ok (.invokestatic 44, 3) := by decide +kernel
theorem dX10_tellGuest_19 : decode cX10_tellGuest 19 = .ok (.iastore, 1) := by decide +kernel
theorem dX10_tellGuest_20 : decode cX10_tellGuest 20 = .ok (.aload_n 0, 1) := by decide +kernel
theorem dX10_tellGuest_21 : decode cX10_tellGuest 21 = .ok (.getfield 11, 3) := by decide +kernel
theorem dX10_tellGuest_24 : decode cX10_tellGuest 24 = .ok (.iconst 2, 1) := by decide +kernel
theorem dX10_tellGuest_25 : decode cX10_tellGuest 25 = .ok (.iload_n 2, 1) := by decide +kernel
theorem dX10_tellGuest_26 : decode cX10_tellGuest 26 = .ok (.invokestatic 105, 3) := by decide +kernel
theorem dX10_tellGuest_29 : decode cX10_tellGuest 29 = .ok (.iastore, 1) := by decide +kernel
theorem dX10_tellGuest_30 : decode cX10_tellGuest 30 = .ok (.aload_n 0, 1) := by decide +kernel
theorem dX10_tellGuest_31 : decode cX10_tellGuest 31 = .ok (.getfield 11, 3) := by decide +kernel
theorem dX10_tellGuest_34 : decode cX10_tellGuest 34 = .ok (.iconst 3, 1) := by decide +kernel
theorem dX10_tellGuest_35 : decode cX10_tellGuest 35 = .ok (.iload_n 2, 1) := by decide +kernel
theorem dX10_tellGuest_36 : decode cX10_tellGuest 36 = .ok (.invokestatic 108, 3) := by decide +kernel
theorem dX10_tellGuest_39 : decode cX10_tellGuest 39 = .ok (.iastore, 1) := by decide +kernel
theorem dX10_tellGuest_40 : decode cX10_tellGuest 40 = .ok (.aload_n 0, 1) := by decide +kernel
theorem dX10_tellGuest_41 : decode cX10_tellGuest 41 = .ok (.getfield 11, 3) := by decide +kernel
theorem dX10_tellGuest_44 : decode cX10_tellGuest 44 = .ok (.iconst 4, 1) := by decide +kernel
theorem dX10_tellGuest_45 : decode cX10_tellGuest 45 = .ok (.iload_n 2, 1) := by decide +kernel
theorem dX10_tellGuest_46 : decode cX10_tellGuest 46 = .ok (.invokestatic 111, 3) := by decide +kernel
theorem dX10_tellGuest_49 : decode cX10_tellGuest 49 = .ok (.iastore, 1) := by decide +kernel
theorem dX10_tellGuest_50 : decode cX10_tellGuest 50 = .ok (.aload_n 0, 1) := by decide +kernel
theorem dX10_tellGuest_51 : decode cX10_tellGuest 51 = .ok (.getfield 11, 3) := by decide +kernel
theorem dX10_tellGuest_54 : decode cX10_tellGuest 54 = .ok (.iconst 5, 1) := by decide +kernel
theorem dX10_tellGuest_55 : decode cX10_tellGuest 55 = .ok (.aload_n 1, 1) := by decide +kernel
theorem dX10_tellGuest_56 : decode cX10_tellGuest 56 = .ok (.invokevirtual 114, 3) := by decide +kernel
theorem dX10_tellGuest_59 : decode cX10_tellGuest 59 = .ok (.iastore, 1) := by decide +kernel
theorem dX10_tellGuest_60 : decode cX10_tellGuest 60 = .ok (.aload_n 0, 1) := by decide +kernel
theorem dX10_tellGuest_61 : decode cX10_tellGuest 61 = .ok (.getfield 11, 3) := by decide +kernel
theorem dX10_tellGuest_64 : decode cX10_tellGuest 64 = .ok (.bipush 6, 2) := by decide +kernel
theorem dX10_tellGuest_66 : decode cX10_tellGuest 66 = .ok (.aload_n 1, 1) := by decide +kernel
theorem dX10_tellGuest_67 : decode cX10_tellGuest 67 = .ok (.getfield 82, 3) := by decide +kernel
theorem dX10_tellGuest_70 : decode cX10_tellGuest 70 = .ok (.sipush 1000, 3) := by decide +kernel
theorem dX10_tellGuest_73 : decode cX10_tellGuest 73 = .ok (.irem, 1) := by decide +kernel
theorem dX10_tellGuest_74 : decode cX10_tellGuest 74 = .ok (.iastore, 1) := by decide +kernel
theorem dX10_tellGuest_75 : decode cX10_tellGuest 75 = .ok (.bipush 7, 2) := by decide +kernel
theorem dX10_tellGuest_77 : decode cX10_tellGuest 77 = .ok (.istore_n 3, 1) := by decide +kernel
theorem dX10_tellGuest_78 : decode cX10_tellGuest 78 = .ok (.iload_n 3, 1) := by decide +kernel
theorem dX10_tellGuest_79 : decode cX10_tellGuest 79 = .ok (.bipush 12, 2) := by decide +kernel
theorem dX10_tellGuest_81 : decode cX10_tellGuest 81 = .ok (.if_icmp .ge 16, 3) := by decide +kernel
theorem dX10_tellGuest_84 : decode cX10_tellGuest 84 = .ok (.aload_n 0, 1) := by decide +kernel
theorem dX10_tellGuest_85 : decode cX10_tellGuest 85 = .ok (.getfield 11, 3) := by decide +kernel
theorem dX10_tellGuest_88 : decode cX10_tellGuest 88 = .ok (.iload_n 3, 1) := by decide +kernel
theorem dX10_tellGuest_89 : decode cX10_tellGuest 89 = .ok (.iconst 0, 1) := by decide +kernel
theorem dX10_tellGuest_90 : decode cX10_tellGuest 90 = .ok (.iastore, 1) := by decide +kernel
theorem dX10_tellGuest_91 : decode cX10_tellGuest 91 = .ok (.iinc 3 1, 3) := by decide +kernel
theorem dX10_tellGuest_94 : decode cX10_tellGuest 94 = .ok (.goto (-16), 3) := by decide +kernel
theorem dX10_tellGuest_97 : decode cX10_tellGuest 97 = .ok (.return_, 1) := by decide +kernel
theorem dX10_tellPew_0 : decode cX10_tellPew 0 = .ok (.aload_n 0, 1) := by decide +kernel
theorem dX10_tellPew_1 : decode cX10_tellPew 1 = .ok (.getfield 11, 3) := by decide +kernel
theorem dX10_tellPew_4 : decode cX10_tellPew 4 = .ok (.bipush 7, 2) := by decide +kernel
theorem dX10_tellPew_6 : decode cX10_tellPew 6 = .ok (.iload_n 2, 1) := by decide +kernel
theorem dX10_tellPew_7 : decode cX10_tellPew 7 = .ok (.bipush 8, 2) := by decide +kernel
theorem dX10_tellPew_9 : decode cX10_tellPew 9 = .ok (.idiv, 1) := by decide +kernel
theorem dX10_tellPew_10 : decode cX10_tellPew 10 = .ok (.iastore, 1) := by decide +kernel
theorem dX10_tellPew_11 : decode cX10_tellPew 11 = .ok (.aload_n 0, 1) := by decide +kernel
theorem dX10_tellPew_12 : decode cX10_tellPew 12 = .ok (.getfield 11, 3) := by decide +kernel
theorem dX10_tellPew_15 : decode cX10_tellPew 15 = .ok (.bipush 8, 2) := by decide +kernel
theorem dX10_tellPew_17 : decode cX10_tellPew 17 = .ok (.iload_n 2, 1) := by decide +kernel
theorem dX10_tellPew_18 : decode cX10_tellPew 18 = .ok (.bipush 8, 2) := by decide +kernel
theorem dX10_tellPew_20 : decode cX10_tellPew 20 = .ok (.irem, 1) := by decide +kernel
theorem dX10_tellPew_21 : decode cX10_tellPew 21 = .ok (.iastore, 1) := by decide +kernel
theorem dX10_tellPew_22 : decode cX10_tellPew 22 = .ok (.aload_n 0, 1) := by decide +kernel
theorem dX10_tellPew_23 : decode cX10_tellPew 23 = .ok (.getfield 11, 3) := by decide +kernel
theorem dX10_tellPew_26 : decode cX10_tellPew 26 = .ok (.bipush 9, 2) := by decide +kernel
theorem dX10_tellPew_28 : decode cX10_tellPew 28 = .ok (.aload_n 1, 1) := by decide +kernel
theorem dX10_tellPew_29 : decode cX10_tellPew 29 = .ok (.iload_n 2, 1) := by decide +kernel
theorem dX10_tellPew_30 : decode cX10_tellPew 30 = .ok (.invokevirtual 85, 3) := by decide +kernel
theorem dX10_tellPew_33 : decode cX10_tellPew 33 = .ok (.iastore, 1) := by decide +kernel
theorem dX10_tellPew_34 : decode cX10_tellPew 34 = .ok (.aload_n 0, 1) := by decide +kernel
theorem dX10_tellPew_35 : decode cX10_tellPew 35 = .ok (.getfield 11, 3) := by decide +kernel
theorem dX10_tellPew_38 : decode cX10_tellPew 38 = .ok (.bipush 10, 2) := by decide +kernel
theorem dX10_tellPew_40 : decode cX10_tellPew 40 = .ok (.aload_n 1, 1) := by decide +kernel
theorem dX10_tellPew_41 : decode cX10_tellPew 41 = .ok (.iload_n 3, 1) := by decide +kernel
theorem dX10_tellPew_42 : decode cX10_tellPew 42 = .ok (.iload_n 2, 1) := by decide +kernel
theorem dX10_tellPew_43 : decode cX10_tellPew 43 = .ok (.invokevirtual 117, 3) := by decide +kernel
theorem dX10_tellPew_46 : decode cX10_tellPew 46 = .ok (.iastore, 1) := by decide +kernel
theorem dX10_tellPew_47 : decode cX10_tellPew 47 = .ok (.aload_n 0, 1) := by decide +kernel
theorem dX10_tellPew_48 : decode cX10_tellPew 48 = .ok (.getfield 11, 3) := by decide +kernel
theorem dX10_tellPew_51 : decode cX10_tellPew 51 = .ok (.bipush 11, 2) := by decide +kernel
theorem dX10_tellPew_53 : decode cX10_tellPew 53 = .ok (.aload_n 1, 1) := by decide +kernel
theorem dX10_tellPew_54 : decode cX10_tellPew 54 = .ok (.iload_n 3, 1) := by decide +kernel
theorem dX10_tellPew_55 : decode cX10_tellPew 55 = .ok (.iload_n 2, 1) := by decide +kernel
theorem dX10_tellPew_56 : decode cX10_tellPew 56 = .ok (.invokevirtual 120, 3) := by decide +kernel
theorem dX10_tellPew_59 : decode cX10_tellPew 59 = .ok (.iastore, 1) := by decide +kernel
theorem dX10_tellPew_60 : decode cX10_tellPew 60 = .ok (.return_, 1) := by decide +kernel
theorem dX11_init_0 : decode cX11_init 0 = .ok (.aload_n 0, 1) := by decide +kernel
theorem dX11_init_1 : decode cX11_init 1 = .ok (.invokespecial 3, 3) := by decide +kernel
theorem dX11_init_4 : decode cX11_init 4 = .ok (.aload_n 0, 1) := by decide +kernel
theorem dX11_init_5 : decode cX11_init 5 = .ok (.new 9, 3) := by decide +kernel
theorem dX11_init_8 : decode cX11_init 8 = .ok (.dup, 1) := by decide +kernel
theorem dX11_init_9 : decode cX11_init 9 = .ok (.invokespecial 11, 3) := by decide +kernel
theorem dX11_init_12 : decode cX11_init 12 = .ok (.putfield 12, 3) := by decide +kernel
theorem dX11_init_15 : decode cX11_init 15 = .ok (.aload_n 0, 1) := by decide +kernel
theorem dX11_init_16 : decode cX11_init 16 = .ok (.new 16, 3) := by decide +kernel
theorem dX11_init_19 : decode cX11_init 19 = .ok (.dup, 1) := by decide +kernel
theorem dX11_init_20 : decode cX11_init 20 = .ok (.aload_n 0, 1) := by decide +kernel
theorem dX11_init_21 : decode cX11_init 21 = .ok (.getfield 12, 3) := by decide +kernel
theorem dX11_init_24 : decode cX11_init 24 = .ok (.invokespecial 18, 3) := by decide +kernel
theorem dX11_init_27 : decode cX11_init 27 = .ok (.putfield 21, 3) := by decide +kernel
theorem dX11_init_30 : decode cX11_init 30 = .ok (.aload_n 0, 1) := by decide +kernel
theorem dX11_init_31 : decode cX11_init 31 = .ok (.new 25, 3) := by decide +kernel
theorem dX11_init_34 : decode cX11_init 34 = .ok (.dup, 1) := by decide +kernel
theorem dX11_init_35 : decode cX11_init 35 = .ok (.invokespecial 27, 3) := by decide +kernel
theorem dX11_init_38 : decode cX11_init 38 = .ok (.putfield 28, 3) := by decide +kernel
theorem dX11_init_41 : decode cX11_init 41 = .ok (.aload_n 0, 1) := by decide +kernel
theorem dX11_init_42 : decode cX11_init 42 = .ok (.new 25, 3) := by decide +kernel
theorem dX11_init_45 : decode cX11_init 45 = .ok (.dup, 1) := by decide +kernel
theorem dX11_init_46 : decode cX11_init 46 = .ok (.invokespecial 27, 3) := by decide +kernel
theorem dX11_init_49 : decode cX11_init 49 = .ok (.putfield 32, 3) := by decide +kernel
theorem dX11_init_52 : decode cX11_init 52 = .ok (.aload_n 0, 1) := by decide +kernel
theorem dX11_init_53 : decode cX11_init 53 = .ok (.new 25, 3) := by decide +kernel
theorem dX11_init_56 : decode cX11_init 56 = .ok (.dup, 1) := by decide +kernel
theorem dX11_init_57 : decode cX11_init 57 = .ok (.invokespecial 27, 3) := by decide +kernel
theorem dX11_init_60 : decode cX11_init 60 = .ok (.putfield 35, 3) := by decide +kernel
theorem dX11_init_63 : decode cX11_init 63 = .ok (.aload_n 0, 1) := by decide +kernel
theorem dX11_init_64 : decode cX11_init 64 = .ok (.new 38, 3) := by decide +kernel
theorem dX11_init_67 : decode cX11_init 67 = .ok (.dup, 1) := by decide +kernel
theorem dX11_init_68 : decode cX11_init 68 = .ok (.aload_n 0, 1) := by decide +kernel
theorem dX11_init_69 : decode cX11_init 69 = .ok (.getfield 21, 3) := by decide +kernel
theorem dX11_init_72 : decode cX11_init 72 = .ok (.invokespecial 40, 3) := by decide +kernel
theorem dX11_init_75 : decode cX11_init 75 = .ok (.putfield 43, 3) := by decide +kernel
theorem dX11_init_78 : decode cX11_init 78 = .ok (.aload_n 0, 1) := by decide +kernel
theorem dX11_init_79 : decode cX11_init 79 = .ok (.new 47, 3) := by decide +kernel
theorem dX11_init_82 : decode cX11_init 82 = .ok (.dup, 1) := by decide +kernel
theorem dX11_init_83 : decode cX11_init 83 = .ok (.aload_n 0, 1) := by decide +kernel
theorem dX11_init_84 : decode cX11_init 84 = .ok (.getfield 21, 3) := by decide +kernel
theorem dX11_init_87 : decode cX11_init 87 = .ok (.invokespecial 49, 3) := by decide +kernel
theorem dX11_init_90 : decode cX11_init 90 = .ok (.putfield 50, 3) := by decide +kernel
theorem dX11_init_93 : decode cX11_init 93 = .ok (.aload_n 0, 1) := by decide +kernel
theorem dX11_init_94 : decode cX11_init 94 = .ok (.new 54, 3) := by decide +kernel
theorem dX11_init_97 : decode cX11_init 97 = .ok (.dup, 1) := by decide +kernel
theorem dX11_init_98 : decode cX11_init 98 = .ok (.aload_n 0, 1) := by decide +kernel
theorem dX11_init_99 : decode cX11_init 99 = .ok (.getfield 21, 3) := by decide +kernel
theorem dX11_init_102 : decode cX11_init 102 = .ok (.invokespecial 56, 3) := by decide +kernel
theorem dX11_init_105 : decode cX11_init 105 = .ok (.putfield 57, 3) := by decide +kernel
theorem dX11_init_108 : decode cX11_init 108 = .ok (.aload_n 0, 1) := by decide +kernel
theorem dX11_init_109 : decode cX11_init 109 = .ok (.new 61, 3) := by decide +kernel
theorem dX11_init_112 : decode cX11_init 112 = .ok (.dup, 1) := by decide +kernel
theorem dX11_init_113 : decode cX11_init 113 = .ok (.invokespecial 63, 3) := by decide +kernel
theorem dX11_init_116 : decode cX11_init 116 = .ok (.putfield 64, 3) := by decide +kernel
theorem dX11_init_119 : decode cX11_init 119 = .ok (.aload_n 0, 1) := by decide +kernel
theorem dX11_init_120 : decode cX11_init 120 = .ok (.new 68, 3) := by decide +kernel
theorem dX11_init_123 : decode cX11_init 123 = .ok (.dup, 1) := by decide +kernel
theorem dX11_init_124 : decode cX11_init 124 = .ok (.invokespecial 70, 3) := by decide +kernel
theorem dX11_init_127 : decode cX11_init 127 = .ok (.putfield 71, 3) := by decide +kernel
theorem dX11_init_130 : decode cX11_init 130 = .ok (.aload_n 0, 1) := by decide +kernel
theorem dX11_init_131 : decode cX11_init 131 = .ok (.new 75, 3) := by decide +kernel
theorem dX11_init_134 : decode cX11_init 134 = .ok (.dup, 1) := by decide +kernel
theorem dX11_init_135 : decode cX11_init 135 = .ok (.aload_n 0, 1) := by decide +kernel
theorem dX11_init_136 : decode cX11_init 136 = .ok (.getfield 12, 3) := by decide +kernel
theorem dX11_init_139 : decode cX11_init 139 = .ok (.invokespecial 77, 3) := by decide +kernel
theorem dX11_init_142 : decode cX11_init 142 = .ok (.putfield 78, 3) := by decide +kernel
theorem dX11_init_145 : decode cX11_init 145 = .ok (.aload_n 0, 1) := by decide +kernel
theorem dX11_init_146 : decode cX11_init 146 = .ok (.new 82, 3) := by decide +kernel
theorem dX11_init_149 : decode cX11_init 149 = .ok (.dup, 1) := by decide +kernel
theorem dX11_init_150 : decode cX11_init 150 = .ok (.invokespecial 84, 3) := by decide +kernel
theorem dX11_init_153 : decode cX11_init 153 = .ok (.putfield 85, 3) := by decide +kernel
theorem dX11_init_156 : decode cX11_init 156 = .ok (.aload_n 0, 1) := by decide +kernel
theorem dX11_init_157 : decode cX11_init 157 = .ok (.new 82, 3) := by decide +kernel
theorem dX11_init_160 : decode cX11_init 160 = .ok (.dup, 1) := by decide +kernel
theorem dX11_init_161 : decode cX11_init 161 = .ok (.invokespecial 84, 3) := by decide +kernel
theorem dX11_init_164 : decode cX11_init 164 = .ok (.putfield 89, 3) := by decide +kernel
theorem dX11_init_167 : decode cX11_init 167 = .ok (.aload_n 0, 1) := by decide +kernel
theorem dX11_init_168 : decode cX11_init 168 = .ok (.iconst 0, 1) := by decide +kernel
theorem dX11_init_169 : decode cX11_init 169 = .ok (.putfield 92, 3) := by decide +kernel
theorem dX11_init_172 : decode cX11_init 172 = .ok (.return_, 1) := by decide +kernel
theorem dX11_coat_0 : decode cX11_coat 0 = .ok (.iload_n 1, 1) := by decide +kernel
theorem dX11_coat_1 : decode cX11_coat 1 = .ok (.invokestatic 96, 3) := by decide +kernel
theorem dX11_coat_4 : decode cX11_coat 4 = .ok (.ifCond .eq 13, 3) := by decide +kernel
theorem dX11_coat_7 : decode cX11_coat 7 = .ok (.iload_n 2, 1) := by decide +kernel
theorem dX11_coat_8 : decode cX11_coat 8 = .ok (.iconst (-1), 1) := by decide +kernel
theorem dX11_coat_9 : decode cX11_coat 9 = .ok (.bipush 15, 2) := by decide +kernel
theorem dX11_coat_11 : decode cX11_coat 11 = .ok (.invokestatic 100, 3) := by decide +kernel
theorem dX11_coat_14 : decode cX11_coat 14 = .ok (.ifCond .ne 5, 3) := by decide +kernel
theorem dX11_coat_17 : decode cX11_coat 17 = .ok (.iconst 0, 1) := by decide +kernel
theorem dX11_coat_18 : decode cX11_coat 18 = .ok (.ireturn, 1) := by decide +kernel
theorem dX11_coat_19 : decode cX11_coat 19 = .ok (.aload_n 0, 1) := by decide +kernel
theorem dX11_coat_20 : decode cX11_coat 20 = .ok (.getfield 28, 3) := by decide +kernel
theorem dX11_coat_23 : decode cX11_coat 23 = .ok (.getfield 104, 3) := by decide +kernel
theorem dX11_coat_26 : decode cX11_coat 26 = .ok (.iload_n 1, 1) := by decide +kernel
theorem dX11_coat_27 : decode cX11_coat 27 = .ok (.iload_n 2, 1) := by decide +kernel
theorem dX11_coat_28 : decode cX11_coat 28 = .ok (.iastore, 1) := by decide +kernel
theorem dX11_coat_29 : decode cX11_coat 29 = .ok (.iconst 1, 1) := by decide +kernel
theorem dX11_coat_30 : decode cX11_coat 30 = .ok (.ireturn, 1) := by decide +kernel
theorem dX11_feed_0 : decode cX11_feed 0 = .ok (.aload_n 0, 1) := by decide +kernel
theorem dX11_feed_1 : decode cX11_feed 1 = .ok (.getfield 12, 3) := by decide +kernel
theorem dX11_feed_4 : decode cX11_feed 4 = .ok (.invokevirtual 108, 3) := by decide +kernel
theorem dX11_feed_7 : decode cX11_feed 7 = .ok (.ifCond .ne 5, 3) := by decide +kernel
theorem dX11_feed_10 : decode cX11_feed 10 = .ok (.iconst (-1), 1) := by decide +kernel
theorem dX11_feed_11 : decode cX11_feed 11 = .ok (.ireturn, 1) := by decide +kernel
theorem dX11_feed_12 : decode cX11_feed 12 = .ok (.aload_n 0, 1) := by decide +kernel
theorem dX11_feed_13 : decode cX11_feed 13 = .ok (.getfield 12, 3) := by decide +kernel
theorem dX11_feed_16 : decode cX11_feed 16 = .ok (.iload_n 1, 1) := by decide +kernel
theorem dX11_feed_17 : decode cX11_feed 17 = .ok (.invokevirtual 112, 3) := by decide +kernel
theorem dX11_feed_20 : decode cX11_feed 20 = .ok (.aload_n 0, 1) := by decide +kernel
theorem dX11_feed_21 : decode cX11_feed 21 = .ok (.getfield 12, 3) := by decide +kernel
theorem dX11_feed_24 : decode cX11_feed 24 = .ok (.iload_n 2, 1) := by decide +kernel
theorem dX11_feed_25 : decode cX11_feed 25 = .ok (.invokevirtual 112, 3) := by decide +kernel
theorem dX11_feed_28 : decode cX11_feed 28 = .ok (.aload_n 0, 1) := by decide +kernel
theorem dX11_feed_29 : decode cX11_feed 29 = .ok (.getfield 12, 3) := by decide +kernel
theorem dX11_feed_32 : decode cX11_feed 32 = .ok (.iload_n 3, 1) := by decide +kernel
theorem dX11_feed_33 : decode cX11_feed 33 = .ok (.invokevirtual 112, 3) := by decide +kernel
theorem dX11_feed_36 : decode cX11_feed 36 = .ok (.aload_n 0, 1) := by decide +kernel
theorem dX11_feed_37 : decode cX11_feed 37 = .ok (.getfield 12, 3) := by decide +kernel
theorem dX11_feed_40 : decode cX11_feed 40 = .ok (.iload 4, 2) := by decide +kernel
theorem dX11_feed_42 : decode cX11_feed 42 = .ok (.invokevirtual 112, 3) := by decide +kernel
theorem dX11_feed_45 : decode cX11_feed 45 = .ok (.aload_n 0, 1) := by decide +kernel
theorem dX11_feed_46 : decode cX11_feed 46 = .ok (.getfield 12, 3) := by decide +kernel
theorem dX11_feed_49 : decode cX11_feed 49 = .ok (.iload 5, 2) := by decide +kernel
theorem dX11_feed_51 : decode cX11_feed 51 = .ok (.invokevirtual 112, 3) := by decide +kernel
theorem dX11_feed_54 : decode cX11_feed 54 = .ok (.aload_n 0, 1) := by decide +kernel
theorem dX11_feed_55 : decode cX11_feed 55 = .ok (.getfield 12, 3) := by decide +kernel
theorem dX11_feed_58 : decode cX11_feed 58 = .ok (.getfield 116, 3) := by decide +kernel
theorem dX11_feed_61 : decode cX11_feed 61 = .ok (.ireturn, 1) := by decide +kernel
theorem dX11_law_0 : decode cX11_law 0 = .ok (.aload_n 0, 1) := by decide +kernel
theorem dX11_law_1 : decode cX11_law 1 = .ok (.getfield 12, 3) := by decide +kernel
theorem dX11_law_4 : decode cX11_law 4 = .ok (.iload_n 1, 1) := by decide +kernel
theorem dX11_law_5 : decode cX11_law 5 = .ok (.iconst 1, 1) := by decide +kernel
theorem dX11_law_6 : decode cX11_law 6 = .ok (.sipush 240, 3) := by decide +kernel
theorem dX11_law_9 : decode cX11_law 9 = .ok (.invokevirtual 120, 3) := by decide +kernel
theorem dX11_law_12 : decode cX11_law 12 = .ok (.ifCond .ne 5, 3) := by decide +kernel
theorem dX11_law_15 : decode cX11_law 15 = .ok (.iconst (-1), 1) := by decide +kernel
theorem dX11_law_16 : decode cX11_law 16 = .ok (.ireturn, 1) := by decide +kernel
theorem dX11_law_17 : decode cX11_law 17 = .ok (.aload_n 0, 1) := by decide +kernel
theorem dX11_law_18 : decode cX11_law 18 = .ok (.getfield 21, 3) := by decide +kernel
theorem dX11_law_21 : decode cX11_law 21 = .ok (.iload_n 1, 1) := by decide +kernel
theorem dX11_law_22 : decode cX11_law 22 = .ok (.invokevirtual 123, 3) := by decide +kernel
theorem dX11_law_25 : decode cX11_law 25 = .ok (.aload_n 0, 1) := by decide +kernel
theorem dX11_law_26 : decode cX11_law 26 = .ok (.getfield 43, 3) := by decide +kernel
theorem dX11_law_29 : decode cX11_law 29 = .ok (.aload_n 0, 1) := by decide +kernel
theorem dX11_law_30 : decode cX11_law 30 = .ok (.getfield 89, 3) := by decide +kernel
theorem dX11_law_33 : decode cX11_law 33 = .ok (.invokevirtual 126, 3) := by decide +kernel
theorem dX11_law_36 : decode cX11_law 36 = .ok (.aload_n 0, 1) := by decide +kernel
theorem dX11_law_37 : decode cX11_law 37 = .ok (.getfield 12, 3) := by decide +kernel
theorem dX11_law_40 : decode cX11_law 40 = .ok (.invokevirtual 130, 3) := by decide +kernel
theorem dX11_law_43 : decode cX11_law 43 = .ok (.aload_n 0, 1) := by decide +kernel
theorem dX11_law_44 : decode cX11_law 44 = .ok (.getfield 21, 3) := by decide +kernel
theorem dX11_law_47 : decode cX11_law 47 = .ok (.invokevirtual 133, 3) := by decide +kernel
theorem dX11_law_50 : decode cX11_law 50 = .ok (.ifCond .eq 11, 3) := by decide +kernel
theorem dX11_law_53 : decode cX11_law 53 = .ok (.aload_n 0, 1) := by decide +kernel
theorem dX11_law_54 : decode cX11_law 54 = .ok (.getfield 21, 3) := by decide +kernel
theorem dX11_law_57 : decode cX11_law 57 = .ok (.invokevirtual 136, 3) := by decide +kernel
theorem dX11_law_60 : decode cX11_law 60 = .ok (.ireturn, 1) := by decide +kernel
theorem dX11_law_61 : decode cX11_law 61 = .ok (.aload_n 0, 1) := by decide +kernel
theorem dX11_law_62 : decode cX11_law 62 = .ok (.getfield 85, 3) := by decide +kernel
theorem dX11_law_65 : decode cX11_law 65 = .ok (.astore_n 2, 1) := by decide +kernel
theorem dX11_law_66 : decode cX11_law 66 = .ok (.aload_n 0, 1) := by decide +kernel
theorem dX11_law_67 : decode cX11_law 67 = .ok (.aload_n 0, 1) := by decide +kernel
theorem dX11_law_68 : decode cX11_law 68 = .ok (.getfield 89, 3) := by decide +kernel
theorem dX11_law_71 : decode cX11_law 71 = .ok (.putfield 85, 3) := by decide +kernel
theorem dX11_law_74 : decode cX11_law 74 = .ok (.aload_n 0, 1) := by decide +kernel
theorem dX11_law_75 : decode cX11_law 75 = .ok (.aload_n 2, 1) := by decide +kernel
theorem dX11_law_76 : decode cX11_law 76 = .ok (.putfield 89, 3) := by decide +kernel
theorem dX11_law_79 : decode cX11_law 79 = .ok (.aload_n 0, 1) := by decide +kernel
theorem dX11_law_80 : decode cX11_law 80 = .ok (.getfield 85, 3) := by decide +kernel
theorem dX11_law_83 : decode cX11_law 83 = .ok (.getfield 140, 3) := by decide +kernel
theorem dX11_law_86 : decode cX11_law 86 = .ok (.ireturn, 1) := by decide +kernel
theorem dX11_list_0 : decode cX11_list 0 = .ok (.aload_n 0, 1) := by decide +kernel
theorem dX11_list_1 : decode cX11_list 1 = .ok (.getfield 12, 3) := by decide +kernel
theorem dX11_list_4 : decode cX11_list 4 = .ok (.iload_n 1, 1) := by decide +kernel
theorem dX11_list_5 : decode cX11_list 5 = .ok (.iconst 1, 1) := by decide +kernel
theorem dX11_list_6 : decode cX11_list 6 = .ok (.bipush 120, 2) := by decide +kernel
theorem dX11_list_8 : decode cX11_list 8 = .ok (.invokevirtual 120, 3) := by decide +kernel
theorem dX11_list_11 : decode cX11_list 11 = .ok (.ifCond .ne 5, 3) := by decide +kernel
theorem dX11_list_14 : decode cX11_list 14 = .ok (.iconst (-1), 1) := by decide +kernel
theorem dX11_list_15 : decode cX11_list 15 = .ok (.ireturn, 1) := by decide +kernel
theorem dX11_list_16 : decode cX11_list 16 = .ok (.aload_n 0, 1) := by decide +kernel
theorem dX11_list_17 : decode cX11_list 17 = .ok (.getfield 21, 3) := by decide +kernel
theorem dX11_list_20 : decode cX11_list 20 = .ok (.iload_n 1, 1) := by decide +kernel
theorem dX11_list_21 : decode cX11_list 21 = .ok (.invokevirtual 123, 3) := by decide +kernel
theorem dX11_list_24 : decode cX11_list 24 = .ok (.aload_n 0, 1) := by decide +kernel
theorem dX11_list_25 : decode cX11_list 25 = .ok (.getfield 50, 3) := by decide +kernel
theorem dX11_list_28 : decode cX11_list 28 = .ok (.aload_n 0, 1) := by decide +kernel
theorem dX11_list_29 : decode cX11_list 29 = .ok (.getfield 28, 3) := by decide +kernel
theorem dX11_list_32 : decode cX11_list 32 = .ok (.invokevirtual 143, 3) := by decide +kernel
theorem dX11_list_35 : decode cX11_list 35 = .ok (.istore_n 2, 1) := by decide +kernel
theorem dX11_list_36 : decode cX11_list 36 = .ok (.aload_n 0, 1) := by decide +kernel
theorem dX11_list_37 : decode cX11_list 37 = .ok (.getfield 12, 3) := by decide +kernel
theorem dX11_list_40 : decode cX11_list 40 = .ok (.invokevirtual 130, 3) := by decide +kernel
theorem dX11_list_43 : decode cX11_list 43 = .ok (.aload_n 0, 1) := by decide +kernel
theorem dX11_list_44 : decode cX11_list 44 = .ok (.getfield 21, 3) := by decide +kernel
theorem dX11_list_47 : decode cX11_list 47 = .ok (.invokevirtual 133, 3) := by decide +kernel
theorem dX11_list_50 : decode cX11_list 50 = .ok (.ifCond .eq 11, 3) := by decide +kernel
theorem dX11_list_53 : decode cX11_list 53 = .ok (.aload_n 0, 1) := by decide +kernel
theorem dX11_list_54 : decode cX11_list 54 = .ok (.getfield 21, 3) := by decide +kernel
theorem dX11_list_57 : decode cX11_list 57 = .ok (.invokevirtual 136, 3) := by decide +kernel
theorem dX11_list_60 : decode cX11_list 60 = .ok (.ireturn, 1) := by decide +kernel
theorem dX11_list_61 : decode cX11_list 61 = .ok (.aload_n 0, 1) := by decide +kernel
theorem dX11_list_62 : decode cX11_list 62 = .ok (.getfield 28, 3) := by decide +kernel
theorem dX11_list_65 : decode cX11_list 65 = .ok (.dup, 1) := by decide +kernel
theorem dX11_list_66 : decode cX11_list 66 = .ok (.getfield 147, 3) := by decide +kernel
theorem dX11_list_69 : decode cX11_list 69 = .ok (.iload_n 2, 1) := by decide +kernel
theorem dX11_list_70 : decode cX11_list 70 = .ok (.iadd, 1) := by decide +kernel
theorem dX11_list_71 : decode cX11_list 71 = .ok (.putfield 147, 3) := by decide +kernel
theorem dX11_list_74 : decode cX11_list 74 = .ok (.iload_n 2, 1) := by decide +kernel
theorem dX11_list_75 : decode cX11_list 75 = .ok (.ireturn, 1) := by decide +kernel
theorem dX11_moves_0 : decode cX11_moves 0 = .ok (.aload_n 0, 1) := by decide +kernel
theorem dX11_moves_1 : decode cX11_moves 1 = .ok (.getfield 12, 3) := by decide +kernel
theorem dX11_moves_4 : decode cX11_moves 4 = .ok (.iload_n 1, 1) := by decide +kernel
theorem dX11_moves_5 : decode cX11_moves 5 = .ok (.iconst 1, 1) := by decide +kernel
theorem dX11_moves_6 : decode cX11_moves 6 = .ok (.bipush 120, 2) := by decide +kernel
theorem dX11_moves_8 : decode cX11_moves 8 = .ok (.invokevirtual 120, 3) := by decide +kernel
theorem dX11_moves_11 : decode cX11_moves 11 = .ok (.ifCond .ne 5, 3) := by decide +kernel
theorem dX11_moves_14 : decode cX11_moves 14 = .ok (.iconst (-1), 1) := by decide +kernel
theorem dX11_moves_15 : decode cX11_moves 15 = .ok (.ireturn, 1) := by decide +kernel
theorem dX11_moves_16 : decode cX11_moves 16 = .ok (.aload_n 0, 1) := by decide +kernel
theorem dX11_moves_17 : decode cX11_moves 17 = .ok (.getfield 21, 3) := by decide +kernel
theorem dX11_moves_20 : decode cX11_moves 20 = .ok (.iload_n 1, 1) := by decide +kernel
theorem dX11_moves_21 : decode cX11_moves 21 = .ok (.invokevirtual 123, 3) := by decide +kernel
theorem dX11_moves_24 : decode cX11_moves 24 = .ok (.aload_n 0, 1) := by decide +kernel
theorem dX11_moves_25 : decode cX11_moves 25 = .ok (.getfield 35, 3) := by decide +kernel
theorem dX11_moves_28 : decode cX11_moves 28 = .ok (.aload_n 0, 1) := by decide +kernel
theorem dX11_moves_29 : decode cX11_moves 29 = .ok (.getfield 28, 3) := by decide +kernel
theorem dX11_moves_32 : decode cX11_moves 32 = .ok (.invokevirtual 150, 3) := by decide +kernel
theorem dX11_moves_35 : decode cX11_moves 35 = .ok (.aload_n 0, 1) := by decide +kernel
theorem dX11_moves_36 : decode cX11_moves 36 = .ok (.getfield 57, 3) := by decide +kernel
theorem dX11_moves_39 : decode cX11_moves 39 = .ok (.aload_n 0, 1) := by decide +kernel
theorem dX11_moves_40 : decode cX11_moves 40 = .ok (.getfield 35, 3) := by decide +kernel
theorem dX11_moves_43 : decode cX11_moves 43 = .ok (.invokevirtual 154, 3) := by decide +kernel
theorem dX11_moves_46 : decode cX11_moves 46 = .ok (.istore_n 2, 1) := by decide +kernel
theorem dX11_moves_47 : decode cX11_moves 47 = .ok (.aload_n 0, 1) := by decide +kernel
theorem dX11_moves_48 : decode cX11_moves 48 = .ok (.getfield 12, 3) := by decide +kernel
theorem dX11_moves_51 : decode cX11_moves 51 = .ok (.invokevirtual 130, 3) := by decide +kernel
theorem dX11_moves_54 : decode cX11_moves 54 = .ok (.aload_n 0, 1) := by decide +kernel
theorem dX11_moves_55 : decode cX11_moves 55 = .ok (.getfield 21, 3) := by decide +kernel
theorem dX11_moves_58 : decode cX11_moves 58 = .ok (.invokevirtual 133, 3) := by decide +kernel
theorem dX11_moves_61 : decode cX11_moves 61 = .ok (.ifCond .eq 11, 3) := by decide +kernel
theorem dX11_moves_64 : decode cX11_moves 64 = .ok (.aload_n 0, 1) := by decide +kernel
theorem dX11_moves_65 : decode cX11_moves 65 = .ok (.getfield 21, 3) := by decide +kernel
theorem dX11_moves_68 : decode cX11_moves 68 = .ok (.invokevirtual 136, 3) := by decide +kernel
theorem dX11_moves_71 : decode cX11_moves 71 = .ok (.ireturn, 1) := by decide +kernel
theorem dX11_moves_72 : decode cX11_moves 72 = .ok (.aload_n 0, 1) := by decide +kernel
theorem dX11_moves_73 : decode cX11_moves 73 = .ok (.getfield 28, 3) := by decide +kernel
theorem dX11_moves_76 : decode cX11_moves 76 = .ok (.aload_n 0, 1) := by decide +kernel
theorem dX11_moves_77 : decode cX11_moves 77 = .ok (.getfield 35, 3) := by decide +kernel
theorem dX11_moves_80 : decode cX11_moves 80 = .ok (.invokevirtual 150, 3) := by decide +kernel
theorem dX11_moves_83 : decode cX11_moves 83 = .ok (.iload_n 2, 1) := by decide +kernel
theorem dX11_moves_84 : decode cX11_moves 84 = .ok (.ireturn, 1) := by decide +kernel
theorem dX11_come_0 : decode cX11_come 0 = .ok (.iload_n 1, 1) := by decide +kernel
theorem dX11_come_1 : decode cX11_come 1 = .ok (.iconst 1, 1) := by decide +kernel
theorem dX11_come_2 : decode cX11_come 2 = .ok (.sipush 200, 3) := by decide +kernel
theorem dX11_come_5 : decode cX11_come 5 = .ok (.invokestatic 100, 3) := by decide +kernel
theorem dX11_come_8 : decode cX11_come 8 = .ok (.ifCond .ne 5, 3) := by decide +kernel
theorem dX11_come_11 : decode cX11_come 11 = .ok (.iconst (-1), 1) := by decide +kernel
theorem dX11_come_12 : decode cX11_come 12 = .ok (.ireturn, 1) := by decide +kernel
theorem dX11_come_13 : decode cX11_come 13 = .ok (.aload_n 0, 1) := by decide +kernel
theorem dX11_come_14 : decode cX11_come 14 = .ok (.getfield 64, 3) := by decide +kernel
theorem dX11_come_17 : decode cX11_come 17 = .ok (.aload_n 0, 1) := by decide +kernel
theorem dX11_come_18 : decode cX11_come 18 = .ok (.getfield 28, 3) := by decide +kernel
theorem dX11_come_21 : decode cX11_come 21 = .ok (.aload_n 0, 1) := by decide +kernel
theorem dX11_come_22 : decode cX11_come 22 = .ok (.getfield 85, 3) := by decide +kernel
theorem dX11_come_25 : decode cX11_come 25 = .ok (.iload_n 1, 1) := by decide +kernel
theorem dX11_come_26 : decode cX11_come 26 = .ok (.invokevirtual 157, 3) := by decide +kernel
theorem dX11_come_29 : decode cX11_come 29 = .ok (.ireturn, 1) := by decide +kernel
theorem dX11_tried_0 : decode cX11_tried 0 = .ok (.iload_n 1, 1) := by decide +kernel
theorem dX11_tried_1 : decode cX11_tried 1 = .ok (.iconst 1, 1) := by decide +kernel
theorem dX11_tried_2 : decode cX11_tried 2 = .ok (.sipush 200, 3) := by decide +kernel
theorem dX11_tried_5 : decode cX11_tried 5 = .ok (.invokestatic 100, 3) := by decide +kernel
theorem dX11_tried_8 : decode cX11_tried 8 = .ok (.ifCond .eq 12, 3) := by decide +kernel
theorem dX11_tried_11 : decode cX11_tried 11 = .ok (.iload_n 2, 1) := by decide +kernel
theorem dX11_tried_12 : decode cX11_tried 12 = .ok (.iconst 0, 1) := by decide +kernel
theorem dX11_tried_13 : decode cX11_tried 13 = .ok (.iconst 4, 1) := by decide +kernel
theorem dX11_tried_14 : decode cX11_tried 14 = .ok (.invokestatic 100, 3) := by decide +kernel
theorem dX11_tried_17 : decode cX11_tried 17 = .ok (.ifCond .ne 7, 3) := by decide +kernel
theorem dX11_tried_20 : decode cX11_tried 20 = .ok (.sipush (-1000), 3) := by decide +kernel
theorem dX11_tried_23 : decode cX11_tried 23 = .ok (.ireturn, 1) := by decide +kernel
theorem dX11_tried_24 : decode cX11_tried 24 = .ok (.aload_n 0, 1) := by decide +kernel
theorem dX11_tried_25 : decode cX11_tried 25 = .ok (.getfield 35, 3) := by decide +kernel
theorem dX11_tried_28 : decode cX11_tried 28 = .ok (.aload_n 0, 1) := by decide +kernel
theorem dX11_tried_29 : decode cX11_tried 29 = .ok (.getfield 28, 3) := by decide +kernel
theorem dX11_tried_32 : decode cX11_tried 32 = .ok (.invokevirtual 150, 3) := by decide +kernel
theorem dX11_tried_35 : decode cX11_tried 35 = .ok (.aload_n 0, 1) := by decide +kernel
theorem dX11_tried_36 : decode cX11_tried 36 = .ok (.getfield 64, 3) := by decide +kernel
theorem dX11_tried_39 : decode cX11_tried 39 = .ok (.aload_n 0, 1) := by decide +kernel
theorem dX11_tried_40 : decode cX11_tried 40 = .ok (.getfield 35, 3) := by decide +kernel
theorem dX11_tried_43 : decode cX11_tried 43 = .ok (.aload_n 0, 1) := by decide +kernel
theorem dX11_tried_44 : decode cX11_tried 44 = .ok (.getfield 85, 3) := by decide +kernel
theorem dX11_tried_47 : decode cX11_tried 47 = .ok (.iload_n 1, 1) := by decide +kernel
theorem dX11_tried_48 : decode cX11_tried 48 = .ok (.invokevirtual 157, 3) := by decide +kernel
theorem dX11_tried_51 : decode cX11_tried 51 = .ok (.istore_n 3, 1) := by decide +kernel
theorem dX11_tried_52 : decode cX11_tried 52 = .ok (.iload_n 2, 1) := by decide +kernel
theorem dX11_tried_53 : decode cX11_tried 53 = .ok (.tableswitch 65 0 3 #[31, 33, 49, 57], 31) := by decide +kernel
theorem dX11_tried_84 : decode cX11_tried 84 = .ok (.iload_n 3, 1) := by decide +kernel
theorem dX11_tried_85 : decode cX11_tried 85 = .ok (.ireturn, 1) := by decide +kernel
theorem dX11_tried_86 : decode cX11_tried 86 = .ok (.aload_n 0, 1) := by decide +kernel
theorem dX11_tried_87 : decode cX11_tried 87 = .ok (.getfield 35, 3) := by decide +kernel
theorem dX11_tried_90 : decode cX11_tried 90 = .ok (.getfield 161, 3) := by decide +kernel
theorem dX11_tried_93 : decode cX11_tried 93 = .ok (.aload_n 0, 1) := by decide +kernel
theorem dX11_tried_94 : decode cX11_tried 94 = .ok (.getfield 28, 3) := by decide +kernel
theorem dX11_tried_97 : decode cX11_tried 97 = .ok (.getfield 161, 3) := by decide +kernel
theorem dX11_tried_100 : decode cX11_tried 100 = .ok (.isub, 1) := by decide +kernel
theorem dX11_tried_101 : decode cX11_tried 101 = .ok (.ireturn, 1) := by decide +kernel
theorem dX11_tried_102 : decode cX11_tried 102 = .ok (.aload_n 0, 1) := by decide +kernel
theorem dX11_tried_103 : decode cX11_tried 103 = .ok (.getfield 64, 3) := by decide +kernel
theorem dX11_tried_106 : decode cX11_tried 106 = .ok (.getfield 164, 3) := by decide +kernel
theorem dX11_tried_109 : decode cX11_tried 109 = .ok (.ireturn, 1) := by decide +kernel
theorem dX11_tried_110 : decode cX11_tried 110 = .ok (.aload_n 0, 1) := by decide +kernel
theorem dX11_tried_111 : decode cX11_tried 111 = .ok (.getfield 35, 3) := by decide +kernel
theorem dX11_tried_114 : decode cX11_tried 114 = .ok (.invokevirtual 167, 3) := by decide +kernel
theorem dX11_tried_117 : decode cX11_tried 117 = .ok (.ireturn, 1) := by decide +kernel
theorem dX11_tried_118 : decode cX11_tried 118 = .ok (.aload_n 0, 1) := by decide +kernel
theorem dX11_tried_119 : decode cX11_tried 119 = .ok (.getfield 71, 3) := by decide +kernel
theorem dX11_tried_122 : decode cX11_tried 122 = .ok (.aload_n 0, 1) := by decide +kernel
theorem dX11_tried_123 : decode cX11_tried 123 = .ok (.getfield 35, 3) := by decide +kernel
theorem dX11_tried_126 : decode cX11_tried 126 = .ok (.invokevirtual 170, 3) := by decide +kernel
theorem dX11_tried_129 : decode cX11_tried 129 = .ok (.ireturn, 1) := by decide +kernel
theorem dX11_guestAt_0 : decode cX11_guestAt 0 = .ok (.iload_n 1, 1) := by decide +kernel
theorem dX11_guestAt_1 : decode cX11_guestAt 1 = .ok (.invokestatic 96, 3) := by decide +kernel
theorem dX11_guestAt_4 : decode cX11_guestAt 4 = .ok (.ifCond .eq 13, 3) := by decide +kernel
theorem dX11_guestAt_7 : decode cX11_guestAt 7 = .ok (.iload_n 2, 1) := by decide +kernel
theorem dX11_guestAt_8 : decode cX11_guestAt 8 = .ok (.iconst 0, 1) := by decide +kernel
theorem dX11_guestAt_9 : decode cX11_guestAt 9 = .ok (.bipush 6, 2) := by decide +kernel
theorem dX11_guestAt_11 : decode cX11_guestAt 11 = .ok (.invokestatic 100, 3) := by decide +kernel
theorem dX11_guestAt_14 : decode cX11_guestAt 14 = .ok (.ifCond .ne 5, 3) := by decide +kernel
theorem dX11_guestAt_17 : decode cX11_guestAt 17 = .ok (.iconst (-1), 1) := by decide +kernel
theorem dX11_guestAt_18 : decode cX11_guestAt 18 = .ok (.ireturn, 1) := by decide +kernel
theorem dX11_guestAt_19 : decode cX11_guestAt 19 = .ok (.aload_n 0, 1) := by decide +kernel
theorem dX11_guestAt_20 : decode cX11_guestAt 20 = .ok (.getfield 28, 3) := by decide +kernel
theorem dX11_guestAt_23 : decode cX11_guestAt 23 = .ok (.getfield 173, 3) := by decide +kernel
theorem dX11_guestAt_26 : decode cX11_guestAt 26 = .ok (.iload_n 1, 1) := by decide +kernel
theorem dX11_guestAt_27 : decode cX11_guestAt 27 = .ok (.iaload, 1) := by decide +kernel
theorem dX11_guestAt_28 : decode cX11_guestAt 28 = .ok (.istore_n 3, 1) := by decide +kernel
theorem dX11_guestAt_29 : decode cX11_guestAt 29 = .ok (.iload_n 3, 1) := by decide +kernel
theorem dX11_guestAt_30 : decode cX11_guestAt 30 = .ok (.iconst (-1), 1) := by decide +kernel
theorem dX11_guestAt_31 : decode cX11_guestAt 31 = .ok (.if_icmp .ne 6, 3) := by decide +kernel
theorem dX11_guestAt_34 : decode cX11_guestAt 34 = .ok (.bipush (-2), 2) := by decide +kernel
theorem dX11_guestAt_36 : decode cX11_guestAt 36 = .ok (.ireturn, 1) := by decide +kernel
theorem dX11_guestAt_37 : decode cX11_guestAt 37 = .ok (.iload_n 2, 1) := by decide +kernel
theorem dX11_guestAt_38 : decode cX11_guestAt 38 = .ok (.tableswitch 73 0 5 #[38, 43, 48, 53, 58, 63], 38) := by decide +kernel
theorem dX11_guestAt_76 : decode cX11_guestAt 76 = .ok (.iload_n 3, 1) := by decide +kernel
theorem dX11_guestAt_77 : decode cX11_guestAt 77 = .ok (.invokestatic 178, 3) := by decide +kernel
theorem dX11_guestAt_80 : decode cX11_guestAt 80 = .ok (.ireturn, 1) := by decide +kernel
theorem dX11_guestAt_81 : decode cX11_guestAt 81 = .ok (.iload_n 3, 1) := by decide +kernel
theorem dX11_guestAt_82 : decode cX11_guestAt 82 = .ok (.invokestatic 182, 3) := by decide +kernel
theorem dX11_guestAt_85 : decode cX11_guestAt 85 = .ok (.ireturn, 1) := by decide +kernel
theorem dX11_guestAt_86 : decode cX11_guestAt 86 = .ok (.iload_n 3, 1) := by decide +kernel
theorem dX11_guestAt_87 : decode cX11_guestAt 87 = .ok (.invokestatic 185, 3) := by decide +kernel
theorem dX11_guestAt_90 : decode cX11_guestAt 90 = .ok (.ireturn, 1) := by decide +kernel
theorem dX11_guestAt_91 : decode cX11_guestAt 91 = .ok (.iload_n 3, 1) := by decide +kernel
theorem dX11_guestAt_92 : decode cX11_guestAt 92 = .ok (.invokestatic 188, 3) := by decide +kernel
theorem dX11_guestAt_95 : decode cX11_guestAt 95 = .ok (.ireturn, 1) := by decide +kernel
theorem dX11_guestAt_96 : decode cX11_guestAt 96 = .ok (.iload_n 3, 1) := by decide +kernel
theorem dX11_guestAt_97 : decode cX11_guestAt 97 = .ok (.invokestatic 191, 3) := by decide +kernel
theorem dX11_guestAt_100 : decode cX11_guestAt 100 = .ok (.ireturn, 1) := by decide +kernel
theorem dX11_guestAt_101 : decode cX11_guestAt 101 = .ok (.aload_n 0, 1) := by decide +kernel
theorem dX11_guestAt_102 : decode cX11_guestAt 102 = .ok (.getfield 28, 3) := by decide +kernel
theorem dX11_guestAt_105 : decode cX11_guestAt 105 = .ok (.getfield 194, 3) := by decide +kernel
theorem dX11_guestAt_108 : decode cX11_guestAt 108 = .ok (.iload_n 1, 1) := by decide +kernel
theorem dX11_guestAt_109 : decode cX11_guestAt 109 = .ok (.iaload, 1) := by decide +kernel
theorem dX11_guestAt_110 : decode cX11_guestAt 110 = .ok (.ireturn, 1) := by decide +kernel
theorem dX11_guestAt_111 : decode cX11_guestAt 111 = .ok (.aload_n 0, 1) := by decide +kernel
theorem dX11_guestAt_112 : decode cX11_guestAt 112 = .ok (.getfield 71, 3) := by decide +kernel
theorem dX11_guestAt_115 : decode cX11_guestAt 115 = .ok (.aload_n 0, 1) := by decide +kernel
theorem dX11_guestAt_116 : decode cX11_guestAt 116 = .ok (.getfield 28, 3) := by decide +kernel
theorem dX11_guestAt_119 : decode cX11_guestAt 119 = .ok (.iload_n 1, 1) := by decide +kernel
theorem dX11_guestAt_120 : decode cX11_guestAt 120 = .ok (.invokevirtual 197, 3) := by decide +kernel
theorem dX11_guestAt_123 : decode cX11_guestAt 123 = .ok (.ireturn, 1) := by decide +kernel
theorem dX11_coatAt_0 : decode cX11_coatAt 0 = .ok (.iload_n 1, 1) := by decide +kernel
theorem dX11_coatAt_1 : decode cX11_coatAt 1 = .ok (.invokestatic 96, 3) := by decide +kernel
theorem dX11_coatAt_4 : decode cX11_coatAt 4 = .ok (.ifCond .ne 5, 3) := by decide +kernel
theorem dX11_coatAt_7 : decode cX11_coatAt 7 = .ok (.iconst (-1), 1) := by decide +kernel
theorem dX11_coatAt_8 : decode cX11_coatAt 8 = .ok (.ireturn, 1) := by decide +kernel
theorem dX11_coatAt_9 : decode cX11_coatAt 9 = .ok (.aload_n 0, 1) := by decide +kernel
theorem dX11_coatAt_10 : decode cX11_coatAt 10 = .ok (.getfield 28, 3) := by decide +kernel
theorem dX11_coatAt_13 : decode cX11_coatAt 13 = .ok (.getfield 104, 3) := by decide +kernel
theorem dX11_coatAt_16 : decode cX11_coatAt 16 = .ok (.iload_n 1, 1) := by decide +kernel
theorem dX11_coatAt_17 : decode cX11_coatAt 17 = .ok (.iaload, 1) := by decide +kernel
theorem dX11_coatAt_18 : decode cX11_coatAt 18 = .ok (.iconst (-1), 1) := by decide +kernel
theorem dX11_coatAt_19 : decode cX11_coatAt 19 = .ok (.if_icmp .ne 8, 3) := by decide +kernel
theorem dX11_coatAt_22 : decode cX11_coatAt 22 = .ok (.bipush (-2), 2) := by decide +kernel
theorem dX11_coatAt_24 : decode cX11_coatAt 24 = .ok (.goto 12, 3) := by decide +kernel
theorem dX11_coatAt_27 : decode cX11_coatAt 27 = .ok (.aload_n 0, 1) := by decide +kernel
theorem dX11_coatAt_28 : decode cX11_coatAt 28 = .ok (.getfield 28, 3) := by decide +kernel
theorem dX11_coatAt_31 : decode cX11_coatAt 31 = .ok (.getfield 104, 3) := by decide +kernel
theorem dX11_coatAt_34 : decode cX11_coatAt 34 = .ok (.iload_n 1, 1) := by decide +kernel
theorem dX11_coatAt_35 : decode cX11_coatAt 35 = .ok (.iaload, 1) := by decide +kernel
theorem dX11_coatAt_36 : decode cX11_coatAt 36 = .ok (.ireturn, 1) := by decide +kernel
theorem dX11_pew_0 : decode cX11_pew 0 = .ok (.iload_n 1, 1) := by decide +kernel
theorem dX11_pew_1 : decode cX11_pew 1 = .ok (.iload_n 2, 1) := by decide +kernel
theorem dX11_pew_2 : decode cX11_pew 2 = .ok (.invokestatic 201, 3) := by decide +kernel
theorem dX11_pew_5 : decode cX11_pew 5 = .ok (.ifCond .eq 12, 3) := by decide +kernel
theorem dX11_pew_8 : decode cX11_pew 8 = .ok (.iload_n 3, 1) := by decide +kernel
theorem dX11_pew_9 : decode cX11_pew 9 = .ok (.iconst 0, 1) := by decide +kernel
theorem dX11_pew_10 : decode cX11_pew 10 = .ok (.iconst 4, 1) := by decide +kernel
theorem dX11_pew_11 : decode cX11_pew 11 = .ok (.invokestatic 100, 3) := by decide +kernel
theorem dX11_pew_14 : decode cX11_pew 14 = .ok (.ifCond .ne 5, 3) := by decide +kernel
theorem dX11_pew_17 : decode cX11_pew 17 = .ok (.iconst (-1), 1) := by decide +kernel
theorem dX11_pew_18 : decode cX11_pew 18 = .ok (.ireturn, 1) := by decide +kernel
theorem dX11_pew_19 : decode cX11_pew 19 = .ok (.iload_n 1, 1) := by decide +kernel
theorem dX11_pew_20 : decode cX11_pew 20 = .ok (.iload_n 2, 1) := by decide +kernel
theorem dX11_pew_21 : decode cX11_pew 21 = .ok (.invokestatic 205, 3) := by decide +kernel
theorem dX11_pew_24 : decode cX11_pew 24 = .ok (.istore 4, 2) := by decide +kernel
theorem dX11_pew_26 : decode cX11_pew 26 = .ok (.iload_n 3, 1) := by decide +kernel
theorem dX11_pew_27 : decode cX11_pew 27 = .ok (.tableswitch 81 0 3 #[29, 39, 53, 67], 29) := by decide +kernel
theorem dX11_pew_56 : decode cX11_pew 56 = .ok (.aload_n 0, 1) := by decide +kernel
theorem dX11_pew_57 : decode cX11_pew 57 = .ok (.getfield 28, 3) := by decide +kernel
theorem dX11_pew_60 : decode cX11_pew 60 = .ok (.iload 4, 2) := by decide +kernel
theorem dX11_pew_62 : decode cX11_pew 62 = .ok (.invokevirtual 209, 3) := by decide +kernel
theorem dX11_pew_65 : decode cX11_pew 65 = .ok (.ireturn, 1) := by decide +kernel
theorem dX11_pew_66 : decode cX11_pew 66 = .ok (.aload_n 0, 1) := by decide +kernel
theorem dX11_pew_67 : decode cX11_pew 67 = .ok (.getfield 71, 3) := by decide +kernel
theorem dX11_pew_70 : decode cX11_pew 70 = .ok (.aload_n 0, 1) := by decide +kernel
theorem dX11_pew_71 : decode cX11_pew 71 = .ok (.getfield 28, 3) := by decide +kernel
theorem dX11_pew_74 : decode cX11_pew 74 = .ok (.iload 4, 2) := by decide +kernel
theorem dX11_pew_76 : decode cX11_pew 76 = .ok (.invokevirtual 212, 3) := by decide +kernel
theorem dX11_pew_79 : decode cX11_pew 79 = .ok (.ireturn, 1) := by decide +kernel
theorem dX11_pew_80 : decode cX11_pew 80 = .ok (.aload_n 0, 1) := by decide +kernel
theorem dX11_pew_81 : decode cX11_pew 81 = .ok (.getfield 71, 3) := by decide +kernel
theorem dX11_pew_84 : decode cX11_pew 84 = .ok (.aload_n 0, 1) := by decide +kernel
theorem dX11_pew_85 : decode cX11_pew 85 = .ok (.getfield 28, 3) := by decide +kernel
theorem dX11_pew_88 : decode cX11_pew 88 = .ok (.iload 4, 2) := by decide +kernel
theorem dX11_pew_90 : decode cX11_pew 90 = .ok (.invokevirtual 215, 3) := by decide +kernel
theorem dX11_pew_93 : decode cX11_pew 93 = .ok (.ireturn, 1) := by decide +kernel
theorem dX11_pew_94 : decode cX11_pew 94 = .ok (.aload_n 0, 1) := by decide +kernel
theorem dX11_pew_95 : decode cX11_pew 95 = .ok (.getfield 71, 3) := by decide +kernel
theorem dX11_pew_98 : decode cX11_pew 98 = .ok (.aload_n 0, 1) := by decide +kernel
theorem dX11_pew_99 : decode cX11_pew 99 = .ok (.getfield 28, 3) := by decide +kernel
theorem dX11_pew_102 : decode cX11_pew 102 = .ok (.iload 4, 2) := by decide +kernel
theorem dX11_pew_104 : decode cX11_pew 104 = .ok (.invokevirtual 218, 3) := by decide +kernel
theorem dX11_pew_107 : decode cX11_pew 107 = .ok (.ireturn, 1) := by decide +kernel
theorem dX11_pew_108 : decode cX11_pew 108 = .ok (.aload_n 0, 1) := by decide +kernel
theorem dX11_pew_109 : decode cX11_pew 109 = .ok (.getfield 71, 3) := by decide +kernel
theorem dX11_pew_112 : decode cX11_pew 112 = .ok (.aload_n 0, 1) := by decide +kernel
theorem dX11_pew_113 : decode cX11_pew 113 = .ok (.getfield 28, 3) := by decide +kernel
theorem dX11_pew_116 : decode cX11_pew 116 = .ok (.iload 4, 2) := by decide +kernel
theorem dX11_pew_118 : decode cX11_pew 118 = .ok (.invokevirtual 221, 3) := by decide +kernel
theorem dX11_pew_121 : decode cX11_pew 121 = .ok (.ireturn, 1) := by decide +kernel
theorem dX11_torn_0 : decode cX11_torn 0 = .ok (.aload_n 0, 1) := by decide +kernel
theorem dX11_torn_1 : decode cX11_torn 1 = .ok (.getfield 71, 3) := by decide +kernel
theorem dX11_torn_4 : decode cX11_torn 4 = .ok (.aload_n 0, 1) := by decide +kernel
theorem dX11_torn_5 : decode cX11_torn 5 = .ok (.getfield 28, 3) := by decide +kernel
theorem dX11_torn_8 : decode cX11_torn 8 = .ok (.invokevirtual 170, 3) := by decide +kernel
theorem dX11_torn_11 : decode cX11_torn 11 = .ok (.ireturn, 1) := by decide +kernel
theorem dX11_together_0 : decode cX11_together 0 = .ok (.iload_n 1, 1) := by decide +kernel
theorem dX11_together_1 : decode cX11_together 1 = .ok (.iconst 0, 1) := by decide +kernel
theorem dX11_together_2 : decode cX11_together 2 = .ok (.bipush 15, 2) := by decide +kernel
theorem dX11_together_4 : decode cX11_together 4 = .ok (.invokestatic 100, 3) := by decide +kernel
theorem dX11_together_7 : decode cX11_together 7 = .ok (.ifCond .eq 12, 3) := by decide +kernel
theorem dX11_together_10 : decode cX11_together 10 = .ok (.iload_n 2, 1) := by decide +kernel
theorem dX11_together_11 : decode cX11_together 11 = .ok (.iconst 0, 1) := by decide +kernel
theorem dX11_together_12 : decode cX11_together 12 = .ok (.iconst 1, 1) := by decide +kernel
theorem dX11_together_13 : decode cX11_together 13 = .ok (.invokestatic 100, 3) := by decide +kernel
theorem dX11_together_16 : decode cX11_together 16 = .ok (.ifCond .ne 5, 3) := by decide +kernel
theorem dX11_together_19 : decode cX11_together 19 = .ok (.iconst (-1), 1) := by decide +kernel
theorem dX11_together_20 : decode cX11_together 20 = .ok (.ireturn, 1) := by decide +kernel
theorem dX11_together_21 : decode cX11_together 21 = .ok (.aload_n 0, 1) := by decide +kernel
theorem dX11_together_22 : decode cX11_together 22 = .ok (.getfield 71, 3) := by decide +kernel
theorem dX11_together_25 : decode cX11_together 25 = .ok (.aload_n 0, 1) := by decide +kernel
theorem dX11_together_26 : decode cX11_together 26 = .ok (.getfield 28, 3) := by decide +kernel
theorem dX11_together_29 : decode cX11_together 29 = .ok (.iload_n 1, 1) := by decide +kernel
theorem dX11_together_30 : decode cX11_together 30 = .ok (.iload_n 2, 1) := by decide +kernel
theorem dX11_together_31 : decode cX11_together 31 = .ok (.invokevirtual 224, 3) := by decide +kernel
theorem dX11_together_34 : decode cX11_together 34 = .ok (.ireturn, 1) := by decide +kernel
theorem dX11_seesNothing_0 : decode cX11_seesNothing 0 = .ok (.iload_n 1, 1) := by decide +kernel
theorem dX11_seesNothing_1 : decode cX11_seesNothing 1 = .ok (.iconst 0, 1) := by decide +kernel
theorem dX11_seesNothing_2 : decode cX11_seesNothing 2 = .ok (.iconst 1, 1) := by decide +kernel
theorem dX11_seesNothing_3 : decode cX11_seesNothing 3 = .ok (.invokestatic 100, 3) := by decide +kernel
theorem dX11_seesNothing_6 : decode cX11_seesNothing 6 = .ok (.ifCond .ne 5, 3) := by decide +kernel
theorem dX11_seesNothing_9 : decode cX11_seesNothing 9 = .ok (.iconst (-1), 1) := by decide +kernel
theorem dX11_seesNothing_10 : decode cX11_seesNothing 10 = .ok (.ireturn, 1) := by decide +kernel
theorem dX11_seesNothing_11 : decode cX11_seesNothing 11 = .ok (.aload_n 0, 1) := by decide +kernel
theorem dX11_seesNothing_12 : decode cX11_seesNothing 12 = .ok (.getfield 71, 3) := by decide +kernel
theorem dX11_seesNothing_15 : decode cX11_seesNothing 15 = .ok (.aload_n 0, 1) := by decide +kernel
theorem dX11_seesNothing_16 : decode cX11_seesNothing 16 = .ok (.getfield 28, 3) := by decide +kernel
theorem dX11_seesNothing_19 : decode cX11_seesNothing 19 = .ok (.iload_n 1, 1) := by decide +kernel
theorem dX11_seesNothing_20 : decode cX11_seesNothing 20 = .ok (.invokevirtual 228, 3) := by decide +kernel
theorem dX11_seesNothing_23 : decode cX11_seesNothing 23 = .ok (.ireturn, 1) := by decide +kernel
theorem dX11_even_0 : decode cX11_even 0 = .ok (.aload_n 0, 1) := by decide +kernel
theorem dX11_even_1 : decode cX11_even 1 = .ok (.getfield 12, 3) := by decide +kernel
theorem dX11_even_4 : decode cX11_even 4 = .ok (.iload_n 1, 1) := by decide +kernel
theorem dX11_even_5 : decode cX11_even 5 = .ok (.iconst 1, 1) := by decide +kernel
theorem dX11_even_6 : decode cX11_even 6 = .ok (.bipush 12, 2) := by decide +kernel
theorem dX11_even_8 : decode cX11_even 8 = .ok (.invokevirtual 120, 3) := by decide +kernel
theorem dX11_even_11 : decode cX11_even 11 = .ok (.ifCond .eq 35, 3) := by decide +kernel
theorem dX11_even_14 : decode cX11_even 14 = .ok (.iload_n 2, 1) := by decide +kernel
theorem dX11_even_15 : decode cX11_even 15 = .ok (.iconst 0, 1) := by decide +kernel
theorem dX11_even_16 : decode cX11_even 16 = .ok (.sipush 200, 3) := by decide +kernel
theorem dX11_even_19 : decode cX11_even 19 = .ok (.invokestatic 100, 3) := by decide +kernel
theorem dX11_even_22 : decode cX11_even 22 = .ok (.ifCond .eq 24, 3) := by decide +kernel
theorem dX11_even_25 : decode cX11_even 25 = .ok (.iload_n 3, 1) := by decide +kernel
theorem dX11_even_26 : decode cX11_even 26 = .ok (.iconst 0, 1) := by decide +kernel
theorem dX11_even_27 : decode cX11_even 27 = .ok (.sipush 200, 3) := by decide +kernel
theorem dX11_even_30 : decode cX11_even 30 = .ok (.invokestatic 100, 3) := by decide +kernel
theorem dX11_even_33 : decode cX11_even 33 = .ok (.ifCond .eq 13, 3) := by decide +kernel
theorem dX11_even_36 : decode cX11_even 36 = .ok (.iload 4, 2) := by decide +kernel
theorem dX11_even_38 : decode cX11_even 38 = .ok (.iconst 0, 1) := by decide +kernel
theorem dX11_even_39 : decode cX11_even 39 = .ok (.iconst 1, 1) := by decide +kernel
theorem dX11_even_40 : decode cX11_even 40 = .ok (.invokestatic 100, 3) := by decide +kernel
theorem dX11_even_43 : decode cX11_even 43 = .ok (.ifCond .ne 5, 3) := by decide +kernel
theorem dX11_even_46 : decode cX11_even 46 = .ok (.iconst (-1), 1) := by decide +kernel
theorem dX11_even_47 : decode cX11_even 47 = .ok (.ireturn, 1) := by decide +kernel
theorem dX11_even_48 : decode cX11_even 48 = .ok (.aload_n 0, 1) := by decide +kernel
theorem dX11_even_49 : decode cX11_even 49 = .ok (.getfield 78, 3) := by decide +kernel
theorem dX11_even_52 : decode cX11_even 52 = .ok (.iload_n 1, 1) := by decide +kernel
theorem dX11_even_53 : decode cX11_even 53 = .ok (.iload_n 2, 1) := by decide +kernel
theorem dX11_even_54 : decode cX11_even 54 = .ok (.iload_n 3, 1) := by decide +kernel
theorem dX11_even_55 : decode cX11_even 55 = .ok (.iload 4, 2) := by decide +kernel
theorem dX11_even_57 : decode cX11_even 57 = .ok (.invokevirtual 231, 3) := by decide +kernel
theorem dX11_even_60 : decode cX11_even 60 = .ok (.istore 5, 2) := by decide +kernel
theorem dX11_even_62 : decode cX11_even 62 = .ok (.aload_n 0, 1) := by decide +kernel
theorem dX11_even_63 : decode cX11_even 63 = .ok (.getfield 12, 3) := by decide +kernel
theorem dX11_even_66 : decode cX11_even 66 = .ok (.invokevirtual 130, 3) := by decide +kernel
theorem dX11_even_69 : decode cX11_even 69 = .ok (.iload 5, 2) := by decide +kernel
theorem dX11_even_71 : decode cX11_even 71 = .ok (.ireturn, 1) := by decide +kernel
theorem dX11_order_0 : decode cX11_order 0 = .ok (.iload_n 1, 1) := by decide +kernel
theorem dX11_order_1 : decode cX11_order 1 = .ok (.iload_n 2, 1) := by decide +kernel
theorem dX11_order_2 : decode cX11_order 2 = .ok (.invokestatic 201, 3) := by decide +kernel
theorem dX11_order_5 : decode cX11_order 5 = .ok (.ifCond .eq 12, 3) := by decide +kernel
theorem dX11_order_8 : decode cX11_order 8 = .ok (.iload_n 3, 1) := by decide +kernel
theorem dX11_order_9 : decode cX11_order 9 = .ok (.iconst 0, 1) := by decide +kernel
theorem dX11_order_10 : decode cX11_order 10 = .ok (.iconst 2, 1) := by decide +kernel
theorem dX11_order_11 : decode cX11_order 11 = .ok (.invokestatic 100, 3) := by decide +kernel
theorem dX11_order_14 : decode cX11_order 14 = .ok (.ifCond .ne 5, 3) := by decide +kernel
theorem dX11_order_17 : decode cX11_order 17 = .ok (.iconst (-1), 1) := by decide +kernel
theorem dX11_order_18 : decode cX11_order 18 = .ok (.ireturn, 1) := by decide +kernel
theorem dX11_order_19 : decode cX11_order 19 = .ok (.iload_n 3, 1) := by decide +kernel
theorem dX11_order_20 : decode cX11_order 20 = .ok (.ifCond .ne 7, 3) := by decide +kernel
theorem dX11_order_23 : decode cX11_order 23 = .ok (.iconst 0, 1) := by decide +kernel
theorem dX11_order_24 : decode cX11_order 24 = .ok (.goto 29, 3) := by decide +kernel
theorem dX11_order_27 : decode cX11_order 27 = .ok (.aload_n 0, 1) := by decide +kernel
theorem dX11_order_28 : decode cX11_order 28 = .ok (.getfield 71, 3) := by decide +kernel
theorem dX11_order_31 : decode cX11_order 31 = .ok (.aload_n 0, 1) := by decide +kernel
theorem dX11_order_32 : decode cX11_order 32 = .ok (.getfield 28, 3) := by decide +kernel
theorem dX11_order_35 : decode cX11_order 35 = .ok (.iload_n 1, 1) := by decide +kernel
theorem dX11_order_36 : decode cX11_order 36 = .ok (.iload_n 2, 1) := by decide +kernel
theorem dX11_order_37 : decode cX11_order 37 = .ok (.invokestatic 205, 3) := by decide +kernel
theorem dX11_order_40 : decode cX11_order 40 = .ok (.iload_n 3, 1) := by decide +kernel
theorem dX11_order_41 : decode cX11_order 41 = .ok (.iconst 2, 1) := by decide +kernel
theorem dX11_order_42 : decode cX11_order 42 = .ok (.if_icmp .ne 7, 3) := by decide +kernel
theorem dX11_order_45 : decode cX11_order 45 = .ok (.iconst 1, 1) := by decide +kernel
theorem dX11_order_46 : decode cX11_order 46 = .ok (.goto 4, 3) := by decide +kernel
theorem dX11_order_49 : decode cX11_order 49 = .ok (.iconst 0, 1) := by decide +kernel
theorem dX11_order_50 : decode cX11_order 50 = .ok (.invokevirtual 235, 3) := by decide +kernel
theorem dX11_order_53 : decode cX11_order 53 = .ok (.ireturn, 1) := by decide +kernel
theorem dX11_moreFit_0 : decode cX11_moreFit 0 = .ok (.aload_n 0, 1) := by decide +kernel
theorem dX11_moreFit_1 : decode cX11_moreFit 1 = .ok (.getfield 12, 3) := by decide +kernel
theorem dX11_moreFit_4 : decode cX11_moreFit 4 = .ok (.iload_n 1, 1) := by decide +kernel
theorem dX11_moreFit_5 : decode cX11_moreFit 5 = .ok (.iconst 1, 1) := by decide +kernel
theorem dX11_moreFit_6 : decode cX11_moreFit 6 = .ok (.bipush 6, 2) := by decide +kernel
theorem dX11_moreFit_8 : decode cX11_moreFit 8 = .ok (.invokevirtual 120, 3) := by decide +kernel
theorem dX11_moreFit_11 : decode cX11_moreFit 11 = .ok (.ifCond .eq 12, 3) := by decide +kernel
theorem dX11_moreFit_14 : decode cX11_moreFit 14 = .ok (.iload_n 2, 1) := by decide +kernel
theorem dX11_moreFit_15 : decode cX11_moreFit 15 = .ok (.iconst 0, 1) := by decide +kernel
theorem dX11_moreFit_16 : decode cX11_moreFit 16 = .ok (.iconst 1, 1) := by decide +kernel
theorem dX11_moreFit_17 : decode cX11_moreFit 17 = .ok (.invokestatic 100, 3) := by decide +kernel
theorem dX11_moreFit_20 : decode cX11_moreFit 20 = .ok (.ifCond .ne 5, 3) := by decide +kernel
theorem dX11_moreFit_23 : decode cX11_moreFit 23 = .ok (.iconst (-1), 1) := by decide +kernel
theorem dX11_moreFit_24 : decode cX11_moreFit 24 = .ok (.ireturn, 1) := by decide +kernel
theorem dX11_moreFit_25 : decode cX11_moreFit 25 = .ok (.aload_n 0, 1) := by decide +kernel
theorem dX11_moreFit_26 : decode cX11_moreFit 26 = .ok (.getfield 78, 3) := by decide +kernel
theorem dX11_moreFit_29 : decode cX11_moreFit 29 = .ok (.aload_n 0, 1) := by decide +kernel
theorem dX11_moreFit_30 : decode cX11_moreFit 30 = .ok (.getfield 28, 3) := by decide +kernel
theorem dX11_moreFit_33 : decode cX11_moreFit 33 = .ok (.iload_n 1, 1) := by decide +kernel
theorem dX11_moreFit_34 : decode cX11_moreFit 34 = .ok (.iload_n 2, 1) := by decide +kernel
theorem dX11_moreFit_35 : decode cX11_moreFit 35 = .ok (.invokevirtual 239, 3) := by decide +kernel
theorem dX11_moreFit_38 : decode cX11_moreFit 38 = .ok (.istore_n 3, 1) := by decide +kernel
theorem dX11_moreFit_39 : decode cX11_moreFit 39 = .ok (.aload_n 0, 1) := by decide +kernel
theorem dX11_moreFit_40 : decode cX11_moreFit 40 = .ok (.getfield 12, 3) := by decide +kernel
theorem dX11_moreFit_43 : decode cX11_moreFit 43 = .ok (.invokevirtual 130, 3) := by decide +kernel
theorem dX11_moreFit_46 : decode cX11_moreFit 46 = .ok (.iload_n 3, 1) := by decide +kernel
theorem dX11_moreFit_47 : decode cX11_moreFit 47 = .ok (.ireturn, 1) := by decide +kernel
theorem dX11_fathers_0 : decode cX11_fathers 0 = .ok (.iload_n 1, 1) := by decide +kernel
theorem dX11_fathers_1 : decode cX11_fathers 1 = .ok (.invokestatic 242, 3) := by decide +kernel
theorem dX11_fathers_4 : decode cX11_fathers 4 = .ok (.ifCond .eq 22, 3) := by decide +kernel
theorem dX11_fathers_7 : decode cX11_fathers 7 = .ok (.iload_n 2, 1) := by decide +kernel
theorem dX11_fathers_8 : decode cX11_fathers 8 = .ok (.iconst 0, 1) := by decide +kernel
theorem dX11_fathers_9 : decode cX11_fathers 9 = .ok (.bipush 7, 2) := by decide +kernel
theorem dX11_fathers_11 : decode cX11_fathers 11 = .ok (.invokestatic 100, 3) := by decide +kernel
theorem dX11_fathers_14 : decode cX11_fathers 14 = .ok (.ifCond .eq 12, 3) := by decide +kernel
theorem dX11_fathers_17 : decode cX11_fathers 17 = .ok (.iload_n 3, 1) := by decide +kernel
theorem dX11_fathers_18 : decode cX11_fathers 18 = .ok (.iconst 0, 1) := by decide +kernel
theorem dX11_fathers_19 : decode cX11_fathers 19 = .ok (.iconst 2, 1) := by decide +kernel
theorem dX11_fathers_20 : decode cX11_fathers 20 = .ok (.invokestatic 100, 3) := by decide +kernel
theorem dX11_fathers_23 : decode cX11_fathers 23 = .ok (.ifCond .ne 5, 3) := by decide +kernel
theorem dX11_fathers_26 : decode cX11_fathers 26 = .ok (.iconst (-1), 1) := by decide +kernel
theorem dX11_fathers_27 : decode cX11_fathers 27 = .ok (.ireturn, 1) := by decide +kernel
theorem dX11_fathers_28 : decode cX11_fathers 28 = .ok (.aload_n 0, 1) := by decide +kernel
theorem dX11_fathers_29 : decode cX11_fathers 29 = .ok (.getfield 71, 3) := by decide +kernel
theorem dX11_fathers_32 : decode cX11_fathers 32 = .ok (.aload_n 0, 1) := by decide +kernel
theorem dX11_fathers_33 : decode cX11_fathers 33 = .ok (.getfield 28, 3) := by decide +kernel
theorem dX11_fathers_36 : decode cX11_fathers 36 = .ok (.iload_n 1, 1) := by decide +kernel
theorem dX11_fathers_37 : decode cX11_fathers 37 = .ok (.iload_n 2, 1) := by decide +kernel
theorem dX11_fathers_38 : decode cX11_fathers 38 = .ok (.iload_n 3, 1) := by decide +kernel
theorem dX11_fathers_39 : decode cX11_fathers 39 = .ok (.invokevirtual 245, 3) := by decide +kernel
theorem dX11_fathers_42 : decode cX11_fathers 42 = .ok (.ireturn, 1) := by decide +kernel
theorem dX11_singers_0 : decode cX11_singers 0 = .ok (.iload_n 1, 1) := by decide +kernel
theorem dX11_singers_1 : decode cX11_singers 1 = .ok (.iconst 0, 1) := by decide +kernel
theorem dX11_singers_2 : decode cX11_singers 2 = .ok (.iconst 2, 1) := by decide +kernel
theorem dX11_singers_3 : decode cX11_singers 3 = .ok (.invokestatic 100, 3) := by decide +kernel
theorem dX11_singers_6 : decode cX11_singers 6 = .ok (.ifCond .ne 5, 3) := by decide +kernel
theorem dX11_singers_9 : decode cX11_singers 9 = .ok (.iconst (-1), 1) := by decide +kernel
theorem dX11_singers_10 : decode cX11_singers 10 = .ok (.ireturn, 1) := by decide +kernel
theorem dX11_singers_11 : decode cX11_singers 11 = .ok (.aload_n 0, 1) := by decide +kernel
theorem dX11_singers_12 : decode cX11_singers 12 = .ok (.getfield 71, 3) := by decide +kernel
theorem dX11_singers_15 : decode cX11_singers 15 = .ok (.aload_n 0, 1) := by decide +kernel
theorem dX11_singers_16 : decode cX11_singers 16 = .ok (.getfield 28, 3) := by decide +kernel
theorem dX11_singers_19 : decode cX11_singers 19 = .ok (.iload_n 1, 1) := by decide +kernel
theorem dX11_singers_20 : decode cX11_singers 20 = .ok (.invokevirtual 249, 3) := by decide +kernel
theorem dX11_singers_23 : decode cX11_singers 23 = .ok (.ireturn, 1) := by decide +kernel
theorem dX11_strangers_0 : decode cX11_strangers 0 = .ok (.iload_n 1, 1) := by decide +kernel
theorem dX11_strangers_1 : decode cX11_strangers 1 = .ok (.iconst 0, 1) := by decide +kernel
theorem dX11_strangers_2 : decode cX11_strangers 2 = .ok (.iconst 1, 1) := by decide +kernel
theorem dX11_strangers_3 : decode cX11_strangers 3 = .ok (.invokestatic 100, 3) := by decide +kernel
theorem dX11_strangers_6 : decode cX11_strangers 6 = .ok (.ifCond .ne 5, 3) := by decide +kernel
theorem dX11_strangers_9 : decode cX11_strangers 9 = .ok (.iconst (-1), 1) := by decide +kernel
theorem dX11_strangers_10 : decode cX11_strangers 10 = .ok (.ireturn, 1) := by decide +kernel
theorem dX11_strangers_11 : decode cX11_strangers 11 = .ok (.aload_n 0, 1) := by decide +kernel
theorem dX11_strangers_12 : decode cX11_strangers 12 = .ok (.getfield 71, 3) := by decide +kernel
theorem dX11_strangers_15 : decode cX11_strangers 15 = .ok (.aload_n 0, 1) := by decide +kernel
theorem dX11_strangers_16 : decode cX11_strangers 16 = .ok (.getfield 28, 3) := by decide +kernel
theorem dX11_strangers_19 : decode cX11_strangers 19 = .ok (.iload_n 1, 1) := by decide +kernel
theorem dX11_strangers_20 : decode cX11_strangers 20 = .ok (.invokevirtual 252, 3) := by decide +kernel
theorem dX11_strangers_23 : decode cX11_strangers 23 = .ok (.ireturn, 1) := by decide +kernel
theorem dX11_inLine_0 : decode cX11_inLine 0 = .ok (.iload_n 1, 1) := by decide +kernel
theorem dX11_inLine_1 : decode cX11_inLine 1 = .ok (.iconst 0, 1) := by decide +kernel
theorem dX11_inLine_2 : decode cX11_inLine 2 = .ok (.iconst 5, 1) := by decide +kernel
theorem dX11_inLine_3 : decode cX11_inLine 3 = .ok (.invokestatic 100, 3) := by decide +kernel
theorem dX11_inLine_6 : decode cX11_inLine 6 = .ok (.ifCond .ne 5, 3) := by decide +kernel
theorem dX11_inLine_9 : decode cX11_inLine 9 = .ok (.iconst (-1), 1) := by decide +kernel
theorem dX11_inLine_10 : decode cX11_inLine 10 = .ok (.ireturn, 1) := by decide +kernel
theorem dX11_inLine_11 : decode cX11_inLine 11 = .ok (.iload_n 1, 1) := by decide +kernel
theorem dX11_inLine_12 : decode cX11_inLine 12 = .ok (.iconst 5, 1) := by decide +kernel
theorem dX11_inLine_13 : decode cX11_inLine 13 = .ok (.if_icmp .ne 17, 3) := by decide +kernel
theorem dX11_inLine_16 : decode cX11_inLine 16 = .ok (.aload_n 0, 1) := by decide +kernel
theorem dX11_inLine_17 : decode cX11_inLine 17 = .ok (.getfield 71, 3) := by decide +kernel
theorem dX11_inLine_20 : decode cX11_inLine 20 = .ok (.aload_n 0, 1) := by decide +kernel
theorem dX11_inLine_21 : decode cX11_inLine 21 = .ok (.getfield 28, 3) := by decide +kernel
theorem dX11_inLine_24 : decode cX11_inLine 24 = .ok (.invokevirtual 255, 3) := by decide +kernel
theorem dX11_inLine_27 : decode cX11_inLine 27 = .ok (.goto 15, 3) := by decide +kernel
theorem dX11_inLine_30 : decode cX11_inLine 30 = .ok (.aload_n 0, 1) := by decide +kernel
theorem dX11_inLine_31 : decode cX11_inLine 31 = .ok (.getfield 71, 3) := by decide +kernel
theorem dX11_inLine_34 : decode cX11_inLine 34 = .ok (.aload_n 0, 1) := by decide +kernel
theorem dX11_inLine_35 : decode cX11_inLine 35 = .ok (.getfield 28, 3) := by decide +kernel
theorem dX11_inLine_38 : decode cX11_inLine 38 = .ok (.iload_n 1, 1) := by decide +kernel
theorem dX11_inLine_39 : decode cX11_inLine 39 = .ok (.invokevirtual 258, 3) := by decide +kernel
theorem dX11_inLine_42 : decode cX11_inLine 42 = .ok (.ireturn, 1) := by decide +kernel
theorem dX11_edge_0 : decode cX11_edge 0 = .ok (.iload_n 1, 1) := by decide +kernel
theorem dX11_edge_1 : decode cX11_edge 1 = .ok (.iconst 0, 1) := by decide +kernel
theorem dX11_edge_2 : decode cX11_edge 2 = .ok (.iconst 1, 1) := by decide +kernel
theorem dX11_edge_3 : decode cX11_edge 3 = .ok (.invokestatic 100, 3) := by decide +kernel
theorem dX11_edge_6 : decode cX11_edge 6 = .ok (.ifCond .ne 5, 3) := by decide +kernel
theorem dX11_edge_9 : decode cX11_edge 9 = .ok (.iconst (-1), 1) := by decide +kernel
theorem dX11_edge_10 : decode cX11_edge 10 = .ok (.ireturn, 1) := by decide +kernel
theorem dX11_edge_11 : decode cX11_edge 11 = .ok (.aload_n 0, 1) := by decide +kernel
theorem dX11_edge_12 : decode cX11_edge 12 = .ok (.getfield 71, 3) := by decide +kernel
theorem dX11_edge_15 : decode cX11_edge 15 = .ok (.aload_n 0, 1) := by decide +kernel
theorem dX11_edge_16 : decode cX11_edge 16 = .ok (.getfield 28, 3) := by decide +kernel
theorem dX11_edge_19 : decode cX11_edge 19 = .ok (.iload_n 1, 1) := by decide +kernel
theorem dX11_edge_20 : decode cX11_edge 20 = .ok (.ifCond .ne 7, 3) := by decide +kernel
theorem dX11_edge_23 : decode cX11_edge 23 = .ok (.iconst 1, 1) := by decide +kernel
theorem dX11_edge_24 : decode cX11_edge 24 = .ok (.goto 4, 3) := by decide +kernel
theorem dX11_edge_27 : decode cX11_edge 27 = .ok (.iconst 0, 1) := by decide +kernel
theorem dX11_edge_28 : decode cX11_edge 28 = .ok (.invokevirtual 261, 3) := by decide +kernel
theorem dX11_edge_31 : decode cX11_edge 31 = .ok (.ireturn, 1) := by decide +kernel
theorem dX11_ushers_0 : decode cX11_ushers 0 = .ok (.aload_n 0, 1) := by decide +kernel
theorem dX11_ushers_1 : decode cX11_ushers 1 = .ok (.getfield 12, 3) := by decide +kernel
theorem dX11_ushers_4 : decode cX11_ushers 4 = .ok (.iload_n 1, 1) := by decide +kernel
theorem dX11_ushers_5 : decode cX11_ushers 5 = .ok (.iconst 1, 1) := by decide +kernel
theorem dX11_ushers_6 : decode cX11_ushers 6 = .ok (.bipush 20, 2) := by decide +kernel
theorem dX11_ushers_8 : decode cX11_ushers 8 = .ok (.invokevirtual 120, 3) := by decide +kernel
theorem dX11_ushers_11 : decode cX11_ushers 11 = .ok (.ifCond .eq 30, 3) := by decide +kernel
theorem dX11_ushers_14 : decode cX11_ushers 14 = .ok (.iload_n 2, 1) := by decide +kernel
theorem dX11_ushers_15 : decode cX11_ushers 15 = .ok (.iconst 1, 1) := by decide +kernel
theorem dX11_ushers_16 : decode cX11_ushers 16 = .ok (.bipush 8, 2) := by decide +kernel
theorem dX11_ushers_18 : decode cX11_ushers 18 = .ok (.invokestatic 100, 3) := by decide +kernel
theorem dX11_ushers_21 : decode cX11_ushers 21 = .ok (.ifCond .eq 20, 3) := by decide +kernel
theorem dX11_ushers_24 : decode cX11_ushers 24 = .ok (.iload_n 3, 1) := by decide +kernel
theorem dX11_ushers_25 : decode cX11_ushers 25 = .ok (.bipush 100, 2) := by decide +kernel
theorem dX11_ushers_27 : decode cX11_ushers 27 = .ok (.if_icmp .eq 16, 3) := by decide +kernel
theorem dX11_ushers_30 : decode cX11_ushers 30 = .ok (.iload_n 3, 1) := by decide +kernel
theorem dX11_ushers_31 : decode cX11_ushers 31 = .ok (.iconst 0, 1) := by decide +kernel
theorem dX11_ushers_32 : decode cX11_ushers 32 = .ok (.iload_n 1, 1) := by decide +kernel
theorem dX11_ushers_33 : decode cX11_ushers 33 = .ok (.iconst 1, 1) := by decide +kernel
theorem dX11_ushers_34 : decode cX11_ushers 34 = .ok (.isub, 1) := by decide +kernel
theorem dX11_ushers_35 : decode cX11_ushers 35 = .ok (.invokestatic 100, 3) := by decide +kernel
theorem dX11_ushers_38 : decode cX11_ushers 38 = .ok (.ifCond .ne 5, 3) := by decide +kernel
theorem dX11_ushers_41 : decode cX11_ushers 41 = .ok (.iconst (-1), 1) := by decide +kernel
theorem dX11_ushers_42 : decode cX11_ushers 42 = .ok (.ireturn, 1) := by decide +kernel
theorem dX11_ushers_43 : decode cX11_ushers 43 = .ok (.aload_n 0, 1) := by decide +kernel
theorem dX11_ushers_44 : decode cX11_ushers 44 = .ok (.getfield 78, 3) := by decide +kernel
theorem dX11_ushers_47 : decode cX11_ushers 47 = .ok (.iload_n 1, 1) := by decide +kernel
theorem dX11_ushers_48 : decode cX11_ushers 48 = .ok (.iload_n 2, 1) := by decide +kernel
theorem dX11_ushers_49 : decode cX11_ushers 49 = .ok (.iload_n 3, 1) := by decide +kernel
theorem dX11_ushers_50 : decode cX11_ushers 50 = .ok (.invokevirtual 265, 3) := by decide +kernel
theorem dX11_ushers_53 : decode cX11_ushers 53 = .ok (.istore 4, 2) := by decide +kernel
theorem dX11_ushers_55 : decode cX11_ushers 55 = .ok (.aload_n 0, 1) := by decide +kernel
theorem dX11_ushers_56 : decode cX11_ushers 56 = .ok (.getfield 12, 3) := by decide +kernel
theorem dX11_ushers_59 : decode cX11_ushers 59 = .ok (.invokevirtual 130, 3) := by decide +kernel
theorem dX11_ushers_62 : decode cX11_ushers 62 = .ok (.iload 4, 2) := by decide +kernel
theorem dX11_ushers_64 : decode cX11_ushers 64 = .ok (.ireturn, 1) := by decide +kernel
theorem dX11_leastTime_0 : decode cX11_leastTime 0 = .ok (.aload_n 0, 1) := by decide +kernel
theorem dX11_leastTime_1 : decode cX11_leastTime 1 = .ok (.getfield 12, 3) := by decide +kernel
theorem dX11_leastTime_4 : decode cX11_leastTime 4 = .ok (.iload_n 1, 1) := by decide +kernel
theorem dX11_leastTime_5 : decode cX11_leastTime 5 = .ok (.iconst 1, 1) := by decide +kernel
theorem dX11_leastTime_6 : decode cX11_leastTime 6 = .ok (.bipush 10, 2) := by decide +kernel
theorem dX11_leastTime_8 : decode cX11_leastTime 8 = .ok (.invokevirtual 120, 3) := by decide +kernel
theorem dX11_leastTime_11 : decode cX11_leastTime 11 = .ok (.ifCond .eq 13, 3) := by decide +kernel
theorem dX11_leastTime_14 : decode cX11_leastTime 14 = .ok (.iload_n 2, 1) := by decide +kernel
theorem dX11_leastTime_15 : decode cX11_leastTime 15 = .ok (.iconst 1, 1) := by decide +kernel
theorem dX11_leastTime_16 : decode cX11_leastTime 16 = .ok (.bipush 8, 2) := by decide +kernel
theorem dX11_leastTime_18 : decode cX11_leastTime 18 = .ok (.invokestatic 100, 3) := by decide +kernel
theorem dX11_leastTime_21 : decode cX11_leastTime 21 = .ok (.ifCond .ne 5, 3) := by decide +kernel
theorem dX11_leastTime_24 : decode cX11_leastTime 24 = .ok (.iconst (-1), 1) := by decide +kernel
theorem dX11_leastTime_25 : decode cX11_leastTime 25 = .ok (.ireturn, 1) := by decide +kernel
theorem dX11_leastTime_26 : decode cX11_leastTime 26 = .ok (.aload_n 0, 1) := by decide +kernel
theorem dX11_leastTime_27 : decode cX11_leastTime 27 = .ok (.getfield 78, 3) := by decide +kernel
theorem dX11_leastTime_30 : decode cX11_leastTime 30 = .ok (.iload_n 1, 1) := by decide +kernel
theorem dX11_leastTime_31 : decode cX11_leastTime 31 = .ok (.iload_n 2, 1) := by decide +kernel
theorem dX11_leastTime_32 : decode cX11_leastTime 32 = .ok (.invokevirtual 269, 3) := by decide +kernel
theorem dX11_leastTime_35 : decode cX11_leastTime 35 = .ok (.istore_n 3, 1) := by decide +kernel
theorem dX11_leastTime_36 : decode cX11_leastTime 36 = .ok (.aload_n 0, 1) := by decide +kernel
theorem dX11_leastTime_37 : decode cX11_leastTime 37 = .ok (.getfield 12, 3) := by decide +kernel
theorem dX11_leastTime_40 : decode cX11_leastTime 40 = .ok (.invokevirtual 130, 3) := by decide +kernel
theorem dX11_leastTime_43 : decode cX11_leastTime 43 = .ok (.iload_n 3, 1) := by decide +kernel
theorem dX11_leastTime_44 : decode cX11_leastTime 44 = .ok (.ireturn, 1) := by decide +kernel
theorem dX11_photo_0 : decode cX11_photo 0 = .ok (.iload_n 1, 1) := by decide +kernel
theorem dX11_photo_1 : decode cX11_photo 1 = .ok (.invokestatic 242, 3) := by decide +kernel
theorem dX11_photo_4 : decode cX11_photo 4 = .ok (.ifCond .ne 5, 3) := by decide +kernel
theorem dX11_photo_7 : decode cX11_photo 7 = .ok (.iconst (-1), 1) := by decide +kernel
theorem dX11_photo_8 : decode cX11_photo 8 = .ok (.ireturn, 1) := by decide +kernel
theorem dX11_photo_9 : decode cX11_photo 9 = .ok (.aload_n 0, 1) := by decide +kernel
theorem dX11_photo_10 : decode cX11_photo 10 = .ok (.getfield 71, 3) := by decide +kernel
theorem dX11_photo_13 : decode cX11_photo 13 = .ok (.aload_n 0, 1) := by decide +kernel
theorem dX11_photo_14 : decode cX11_photo 14 = .ok (.getfield 28, 3) := by decide +kernel
theorem dX11_photo_17 : decode cX11_photo 17 = .ok (.iload_n 1, 1) := by decide +kernel
theorem dX11_photo_18 : decode cX11_photo 18 = .ok (.invokevirtual 272, 3) := by decide +kernel
theorem dX11_photo_21 : decode cX11_photo 21 = .ok (.ireturn, 1) := by decide +kernel
theorem dX11_hats_0 : decode cX11_hats 0 = .ok (.aload_n 0, 1) := by decide +kernel
theorem dX11_hats_1 : decode cX11_hats 1 = .ok (.getfield 12, 3) := by decide +kernel
theorem dX11_hats_4 : decode cX11_hats 4 = .ok (.iload_n 1, 1) := by decide +kernel
theorem dX11_hats_5 : decode cX11_hats 5 = .ok (.iconst 1, 1) := by decide +kernel
theorem dX11_hats_6 : decode cX11_hats 6 = .ok (.bipush 12, 2) := by decide +kernel
theorem dX11_hats_8 : decode cX11_hats 8 = .ok (.invokevirtual 120, 3) := by decide +kernel
theorem dX11_hats_11 : decode cX11_hats 11 = .ok (.ifCond .eq 12, 3) := by decide +kernel
theorem dX11_hats_14 : decode cX11_hats 14 = .ok (.iload_n 2, 1) := by decide +kernel
theorem dX11_hats_15 : decode cX11_hats 15 = .ok (.iconst 0, 1) := by decide +kernel
theorem dX11_hats_16 : decode cX11_hats 16 = .ok (.iconst 2, 1) := by decide +kernel
theorem dX11_hats_17 : decode cX11_hats 17 = .ok (.invokestatic 100, 3) := by decide +kernel
theorem dX11_hats_20 : decode cX11_hats 20 = .ok (.ifCond .ne 5, 3) := by decide +kernel
theorem dX11_hats_23 : decode cX11_hats 23 = .ok (.iconst (-1), 1) := by decide +kernel
theorem dX11_hats_24 : decode cX11_hats 24 = .ok (.ireturn, 1) := by decide +kernel
theorem dX11_hats_25 : decode cX11_hats 25 = .ok (.aload_n 0, 1) := by decide +kernel
theorem dX11_hats_26 : decode cX11_hats 26 = .ok (.getfield 78, 3) := by decide +kernel
theorem dX11_hats_29 : decode cX11_hats 29 = .ok (.iload_n 1, 1) := by decide +kernel
theorem dX11_hats_30 : decode cX11_hats 30 = .ok (.iload_n 2, 1) := by decide +kernel
theorem dX11_hats_31 : decode cX11_hats 31 = .ok (.invokevirtual 275, 3) := by decide +kernel
theorem dX11_hats_34 : decode cX11_hats 34 = .ok (.istore_n 3, 1) := by decide +kernel
theorem dX11_hats_35 : decode cX11_hats 35 = .ok (.aload_n 0, 1) := by decide +kernel
theorem dX11_hats_36 : decode cX11_hats 36 = .ok (.getfield 12, 3) := by decide +kernel
theorem dX11_hats_39 : decode cX11_hats 39 = .ok (.invokevirtual 130, 3) := by decide +kernel
theorem dX11_hats_42 : decode cX11_hats 42 = .ok (.iload_n 3, 1) := by decide +kernel
theorem dX11_hats_43 : decode cX11_hats 43 = .ok (.ireturn, 1) := by decide +kernel
theorem dX11_seed_0 : decode cX11_seed 0 = .ok (.iload_n 1, 1) := by decide +kernel
theorem dX11_seed_1 : decode cX11_seed 1 = .ok (.iconst 0, 1) := by decide +kernel
theorem dX11_seed_2 : decode cX11_seed 2 = .ok (.ldc_w 278, 3) := by decide +kernel
theorem dX11_seed_5 : decode cX11_seed 5 = .ok (.invokestatic 100, 3) := by decide +kernel
theorem dX11_seed_8 : decode cX11_seed 8 = .ok (.ifCond .ne 5, 3) := by decide +kernel
theorem dX11_seed_11 : decode cX11_seed 11 = .ok (.iconst 0, 1) := by decide +kernel
theorem dX11_seed_12 : decode cX11_seed 12 = .ok (.ireturn, 1) := by decide +kernel
theorem dX11_seed_13 : decode cX11_seed 13 = .ok (.aload_n 0, 1) := by decide +kernel
theorem dX11_seed_14 : decode cX11_seed 14 = .ok (.getfield 28, 3) := by decide +kernel
theorem dX11_seed_17 : decode cX11_seed 17 = .ok (.iload_n 1, 1) := by decide +kernel
theorem dX11_seed_18 : decode cX11_seed 18 = .ok (.putfield 279, 3) := by decide +kernel
theorem dX11_seed_21 : decode cX11_seed 21 = .ok (.iconst 1, 1) := by decide +kernel
theorem dX11_seed_22 : decode cX11_seed 22 = .ok (.ireturn, 1) := by decide +kernel
theorem dX11_keep_0 : decode cX11_keep 0 = .ok (.aload_n 0, 1) := by decide +kernel
theorem dX11_keep_1 : decode cX11_keep 1 = .ok (.getfield 32, 3) := by decide +kernel
theorem dX11_keep_4 : decode cX11_keep 4 = .ok (.aload_n 0, 1) := by decide +kernel
theorem dX11_keep_5 : decode cX11_keep 5 = .ok (.getfield 28, 3) := by decide +kernel
theorem dX11_keep_8 : decode cX11_keep 8 = .ok (.invokevirtual 150, 3) := by decide +kernel
theorem dX11_keep_11 : decode cX11_keep 11 = .ok (.aload_n 0, 1) := by decide +kernel
theorem dX11_keep_12 : decode cX11_keep 12 = .ok (.iconst 1, 1) := by decide +kernel
theorem dX11_keep_13 : decode cX11_keep 13 = .ok (.putfield 92, 3) := by decide +kernel
theorem dX11_keep_16 : decode cX11_keep 16 = .ok (.aload_n 0, 1) := by decide +kernel
theorem dX11_keep_17 : decode cX11_keep 17 = .ok (.getfield 28, 3) := by decide +kernel
theorem dX11_keep_20 : decode cX11_keep 20 = .ok (.getfield 282, 3) := by decide +kernel
theorem dX11_keep_23 : decode cX11_keep 23 = .ok (.ireturn, 1) := by decide +kernel
theorem dX11_undo_0 : decode cX11_undo 0 = .ok (.aload_n 0, 1) := by decide +kernel
theorem dX11_undo_1 : decode cX11_undo 1 = .ok (.getfield 92, 3) := by decide +kernel
theorem dX11_undo_4 : decode cX11_undo 4 = .ok (.ifCond .ne 5, 3) := by decide +kernel
theorem dX11_undo_7 : decode cX11_undo 7 = .ok (.iconst 0, 1) := by decide +kernel
theorem dX11_undo_8 : decode cX11_undo 8 = .ok (.ireturn, 1) := by decide +kernel
theorem dX11_undo_9 : decode cX11_undo 9 = .ok (.aload_n 0, 1) := by decide +kernel
theorem dX11_undo_10 : decode cX11_undo 10 = .ok (.getfield 28, 3) := by decide +kernel
theorem dX11_undo_13 : decode cX11_undo 13 = .ok (.aload_n 0, 1) := by decide +kernel
theorem dX11_undo_14 : decode cX11_undo 14 = .ok (.getfield 32, 3) := by decide +kernel
theorem dX11_undo_17 : decode cX11_undo 17 = .ok (.invokevirtual 150, 3) := by decide +kernel
theorem dX11_undo_20 : decode cX11_undo 20 = .ok (.iconst 1, 1) := by decide +kernel
theorem dX11_undo_21 : decode cX11_undo 21 = .ok (.ireturn, 1) := by decide +kernel
theorem dX11_check_0 : decode cX11_check 0 = .ok (.iload_n 1, 1) := by decide +kernel
theorem dX11_check_1 : decode cX11_check 1 = .ok (.invokestatic 242, 3) := by decide +kernel
theorem dX11_check_4 : decode cX11_check 4 = .ok (.ifCond .eq 17, 3) := by decide +kernel
theorem dX11_check_7 : decode cX11_check 7 = .ok (.aload_n 0, 1) := by decide +kernel
theorem dX11_check_8 : decode cX11_check 8 = .ok (.getfield 12, 3) := by decide +kernel
theorem dX11_check_11 : decode cX11_check 11 = .ok (.iload_n 2, 1) := by decide +kernel
theorem dX11_check_12 : decode cX11_check 12 = .ok (.iconst 0, 1) := by decide +kernel
theorem dX11_check_13 : decode cX11_check 13 = .ok (.bipush 8, 2) := by decide +kernel
theorem dX11_check_15 : decode cX11_check 15 = .ok (.invokevirtual 120, 3) := by decide +kernel
theorem dX11_check_18 : decode cX11_check 18 = .ok (.ifCond .ne 6, 3) := by decide +kernel
theorem dX11_check_21 : decode cX11_check 21 = .ok (.bipush (-2), 2) := by decide +kernel
theorem dX11_check_23 : decode cX11_check 23 = .ok (.ireturn, 1) := by decide +kernel
theorem dX11_check_24 : decode cX11_check 24 = .ok (.aload_n 0, 1) := by decide +kernel
theorem dX11_check_25 : decode cX11_check 25 = .ok (.iload_n 1, 1) := by decide +kernel
theorem dX11_check_26 : decode cX11_check 26 = .ok (.iload_n 2, 1) := by decide +kernel
theorem dX11_check_27 : decode cX11_check 27 = .ok (.invokevirtual 285, 3) := by decide +kernel
theorem dX11_check_30 : decode cX11_check 30 = .ok (.istore_n 3, 1) := by decide +kernel
theorem dX11_check_31 : decode cX11_check 31 = .ok (.aload_n 0, 1) := by decide +kernel
theorem dX11_check_32 : decode cX11_check 32 = .ok (.getfield 12, 3) := by decide +kernel
theorem dX11_check_35 : decode cX11_check 35 = .ok (.invokevirtual 130, 3) := by decide +kernel
theorem dX11_check_38 : decode cX11_check 38 = .ok (.iload_n 3, 1) := by decide +kernel
theorem dX11_check_39 : decode cX11_check 39 = .ok (.ireturn, 1) := by decide +kernel
theorem dX11_count_0 : decode cX11_count 0 = .ok (.iload_n 1, 1) := by decide +kernel
theorem dX11_count_1 : decode cX11_count 1 = .ok (.bipush 10, 2) := by decide +kernel
theorem dX11_count_3 : decode cX11_count 3 = .ok (.bipush 25, 2) := by decide +kernel
theorem dX11_count_5 : decode cX11_count 5 = .ok (.invokestatic 100, 3) := by decide +kernel
theorem dX11_count_8 : decode cX11_count 8 = .ok (.ifCond .eq 15, 3) := by decide +kernel
theorem dX11_count_11 : decode cX11_count 11 = .ok (.aload_n 0, 1) := by decide +kernel
theorem dX11_count_12 : decode cX11_count 12 = .ok (.getfield 28, 3) := by decide +kernel
theorem dX11_count_15 : decode cX11_count 15 = .ok (.iload_n 1, 1) := by decide +kernel
theorem dX11_count_16 : decode cX11_count 16 = .ok (.bipush 10, 2) := by decide +kernel
theorem dX11_count_18 : decode cX11_count 18 = .ok (.isub, 1) := by decide +kernel
theorem dX11_count_19 : decode cX11_count 19 = .ok (.invokevirtual 288, 3) := by decide +kernel
theorem dX11_count_22 : decode cX11_count 22 = .ok (.ireturn, 1) := by decide +kernel
theorem dX11_count_23 : decode cX11_count 23 = .ok (.iload_n 1, 1) := by decide +kernel
theorem dX11_count_24 : decode cX11_count 24 = .ok (.bipush 30, 2) := by decide +kernel
theorem dX11_count_26 : decode cX11_count 26 = .ok (.sipush 229, 3) := by decide +kernel
theorem dX11_count_29 : decode cX11_count 29 = .ok (.invokestatic 100, 3) := by decide +kernel
theorem dX11_count_32 : decode cX11_count 32 = .ok (.ifCond .eq 37, 3) := by decide +kernel
theorem dX11_count_35 : decode cX11_count 35 = .ok (.iload_n 1, 1) := by decide +kernel
theorem dX11_count_36 : decode cX11_count 36 = .ok (.bipush 30, 2) := by decide +kernel
theorem dX11_count_38 : decode cX11_count 38 = .ok (.isub, 1) := by decide +kernel
theorem dX11_count_39 : decode cX11_count 39 = .ok (.aload_n 0, 1) := by decide +kernel
theorem dX11_count_40 : decode cX11_count 40 = .ok (.getfield 28, 3) := by decide +kernel
theorem dX11_count_43 : decode cX11_count 43 = .ok (.getfield 147, 3) := by decide +kernel
theorem dX11_count_46 : decode cX11_count 46 = .ok (.if_icmp .ge 21, 3) := by decide +kernel
theorem dX11_count_49 : decode cX11_count 49 = .ok (.aload_n 0, 1) := by decide +kernel
theorem dX11_count_50 : decode cX11_count 50 = .ok (.getfield 28, 3) := by decide +kernel
theorem dX11_count_53 : decode cX11_count 53 = .ok (.getfield 291, 3) := by decide +kernel
theorem dX11_count_56 : decode cX11_count 56 = .ok (.iload_n 1, 1) := by decide +kernel
theorem dX11_count_57 : decode cX11_count 57 = .ok (.bipush 30, 2) := by decide +kernel
theorem dX11_count_59 : decode cX11_count 59 = .ok (.isub, 1) := by decide +kernel
theorem dX11_count_60 : decode cX11_count 60 = .ok (.iaload, 1) := by decide +kernel
theorem dX11_count_61 : decode cX11_count 61 = .ok (.invokestatic 182, 3) := by decide +kernel
theorem dX11_count_64 : decode cX11_count 64 = .ok (.goto 4, 3) := by decide +kernel
theorem dX11_count_67 : decode cX11_count 67 = .ok (.iconst (-1), 1) := by decide +kernel
theorem dX11_count_68 : decode cX11_count 68 = .ok (.ireturn, 1) := by decide +kernel
theorem dX11_count_69 : decode cX11_count 69 = .ok (.iload_n 1, 1) := by decide +kernel
theorem dX11_count_70 : decode cX11_count 70 = .ok (.tableswitch 146 0 9 #[54, 62, 70, 78, 96, 104, 113, 122, 130, 138], 54) := by decide +kernel
theorem dX11_count_124 : decode cX11_count 124 = .ok (.aload_n 0, 1) := by decide +kernel
theorem dX11_count_125 : decode cX11_count 125 = .ok (.getfield 28, 3) := by decide +kernel
theorem dX11_count_128 : decode cX11_count 128 = .ok (.getfield 282, 3) := by decide +kernel
theorem dX11_count_131 : decode cX11_count 131 = .ok (.ireturn, 1) := by decide +kernel
theorem dX11_count_132 : decode cX11_count 132 = .ok (.aload_n 0, 1) := by decide +kernel
theorem dX11_count_133 : decode cX11_count 133 = .ok (.getfield 28, 3) := by decide +kernel
theorem dX11_count_136 : decode cX11_count 136 = .ok (.getfield 147, 3) := by decide +kernel
theorem dX11_count_139 : decode cX11_count 139 = .ok (.ireturn, 1) := by decide +kernel
theorem dX11_count_140 : decode cX11_count 140 = .ok (.aload_n 0, 1) := by decide +kernel
theorem dX11_count_141 : decode cX11_count 141 = .ok (.getfield 28, 3) := by decide +kernel
theorem dX11_count_144 : decode cX11_count 144 = .ok (.getfield 161, 3) := by decide +kernel
theorem dX11_count_147 : decode cX11_count 147 = .ok (.ireturn, 1) := by decide +kernel
theorem dX11_count_148 : decode cX11_count 148 = .ok (.aload_n 0, 1) := by decide +kernel
theorem dX11_count_149 : decode cX11_count 149 = .ok (.getfield 28, 3) := by decide +kernel
theorem dX11_count_152 : decode cX11_count 152 = .ok (.iconst 0, 1) := by decide +kernel
theorem dX11_count_153 : decode cX11_count 153 = .ok (.invokevirtual 294, 3) := by decide +kernel
theorem dX11_count_156 : decode cX11_count 156 = .ok (.aload_n 0, 1) := by decide +kernel
theorem dX11_count_157 : decode cX11_count 157 = .ok (.getfield 28, 3) := by decide +kernel
theorem dX11_count_160 : decode cX11_count 160 = .ok (.iconst 1, 1) := by decide +kernel
theorem dX11_count_161 : decode cX11_count 161 = .ok (.invokevirtual 294, 3) := by decide +kernel
theorem dX11_count_164 : decode cX11_count 164 = .ok (.iadd, 1) := by decide +kernel
theorem dX11_count_165 : decode cX11_count 165 = .ok (.ireturn, 1) := by decide +kernel
theorem dX11_count_166 : decode cX11_count 166 = .ok (.aload_n 0, 1) := by decide +kernel
theorem dX11_count_167 : decode cX11_count 167 = .ok (.getfield 28, 3) := by decide +kernel
theorem dX11_count_170 : decode cX11_count 170 = .ok (.getfield 297, 3) := by decide +kernel
theorem dX11_count_173 : decode cX11_count 173 = .ok (.ireturn, 1) := by decide +kernel
theorem dX11_count_174 : decode cX11_count 174 = .ok (.aload_n 0, 1) := by decide +kernel
theorem dX11_count_175 : decode cX11_count 175 = .ok (.getfield 28, 3) := by decide +kernel
theorem dX11_count_178 : decode cX11_count 178 = .ok (.iconst 0, 1) := by decide +kernel
theorem dX11_count_179 : decode cX11_count 179 = .ok (.invokevirtual 294, 3) := by decide +kernel
theorem dX11_count_182 : decode cX11_count 182 = .ok (.ireturn, 1) := by decide +kernel
theorem dX11_count_183 : decode cX11_count 183 = .ok (.aload_n 0, 1) := by decide +kernel
theorem dX11_count_184 : decode cX11_count 184 = .ok (.getfield 28, 3) := by decide +kernel
theorem dX11_count_187 : decode cX11_count 187 = .ok (.iconst 1, 1) := by decide +kernel
theorem dX11_count_188 : decode cX11_count 188 = .ok (.invokevirtual 294, 3) := by decide +kernel
theorem dX11_count_191 : decode cX11_count 191 = .ok (.ireturn, 1) := by decide +kernel
theorem dX11_count_192 : decode cX11_count 192 = .ok (.aload_n 0, 1) := by decide +kernel
theorem dX11_count_193 : decode cX11_count 193 = .ok (.getfield 85, 3) := by decide +kernel
theorem dX11_count_196 : decode cX11_count 196 = .ok (.getfield 140, 3) := by decide +kernel
theorem dX11_count_199 : decode cX11_count 199 = .ok (.ireturn, 1) := by decide +kernel
theorem dX11_count_200 : decode cX11_count 200 = .ok (.aload_n 0, 1) := by decide +kernel
theorem dX11_count_201 : decode cX11_count 201 = .ok (.getfield 12, 3) := by decide +kernel
theorem dX11_count_204 : decode cX11_count 204 = .ok (.getfield 116, 3) := by decide +kernel
theorem dX11_count_207 : decode cX11_count 207 = .ok (.ireturn, 1) := by decide +kernel
theorem dX11_count_208 : decode cX11_count 208 = .ok (.aload_n 0, 1) := by decide +kernel
theorem dX11_count_209 : decode cX11_count 209 = .ok (.getfield 28, 3) := by decide +kernel
theorem dX11_count_212 : decode cX11_count 212 = .ok (.getfield 279, 3) := by decide +kernel
theorem dX11_count_215 : decode cX11_count 215 = .ok (.ireturn, 1) := by decide +kernel
theorem dX11_count_216 : decode cX11_count 216 = .ok (.iconst (-1), 1) := by decide +kernel
theorem dX11_count_217 : decode cX11_count 217 = .ok (.ireturn, 1) := by decide +kernel
theorem dX11_firstWrongRow_0 : decode cX11_firstWrongRow 0 = .ok (.iconst 0, 1) := by decide +kernel
theorem dX11_firstWrongRow_1 : decode cX11_firstWrongRow 1 = .ok (.istore_n 3, 1) := by decide +kernel
theorem dX11_firstWrongRow_2 : decode cX11_firstWrongRow 2 = .ok (.iload_n 3, 1) := by decide +kernel
theorem dX11_firstWrongRow_3 : decode cX11_firstWrongRow 3 = .ok (.iload_n 2, 1) := by decide +kernel
theorem dX11_firstWrongRow_4 : decode cX11_firstWrongRow 4 = .ok (.if_icmp .ge 34, 3) := by decide +kernel
theorem dX11_firstWrongRow_7 : decode cX11_firstWrongRow 7 = .ok (.aload_n 0, 1) := by decide +kernel
theorem dX11_firstWrongRow_8 : decode cX11_firstWrongRow 8 = .ok (.getfield 28, 3) := by decide +kernel
theorem dX11_firstWrongRow_11 : decode cX11_firstWrongRow 11 = .ok (.iload_n 1, 1) := by decide +kernel
theorem dX11_firstWrongRow_12 : decode cX11_firstWrongRow 12 = .ok (.iload_n 3, 1) := by decide +kernel
theorem dX11_firstWrongRow_13 : decode cX11_firstWrongRow 13 = .ok (.invokestatic 205, 3) := by decide +kernel
theorem dX11_firstWrongRow_16 : decode cX11_firstWrongRow 16 = .ok (.invokevirtual 209, 3) := by decide +kernel
theorem dX11_firstWrongRow_19 : decode cX11_firstWrongRow 19 = .ok (.aload_n 0, 1) := by decide +kernel
theorem dX11_firstWrongRow_20 : decode cX11_firstWrongRow 20 = .ok (.getfield 12, 3) := by decide +kernel
theorem dX11_firstWrongRow_23 : decode cX11_firstWrongRow 23 = .ok (.iload_n 3, 1) := by decide +kernel
theorem dX11_firstWrongRow_24 : decode cX11_firstWrongRow 24 = .ok (.invokevirtual 300, 3) := by decide +kernel
theorem dX11_firstWrongRow_27 : decode cX11_firstWrongRow 27 = .ok (.if_icmp .eq 5, 3) := by decide +kernel
theorem dX11_firstWrongRow_30 : decode cX11_firstWrongRow 30 = .ok (.iload_n 3, 1) := by decide +kernel
theorem dX11_firstWrongRow_31 : decode cX11_firstWrongRow 31 = .ok (.ireturn, 1) := by decide +kernel
theorem dX11_firstWrongRow_32 : decode cX11_firstWrongRow 32 = .ok (.iinc 3 1, 3) := by decide +kernel
theorem dX11_firstWrongRow_35 : decode cX11_firstWrongRow 35 = .ok (.goto (-33), 3) := by decide +kernel
theorem dX11_firstWrongRow_38 : decode cX11_firstWrongRow 38 = .ok (.iconst (-1), 1) := by decide +kernel
theorem dX11_firstWrongRow_39 : decode cX11_firstWrongRow 39 = .ok (.ireturn, 1) := by decide +kernel
theorem dX11_isWithin_0 : decode cX11_isWithin 0 = .ok (.iload_n 0, 1) := by decide +kernel
theorem dX11_isWithin_1 : decode cX11_isWithin 1 = .ok (.iload_n 1, 1) := by decide +kernel
theorem dX11_isWithin_2 : decode cX11_isWithin 2 = .ok (.if_icmp .lt 12, 3) := by decide +kernel
theorem dX11_isWithin_5 : decode cX11_isWithin 5 = .ok (.iload_n 0, 1) := by decide +kernel
theorem dX11_isWithin_6 : decode cX11_isWithin 6 = .ok (.iload_n 2, 1) := by decide +kernel
theorem dX11_isWithin_7 : decode cX11_isWithin 7 = .ok (.if_icmp .gt 7, 3) := by decide +kernel
theorem dX11_isWithin_10 : decode cX11_isWithin 10 = .ok (.iconst 1, 1) := by decide +kernel
theorem dX11_isWithin_11 : decode cX11_isWithin 11 = .ok (.goto 4, 3) := by decide +kernel
theorem dX11_isWithin_14 : decode cX11_isWithin 14 = .ok (.iconst 0, 1) := by decide +kernel
theorem dX11_isWithin_15 : decode cX11_isWithin 15 = .ok (.ireturn, 1) := by decide +kernel
theorem dX11_isSeat_0 : decode cX11_isSeat 0 = .ok (.iload_n 0, 1) := by decide +kernel
theorem dX11_isSeat_1 : decode cX11_isSeat 1 = .ok (.iconst 0, 1) := by decide +kernel
theorem dX11_isSeat_2 : decode cX11_isSeat 2 = .ok (.sipush 143, 3) := by decide +kernel
theorem dX11_isSeat_5 : decode cX11_isSeat 5 = .ok (.invokestatic 100, 3) := by decide +kernel
theorem dX11_isSeat_8 : decode cX11_isSeat 8 = .ok (.ireturn, 1) := by decide +kernel
theorem dX11_isSide_0 : decode cX11_isSide 0 = .ok (.iload_n 0, 1) := by decide +kernel
theorem dX11_isSide_1 : decode cX11_isSide 1 = .ok (.iconst 0, 1) := by decide +kernel
theorem dX11_isSide_2 : decode cX11_isSide 2 = .ok (.iconst 1, 1) := by decide +kernel
theorem dX11_isSide_3 : decode cX11_isSide 3 = .ok (.invokestatic 100, 3) := by decide +kernel
theorem dX11_isSide_6 : decode cX11_isSide 6 = .ok (.ireturn, 1) := by decide +kernel
theorem dX11_isPew_0 : decode cX11_isPew 0 = .ok (.iload_n 0, 1) := by decide +kernel
theorem dX11_isPew_1 : decode cX11_isPew 1 = .ok (.invokestatic 242, 3) := by decide +kernel
theorem dX11_isPew_4 : decode cX11_isPew 4 = .ok (.ifCond .eq 17, 3) := by decide +kernel
theorem dX11_isPew_7 : decode cX11_isPew 7 = .ok (.iload_n 1, 1) := by decide +kernel
theorem dX11_isPew_8 : decode cX11_isPew 8 = .ok (.iconst 0, 1) := by decide +kernel
theorem dX11_isPew_9 : decode cX11_isPew 9 = .ok (.bipush 7, 2) := by decide +kernel
theorem dX11_isPew_11 : decode cX11_isPew 11 = .ok (.invokestatic 100, 3) := by decide +kernel
theorem dX11_isPew_14 : decode cX11_isPew 14 = .ok (.ifCond .eq 7, 3) := by decide +kernel
theorem dX11_isPew_17 : decode cX11_isPew 17 = .ok (.iconst 1, 1) := by decide +kernel
theorem dX11_isPew_18 : decode cX11_isPew 18 = .ok (.goto 4, 3) := by decide +kernel
theorem dX11_isPew_21 : decode cX11_isPew 21 = .ok (.iconst 0, 1) := by decide +kernel
theorem dX11_isPew_22 : decode cX11_isPew 22 = .ok (.ireturn, 1) := by decide +kernel
theorem dX11_pewOf_0 : decode cX11_pewOf 0 = .ok (.iload_n 0, 1) := by decide +kernel
theorem dX11_pewOf_1 : decode cX11_pewOf 1 = .ok (.bipush 8, 2) := by decide +kernel
theorem dX11_pewOf_3 : decode cX11_pewOf 3 = .ok (.imul, 1) := by decide +kernel
theorem dX11_pewOf_4 : decode cX11_pewOf 4 = .ok (.iload_n 1, 1) := by decide +kernel
theorem dX11_pewOf_5 : decode cX11_pewOf 5 = .ok (.iadd, 1) := by decide +kernel
theorem dX11_pewOf_6 : decode cX11_pewOf 6 = .ok (.ireturn, 1) := by decide +kernel
theorem dX12_init_0 : decode cX12_init 0 = .ok (.aload_n 0, 1) := by decide +kernel
theorem dX12_init_1 : decode cX12_init 1 = .ok (.invokespecial 1, 3) := by decide +kernel
theorem dX12_init_4 : decode cX12_init 4 = .ok (.aload_n 0, 1) := by decide +kernel
theorem dX12_init_5 : decode cX12_init 5 = .ok (.sipush 637, 3) := by decide +kernel
theorem dX12_init_8 : decode cX12_init 8 = .ok (.newarray .int, 2) := by decide +kernel
theorem dX12_init_10 : decode cX12_init 10 = .ok (.putfield 7, 3) := by decide +kernel
theorem dX12_init_13 : decode cX12_init 13 = .ok (.aload_n 0, 1) := by decide +kernel
theorem dX12_init_14 : decode cX12_init 14 = .ok (.sipush 637, 3) := by decide +kernel
theorem dX12_init_17 : decode cX12_init 17 = .ok (.newarray .int, 2) := by decide +kernel
theorem dX12_init_19 : decode cX12_init 19 = .ok (.putfield 13, 3) := by decide +kernel
theorem dX12_init_22 : decode cX12_init 22 = .ok (.aload_n 0, 1) := by decide +kernel
theorem dX12_init_23 : decode cX12_init 23 = .ok (.sipush 637, 3) := by decide +kernel
theorem dX12_init_26 : decode cX12_init 26 = .ok (.newarray .int, 2) := by decide +kernel
theorem dX12_init_28 : decode cX12_init 28 = .ok (.putfield 16, 3) := by decide +kernel
theorem dX12_init_31 : decode cX12_init 31 = .ok (.aload_n 0, 1) := by decide +kernel
theorem dX12_init_32 : decode cX12_init 32 = .ok (.sipush 260, 3) := by decide +kernel
theorem dX12_init_35 : decode cX12_init 35 = .ok (.newarray .byte, 2) := by decide +kernel
theorem dX12_init_37 : decode cX12_init 37 = .ok (.putfield 19, 3) := by decide +kernel
theorem dX12_init_40 : decode cX12_init 40 = .ok (.aload_n 0, 1) := by decide +kernel
theorem dX12_init_41 : decode cX12_init 41 = .ok (.sipush 260, 3) := by decide +kernel
theorem dX12_init_44 : decode cX12_init 44 = .ok (.newarray .int, 2) := by decide +kernel
theorem dX12_init_46 : decode cX12_init 46 = .ok (.putfield 23, 3) := by decide +kernel
theorem dX12_init_49 : decode cX12_init 49 = .ok (.aload_n 0, 1) := by decide +kernel
theorem dX12_init_50 : decode cX12_init 50 = .ok (.sipush 260, 3) := by decide +kernel
theorem dX12_init_53 : decode cX12_init 53 = .ok (.newarray .int, 2) := by decide +kernel
theorem dX12_init_55 : decode cX12_init 55 = .ok (.putfield 26, 3) := by decide +kernel
theorem dX12_init_58 : decode cX12_init 58 = .ok (.aload_n 0, 1) := by decide +kernel
theorem dX12_init_59 : decode cX12_init 59 = .ok (.bipush 16, 2) := by decide +kernel
theorem dX12_init_61 : decode cX12_init 61 = .ok (.newarray .int, 2) := by decide +kernel
theorem dX12_init_63 : decode cX12_init 63 = .ok (.putfield 29, 3) := by decide +kernel
theorem dX12_init_66 : decode cX12_init 66 = .ok (.aload_n 0, 1) := by decide +kernel
theorem dX12_init_67 : decode cX12_init 67 = .ok (.bipush 16, 2) := by decide +kernel
theorem dX12_init_69 : decode cX12_init 69 = .ok (.newarray .int, 2) := by decide +kernel
theorem dX12_init_71 : decode cX12_init 71 = .ok (.putfield 32, 3) := by decide +kernel
theorem dX12_init_74 : decode cX12_init 74 = .ok (.aload_n 0, 1) := by decide +kernel
theorem dX12_init_75 : decode cX12_init 75 = .ok (.bipush 16, 2) := by decide +kernel
theorem dX12_init_77 : decode cX12_init 77 = .ok (.newarray .int, 2) := by decide +kernel
theorem dX12_init_79 : decode cX12_init 79 = .ok (.putfield 35, 3) := by decide +kernel
theorem dX12_init_82 : decode cX12_init 82 = .ok (.aload_n 0, 1) := by decide +kernel
theorem dX12_init_83 : decode cX12_init 83 = .ok (.bipush 16, 2) := by decide +kernel
theorem dX12_init_85 : decode cX12_init 85 = .ok (.newarray .int, 2) := by decide +kernel
theorem dX12_init_87 : decode cX12_init 87 = .ok (.putfield 38, 3) := by decide +kernel
theorem dX12_init_90 : decode cX12_init 90 = .ok (.aload_n 0, 1) := by decide +kernel
theorem dX12_init_91 : decode cX12_init 91 = .ok (.sipush 260, 3) := by decide +kernel
theorem dX12_init_94 : decode cX12_init 94 = .ok (.newarray .int, 2) := by decide +kernel
theorem dX12_init_96 : decode cX12_init 96 = .ok (.putfield 41, 3) := by decide +kernel
theorem dX12_init_99 : decode cX12_init 99 = .ok (.aload_n 0, 1) := by decide +kernel
theorem dX12_init_100 : decode cX12_init 100 = .ok (.bipush 16, 2) := by decide +kernel
theorem dX12_init_102 : decode cX12_init 102 = .ok (.newarray .int, 2) := by decide +kernel
theorem dX12_init_104 : decode cX12_init 104 = .ok (.putfield 44, 3) := by decide +kernel
theorem dX12_init_107 : decode cX12_init 107 = .ok (.aload_n 0, 1) := by decide +kernel
theorem dX12_init_108 : decode cX12_init 108 = .ok (.bipush 16, 2) := by decide +kernel
theorem dX12_init_110 : decode cX12_init 110 = .ok (.newarray .int, 2) := by decide +kernel
theorem dX12_init_112 : decode cX12_init 112 = .ok (.putfield 47, 3) := by decide +kernel
theorem dX12_init_115 : decode cX12_init 115 = .ok (.aload_n 0, 1) := by decide +kernel
theorem dX12_init_116 : decode cX12_init 116 = .ok (.bipush 16, 2) := by decide +kernel
theorem dX12_init_118 : decode cX12_init 118 = .ok (.newarray .int, 2) := by decide +kernel
theorem dX12_init_120 : decode cX12_init 120 = .ok (.putfield 50, 3) := by decide +kernel
theorem dX12_init_123 : decode cX12_init 123 = .ok (.aload_n 0, 1) := by decide +kernel
theorem dX12_init_124 : decode cX12_init 124 = .ok (.bipush 16, 2) := by decide +kernel
theorem dX12_init_126 : decode cX12_init 126 = .ok (.newarray .int, 2) := by decide +kernel
theorem dX12_init_128 : decode cX12_init 128 = .ok (.putfield 53, 3) := by decide +kernel
theorem dX12_init_131 : decode cX12_init 131 = .ok (.aload_n 0, 1) := by decide +kernel
theorem dX12_init_132 : decode cX12_init 132 = .ok (.sipush 260, 3) := by decide +kernel
theorem dX12_init_135 : decode cX12_init 135 = .ok (.newarray .int, 2) := by decide +kernel
theorem dX12_init_137 : decode cX12_init 137 = .ok (.putfield 56, 3) := by decide +kernel
theorem dX12_init_140 : decode cX12_init 140 = .ok (.aload_n 0, 1) := by decide +kernel
theorem dX12_init_141 : decode cX12_init 141 = .ok (.bipush 12, 2) := by decide +kernel
theorem dX12_init_143 : decode cX12_init 143 = .ok (.newarray .int, 2) := by decide +kernel
theorem dX12_init_145 : decode cX12_init 145 = .ok (.putfield 59, 3) := by decide +kernel
theorem dX12_init_148 : decode cX12_init 148 = .ok (.aload_n 0, 1) := by decide +kernel
theorem dX12_init_149 : decode cX12_init 149 = .ok (.sipush 200, 3) := by decide +kernel
theorem dX12_init_152 : decode cX12_init 152 = .ok (.newarray .int, 2) := by decide +kernel
theorem dX12_init_154 : decode cX12_init 154 = .ok (.putfield 62, 3) := by decide +kernel
theorem dX12_init_157 : decode cX12_init 157 = .ok (.aload_n 0, 1) := by decide +kernel
theorem dX12_init_158 : decode cX12_init 158 = .ok (.bipush 64, 2) := by decide +kernel
theorem dX12_init_160 : decode cX12_init 160 = .ok (.newarray .boolean, 2) := by decide +kernel
theorem dX12_init_162 : decode cX12_init 162 = .ok (.putfield 65, 3) := by decide +kernel
theorem dX12_init_165 : decode cX12_init 165 = .ok (.aload_n 0, 1) := by decide +kernel
theorem dX12_init_166 : decode cX12_init 166 = .ok (.bipush 64, 2) := by decide +kernel
theorem dX12_init_168 : decode cX12_init 168 = .ok (.newarray .boolean, 2) := by decide +kernel
theorem dX12_init_170 : decode cX12_init 170 = .ok (.putfield 69, 3) := by decide +kernel
theorem dX12_init_173 : decode cX12_init 173 = .ok (.aload_n 0, 1) := by decide +kernel
theorem dX12_init_174 : decode cX12_init 174 = .ok (.bipush 8, 2) := by decide +kernel
theorem dX12_init_176 : decode cX12_init 176 = .ok (.newarray .int, 2) := by decide +kernel
theorem dX12_init_178 : decode cX12_init 178 = .ok (.putfield 72, 3) := by decide +kernel
theorem dX12_init_181 : decode cX12_init 181 = .ok (.aload_n 0, 1) := by decide +kernel
theorem dX12_init_182 : decode cX12_init 182 = .ok (.bipush 8, 2) := by decide +kernel
theorem dX12_init_184 : decode cX12_init 184 = .ok (.newarray .int, 2) := by decide +kernel
theorem dX12_init_186 : decode cX12_init 186 = .ok (.putfield 75, 3) := by decide +kernel
theorem dX12_init_189 : decode cX12_init 189 = .ok (.aload_n 0, 1) := by decide +kernel
theorem dX12_init_190 : decode cX12_init 190 = .ok (.bipush 20, 2) := by decide +kernel
theorem dX12_init_192 : decode cX12_init 192 = .ok (.newarray .int, 2) := by decide +kernel
theorem dX12_init_194 : decode cX12_init 194 = .ok (.putfield 78, 3) := by decide +kernel
theorem dX12_init_197 : decode cX12_init 197 = .ok (.aload_n 0, 1) := by decide +kernel
theorem dX12_init_198 : decode cX12_init 198 = .ok (.sipush 1024, 3) := by decide +kernel
theorem dX12_init_201 : decode cX12_init 201 = .ok (.newarray .int, 2) := by decide +kernel
theorem dX12_init_203 : decode cX12_init 203 = .ok (.putfield 81, 3) := by decide +kernel
theorem dX12_init_206 : decode cX12_init 206 = .ok (.aload_n 0, 1) := by decide +kernel
theorem dX12_init_207 : decode cX12_init 207 = .ok (.sipush 512, 3) := by decide +kernel
theorem dX12_init_210 : decode cX12_init 210 = .ok (.newarray .int, 2) := by decide +kernel
theorem dX12_init_212 : decode cX12_init 212 = .ok (.putfield 84, 3) := by decide +kernel
theorem dX12_init_215 : decode cX12_init 215 = .ok (.aload_n 0, 1) := by decide +kernel
theorem dX12_init_216 : decode cX12_init 216 = .ok (.sipush 512, 3) := by decide +kernel
theorem dX12_init_219 : decode cX12_init 219 = .ok (.newarray .int, 2) := by decide +kernel
theorem dX12_init_221 : decode cX12_init 221 = .ok (.putfield 87, 3) := by decide +kernel
theorem dX12_init_224 : decode cX12_init 224 = .ok (.aload_n 0, 1) := by decide +kernel
theorem dX12_init_225 : decode cX12_init 225 = .ok (.bipush 12, 2) := by decide +kernel
theorem dX12_init_227 : decode cX12_init 227 = .ok (.newarray .int, 2) := by decide +kernel
theorem dX12_init_229 : decode cX12_init 229 = .ok (.putfield 90, 3) := by decide +kernel
theorem dX12_init_232 : decode cX12_init 232 = .ok (.aload_n 0, 1) := by decide +kernel
theorem dX12_init_233 : decode cX12_init 233 = .ok (.getfield 7, 3) := by decide +kernel
theorem dX12_init_236 : decode cX12_init 236 = .ok (.sipush 636, 3) := by decide +kernel
theorem dX12_init_239 : decode cX12_init 239 = .ok (.iconst 1, 1) := by decide +kernel
theorem dX12_init_240 : decode cX12_init 240 = .ok (.iastore, 1) := by decide +kernel
theorem dX12_init_241 : decode cX12_init 241 = .ok (.iconst 0, 1) := by decide +kernel
theorem dX12_init_242 : decode cX12_init 242 = .ok (.istore_n 1, 1) := by decide +kernel
theorem dX12_init_243 : decode cX12_init 243 = .ok (.iload_n 1, 1) := by decide +kernel
theorem dX12_init_244 : decode cX12_init 244 = .ok (.sipush 144, 3) := by decide +kernel
theorem dX12_init_247 : decode cX12_init 247 = .ok (.if_icmp .ge 29, 3) := by decide +kernel
theorem dX12_init_250 : decode cX12_init 250 = .ok (.aload_n 0, 1) := by decide +kernel
theorem dX12_init_251 : decode cX12_init 251 = .ok (.getfield 7, 3) := by decide +kernel
theorem dX12_init_254 : decode cX12_init 254 = .ok (.iconst 0, 1) := by decide +kernel
theorem dX12_init_255 : decode cX12_init 255 = .ok (.iload_n 1, 1) := by decide +kernel
theorem dX12_init_256 : decode cX12_init 256 = .ok (.iadd, 1) := by decide +kernel
theorem dX12_init_257 : decode cX12_init 257 = .ok (.iconst (-1), 1) := by decide +kernel
theorem dX12_init_258 : decode cX12_init 258 = .ok (.iastore, 1) := by decide +kernel
theorem dX12_init_259 : decode cX12_init 259 = .ok (.aload_n 0, 1) := by decide +kernel
theorem dX12_init_260 : decode cX12_init 260 = .ok (.getfield 7, 3) := by decide +kernel
theorem dX12_init_263 : decode cX12_init 263 = .ok (.sipush 288, 3) := by decide +kernel
theorem dX12_init_266 : decode cX12_init 266 = .ok (.iload_n 1, 1) := by decide +kernel
theorem dX12_init_267 : decode cX12_init 267 = .ok (.iadd, 1) := by decide +kernel
theorem dX12_init_268 : decode cX12_init 268 = .ok (.iconst (-1), 1) := by decide +kernel
theorem dX12_init_269 : decode cX12_init 269 = .ok (.iastore, 1) := by decide +kernel
theorem dX12_init_270 : decode cX12_init 270 = .ok (.iinc 1 1, 3) := by decide +kernel
theorem dX12_init_273 : decode cX12_init 273 = .ok (.goto (-30), 3) := by decide +kernel
theorem dX12_init_276 : decode cX12_init 276 = .ok (.return_, 1) := by decide +kernel
theorem dX12_in_0 : decode cX12_in 0 = .ok (.iload_n 0, 1) := by decide +kernel
theorem dX12_in_1 : decode cX12_in 1 = .ok (.iload_n 1, 1) := by decide +kernel
theorem dX12_in_2 : decode cX12_in 2 = .ok (.if_icmp .lt 12, 3) := by decide +kernel
theorem dX12_in_5 : decode cX12_in 5 = .ok (.iload_n 0, 1) := by decide +kernel
theorem dX12_in_6 : decode cX12_in 6 = .ok (.iload_n 2, 1) := by decide +kernel
theorem dX12_in_7 : decode cX12_in 7 = .ok (.if_icmp .gt 7, 3) := by decide +kernel
theorem dX12_in_10 : decode cX12_in 10 = .ok (.iconst 1, 1) := by decide +kernel
theorem dX12_in_11 : decode cX12_in 11 = .ok (.goto 4, 3) := by decide +kernel
theorem dX12_in_14 : decode cX12_in 14 = .ok (.iconst 0, 1) := by decide +kernel
theorem dX12_in_15 : decode cX12_in 15 = .ok (.ireturn, 1) := by decide +kernel
theorem dX12_min_0 : decode cX12_min 0 = .ok (.iload_n 0, 1) := by decide +kernel
theorem dX12_min_1 : decode cX12_min 1 = .ok (.iload_n 1, 1) := by decide +kernel
theorem dX12_min_2 : decode cX12_min 2 = .ok (.if_icmp .ge 7, 3) := by decide +kernel
theorem dX12_min_5 : decode cX12_min 5 = .ok (.iload_n 0, 1) := by decide +kernel
theorem dX12_min_6 : decode cX12_min 6 = .ok (.goto 4, 3) := by decide +kernel
theorem dX12_min_9 : decode cX12_min 9 = .ok (.iload_n 1, 1) := by decide +kernel
theorem dX12_min_10 : decode cX12_min 10 = .ok (.ireturn, 1) := by decide +kernel
theorem dX12_max_0 : decode cX12_max 0 = .ok (.iload_n 0, 1) := by decide +kernel
theorem dX12_max_1 : decode cX12_max 1 = .ok (.iload_n 1, 1) := by decide +kernel
theorem dX12_max_2 : decode cX12_max 2 = .ok (.if_icmp .le 7, 3) := by decide +kernel
theorem dX12_max_5 : decode cX12_max 5 = .ok (.iload_n 0, 1) := by decide +kernel
theorem dX12_max_6 : decode cX12_max 6 = .ok (.goto 4, 3) := by decide +kernel
theorem dX12_max_9 : decode cX12_max 9 = .ok (.iload_n 1, 1) := by decide +kernel
theorem dX12_max_10 : decode cX12_max 10 = .ok (.ireturn, 1) := by decide +kernel
theorem dX12_size_0 : decode cX12_size 0 = .ok (.iload_n 0, 1) := by decide +kernel
theorem dX12_size_1 : decode cX12_size 1 = .ok (.ifCond .ge 8, 3) := by decide +kernel
theorem dX12_size_4 : decode cX12_size 4 = .ok (.iload_n 0, 1) := by decide +kernel
theorem dX12_size_5 : decode cX12_size 5 = .ok (.ineg, 1) := by decide +kernel
theorem dX12_size_6 : decode cX12_size 6 = .ok (.goto 4, 3) := by decide +kernel
theorem dX12_size_9 : decode cX12_size 9 = .ok (.iload_n 0, 1) := by decide +kernel
theorem dX12_size_10 : decode cX12_size 10 = .ok (.ireturn, 1) := by decide +kernel
theorem dX12_has_0 : decode cX12_has 0 = .ok (.iload_n 0, 1) := by decide +kernel
theorem dX12_has_1 : decode cX12_has 1 = .ok (.iload_n 1, 1) := by decide +kernel
theorem dX12_has_2 : decode cX12_has 2 = .ok (.ishr, 1) := by decide +kernel
theorem dX12_has_3 : decode cX12_has 3 = .ok (.iconst 1, 1) := by decide +kernel
theorem dX12_has_4 : decode cX12_has 4 = .ok (.iand, 1) := by decide +kernel
theorem dX12_has_5 : decode cX12_has 5 = .ok (.iconst 1, 1) := by decide +kernel
theorem dX12_has_6 : decode cX12_has 6 = .ok (.if_icmp .ne 7, 3) := by decide +kernel
theorem dX12_has_9 : decode cX12_has 9 = .ok (.iconst 1, 1) := by decide +kernel
theorem dX12_has_10 : decode cX12_has 10 = .ok (.goto 4, 3) := by decide +kernel
theorem dX12_has_13 : decode cX12_has 13 = .ok (.iconst 0, 1) := by decide +kernel
theorem dX12_has_14 : decode cX12_has 14 = .ok (.ireturn, 1) := by decide +kernel
theorem dX12_bits_0 : decode cX12_bits 0 = .ok (.iconst 0, 1) := by decide +kernel
theorem dX12_bits_1 : decode cX12_bits 1 = .ok (.istore_n 1, 1) := by decide +kernel
theorem dX12_bits_2 : decode cX12_bits 2 = .ok (.iconst 0, 1) := by decide +kernel
theorem dX12_bits_3 : decode cX12_bits 3 = .ok (.istore_n 2, 1) := by decide +kernel
theorem dX12_bits_4 : decode cX12_bits 4 = .ok (.iload_n 2, 1) := by decide +kernel
theorem dX12_bits_5 : decode cX12_bits 5 = .ok (.bipush 16, 2) := by decide +kernel
theorem dX12_bits_7 : decode cX12_bits 7 = .ok (.if_icmp .ge 17, 3) := by decide +kernel
theorem dX12_bits_10 : decode cX12_bits 10 = .ok (.iload_n 1, 1) := by decide +kernel
theorem dX12_bits_11 : decode cX12_bits 11 = .ok (.iload_n 0, 1) := by decide +kernel
theorem dX12_bits_12 : decode cX12_bits 12 = .ok (.iload_n 2, 1) := by decide +kernel
theorem dX12_bits_13 : decode cX12_bits 13 = .ok (.ishr, 1) := by decide +kernel
theorem dX12_bits_14 : decode cX12_bits 14 = .ok (.iconst 1, 1) := by decide +kernel
theorem dX12_bits_15 : decode cX12_bits 15 = .ok (.iand, 1) := by decide +kernel
theorem dX12_bits_16 : decode cX12_bits 16 = .ok (.iadd, 1) := by decide +kernel
theorem dX12_bits_17 : decode cX12_bits 17 = .ok (.istore_n 1, 1) := by decide +kernel
theorem dX12_bits_18 : decode cX12_bits 18 = .ok (.iinc 2 1, 3) := by decide +kernel
theorem dX12_bits_21 : decode cX12_bits 21 = .ok (.goto (-17), 3) := by decide +kernel
theorem dX12_bits_24 : decode cX12_bits 24 = .ok (.iload_n 1, 1) := by decide +kernel
theorem dX12_bits_25 : decode cX12_bits 25 = .ok (.ireturn, 1) := by decide +kernel
theorem dX12_copies_0 : decode cX12_copies 0 = .ok (.iconst 0, 1) := by decide +kernel
theorem dX12_copies_1 : decode cX12_copies 1 = .ok (.istore_n 2, 1) := by decide +kernel
theorem dX12_copies_2 : decode cX12_copies 2 = .ok (.iload_n 2, 1) := by decide +kernel
theorem dX12_copies_3 : decode cX12_copies 3 = .ok (.sipush 637, 3) := by decide +kernel
theorem dX12_copies_6 : decode cX12_copies 6 = .ok (.if_icmp .ge 15, 3) := by decide +kernel
theorem dX12_copies_9 : decode cX12_copies 9 = .ok (.aload_n 1, 1) := by decide +kernel
theorem dX12_copies_10 : decode cX12_copies 10 = .ok (.iload_n 2, 1) := by decide +kernel
theorem dX12_copies_11 : decode cX12_copies 11 = .ok (.aload_n 0, 1) := by decide +kernel
theorem dX12_copies_12 : decode cX12_copies 12 = .ok (.iload_n 2, 1) := by decide +kernel
theorem dX12_copies_13 : decode cX12_copies 13 = .ok (.iaload, 1) := by decide +kernel
theorem dX12_copies_14 : decode cX12_copies 14 = .ok (.iastore, 1) := by decide +kernel
theorem dX12_copies_15 : decode cX12_copies 15 = .ok (.iinc 2 1, 3) := by decide +kernel
theorem dX12_copies_18 : decode cX12_copies 18 = .ok (.goto (-16), 3) := by decide +kernel
theorem dX12_copies_21 : decode cX12_copies 21 = .ok (.return_, 1) := by decide +kernel
theorem dX12_sideOf_0 : decode cX12_sideOf 0 = .ok (.iload_n 0, 1) := by decide +kernel
theorem dX12_sideOf_1 : decode cX12_sideOf 1 = .ok (.iconst 3, 1) := by decide +kernel
theorem dX12_sideOf_2 : decode cX12_sideOf 2 = .ok (.irem, 1) := by decide +kernel
theorem dX12_sideOf_3 : decode cX12_sideOf 3 = .ok (.ireturn, 1) := by decide +kernel
theorem dX12_familyOf_0 : decode cX12_familyOf 0 = .ok (.iload_n 0, 1) := by decide +kernel
theorem dX12_familyOf_1 : decode cX12_familyOf 1 = .ok (.iconst 3, 1) := by decide +kernel
theorem dX12_familyOf_2 : decode cX12_familyOf 2 = .ok (.idiv, 1) := by decide +kernel
theorem dX12_familyOf_3 : decode cX12_familyOf 3 = .ok (.bipush 16, 2) := by decide +kernel
theorem dX12_familyOf_5 : decode cX12_familyOf 5 = .ok (.irem, 1) := by decide +kernel
theorem dX12_familyOf_6 : decode cX12_familyOf 6 = .ok (.ireturn, 1) := by decide +kernel
theorem dX12_heightOf_0 : decode cX12_heightOf 0 = .ok (.iload_n 0, 1) := by decide +kernel
theorem dX12_heightOf_1 : decode cX12_heightOf 1 = .ok (.bipush 48, 2) := by decide +kernel
theorem dX12_heightOf_3 : decode cX12_heightOf 3 = .ok (.idiv, 1) := by decide +kernel
theorem dX12_heightOf_4 : decode cX12_heightOf 4 = .ok (.bipush 10, 2) := by decide +kernel
theorem dX12_heightOf_6 : decode cX12_heightOf 6 = .ok (.irem, 1) := by decide +kernel
theorem dX12_heightOf_7 : decode cX12_heightOf 7 = .ok (.ireturn, 1) := by decide +kernel
theorem dX12_childOf_0 : decode cX12_childOf 0 = .ok (.iload_n 0, 1) := by decide +kernel
theorem dX12_childOf_1 : decode cX12_childOf 1 = .ok (.sipush 480, 3) := by decide +kernel
theorem dX12_childOf_4 : decode cX12_childOf 4 = .ok (.idiv, 1) := by decide +kernel
theorem dX12_childOf_5 : decode cX12_childOf 5 = .ok (.iconst 2, 1) := by decide +kernel
theorem dX12_childOf_6 : decode cX12_childOf 6 = .ok (.irem, 1) := by decide +kernel
theorem dX12_childOf_7 : decode cX12_childOf 7 = .ok (.ireturn, 1) := by decide +kernel
theorem dX12_singerOf_0 : decode cX12_singerOf 0 = .ok (.iload_n 0, 1) := by decide +kernel
theorem dX12_singerOf_1 : decode cX12_singerOf 1 = .ok (.sipush 960, 3) := by decide +kernel
theorem dX12_singerOf_4 : decode cX12_singerOf 4 = .ok (.idiv, 1) := by decide +kernel
theorem dX12_singerOf_5 : decode cX12_singerOf 5 = .ok (.ireturn, 1) := by decide +kernel
theorem dX12_isTaken_0 : decode cX12_isTaken 0 = .ok (.aload_n 0, 1) := by decide +kernel
theorem dX12_isTaken_1 : decode cX12_isTaken 1 = .ok (.getfield 7, 3) := by decide +kernel
theorem dX12_isTaken_4 : decode cX12_isTaken 4 = .ok (.iconst 0, 1) := by decide +kernel
theorem dX12_isTaken_5 : decode cX12_isTaken 5 = .ok (.iload_n 1, 1) := by decide +kernel
theorem dX12_isTaken_6 : decode cX12_isTaken 6 = .ok (.iadd, 1) := by decide +kernel
theorem dX12_isTaken_7 : decode cX12_isTaken 7 = .ok (.iaload, 1) := by decide +kernel
theorem dX12_isTaken_8 : decode cX12_isTaken 8 = .ok (.iconst (-1), 1) := by decide +kernel
theorem dX12_isTaken_9 : decode cX12_isTaken 9 = .ok (.if_icmp .eq 7, 3) := by decide +kernel
theorem dX12_isTaken_12 : decode cX12_isTaken 12 = .ok (.iconst 1, 1) := by decide +kernel
theorem dX12_isTaken_13 : decode cX12_isTaken 13 = .ok (.goto 4, 3) := by decide +kernel
theorem dX12_isTaken_16 : decode cX12_isTaken 16 = .ok (.iconst 0, 1) := by decide +kernel
theorem dX12_isTaken_17 : decode cX12_isTaken 17 = .ok (.ireturn, 1) := by decide +kernel
theorem dX12_sittersIn_0 : decode cX12_sittersIn 0 = .ok (.iconst 0, 1) := by decide +kernel
theorem dX12_sittersIn_1 : decode cX12_sittersIn 1 = .ok (.istore_n 2, 1) := by decide +kernel
theorem dX12_sittersIn_2 : decode cX12_sittersIn 2 = .ok (.iconst 0, 1) := by decide +kernel
theorem dX12_sittersIn_3 : decode cX12_sittersIn 3 = .ok (.istore_n 3, 1) := by decide +kernel
theorem dX12_sittersIn_4 : decode cX12_sittersIn 4 = .ok (.iload_n 3, 1) := by decide +kernel
theorem dX12_sittersIn_5 : decode cX12_sittersIn 5 = .ok (.bipush 9, 2) := by decide +kernel
theorem dX12_sittersIn_7 : decode cX12_sittersIn 7 = .ok (.if_icmp .ge 26, 3) := by decide +kernel
theorem dX12_sittersIn_10 : decode cX12_sittersIn 10 = .ok (.aload_n 0, 1) := by decide +kernel
theorem dX12_sittersIn_11 : decode cX12_sittersIn 11 = .ok (.bipush 9, 2) := by decide +kernel
theorem dX12_sittersIn_13 : decode cX12_sittersIn 13 = .ok (.iload_n 1, 1) := by decide +kernel
theorem dX12_sittersIn_14 : decode cX12_sittersIn 14 = .ok (.imul, 1) := by decide +kernel
theorem dX12_sittersIn_15 : decode cX12_sittersIn 15 = .ok (.iload_n 3, 1) := by decide +kernel
theorem dX12_sittersIn_16 : decode cX12_sittersIn 16 = .ok (.iadd, 1) := by decide +kernel
theorem dX12_sittersIn_17 : decode cX12_sittersIn 17 = .ok (.invokevirtual 93, 3) := by decide +kernel
theorem dX12_sittersIn_20 : decode cX12_sittersIn 20 = .ok (.ifCond .eq 7, 3) := by decide +kernel
theorem dX12_sittersIn_23 : decode cX12_sittersIn 23 = .ok (.iload_n 2, 1) := by decide +kernel
theorem dX12_sittersIn_24 : decode cX12_sittersIn 24 = .ok (.iconst 1, 1) := by decide +kernel
theorem dX12_sittersIn_25 : decode cX12_sittersIn 25 = .ok (.iadd, 1) := by decide +kernel
theorem dX12_sittersIn_26 : decode cX12_sittersIn 26 = .ok (.istore_n 2, 1) := by decide +kernel
theorem dX12_sittersIn_27 : decode cX12_sittersIn 27 = .ok (.iinc 3 1, 3) := by decide +kernel
theorem dX12_sittersIn_30 : decode cX12_sittersIn 30 = .ok (.goto (-26), 3) := by decide +kernel
theorem dX12_sittersIn_33 : decode cX12_sittersIn 33 = .ok (.iload_n 2, 1) := by decide +kernel
theorem dX12_sittersIn_34 : decode cX12_sittersIn 34 = .ok (.ireturn, 1) := by decide +kernel
theorem dX12_sittersOn_0 : decode cX12_sittersOn 0 = .ok (.iconst 0, 1) := by decide +kernel
theorem dX12_sittersOn_1 : decode cX12_sittersOn 1 = .ok (.istore_n 2, 1) := by decide +kernel
theorem dX12_sittersOn_2 : decode cX12_sittersOn 2 = .ok (.iconst 0, 1) := by decide +kernel
theorem dX12_sittersOn_3 : decode cX12_sittersOn 3 = .ok (.istore_n 3, 1) := by decide +kernel
theorem dX12_sittersOn_4 : decode cX12_sittersOn 4 = .ok (.iload_n 3, 1) := by decide +kernel
theorem dX12_sittersOn_5 : decode cX12_sittersOn 5 = .ok (.bipush 8, 2) := by decide +kernel
theorem dX12_sittersOn_7 : decode cX12_sittersOn 7 = .ok (.if_icmp .ge 22, 3) := by decide +kernel
theorem dX12_sittersOn_10 : decode cX12_sittersOn 10 = .ok (.iload_n 2, 1) := by decide +kernel
theorem dX12_sittersOn_11 : decode cX12_sittersOn 11 = .ok (.aload_n 0, 1) := by decide +kernel
theorem dX12_sittersOn_12 : decode cX12_sittersOn 12 = .ok (.bipush 8, 2) := by decide +kernel
theorem dX12_sittersOn_14 : decode cX12_sittersOn 14 = .ok (.iload_n 1, 1) := by decide +kernel
theorem dX12_sittersOn_15 : decode cX12_sittersOn 15 = .ok (.imul, 1) := by decide +kernel
theorem dX12_sittersOn_16 : decode cX12_sittersOn 16 = .ok (.iload_n 3, 1) := by decide +kernel
theorem dX12_sittersOn_17 : decode cX12_sittersOn 17 = .ok (.iadd, 1) := by decide +kernel
theorem dX12_sittersOn_18 : decode cX12_sittersOn 18 = .ok (.invokevirtual 97, 3) := by decide +kernel
theorem dX12_sittersOn_21 : decode cX12_sittersOn 21 = .ok (.iadd, 1) := by decide +kernel
theorem dX12_sittersOn_22 : decode cX12_sittersOn 22 = .ok (.istore_n 2, 1) := by decide +kernel
theorem dX12_sittersOn_23 : decode cX12_sittersOn 23 = .ok (.iinc 3 1, 3) := by decide +kernel
theorem dX12_sittersOn_26 : decode cX12_sittersOn 26 = .ok (.goto (-22), 3) := by decide +kernel
theorem dX12_sittersOn_29 : decode cX12_sittersOn 29 = .ok (.iload_n 2, 1) := by decide +kernel
theorem dX12_sittersOn_30 : decode cX12_sittersOn 30 = .ok (.ireturn, 1) := by decide +kernel
theorem dX12_familyIn_0 : decode cX12_familyIn 0 = .ok (.iconst 0, 1) := by decide +kernel
theorem dX12_familyIn_1 : decode cX12_familyIn 1 = .ok (.istore_n 3, 1) := by decide +kernel
theorem dX12_familyIn_2 : decode cX12_familyIn 2 = .ok (.bipush 9, 2) := by decide +kernel
theorem dX12_familyIn_4 : decode cX12_familyIn 4 = .ok (.iload_n 1, 1) := by decide +kernel
theorem dX12_familyIn_5 : decode cX12_familyIn 5 = .ok (.imul, 1) := by decide +kernel
theorem dX12_familyIn_6 : decode cX12_familyIn 6 = .ok (.istore 4, 2) := by decide +kernel
theorem dX12_familyIn_8 : decode cX12_familyIn 8 = .ok (.iload 4, 2) := by decide +kernel
theorem dX12_familyIn_10 : decode cX12_familyIn 10 = .ok (.bipush 9, 2) := by decide +kernel
theorem dX12_familyIn_12 : decode cX12_familyIn 12 = .ok (.iload_n 1, 1) := by decide +kernel
theorem dX12_familyIn_13 : decode cX12_familyIn 13 = .ok (.imul, 1) := by decide +kernel
theorem dX12_familyIn_14 : decode cX12_familyIn 14 = .ok (.bipush 9, 2) := by decide +kernel
theorem dX12_familyIn_16 : decode cX12_familyIn 16 = .ok (.iadd, 1) := by decide +kernel
theorem dX12_familyIn_17 : decode cX12_familyIn 17 = .ok (.if_icmp .ge 38, 3) := by decide +kernel
theorem dX12_familyIn_20 : decode cX12_familyIn 20 = .ok (.aload_n 0, 1) := by decide +kernel
theorem dX12_familyIn_21 : decode cX12_familyIn 21 = .ok (.iload 4, 2) := by decide +kernel
theorem dX12_familyIn_23 : decode cX12_familyIn 23 = .ok (.invokevirtual 93, 3) := by decide +kernel
theorem dX12_familyIn_26 : decode cX12_familyIn 26 = .ok (.ifCond .eq 23, 3) := by decide +kernel
theorem dX12_familyIn_29 : decode cX12_familyIn 29 = .ok (.aload_n 0, 1) := by decide +kernel
theorem dX12_familyIn_30 : decode cX12_familyIn 30 = .ok (.getfield 7, 3) := by decide +kernel
theorem dX12_familyIn_33 : decode cX12_familyIn 33 = .ok (.iconst 0, 1) := by decide +kernel
theorem dX12_familyIn_34 : decode cX12_familyIn 34 = .ok (.iload 4, 2) := by decide +kernel
theorem dX12_familyIn_36 : decode cX12_familyIn 36 = .ok (.iadd, 1) := by decide +kernel
theorem dX12_familyIn_37 : decode cX12_familyIn 37 = .ok (.iaload, 1) := by decide +kernel
theorem dX12_familyIn_38 : decode cX12_familyIn 38 = .ok (.invokestatic 101, 3) := by decide +kernel
theorem dX12_familyIn_41 : decode cX12_familyIn 41 = .ok (.iload_n 2, 1) := by decide +kernel
theorem dX12_familyIn_42 : decode cX12_familyIn 42 = .ok (.if_icmp .ne 7, 3) := by decide +kernel
theorem dX12_familyIn_45 : decode cX12_familyIn 45 = .ok (.iload_n 3, 1) := by decide +kernel
theorem dX12_familyIn_46 : decode cX12_familyIn 46 = .ok (.iconst 1, 1) := by decide +kernel
theorem dX12_familyIn_47 : decode cX12_familyIn 47 = .ok (.iadd, 1) := by decide +kernel
theorem dX12_familyIn_48 : decode cX12_familyIn 48 = .ok (.istore_n 3, 1) := by decide +kernel
theorem dX12_familyIn_49 : decode cX12_familyIn 49 = .ok (.iinc 4 1, 3) := by decide +kernel
theorem dX12_familyIn_52 : decode cX12_familyIn 52 = .ok (.goto (-44), 3) := by decide +kernel
theorem dX12_familyIn_55 : decode cX12_familyIn 55 = .ok (.iload_n 3, 1) := by decide +kernel
theorem dX12_familyIn_56 : decode cX12_familyIn 56 = .ok (.ireturn, 1) := by decide +kernel
theorem dX12_familyAll_0 : decode cX12_familyAll 0 = .ok (.iconst 0, 1) := by decide +kernel
theorem dX12_familyAll_1 : decode cX12_familyAll 1 = .ok (.istore_n 2, 1) := by decide +kernel
theorem dX12_familyAll_2 : decode cX12_familyAll 2 = .ok (.iconst 0, 1) := by decide +kernel
theorem dX12_familyAll_3 : decode cX12_familyAll 3 = .ok (.istore_n 3, 1) := by decide +kernel
