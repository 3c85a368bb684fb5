theorem dX12_ringOf_68 : decode cX12_ringOf 68 = .ok (.aload_n 0, 1) := by decide +kernel
theorem dX12_ringOf_69 : decode cX12_ringOf 69 = .ok (.iload 5, 2) := by decide +kernel
theorem dX12_ringOf_71 : decode cX12_ringOf 71 = .ok (.invokevirtual 93, 3) := by decide +kernel
theorem dX12_ringOf_74 : decode cX12_ringOf 74 = .ok (.ifCond .ne 7, 3) := by decide +kernel
theorem dX12_ringOf_77 : decode cX12_ringOf 77 = .ok (.iconst 0, 1) := by decide +kernel
theorem dX12_ringOf_78 : decode cX12_ringOf 78 = .ok (.goto 16, 3) := by decide +kernel
theorem dX12_ringOf_81 : decode cX12_ringOf 81 = .ok (.iload 6, 2) := by decide +kernel
theorem dX12_ringOf_83 : decode cX12_ringOf 83 = .ok (.ifCond .eq 10, 3) := by decide +kernel
theorem dX12_ringOf_86 : decode cX12_ringOf 86 = .ok (.iload 4, 2) := by decide +kernel
theorem dX12_ringOf_88 : decode cX12_ringOf 88 = .ok (.iconst 1, 1) := by decide +kernel
theorem dX12_ringOf_89 : decode cX12_ringOf 89 = .ok (.iadd, 1) := by decide +kernel
theorem dX12_ringOf_90 : decode cX12_ringOf 90 = .ok (.goto 4, 3) := by decide +kernel
theorem dX12_ringOf_93 : decode cX12_ringOf 93 = .ok (.iconst 1, 1) := by decide +kernel
theorem dX12_ringOf_94 : decode cX12_ringOf 94 = .ok (.istore 4, 2) := by decide +kernel
theorem dX12_ringOf_96 : decode cX12_ringOf 96 = .ok (.iload_n 3, 1) := by decide +kernel
theorem dX12_ringOf_97 : decode cX12_ringOf 97 = .ok (.iload 4, 2) := by decide +kernel
theorem dX12_ringOf_99 : decode cX12_ringOf 99 = .ok (.invokestatic 313, 3) := by decide +kernel
theorem dX12_ringOf_102 : decode cX12_ringOf 102 = .ok (.istore_n 3, 1) := by decide +kernel
theorem dX12_ringOf_103 : decode cX12_ringOf 103 = .ok (.iinc 5 1, 3) := by decide +kernel
theorem dX12_ringOf_106 : decode cX12_ringOf 106 = .ok (.goto (-95), 3) := by decide +kernel
theorem dX12_ringOf_109 : decode cX12_ringOf 109 = .ok (.iload_n 3, 1) := by decide +kernel
theorem dX12_ringOf_110 : decode cX12_ringOf 110 = .ok (.ireturn, 1) := by decide +kernel
theorem dX12_coatsLeft_0 : decode cX12_coatsLeft 0 = .ok (.iconst 0, 1) := by decide +kernel
theorem dX12_coatsLeft_1 : decode cX12_coatsLeft 1 = .ok (.istore_n 2, 1) := by decide +kernel
theorem dX12_coatsLeft_2 : decode cX12_coatsLeft 2 = .ok (.bipush 9, 2) := by decide +kernel
theorem dX12_coatsLeft_4 : decode cX12_coatsLeft 4 = .ok (.iload_n 1, 1) := by decide +kernel
theorem dX12_coatsLeft_5 : decode cX12_coatsLeft 5 = .ok (.imul, 1) := by decide +kernel
theorem dX12_coatsLeft_6 : decode cX12_coatsLeft 6 = .ok (.istore_n 3, 1) := by decide +kernel
theorem dX12_coatsLeft_7 : decode cX12_coatsLeft 7 = .ok (.iload_n 3, 1) := by decide +kernel
theorem dX12_coatsLeft_8 : decode cX12_coatsLeft 8 = .ok (.bipush 9, 2) := by decide +kernel
theorem dX12_coatsLeft_10 : decode cX12_coatsLeft 10 = .ok (.iload_n 1, 1) := by decide +kernel
theorem dX12_coatsLeft_11 : decode cX12_coatsLeft 11 = .ok (.imul, 1) := by decide +kernel
theorem dX12_coatsLeft_12 : decode cX12_coatsLeft 12 = .ok (.bipush 9, 2) := by decide +kernel
theorem dX12_coatsLeft_14 : decode cX12_coatsLeft 14 = .ok (.iadd, 1) := by decide +kernel
theorem dX12_coatsLeft_15 : decode cX12_coatsLeft 15 = .ok (.if_icmp .ge 35, 3) := by decide +kernel
theorem dX12_coatsLeft_18 : decode cX12_coatsLeft 18 = .ok (.aload_n 0, 1) := by decide +kernel
theorem dX12_coatsLeft_19 : decode cX12_coatsLeft 19 = .ok (.iload_n 3, 1) := by decide +kernel
theorem dX12_coatsLeft_20 : decode cX12_coatsLeft 20 = .ok (.invokevirtual 93, 3) := by decide +kernel
theorem dX12_coatsLeft_23 : decode cX12_coatsLeft 23 = .ok (.ifCond .ne 21, 3) := by decide +kernel
theorem dX12_coatsLeft_26 : decode cX12_coatsLeft 26 = .ok (.aload_n 0, 1) := by decide +kernel
theorem dX12_coatsLeft_27 : decode cX12_coatsLeft 27 = .ok (.getfield 7, 3) := by decide +kernel
theorem dX12_coatsLeft_30 : decode cX12_coatsLeft 30 = .ok (.sipush 288, 3) := by decide +kernel
theorem dX12_coatsLeft_33 : decode cX12_coatsLeft 33 = .ok (.iload_n 3, 1) := by decide +kernel
theorem dX12_coatsLeft_34 : decode cX12_coatsLeft 34 = .ok (.iadd, 1) := by decide +kernel
theorem dX12_coatsLeft_35 : decode cX12_coatsLeft 35 = .ok (.iaload, 1) := by decide +kernel
theorem dX12_coatsLeft_36 : decode cX12_coatsLeft 36 = .ok (.iconst (-1), 1) := by decide +kernel
theorem dX12_coatsLeft_37 : decode cX12_coatsLeft 37 = .ok (.if_icmp .eq 7, 3) := by decide +kernel
theorem dX12_coatsLeft_40 : decode cX12_coatsLeft 40 = .ok (.iload_n 2, 1) := by decide +kernel
theorem dX12_coatsLeft_41 : decode cX12_coatsLeft 41 = .ok (.iconst 1, 1) := by decide +kernel
theorem dX12_coatsLeft_42 : decode cX12_coatsLeft 42 = .ok (.iadd, 1) := by decide +kernel
theorem dX12_coatsLeft_43 : decode cX12_coatsLeft 43 = .ok (.istore_n 2, 1) := by decide +kernel
theorem dX12_coatsLeft_44 : decode cX12_coatsLeft 44 = .ok (.iinc 3 1, 3) := by decide +kernel
theorem dX12_coatsLeft_47 : decode cX12_coatsLeft 47 = .ok (.goto (-40), 3) := by decide +kernel
theorem dX12_coatsLeft_50 : decode cX12_coatsLeft 50 = .ok (.iload_n 2, 1) := by decide +kernel
theorem dX12_coatsLeft_51 : decode cX12_coatsLeft 51 = .ok (.ireturn, 1) := by decide +kernel
theorem dX12_isPew_0 : decode cX12_isPew 0 = .ok (.iload_n 0, 1) := by decide +kernel
theorem dX12_isPew_1 : decode cX12_isPew 1 = .ok (.iconst 0, 1) := by decide +kernel
theorem dX12_isPew_2 : decode cX12_isPew 2 = .ok (.iconst 1, 1) := by decide +kernel
theorem dX12_isPew_3 : decode cX12_isPew 3 = .ok (.invokestatic 108, 3) := by decide +kernel
theorem dX12_isPew_6 : decode cX12_isPew 6 = .ok (.ifCond .eq 17, 3) := by decide +kernel
theorem dX12_isPew_9 : decode cX12_isPew 9 = .ok (.iload_n 1, 1) := by decide +kernel
theorem dX12_isPew_10 : decode cX12_isPew 10 = .ok (.iconst 0, 1) := by decide +kernel
theorem dX12_isPew_11 : decode cX12_isPew 11 = .ok (.bipush 7, 2) := by decide +kernel
theorem dX12_isPew_13 : decode cX12_isPew 13 = .ok (.invokestatic 108, 3) := by decide +kernel
theorem dX12_isPew_16 : decode cX12_isPew 16 = .ok (.ifCond .eq 7, 3) := by decide +kernel
theorem dX12_isPew_19 : decode cX12_isPew 19 = .ok (.iconst 1, 1) := by decide +kernel
theorem dX12_isPew_20 : decode cX12_isPew 20 = .ok (.goto 4, 3) := by decide +kernel
theorem dX12_isPew_23 : decode cX12_isPew 23 = .ok (.iconst 0, 1) := by decide +kernel
theorem dX12_isPew_24 : decode cX12_isPew 24 = .ok (.ireturn, 1) := by decide +kernel
theorem dX12_pew_0 : decode cX12_pew 0 = .ok (.iload_n 1, 1) := by decide +kernel
theorem dX12_pew_1 : decode cX12_pew 1 = .ok (.iload_n 2, 1) := by decide +kernel
theorem dX12_pew_2 : decode cX12_pew 2 = .ok (.invokestatic 316, 3) := by decide +kernel
theorem dX12_pew_5 : decode cX12_pew 5 = .ok (.ifCond .ne 5, 3) := by decide +kernel
theorem dX12_pew_8 : decode cX12_pew 8 = .ok (.iconst (-1), 1) := by decide +kernel
theorem dX12_pew_9 : decode cX12_pew 9 = .ok (.ireturn, 1) := by decide +kernel
theorem dX12_pew_10 : decode cX12_pew 10 = .ok (.bipush 8, 2) := by decide +kernel
theorem dX12_pew_12 : decode cX12_pew 12 = .ok (.iload_n 1, 1) := by decide +kernel
theorem dX12_pew_13 : decode cX12_pew 13 = .ok (.imul, 1) := by decide +kernel
theorem dX12_pew_14 : decode cX12_pew 14 = .ok (.iload_n 2, 1) := by decide +kernel
theorem dX12_pew_15 : decode cX12_pew 15 = .ok (.iadd, 1) := by decide +kernel
theorem dX12_pew_16 : decode cX12_pew 16 = .ok (.istore 4, 2) := by decide +kernel
theorem dX12_pew_18 : decode cX12_pew 18 = .ok (.iload_n 3, 1) := by decide +kernel
theorem dX12_pew_19 : decode cX12_pew 19 = .ok (.tableswitch 70 0 4 #[33, 40, 47, 55, 63], 33) := by decide +kernel
theorem dX12_pew_52 : decode cX12_pew 52 = .ok (.aload_n 0, 1) := by decide +kernel
theorem dX12_pew_53 : decode cX12_pew 53 = .ok (.iload 4, 2) := by decide +kernel
theorem dX12_pew_55 : decode cX12_pew 55 = .ok (.invokevirtual 97, 3) := by decide +kernel
theorem dX12_pew_58 : decode cX12_pew 58 = .ok (.ireturn, 1) := by decide +kernel
theorem dX12_pew_59 : decode cX12_pew 59 = .ok (.aload_n 0, 1) := by decide +kernel
theorem dX12_pew_60 : decode cX12_pew 60 = .ok (.iload 4, 2) := by decide +kernel
theorem dX12_pew_62 : decode cX12_pew 62 = .ok (.invokevirtual 319, 3) := by decide +kernel
theorem dX12_pew_65 : decode cX12_pew 65 = .ok (.ireturn, 1) := by decide +kernel
theorem dX12_pew_66 : decode cX12_pew 66 = .ok (.aload_n 0, 1) := by decide +kernel
theorem dX12_pew_67 : decode cX12_pew 67 = .ok (.iload 4, 2) := by decide +kernel
theorem dX12_pew_69 : decode cX12_pew 69 = .ok (.iconst 0, 1) := by decide +kernel
theorem dX12_pew_70 : decode cX12_pew 70 = .ok (.invokevirtual 322, 3) := by decide +kernel
theorem dX12_pew_73 : decode cX12_pew 73 = .ok (.ireturn, 1) := by decide +kernel
theorem dX12_pew_74 : decode cX12_pew 74 = .ok (.aload_n 0, 1) := by decide +kernel
theorem dX12_pew_75 : decode cX12_pew 75 = .ok (.iload 4, 2) := by decide +kernel
theorem dX12_pew_77 : decode cX12_pew 77 = .ok (.iconst 1, 1) := by decide +kernel
theorem dX12_pew_78 : decode cX12_pew 78 = .ok (.invokevirtual 322, 3) := by decide +kernel
theorem dX12_pew_81 : decode cX12_pew 81 = .ok (.ireturn, 1) := by decide +kernel
theorem dX12_pew_82 : decode cX12_pew 82 = .ok (.aload_n 0, 1) := by decide +kernel
theorem dX12_pew_83 : decode cX12_pew 83 = .ok (.iload 4, 2) := by decide +kernel
theorem dX12_pew_85 : decode cX12_pew 85 = .ok (.invokevirtual 326, 3) := by decide +kernel
theorem dX12_pew_88 : decode cX12_pew 88 = .ok (.ireturn, 1) := by decide +kernel
theorem dX12_pew_89 : decode cX12_pew 89 = .ok (.iconst (-1), 1) := by decide +kernel
theorem dX12_pew_90 : decode cX12_pew 90 = .ok (.ireturn, 1) := by decide +kernel
theorem dX12_torn_0 : decode cX12_torn 0 = .ok (.iconst 0, 1) := by decide +kernel
theorem dX12_torn_1 : decode cX12_torn 1 = .ok (.istore_n 1, 1) := by decide +kernel
theorem dX12_torn_2 : decode cX12_torn 2 = .ok (.iconst 0, 1) := by decide +kernel
theorem dX12_torn_3 : decode cX12_torn 3 = .ok (.istore_n 2, 1) := by decide +kernel
theorem dX12_torn_4 : decode cX12_torn 4 = .ok (.iconst 0, 1) := by decide +kernel
theorem dX12_torn_5 : decode cX12_torn 5 = .ok (.istore_n 3, 1) := by decide +kernel
theorem dX12_torn_6 : decode cX12_torn 6 = .ok (.iload_n 3, 1) := by decide +kernel
theorem dX12_torn_7 : decode cX12_torn 7 = .ok (.bipush 16, 2) := by decide +kernel
theorem dX12_torn_9 : decode cX12_torn 9 = .ok (.if_icmp .ge 27, 3) := by decide +kernel
theorem dX12_torn_12 : decode cX12_torn 12 = .ok (.iload_n 2, 1) := by decide +kernel
theorem dX12_torn_13 : decode cX12_torn 13 = .ok (.iload_n 1, 1) := by decide +kernel
theorem dX12_torn_14 : decode cX12_torn 14 = .ok (.aload_n 0, 1) := by decide +kernel
theorem dX12_torn_15 : decode cX12_torn 15 = .ok (.iload_n 3, 1) := by decide +kernel
theorem dX12_torn_16 : decode cX12_torn 16 = .ok (.invokevirtual 319, 3) := by decide +kernel
theorem dX12_torn_19 : decode cX12_torn 19 = .ok (.iand, 1) := by decide +kernel
theorem dX12_torn_20 : decode cX12_torn 20 = .ok (.ior, 1) := by decide +kernel
theorem dX12_torn_21 : decode cX12_torn 21 = .ok (.istore_n 2, 1) := by decide +kernel
theorem dX12_torn_22 : decode cX12_torn 22 = .ok (.iload_n 1, 1) := by decide +kernel
theorem dX12_torn_23 : decode cX12_torn 23 = .ok (.aload_n 0, 1) := by decide +kernel
theorem dX12_torn_24 : decode cX12_torn 24 = .ok (.iload_n 3, 1) := by decide +kernel
theorem dX12_torn_25 : decode cX12_torn 25 = .ok (.invokevirtual 319, 3) := by decide +kernel
theorem dX12_torn_28 : decode cX12_torn 28 = .ok (.ior, 1) := by decide +kernel
theorem dX12_torn_29 : decode cX12_torn 29 = .ok (.istore_n 1, 1) := by decide +kernel
theorem dX12_torn_30 : decode cX12_torn 30 = .ok (.iinc 3 1, 3) := by decide +kernel
theorem dX12_torn_33 : decode cX12_torn 33 = .ok (.goto (-27), 3) := by decide +kernel
theorem dX12_torn_36 : decode cX12_torn 36 = .ok (.iload_n 2, 1) := by decide +kernel
theorem dX12_torn_37 : decode cX12_torn 37 = .ok (.ireturn, 1) := by decide +kernel
theorem dX12_together_0 : decode cX12_together 0 = .ok (.iload_n 1, 1) := by decide +kernel
theorem dX12_together_1 : decode cX12_together 1 = .ok (.iconst 0, 1) := by decide +kernel
theorem dX12_together_2 : decode cX12_together 2 = .ok (.bipush 15, 2) := by decide +kernel
theorem dX12_together_4 : decode cX12_together 4 = .ok (.invokestatic 108, 3) := by decide +kernel
theorem dX12_together_7 : decode cX12_together 7 = .ok (.ifCond .eq 12, 3) := by decide +kernel
theorem dX12_together_10 : decode cX12_together 10 = .ok (.iload_n 2, 1) := by decide +kernel
theorem dX12_together_11 : decode cX12_together 11 = .ok (.iconst 0, 1) := by decide +kernel
theorem dX12_together_12 : decode cX12_together 12 = .ok (.iconst 1, 1) := by decide +kernel
theorem dX12_together_13 : decode cX12_together 13 = .ok (.invokestatic 108, 3) := by decide +kernel
theorem dX12_together_16 : decode cX12_together 16 = .ok (.ifCond .ne 5, 3) := by decide +kernel
theorem dX12_together_19 : decode cX12_together 19 = .ok (.iconst (-1), 1) := by decide +kernel
theorem dX12_together_20 : decode cX12_together 20 = .ok (.ireturn, 1) := by decide +kernel
theorem dX12_together_21 : decode cX12_together 21 = .ok (.aload_n 0, 1) := by decide +kernel
theorem dX12_together_22 : decode cX12_together 22 = .ok (.iload_n 1, 1) := by decide +kernel
theorem dX12_together_23 : decode cX12_together 23 = .ok (.invokevirtual 329, 3) := by decide +kernel
theorem dX12_together_26 : decode cX12_together 26 = .ok (.istore_n 3, 1) := by decide +kernel
theorem dX12_together_27 : decode cX12_together 27 = .ok (.iload_n 3, 1) := by decide +kernel
theorem dX12_together_28 : decode cX12_together 28 = .ok (.ifCond .ne 6, 3) := by decide +kernel
theorem dX12_together_31 : decode cX12_together 31 = .ok (.bipush (-3), 2) := by decide +kernel
theorem dX12_together_33 : decode cX12_together 33 = .ok (.ireturn, 1) := by decide +kernel
theorem dX12_together_34 : decode cX12_together 34 = .ok (.bipush (-2), 2) := by decide +kernel
theorem dX12_together_36 : decode cX12_together 36 = .ok (.istore 4, 2) := by decide +kernel
theorem dX12_together_38 : decode cX12_together 38 = .ok (.ldc_w 332, 3) := by decide +kernel
theorem dX12_together_41 : decode cX12_together 41 = .ok (.istore 5, 2) := by decide +kernel
theorem dX12_together_43 : decode cX12_together 43 = .ok (.iconst 0, 1) := by decide +kernel
theorem dX12_together_44 : decode cX12_together 44 = .ok (.istore 6, 2) := by decide +kernel
theorem dX12_together_46 : decode cX12_together 46 = .ok (.iload 6, 2) := by decide +kernel
theorem dX12_together_48 : decode cX12_together 48 = .ok (.bipush 16, 2) := by decide +kernel
theorem dX12_together_50 : decode cX12_together 50 = .ok (.if_icmp .ge 52, 3) := by decide +kernel
theorem dX12_together_53 : decode cX12_together 53 = .ok (.iload_n 3, 1) := by decide +kernel
theorem dX12_together_54 : decode cX12_together 54 = .ok (.aload_n 0, 1) := by decide +kernel
theorem dX12_together_55 : decode cX12_together 55 = .ok (.iload 6, 2) := by decide +kernel
theorem dX12_together_57 : decode cX12_together 57 = .ok (.iload_n 1, 1) := by decide +kernel
theorem dX12_together_58 : decode cX12_together 58 = .ok (.invokevirtual 104, 3) := by decide +kernel
theorem dX12_together_61 : decode cX12_together 61 = .ok (.isub, 1) := by decide +kernel
theorem dX12_together_62 : decode cX12_together 62 = .ok (.istore 7, 2) := by decide +kernel
theorem dX12_together_64 : decode cX12_together 64 = .ok (.iload 7, 2) := by decide +kernel
theorem dX12_together_66 : decode cX12_together 66 = .ok (.bipush 9, 2) := by decide +kernel
theorem dX12_together_68 : decode cX12_together 68 = .ok (.aload_n 0, 1) := by decide +kernel
theorem dX12_together_69 : decode cX12_together 69 = .ok (.iload 6, 2) := by decide +kernel
theorem dX12_together_71 : decode cX12_together 71 = .ok (.invokevirtual 97, 3) := by decide +kernel
theorem dX12_together_74 : decode cX12_together 74 = .ok (.isub, 1) := by decide +kernel
theorem dX12_together_75 : decode cX12_together 75 = .ok (.if_icmp .gt 21, 3) := by decide +kernel
theorem dX12_together_78 : decode cX12_together 78 = .ok (.iload 7, 2) := by decide +kernel
theorem dX12_together_80 : decode cX12_together 80 = .ok (.iload 5, 2) := by decide +kernel
theorem dX12_together_82 : decode cX12_together 82 = .ok (.if_icmp .lt 6, 3) := by decide +kernel
theorem dX12_together_85 : decode cX12_together 85 = .ok (.goto 11, 3) := by decide +kernel
theorem dX12_together_88 : decode cX12_together 88 = .ok (.iload 7, 2) := by decide +kernel
theorem dX12_together_90 : decode cX12_together 90 = .ok (.istore 5, 2) := by decide +kernel
theorem dX12_together_92 : decode cX12_together 92 = .ok (.iload 6, 2) := by decide +kernel
theorem dX12_together_94 : decode cX12_together 94 = .ok (.istore 4, 2) := by decide +kernel
theorem dX12_together_96 : decode cX12_together 96 = .ok (.iinc 6 1, 3) := by decide +kernel
theorem dX12_together_99 : decode cX12_together 99 = .ok (.goto (-53), 3) := by decide +kernel
theorem dX12_together_102 : decode cX12_together 102 = .ok (.iload_n 2, 1) := by decide +kernel
theorem dX12_together_103 : decode cX12_together 103 = .ok (.iconst 1, 1) := by decide +kernel
theorem dX12_together_104 : decode cX12_together 104 = .ok (.if_icmp .eq 10, 3) := by decide +kernel
theorem dX12_together_107 : decode cX12_together 107 = .ok (.iload 4, 2) := by decide +kernel
theorem dX12_together_109 : decode cX12_together 109 = .ok (.bipush (-2), 2) := by decide +kernel
theorem dX12_together_111 : decode cX12_together 111 = .ok (.if_icmp .ne 8, 3) := by decide +kernel
theorem dX12_together_114 : decode cX12_together 114 = .ok (.iload 4, 2) := by decide +kernel
theorem dX12_together_116 : decode cX12_together 116 = .ok (.goto 5, 3) := by decide +kernel
theorem dX12_together_119 : decode cX12_together 119 = .ok (.iload 5, 2) := by decide +kernel
theorem dX12_together_121 : decode cX12_together 121 = .ok (.ireturn, 1) := by decide +kernel
theorem dX12_seesNot_0 : decode cX12_seesNot 0 = .ok (.aload_n 0, 1) := by decide +kernel
theorem dX12_seesNot_1 : decode cX12_seesNot 1 = .ok (.iload_n 1, 1) := by decide +kernel
theorem dX12_seesNot_2 : decode cX12_seesNot 2 = .ok (.invokevirtual 93, 3) := by decide +kernel
theorem dX12_seesNot_5 : decode cX12_seesNot 5 = .ok (.ifCond .eq 55, 3) := by decide +kernel
theorem dX12_seesNot_8 : decode cX12_seesNot 8 = .ok (.iload_n 1, 1) := by decide +kernel
theorem dX12_seesNot_9 : decode cX12_seesNot 9 = .ok (.bipush 72, 2) := by decide +kernel
theorem dX12_seesNot_11 : decode cX12_seesNot 11 = .ok (.irem, 1) := by decide +kernel
theorem dX12_seesNot_12 : decode cX12_seesNot 12 = .ok (.bipush 9, 2) := by decide +kernel
theorem dX12_seesNot_14 : decode cX12_seesNot 14 = .ok (.if_icmp .lt 46, 3) := by decide +kernel
theorem dX12_seesNot_17 : decode cX12_seesNot 17 = .ok (.aload_n 0, 1) := by decide +kernel
theorem dX12_seesNot_18 : decode cX12_seesNot 18 = .ok (.iload_n 1, 1) := by decide +kernel
theorem dX12_seesNot_19 : decode cX12_seesNot 19 = .ok (.bipush 9, 2) := by decide +kernel
theorem dX12_seesNot_21 : decode cX12_seesNot 21 = .ok (.isub, 1) := by decide +kernel
theorem dX12_seesNot_22 : decode cX12_seesNot 22 = .ok (.invokevirtual 93, 3) := by decide +kernel
theorem dX12_seesNot_25 : decode cX12_seesNot 25 = .ok (.ifCond .eq 35, 3) := by decide +kernel
theorem dX12_seesNot_28 : decode cX12_seesNot 28 = .ok (.aload_n 0, 1) := by decide +kernel
theorem dX12_seesNot_29 : decode cX12_seesNot 29 = .ok (.getfield 7, 3) := by decide +kernel
theorem dX12_seesNot_32 : decode cX12_seesNot 32 = .ok (.iconst 0, 1) := by decide +kernel
theorem dX12_seesNot_33 : decode cX12_seesNot 33 = .ok (.iload_n 1, 1) := by decide +kernel
theorem dX12_seesNot_34 : decode cX12_seesNot 34 = .ok (.iadd, 1) := by decide +kernel
theorem dX12_seesNot_35 : decode cX12_seesNot 35 = .ok (.bipush 9, 2) := by decide +kernel
theorem dX12_seesNot_37 : decode cX12_seesNot 37 = .ok (.isub, 1) := by decide +kernel
theorem dX12_seesNot_38 : decode cX12_seesNot 38 = .ok (.iaload, 1) := by decide +kernel
theorem dX12_seesNot_39 : decode cX12_seesNot 39 = .ok (.invokestatic 226, 3) := by decide +kernel
theorem dX12_seesNot_42 : decode cX12_seesNot 42 = .ok (.aload_n 0, 1) := by decide +kernel
theorem dX12_seesNot_43 : decode cX12_seesNot 43 = .ok (.getfield 7, 3) := by decide +kernel
theorem dX12_seesNot_46 : decode cX12_seesNot 46 = .ok (.iconst 0, 1) := by decide +kernel
theorem dX12_seesNot_47 : decode cX12_seesNot 47 = .ok (.iload_n 1, 1) := by decide +kernel
theorem dX12_seesNot_48 : decode cX12_seesNot 48 = .ok (.iadd, 1) := by decide +kernel
theorem dX12_seesNot_49 : decode cX12_seesNot 49 = .ok (.iaload, 1) := by decide +kernel
theorem dX12_seesNot_50 : decode cX12_seesNot 50 = .ok (.invokestatic 226, 3) := by decide +kernel
theorem dX12_seesNot_53 : decode cX12_seesNot 53 = .ok (.if_icmp .le 7, 3) := by decide +kernel
theorem dX12_seesNot_56 : decode cX12_seesNot 56 = .ok (.iconst 1, 1) := by decide +kernel
theorem dX12_seesNot_57 : decode cX12_seesNot 57 = .ok (.goto 4, 3) := by decide +kernel
theorem dX12_seesNot_60 : decode cX12_seesNot 60 = .ok (.iconst 0, 1) := by decide +kernel
theorem dX12_seesNot_61 : decode cX12_seesNot 61 = .ok (.ireturn, 1) := by decide +kernel
theorem dX12_seesNothing_0 : decode cX12_seesNothing 0 = .ok (.iload_n 1, 1) := by decide +kernel
theorem dX12_seesNothing_1 : decode cX12_seesNothing 1 = .ok (.iconst 0, 1) := by decide +kernel
theorem dX12_seesNothing_2 : decode cX12_seesNothing 2 = .ok (.iconst 1, 1) := by decide +kernel
theorem dX12_seesNothing_3 : decode cX12_seesNothing 3 = .ok (.invokestatic 108, 3) := by decide +kernel
theorem dX12_seesNothing_6 : decode cX12_seesNothing 6 = .ok (.ifCond .ne 5, 3) := by decide +kernel
theorem dX12_seesNothing_9 : decode cX12_seesNothing 9 = .ok (.iconst (-1), 1) := by decide +kernel
theorem dX12_seesNothing_10 : decode cX12_seesNothing 10 = .ok (.ireturn, 1) := by decide +kernel
theorem dX12_seesNothing_11 : decode cX12_seesNothing 11 = .ok (.iconst 0, 1) := by decide +kernel
theorem dX12_seesNothing_12 : decode cX12_seesNothing 12 = .ok (.istore_n 2, 1) := by decide +kernel
theorem dX12_seesNothing_13 : decode cX12_seesNothing 13 = .ok (.bipush (-2), 2) := by decide +kernel
theorem dX12_seesNothing_15 : decode cX12_seesNothing 15 = .ok (.istore_n 3, 1) := by decide +kernel
theorem dX12_seesNothing_16 : decode cX12_seesNothing 16 = .ok (.sipush 143, 3) := by decide +kernel
theorem dX12_seesNothing_19 : decode cX12_seesNothing 19 = .ok (.istore 4, 2) := by decide +kernel
theorem dX12_seesNothing_21 : decode cX12_seesNothing 21 = .ok (.iload 4, 2) := by decide +kernel
theorem dX12_seesNothing_23 : decode cX12_seesNothing 23 = .ok (.ifCond .lt 28, 3) := by decide +kernel
theorem dX12_seesNothing_26 : decode cX12_seesNothing 26 = .ok (.aload_n 0, 1) := by decide +kernel
theorem dX12_seesNothing_27 : decode cX12_seesNothing 27 = .ok (.iload 4, 2) := by decide +kernel
theorem dX12_seesNothing_29 : decode cX12_seesNothing 29 = .ok (.invokevirtual 333, 3) := by decide +kernel
theorem dX12_seesNothing_32 : decode cX12_seesNothing 32 = .ok (.ifCond .ne 6, 3) := by decide +kernel
theorem dX12_seesNothing_35 : decode cX12_seesNothing 35 = .ok (.goto 10, 3) := by decide +kernel
theorem dX12_seesNothing_38 : decode cX12_seesNothing 38 = .ok (.iload_n 2, 1) := by decide +kernel
theorem dX12_seesNothing_39 : decode cX12_seesNothing 39 = .ok (.iconst 1, 1) := by decide +kernel
theorem dX12_seesNothing_40 : decode cX12_seesNothing 40 = .ok (.iadd, 1) := by decide +kernel
theorem dX12_seesNothing_41 : decode cX12_seesNothing 41 = .ok (.istore_n 2, 1) := by decide +kernel
theorem dX12_seesNothing_42 : decode cX12_seesNothing 42 = .ok (.iload 4, 2) := by decide +kernel
theorem dX12_seesNothing_44 : decode cX12_seesNothing 44 = .ok (.istore_n 3, 1) := by decide +kernel
theorem dX12_seesNothing_45 : decode cX12_seesNothing 45 = .ok (.iinc 4 (-1), 3) := by decide +kernel
theorem dX12_seesNothing_48 : decode cX12_seesNothing 48 = .ok (.goto (-27), 3) := by decide +kernel
theorem dX12_seesNothing_51 : decode cX12_seesNothing 51 = .ok (.iload_n 1, 1) := by decide +kernel
theorem dX12_seesNothing_52 : decode cX12_seesNothing 52 = .ok (.ifCond .ne 7, 3) := by decide +kernel
theorem dX12_seesNothing_55 : decode cX12_seesNothing 55 = .ok (.iload_n 2, 1) := by decide +kernel
theorem dX12_seesNothing_56 : decode cX12_seesNothing 56 = .ok (.goto 4, 3) := by decide +kernel
theorem dX12_seesNothing_59 : decode cX12_seesNothing 59 = .ok (.iload_n 3, 1) := by decide +kernel
theorem dX12_seesNothing_60 : decode cX12_seesNothing 60 = .ok (.ireturn, 1) := by decide +kernel
theorem dX12_even_0 : decode cX12_even 0 = .ok (.iload_n 1, 1) := by decide +kernel
theorem dX12_even_1 : decode cX12_even 1 = .ok (.iconst 1, 1) := by decide +kernel
theorem dX12_even_2 : decode cX12_even 2 = .ok (.bipush 12, 2) := by decide +kernel
theorem dX12_even_4 : decode cX12_even 4 = .ok (.invokestatic 108, 3) := by decide +kernel
theorem dX12_even_7 : decode cX12_even 7 = .ok (.ifCond .eq 43, 3) := by decide +kernel
theorem dX12_even_10 : decode cX12_even 10 = .ok (.iload_n 2, 1) := by decide +kernel
theorem dX12_even_11 : decode cX12_even 11 = .ok (.iconst 0, 1) := by decide +kernel
theorem dX12_even_12 : decode cX12_even 12 = .ok (.sipush 200, 3) := by decide +kernel
theorem dX12_even_15 : decode cX12_even 15 = .ok (.invokestatic 108, 3) := by decide +kernel
theorem dX12_even_18 : decode cX12_even 18 = .ok (.ifCond .eq 32, 3) := by decide +kernel
theorem dX12_even_21 : decode cX12_even 21 = .ok (.iload_n 3, 1) := by decide +kernel
theorem dX12_even_22 : decode cX12_even 22 = .ok (.iconst 0, 1) := by decide +kernel
theorem dX12_even_23 : decode cX12_even 23 = .ok (.sipush 200, 3) := by decide +kernel
theorem dX12_even_26 : decode cX12_even 26 = .ok (.invokestatic 108, 3) := by decide +kernel
theorem dX12_even_29 : decode cX12_even 29 = .ok (.ifCond .eq 21, 3) := by decide +kernel
theorem dX12_even_32 : decode cX12_even 32 = .ok (.iload 4, 2) := by decide +kernel
theorem dX12_even_34 : decode cX12_even 34 = .ok (.iconst 0, 1) := by decide +kernel
theorem dX12_even_35 : decode cX12_even 35 = .ok (.iconst 1, 1) := by decide +kernel
theorem dX12_even_36 : decode cX12_even 36 = .ok (.invokestatic 108, 3) := by decide +kernel
theorem dX12_even_39 : decode cX12_even 39 = .ok (.ifCond .eq 11, 3) := by decide +kernel
theorem dX12_even_42 : decode cX12_even 42 = .ok (.iload_n 1, 1) := by decide +kernel
theorem dX12_even_43 : decode cX12_even 43 = .ok (.aload_n 0, 1) := by decide +kernel
theorem dX12_even_44 : decode cX12_even 44 = .ok (.getfield 112, 3) := by decide +kernel
theorem dX12_even_47 : decode cX12_even 47 = .ok (.if_icmp .le 5, 3) := by decide +kernel
theorem dX12_even_50 : decode cX12_even 50 = .ok (.iconst (-1), 1) := by decide +kernel
theorem dX12_even_51 : decode cX12_even 51 = .ok (.ireturn, 1) := by decide +kernel
theorem dX12_even_52 : decode cX12_even 52 = .ok (.aload_n 0, 1) := by decide +kernel
theorem dX12_even_53 : decode cX12_even 53 = .ok (.iconst 0, 1) := by decide +kernel
theorem dX12_even_54 : decode cX12_even 54 = .ok (.putfield 112, 3) := by decide +kernel
theorem dX12_even_57 : decode cX12_even 57 = .ok (.iconst 0, 1) := by decide +kernel
theorem dX12_even_58 : decode cX12_even 58 = .ok (.istore 5, 2) := by decide +kernel
theorem dX12_even_60 : decode cX12_even 60 = .ok (.ldc_w 332, 3) := by decide +kernel
theorem dX12_even_63 : decode cX12_even 63 = .ok (.istore 6, 2) := by decide +kernel
theorem dX12_even_65 : decode cX12_even 65 = .ok (.iconst 0, 1) := by decide +kernel
theorem dX12_even_66 : decode cX12_even 66 = .ok (.istore 7, 2) := by decide +kernel
theorem dX12_even_68 : decode cX12_even 68 = .ok (.iload 7, 2) := by decide +kernel
theorem dX12_even_70 : decode cX12_even 70 = .ok (.iconst 1, 1) := by decide +kernel
theorem dX12_even_71 : decode cX12_even 71 = .ok (.iload_n 1, 1) := by decide +kernel
theorem dX12_even_72 : decode cX12_even 72 = .ok (.ishl, 1) := by decide +kernel
theorem dX12_even_73 : decode cX12_even 73 = .ok (.if_icmp .ge 84, 3) := by decide +kernel
theorem dX12_even_76 : decode cX12_even 76 = .ok (.iload_n 2, 1) := by decide +kernel
theorem dX12_even_77 : decode cX12_even 77 = .ok (.iload_n 3, 1) := by decide +kernel
theorem dX12_even_78 : decode cX12_even 78 = .ok (.isub, 1) := by decide +kernel
theorem dX12_even_79 : decode cX12_even 79 = .ok (.istore 8, 2) := by decide +kernel
theorem dX12_even_81 : decode cX12_even 81 = .ok (.iconst 0, 1) := by decide +kernel
theorem dX12_even_82 : decode cX12_even 82 = .ok (.istore 9, 2) := by decide +kernel
theorem dX12_even_84 : decode cX12_even 84 = .ok (.iload 9, 2) := by decide +kernel
theorem dX12_even_86 : decode cX12_even 86 = .ok (.iload_n 1, 1) := by decide +kernel
theorem dX12_even_87 : decode cX12_even 87 = .ok (.if_icmp .ge 40, 3) := by decide +kernel
theorem dX12_even_90 : decode cX12_even 90 = .ok (.iload 8, 2) := by decide +kernel
theorem dX12_even_92 : decode cX12_even 92 = .ok (.iload 7, 2) := by decide +kernel
theorem dX12_even_94 : decode cX12_even 94 = .ok (.iload 9, 2) := by decide +kernel
theorem dX12_even_96 : decode cX12_even 96 = .ok (.invokestatic 336, 3) := by decide +kernel
theorem dX12_even_99 : decode cX12_even 99 = .ok (.ifCond .eq 12, 3) := by decide +kernel
theorem dX12_even_102 : decode cX12_even 102 = .ok (.aload_n 0, 1) := by decide +kernel
theorem dX12_even_103 : decode cX12_even 103 = .ok (.iload 9, 2) := by decide +kernel
theorem dX12_even_105 : decode cX12_even 105 = .ok (.invokevirtual 339, 3) := by decide +kernel
theorem dX12_even_108 : decode cX12_even 108 = .ok (.goto 10, 3) := by decide +kernel
theorem dX12_even_111 : decode cX12_even 111 = .ok (.aload_n 0, 1) := by decide +kernel
theorem dX12_even_112 : decode cX12_even 112 = .ok (.iload 9, 2) := by decide +kernel
theorem dX12_even_114 : decode cX12_even 114 = .ok (.invokevirtual 339, 3) := by decide +kernel
theorem dX12_even_117 : decode cX12_even 117 = .ok (.ineg, 1) := by decide +kernel
theorem dX12_even_118 : decode cX12_even 118 = .ok (.iadd, 1) := by decide +kernel
theorem dX12_even_119 : decode cX12_even 119 = .ok (.istore 8, 2) := by decide +kernel
theorem dX12_even_121 : decode cX12_even 121 = .ok (.iinc 9 1, 3) := by decide +kernel
theorem dX12_even_124 : decode cX12_even 124 = .ok (.goto (-40), 3) := by decide +kernel
theorem dX12_even_127 : decode cX12_even 127 = .ok (.iload 8, 2) := by decide +kernel
theorem dX12_even_129 : decode cX12_even 129 = .ok (.invokestatic 342, 3) := by decide +kernel
theorem dX12_even_132 : decode cX12_even 132 = .ok (.iload 6, 2) := by decide +kernel
theorem dX12_even_134 : decode cX12_even 134 = .ok (.if_icmp .lt 6, 3) := by decide +kernel
theorem dX12_even_137 : decode cX12_even 137 = .ok (.goto 14, 3) := by decide +kernel
theorem dX12_even_140 : decode cX12_even 140 = .ok (.iload 8, 2) := by decide +kernel
theorem dX12_even_142 : decode cX12_even 142 = .ok (.invokestatic 342, 3) := by decide +kernel
theorem dX12_even_145 : decode cX12_even 145 = .ok (.istore 6, 2) := by decide +kernel
theorem dX12_even_147 : decode cX12_even 147 = .ok (.iload 7, 2) := by decide +kernel
theorem dX12_even_149 : decode cX12_even 149 = .ok (.istore 5, 2) := by decide +kernel
theorem dX12_even_151 : decode cX12_even 151 = .ok (.iinc 7 1, 3) := by decide +kernel
theorem dX12_even_154 : decode cX12_even 154 = .ok (.goto (-86), 3) := by decide +kernel
theorem dX12_even_157 : decode cX12_even 157 = .ok (.iload 4, 2) := by decide +kernel
theorem dX12_even_159 : decode cX12_even 159 = .ok (.ifCond .ne 8, 3) := by decide +kernel
theorem dX12_even_162 : decode cX12_even 162 = .ok (.iload 6, 2) := by decide +kernel
theorem dX12_even_164 : decode cX12_even 164 = .ok (.goto 5, 3) := by decide +kernel
theorem dX12_even_167 : decode cX12_even 167 = .ok (.iload 5, 2) := by decide +kernel
theorem dX12_even_169 : decode cX12_even 169 = .ok (.ireturn, 1) := by decide +kernel
theorem dX12_order_0 : decode cX12_order 0 = .ok (.iload_n 1, 1) := by decide +kernel
theorem dX12_order_1 : decode cX12_order 1 = .ok (.iload_n 2, 1) := by decide +kernel
theorem dX12_order_2 : decode cX12_order 2 = .ok (.invokestatic 316, 3) := by decide +kernel
theorem dX12_order_5 : decode cX12_order 5 = .ok (.ifCond .eq 12, 3) := by decide +kernel
theorem dX12_order_8 : decode cX12_order 8 = .ok (.iload_n 3, 1) := by decide +kernel
theorem dX12_order_9 : decode cX12_order 9 = .ok (.iconst 0, 1) := by decide +kernel
theorem dX12_order_10 : decode cX12_order 10 = .ok (.iconst 2, 1) := by decide +kernel
theorem dX12_order_11 : decode cX12_order 11 = .ok (.invokestatic 108, 3) := by decide +kernel
theorem dX12_order_14 : decode cX12_order 14 = .ok (.ifCond .ne 5, 3) := by decide +kernel
theorem dX12_order_17 : decode cX12_order 17 = .ok (.iconst (-1), 1) := by decide +kernel
theorem dX12_order_18 : decode cX12_order 18 = .ok (.ireturn, 1) := by decide +kernel
theorem dX12_order_19 : decode cX12_order 19 = .ok (.bipush 9, 2) := by decide +kernel
theorem dX12_order_21 : decode cX12_order 21 = .ok (.bipush 8, 2) := by decide +kernel
theorem dX12_order_23 : decode cX12_order 23 = .ok (.iload_n 1, 1) := by decide +kernel
theorem dX12_order_24 : decode cX12_order 24 = .ok (.imul, 1) := by decide +kernel
theorem dX12_order_25 : decode cX12_order 25 = .ok (.iload_n 2, 1) := by decide +kernel
theorem dX12_order_26 : decode cX12_order 26 = .ok (.iadd, 1) := by decide +kernel
theorem dX12_order_27 : decode cX12_order 27 = .ok (.imul, 1) := by decide +kernel
theorem dX12_order_28 : decode cX12_order 28 = .ok (.istore 4, 2) := by decide +kernel
theorem dX12_order_30 : decode cX12_order 30 = .ok (.iconst 0, 1) := by decide +kernel
theorem dX12_order_31 : decode cX12_order 31 = .ok (.istore 5, 2) := by decide +kernel
theorem dX12_order_33 : decode cX12_order 33 = .ok (.iload 4, 2) := by decide +kernel
theorem dX12_order_35 : decode cX12_order 35 = .ok (.istore 6, 2) := by decide +kernel
theorem dX12_order_37 : decode cX12_order 37 = .ok (.iload 6, 2) := by decide +kernel
theorem dX12_order_39 : decode cX12_order 39 = .ok (.iload 4, 2) := by decide +kernel
theorem dX12_order_41 : decode cX12_order 41 = .ok (.bipush 9, 2) := by decide +kernel
theorem dX12_order_43 : decode cX12_order 43 = .ok (.iadd, 1) := by decide +kernel
theorem dX12_order_44 : decode cX12_order 44 = .ok (.if_icmp .ge 93, 3) := by decide +kernel
theorem dX12_order_47 : decode cX12_order 47 = .ok (.iload 6, 2) := by decide +kernel
theorem dX12_order_49 : decode cX12_order 49 = .ok (.iconst 1, 1) := by decide +kernel
theorem dX12_order_50 : decode cX12_order 50 = .ok (.iadd, 1) := by decide +kernel
theorem dX12_order_51 : decode cX12_order 51 = .ok (.istore 7, 2) := by decide +kernel
theorem dX12_order_53 : decode cX12_order 53 = .ok (.iload 7, 2) := by decide +kernel
theorem dX12_order_55 : decode cX12_order 55 = .ok (.iload 4, 2) := by decide +kernel
theorem dX12_order_57 : decode cX12_order 57 = .ok (.bipush 9, 2) := by decide +kernel
theorem dX12_order_59 : decode cX12_order 59 = .ok (.iadd, 1) := by decide +kernel
theorem dX12_order_60 : decode cX12_order 60 = .ok (.if_icmp .ge 71, 3) := by decide +kernel
theorem dX12_order_63 : decode cX12_order 63 = .ok (.aload_n 0, 1) := by decide +kernel
theorem dX12_order_64 : decode cX12_order 64 = .ok (.iload 6, 2) := by decide +kernel
theorem dX12_order_66 : decode cX12_order 66 = .ok (.invokevirtual 93, 3) := by decide +kernel
theorem dX12_order_69 : decode cX12_order 69 = .ok (.ifCond .eq 56, 3) := by decide +kernel
theorem dX12_order_72 : decode cX12_order 72 = .ok (.aload_n 0, 1) := by decide +kernel
theorem dX12_order_73 : decode cX12_order 73 = .ok (.iload 7, 2) := by decide +kernel
theorem dX12_order_75 : decode cX12_order 75 = .ok (.invokevirtual 93, 3) := by decide +kernel
theorem dX12_order_78 : decode cX12_order 78 = .ok (.ifCond .ne 6, 3) := by decide +kernel
theorem dX12_order_81 : decode cX12_order 81 = .ok (.goto 44, 3) := by decide +kernel
theorem dX12_order_84 : decode cX12_order 84 = .ok (.iload_n 3, 1) := by decide +kernel
theorem dX12_order_85 : decode cX12_order 85 = .ok (.iconst 1, 1) := by decide +kernel
theorem dX12_order_86 : decode cX12_order 86 = .ok (.if_icmp .eq 33, 3) := by decide +kernel
theorem dX12_order_89 : decode cX12_order 89 = .ok (.iload_n 3, 1) := by decide +kernel
theorem dX12_order_90 : decode cX12_order 90 = .ok (.iconst 2, 1) := by decide +kernel
theorem dX12_order_91 : decode cX12_order 91 = .ok (.if_icmp .ne 34, 3) := by decide +kernel
theorem dX12_order_94 : decode cX12_order 94 = .ok (.aload_n 0, 1) := by decide +kernel
theorem dX12_order_95 : decode cX12_order 95 = .ok (.getfield 7, 3) := by decide +kernel
theorem dX12_order_98 : decode cX12_order 98 = .ok (.sipush 144, 3) := by decide +kernel
theorem dX12_order_101 : decode cX12_order 101 = .ok (.iload 6, 2) := by decide +kernel
theorem dX12_order_103 : decode cX12_order 103 = .ok (.iadd, 1) := by decide +kernel
theorem dX12_order_104 : decode cX12_order 104 = .ok (.iaload, 1) := by decide +kernel
theorem dX12_order_105 : decode cX12_order 105 = .ok (.aload_n 0, 1) := by decide +kernel
theorem dX12_order_106 : decode cX12_order 106 = .ok (.getfield 7, 3) := by decide +kernel
theorem dX12_order_109 : decode cX12_order 109 = .ok (.sipush 144, 3) := by decide +kernel
theorem dX12_order_112 : decode cX12_order 112 = .ok (.iload 7, 2) := by decide +kernel
theorem dX12_order_114 : decode cX12_order 114 = .ok (.iadd, 1) := by decide +kernel
theorem dX12_order_115 : decode cX12_order 115 = .ok (.iaload, 1) := by decide +kernel
theorem dX12_order_116 : decode cX12_order 116 = .ok (.if_icmp .ge 9, 3) := by decide +kernel
theorem dX12_order_119 : decode cX12_order 119 = .ok (.iload 5, 2) := by decide +kernel
theorem dX12_order_121 : decode cX12_order 121 = .ok (.iconst 1, 1) := by decide +kernel
theorem dX12_order_122 : decode cX12_order 122 = .ok (.iadd, 1) := by decide +kernel
theorem dX12_order_123 : decode cX12_order 123 = .ok (.istore 5, 2) := by decide +kernel
theorem dX12_order_125 : decode cX12_order 125 = .ok (.iinc 7 1, 3) := by decide +kernel
theorem dX12_order_128 : decode cX12_order 128 = .ok (.goto (-75), 3) := by decide +kernel
theorem dX12_order_131 : decode cX12_order 131 = .ok (.iinc 6 1, 3) := by decide +kernel
theorem dX12_order_134 : decode cX12_order 134 = .ok (.goto (-97), 3) := by decide +kernel
theorem dX12_order_137 : decode cX12_order 137 = .ok (.iload 5, 2) := by decide +kernel
theorem dX12_order_139 : decode cX12_order 139 = .ok (.ireturn, 1) := by decide +kernel
theorem dX12_sumOf_0 : decode cX12_sumOf 0 = .ok (.iconst 0, 1) := by decide +kernel
theorem dX12_sumOf_1 : decode cX12_sumOf 1 = .ok (.istore_n 3, 1) := by decide +kernel
theorem dX12_sumOf_2 : decode cX12_sumOf 2 = .ok (.iconst 0, 1) := by decide +kernel
theorem dX12_sumOf_3 : decode cX12_sumOf 3 = .ok (.istore 4, 2) := by decide +kernel
theorem dX12_sumOf_5 : decode cX12_sumOf 5 = .ok (.iload 4, 2) := by decide +kernel
theorem dX12_sumOf_7 : decode cX12_sumOf 7 = .ok (.iload_n 2, 1) := by decide +kernel
theorem dX12_sumOf_8 : decode cX12_sumOf 8 = .ok (.if_icmp .ge 27, 3) := by decide +kernel
theorem dX12_sumOf_11 : decode cX12_sumOf 11 = .ok (.iload_n 1, 1) := by decide +kernel
theorem dX12_sumOf_12 : decode cX12_sumOf 12 = .ok (.iload 4, 2) := by decide +kernel
theorem dX12_sumOf_14 : decode cX12_sumOf 14 = .ok (.invokestatic 336, 3) := by decide +kernel
theorem dX12_sumOf_17 : decode cX12_sumOf 17 = .ok (.ifCond .eq 12, 3) := by decide +kernel
theorem dX12_sumOf_20 : decode cX12_sumOf 20 = .ok (.iload_n 3, 1) := by decide +kernel
theorem dX12_sumOf_21 : decode cX12_sumOf 21 = .ok (.aload_n 0, 1) := by decide +kernel
theorem dX12_sumOf_22 : decode cX12_sumOf 22 = .ok (.iload 4, 2) := by decide +kernel
theorem dX12_sumOf_24 : decode cX12_sumOf 24 = .ok (.invokevirtual 339, 3) := by decide +kernel
theorem dX12_sumOf_27 : decode cX12_sumOf 27 = .ok (.iadd, 1) := by decide +kernel
theorem dX12_sumOf_28 : decode cX12_sumOf 28 = .ok (.istore_n 3, 1) := by decide +kernel
theorem dX12_sumOf_29 : decode cX12_sumOf 29 = .ok (.iinc 4 1, 3) := by decide +kernel
theorem dX12_sumOf_32 : decode cX12_sumOf 32 = .ok (.goto (-27), 3) := by decide +kernel
theorem dX12_sumOf_35 : decode cX12_sumOf 35 = .ok (.iload_n 3, 1) := by decide +kernel
theorem dX12_sumOf_36 : decode cX12_sumOf 36 = .ok (.ireturn, 1) := by decide +kernel
theorem dX12_moreFit_0 : decode cX12_moreFit 0 = .ok (.iload_n 1, 1) := by decide +kernel
theorem dX12_moreFit_1 : decode cX12_moreFit 1 = .ok (.iconst 1, 1) := by decide +kernel
theorem dX12_moreFit_2 : decode cX12_moreFit 2 = .ok (.bipush 6, 2) := by decide +kernel
theorem dX12_moreFit_4 : decode cX12_moreFit 4 = .ok (.invokestatic 108, 3) := by decide +kernel
theorem dX12_moreFit_7 : decode cX12_moreFit 7 = .ok (.ifCond .eq 20, 3) := by decide +kernel
theorem dX12_moreFit_10 : decode cX12_moreFit 10 = .ok (.iload_n 2, 1) := by decide +kernel
theorem dX12_moreFit_11 : decode cX12_moreFit 11 = .ok (.iconst 0, 1) := by decide +kernel
theorem dX12_moreFit_12 : decode cX12_moreFit 12 = .ok (.iconst 1, 1) := by decide +kernel
theorem dX12_moreFit_13 : decode cX12_moreFit 13 = .ok (.invokestatic 108, 3) := by decide +kernel
theorem dX12_moreFit_16 : decode cX12_moreFit 16 = .ok (.ifCond .eq 11, 3) := by decide +kernel
theorem dX12_moreFit_19 : decode cX12_moreFit 19 = .ok (.iload_n 1, 1) := by decide +kernel
theorem dX12_moreFit_20 : decode cX12_moreFit 20 = .ok (.aload_n 0, 1) := by decide +kernel
theorem dX12_moreFit_21 : decode cX12_moreFit 21 = .ok (.getfield 112, 3) := by decide +kernel
theorem dX12_moreFit_24 : decode cX12_moreFit 24 = .ok (.if_icmp .le 5, 3) := by decide +kernel
theorem dX12_moreFit_27 : decode cX12_moreFit 27 = .ok (.iconst (-1), 1) := by decide +kernel
theorem dX12_moreFit_28 : decode cX12_moreFit 28 = .ok (.ireturn, 1) := by decide +kernel
theorem dX12_moreFit_29 : decode cX12_moreFit 29 = .ok (.aload_n 0, 1) := by decide +kernel
theorem dX12_moreFit_30 : decode cX12_moreFit 30 = .ok (.iconst 0, 1) := by decide +kernel
theorem dX12_moreFit_31 : decode cX12_moreFit 31 = .ok (.putfield 112, 3) := by decide +kernel
theorem dX12_moreFit_34 : decode cX12_moreFit 34 = .ok (.iconst 0, 1) := by decide +kernel
theorem dX12_moreFit_35 : decode cX12_moreFit 35 = .ok (.istore_n 3, 1) := by decide +kernel
theorem dX12_moreFit_36 : decode cX12_moreFit 36 = .ok (.iload_n 3, 1) := by decide +kernel
theorem dX12_moreFit_37 : decode cX12_moreFit 37 = .ok (.iload_n 1, 1) := by decide +kernel
theorem dX12_moreFit_38 : decode cX12_moreFit 38 = .ok (.if_icmp .ge 26, 3) := by decide +kernel
theorem dX12_moreFit_41 : decode cX12_moreFit 41 = .ok (.aload_n 0, 1) := by decide +kernel
theorem dX12_moreFit_42 : decode cX12_moreFit 42 = .ok (.iload_n 3, 1) := by decide +kernel
theorem dX12_moreFit_43 : decode cX12_moreFit 43 = .ok (.invokevirtual 339, 3) := by decide +kernel
theorem dX12_moreFit_46 : decode cX12_moreFit 46 = .ok (.iconst 1, 1) := by decide +kernel
theorem dX12_moreFit_47 : decode cX12_moreFit 47 = .ok (.bipush 9, 2) := by decide +kernel
theorem dX12_moreFit_49 : decode cX12_moreFit 49 = .ok (.invokestatic 108, 3) := by decide +kernel
theorem dX12_moreFit_52 : decode cX12_moreFit 52 = .ok (.ifCond .ne 6, 3) := by decide +kernel
theorem dX12_moreFit_55 : decode cX12_moreFit 55 = .ok (.bipush (-2), 2) := by decide +kernel
theorem dX12_moreFit_57 : decode cX12_moreFit 57 = .ok (.ireturn, 1) := by decide +kernel
theorem dX12_moreFit_58 : decode cX12_moreFit 58 = .ok (.iinc 3 1, 3) := by decide +kernel
theorem dX12_moreFit_61 : decode cX12_moreFit 61 = .ok (.goto (-25), 3) := by decide +kernel
theorem dX12_moreFit_64 : decode cX12_moreFit 64 = .ok (.iconst 0, 1) := by decide +kernel
theorem dX12_moreFit_65 : decode cX12_moreFit 65 = .ok (.istore_n 3, 1) := by decide +kernel
theorem dX12_moreFit_66 : decode cX12_moreFit 66 = .ok (.iload_n 3, 1) := by decide +kernel
theorem dX12_moreFit_67 : decode cX12_moreFit 67 = .ok (.bipush 64, 2) := by decide +kernel
theorem dX12_moreFit_69 : decode cX12_moreFit 69 = .ok (.if_icmp .ge 24, 3) := by decide +kernel
theorem dX12_moreFit_72 : decode cX12_moreFit 72 = .ok (.aload_n 0, 1) := by decide +kernel
theorem dX12_moreFit_73 : decode cX12_moreFit 73 = .ok (.getfield 65, 3) := by decide +kernel
theorem dX12_moreFit_76 : decode cX12_moreFit 76 = .ok (.iload_n 3, 1) := by decide +kernel
theorem dX12_moreFit_77 : decode cX12_moreFit 77 = .ok (.iload_n 3, 1) := by decide +kernel
theorem dX12_moreFit_78 : decode cX12_moreFit 78 = .ok (.ifCond .ne 7, 3) := by decide +kernel
theorem dX12_moreFit_81 : decode cX12_moreFit 81 = .ok (.iconst 1, 1) := by decide +kernel
theorem dX12_moreFit_82 : decode cX12_moreFit 82 = .ok (.goto 4, 3) := by decide +kernel
theorem dX12_moreFit_85 : decode cX12_moreFit 85 = .ok (.iconst 0, 1) := by decide +kernel
theorem dX12_moreFit_86 : decode cX12_moreFit 86 = .ok (.bastore, 1) := by decide +kernel
theorem dX12_moreFit_87 : decode cX12_moreFit 87 = .ok (.iinc 3 1, 3) := by decide +kernel
theorem dX12_moreFit_90 : decode cX12_moreFit 90 = .ok (.goto (-24), 3) := by decide +kernel
theorem dX12_moreFit_93 : decode cX12_moreFit 93 = .ok (.iconst 0, 1) := by decide +kernel
theorem dX12_moreFit_94 : decode cX12_moreFit 94 = .ok (.istore_n 3, 1) := by decide +kernel
theorem dX12_moreFit_95 : decode cX12_moreFit 95 = .ok (.iload_n 3, 1) := by decide +kernel
theorem dX12_moreFit_96 : decode cX12_moreFit 96 = .ok (.bipush 16, 2) := by decide +kernel
theorem dX12_moreFit_98 : decode cX12_moreFit 98 = .ok (.if_icmp .ge 159, 3) := by decide +kernel
theorem dX12_moreFit_101 : decode cX12_moreFit 101 = .ok (.bipush 9, 2) := by decide +kernel
theorem dX12_moreFit_103 : decode cX12_moreFit 103 = .ok (.aload_n 0, 1) := by decide +kernel
theorem dX12_moreFit_104 : decode cX12_moreFit 104 = .ok (.iload_n 3, 1) := by decide +kernel
theorem dX12_moreFit_105 : decode cX12_moreFit 105 = .ok (.invokevirtual 97, 3) := by decide +kernel
theorem dX12_moreFit_108 : decode cX12_moreFit 108 = .ok (.isub, 1) := by decide +kernel
theorem dX12_moreFit_109 : decode cX12_moreFit 109 = .ok (.istore 4, 2) := by decide +kernel
theorem dX12_moreFit_111 : decode cX12_moreFit 111 = .ok (.iconst 0, 1) := by decide +kernel
theorem dX12_moreFit_112 : decode cX12_moreFit 112 = .ok (.istore 5, 2) := by decide +kernel
theorem dX12_moreFit_114 : decode cX12_moreFit 114 = .ok (.iload 5, 2) := by decide +kernel
theorem dX12_moreFit_116 : decode cX12_moreFit 116 = .ok (.iconst 1, 1) := by decide +kernel
theorem dX12_moreFit_117 : decode cX12_moreFit 117 = .ok (.iload_n 1, 1) := by decide +kernel
theorem dX12_moreFit_118 : decode cX12_moreFit 118 = .ok (.ishl, 1) := by decide +kernel
theorem dX12_moreFit_119 : decode cX12_moreFit 119 = .ok (.if_icmp .ge 23, 3) := by decide +kernel
theorem dX12_moreFit_122 : decode cX12_moreFit 122 = .ok (.aload_n 0, 1) := by decide +kernel
theorem dX12_moreFit_123 : decode cX12_moreFit 123 = .ok (.getfield 69, 3) := by decide +kernel
theorem dX12_moreFit_126 : decode cX12_moreFit 126 = .ok (.iload 5, 2) := by decide +kernel
theorem dX12_moreFit_128 : decode cX12_moreFit 128 = .ok (.aload_n 0, 1) := by decide +kernel
theorem dX12_moreFit_129 : decode cX12_moreFit 129 = .ok (.getfield 65, 3) := by decide +kernel
theorem dX12_moreFit_132 : decode cX12_moreFit 132 = .ok (.iload 5, 2) := by decide +kernel
theorem dX12_moreFit_134 : decode cX12_moreFit 134 = .ok (.baload, 1) := by decide +kernel
theorem dX12_moreFit_135 : decode cX12_moreFit 135 = .ok (.bastore, 1) := by decide +kernel
theorem dX12_moreFit_136 : decode cX12_moreFit 136 = .ok (.iinc 5 1, 3) := by decide +kernel
theorem dX12_moreFit_139 : decode cX12_moreFit 139 = .ok (.goto (-25), 3) := by decide +kernel
theorem dX12_moreFit_142 : decode cX12_moreFit 142 = .ok (.iconst 1, 1) := by decide +kernel
theorem dX12_moreFit_143 : decode cX12_moreFit 143 = .ok (.istore 5, 2) := by decide +kernel
theorem dX12_moreFit_145 : decode cX12_moreFit 145 = .ok (.iload 5, 2) := by decide +kernel
theorem dX12_moreFit_147 : decode cX12_moreFit 147 = .ok (.iconst 1, 1) := by decide +kernel
theorem dX12_moreFit_148 : decode cX12_moreFit 148 = .ok (.iload_n 1, 1) := by decide +kernel
theorem dX12_moreFit_149 : decode cX12_moreFit 149 = .ok (.ishl, 1) := by decide +kernel
theorem dX12_moreFit_150 : decode cX12_moreFit 150 = .ok (.if_icmp .ge 70, 3) := by decide +kernel
theorem dX12_moreFit_153 : decode cX12_moreFit 153 = .ok (.aload_n 0, 1) := by decide +kernel
theorem dX12_moreFit_154 : decode cX12_moreFit 154 = .ok (.iload 5, 2) := by decide +kernel
theorem dX12_moreFit_156 : decode cX12_moreFit 156 = .ok (.iload_n 1, 1) := by decide +kernel
theorem dX12_moreFit_157 : decode cX12_moreFit 157 = .ok (.invokevirtual 345, 3) := by decide +kernel
theorem dX12_moreFit_160 : decode cX12_moreFit 160 = .ok (.iload 4, 2) := by decide +kernel
theorem dX12_moreFit_162 : decode cX12_moreFit 162 = .ok (.if_icmp .le 6, 3) := by decide +kernel
theorem dX12_moreFit_165 : decode cX12_moreFit 165 = .ok (.goto 49, 3) := by decide +kernel
theorem dX12_moreFit_168 : decode cX12_moreFit 168 = .ok (.iconst 0, 1) := by decide +kernel
theorem dX12_moreFit_169 : decode cX12_moreFit 169 = .ok (.istore 6, 2) := by decide +kernel
theorem dX12_moreFit_171 : decode cX12_moreFit 171 = .ok (.iload 6, 2) := by decide +kernel
theorem dX12_moreFit_173 : decode cX12_moreFit 173 = .ok (.iconst 1, 1) := by decide +kernel
theorem dX12_moreFit_174 : decode cX12_moreFit 174 = .ok (.iload_n 1, 1) := by decide +kernel
theorem dX12_moreFit_175 : decode cX12_moreFit 175 = .ok (.ishl, 1) := by decide +kernel
theorem dX12_moreFit_176 : decode cX12_moreFit 176 = .ok (.if_icmp .ge 38, 3) := by decide +kernel
theorem dX12_moreFit_179 : decode cX12_moreFit 179 = .ok (.aload_n 0, 1) := by decide +kernel
theorem dX12_moreFit_180 : decode cX12_moreFit 180 = .ok (.getfield 65, 3) := by decide +kernel
theorem dX12_moreFit_183 : decode cX12_moreFit 183 = .ok (.iload 6, 2) := by decide +kernel
theorem dX12_moreFit_185 : decode cX12_moreFit 185 = .ok (.baload, 1) := by decide +kernel
theorem dX12_moreFit_186 : decode cX12_moreFit 186 = .ok (.ifCond .eq 22, 3) := by decide +kernel
theorem dX12_moreFit_189 : decode cX12_moreFit 189 = .ok (.iload 6, 2) := by decide +kernel
theorem dX12_moreFit_191 : decode cX12_moreFit 191 = .ok (.iload 5, 2) := by decide +kernel
theorem dX12_moreFit_193 : decode cX12_moreFit 193 = .ok (.iand, 1) := by decide +kernel
theorem dX12_moreFit_194 : decode cX12_moreFit 194 = .ok (.ifCond .ne 14, 3) := by decide +kernel
theorem dX12_moreFit_197 : decode cX12_moreFit 197 = .ok (.aload_n 0, 1) := by decide +kernel
theorem dX12_moreFit_198 : decode cX12_moreFit 198 = .ok (.getfield 69, 3) := by decide +kernel
theorem dX12_moreFit_201 : decode cX12_moreFit 201 = .ok (.iload 6, 2) := by decide +kernel
theorem dX12_moreFit_203 : decode cX12_moreFit 203 = .ok (.iload 5, 2) := by decide +kernel
theorem dX12_moreFit_205 : decode cX12_moreFit 205 = .ok (.ior, 1) := by decide +kernel
theorem dX12_moreFit_206 : decode cX12_moreFit 206 = .ok (.iconst 1, 1) := by decide +kernel
theorem dX12_moreFit_207 : decode cX12_moreFit 207 = .ok (.bastore, 1) := by decide +kernel
theorem dX12_moreFit_208 : decode cX12_moreFit 208 = .ok (.iinc 6 1, 3) := by decide +kernel
theorem dX12_moreFit_211 : decode cX12_moreFit 211 = .ok (.goto (-40), 3) := by decide +kernel
theorem dX12_moreFit_214 : decode cX12_moreFit 214 = .ok (.iinc 5 1, 3) := by decide +kernel
theorem dX12_moreFit_217 : decode cX12_moreFit 217 = .ok (.goto (-72), 3) := by decide +kernel
theorem dX12_moreFit_220 : decode cX12_moreFit 220 = .ok (.iconst 0, 1) := by decide +kernel
theorem dX12_moreFit_221 : decode cX12_moreFit 221 = .ok (.istore 5, 2) := by decide +kernel
theorem dX12_moreFit_223 : decode cX12_moreFit 223 = .ok (.iload 5, 2) := by decide +kernel
theorem dX12_moreFit_225 : decode cX12_moreFit 225 = .ok (.iconst 1, 1) := by decide +kernel
theorem dX12_moreFit_226 : decode cX12_moreFit 226 = .ok (.iload_n 1, 1) := by decide +kernel
theorem dX12_moreFit_227 : decode cX12_moreFit 227 = .ok (.ishl, 1) := by decide +kernel
theorem dX12_moreFit_228 : decode cX12_moreFit 228 = .ok (.if_icmp .ge 23, 3) := by decide +kernel
theorem dX12_moreFit_231 : decode cX12_moreFit 231 = .ok (.aload_n 0, 1) := by decide +kernel
theorem dX12_moreFit_232 : decode cX12_moreFit 232 = .ok (.getfield 65, 3) := by decide +kernel
theorem dX12_moreFit_235 : decode cX12_moreFit 235 = .ok (.iload 5, 2) := by decide +kernel
theorem dX12_moreFit_237 : decode cX12_moreFit 237 = .ok (.aload_n 0, 1) := by decide +kernel
theorem dX12_moreFit_238 : decode cX12_moreFit 238 = .ok (.getfield 69, 3) := by decide +kernel
theorem dX12_moreFit_241 : decode cX12_moreFit 241 = .ok (.iload 5, 2) := by decide +kernel
theorem dX12_moreFit_243 : decode cX12_moreFit 243 = .ok (.baload, 1) := by decide +kernel
theorem dX12_moreFit_244 : decode cX12_moreFit 244 = .ok (.bastore, 1) := by decide +kernel
theorem dX12_moreFit_245 : decode cX12_moreFit 245 = .ok (.iinc 5 1, 3) := by decide +kernel
theorem dX12_moreFit_248 : decode cX12_moreFit 248 = .ok (.goto (-25), 3) := by decide +kernel
theorem dX12_moreFit_251 : decode cX12_moreFit 251 = .ok (.iinc 3 1, 3) := by decide +kernel
theorem dX12_moreFit_254 : decode cX12_moreFit 254 = .ok (.goto (-159), 3) := by decide +kernel
theorem dX12_moreFit_257 : decode cX12_moreFit 257 = .ok (.iconst 0, 1) := by decide +kernel
theorem dX12_moreFit_258 : decode cX12_moreFit 258 = .ok (.istore_n 3, 1) := by decide +kernel
theorem dX12_moreFit_259 : decode cX12_moreFit 259 = .ok (.iconst 1, 1) := by decide +kernel
theorem dX12_moreFit_260 : decode cX12_moreFit 260 = .ok (.istore 4, 2) := by decide +kernel
theorem dX12_moreFit_262 : decode cX12_moreFit 262 = .ok (.iload 4, 2) := by decide +kernel
theorem dX12_moreFit_264 : decode cX12_moreFit 264 = .ok (.iconst 1, 1) := by decide +kernel
theorem dX12_moreFit_265 : decode cX12_moreFit 265 = .ok (.iload_n 1, 1) := by decide +kernel
theorem dX12_moreFit_266 : decode cX12_moreFit 266 = .ok (.ishl, 1) := by decide +kernel
theorem dX12_moreFit_267 : decode cX12_moreFit 267 = .ok (.if_icmp .ge 34, 3) := by decide +kernel
theorem dX12_moreFit_270 : decode cX12_moreFit 270 = .ok (.aload_n 0, 1) := by decide +kernel
theorem dX12_moreFit_271 : decode cX12_moreFit 271 = .ok (.getfield 65, 3) := by decide +kernel
theorem dX12_moreFit_274 : decode cX12_moreFit 274 = .ok (.iload 4, 2) := by decide +kernel
theorem dX12_moreFit_276 : decode cX12_moreFit 276 = .ok (.baload, 1) := by decide +kernel
theorem dX12_moreFit_277 : decode cX12_moreFit 277 = .ok (.ifCond .eq 18, 3) := by decide +kernel
theorem dX12_moreFit_280 : decode cX12_moreFit 280 = .ok (.iload 4, 2) := by decide +kernel
theorem dX12_moreFit_282 : decode cX12_moreFit 282 = .ok (.invokestatic 348, 3) := by decide +kernel
theorem dX12_moreFit_285 : decode cX12_moreFit 285 = .ok (.iload_n 3, 1) := by decide +kernel
theorem dX12_moreFit_286 : decode cX12_moreFit 286 = .ok (.invokestatic 348, 3) := by decide +kernel
theorem dX12_moreFit_289 : decode cX12_moreFit 289 = .ok (.if_icmp .le 6, 3) := by decide +kernel
theorem dX12_moreFit_292 : decode cX12_moreFit 292 = .ok (.iload 4, 2) := by decide +kernel
theorem dX12_moreFit_294 : decode cX12_moreFit 294 = .ok (.istore_n 3, 1) := by decide +kernel
theorem dX12_moreFit_295 : decode cX12_moreFit 295 = .ok (.iinc 4 1, 3) := by decide +kernel
theorem dX12_moreFit_298 : decode cX12_moreFit 298 = .ok (.goto (-36), 3) := by decide +kernel
theorem dX12_moreFit_301 : decode cX12_moreFit 301 = .ok (.iload_n 2, 1) := by decide +kernel
theorem dX12_moreFit_302 : decode cX12_moreFit 302 = .ok (.ifCond .ne 10, 3) := by decide +kernel
theorem dX12_moreFit_305 : decode cX12_moreFit 305 = .ok (.iload_n 3, 1) := by decide +kernel
theorem dX12_moreFit_306 : decode cX12_moreFit 306 = .ok (.invokestatic 348, 3) := by decide +kernel
theorem dX12_moreFit_309 : decode cX12_moreFit 309 = .ok (.goto 4, 3) := by decide +kernel
theorem dX12_moreFit_312 : decode cX12_moreFit 312 = .ok (.iload_n 3, 1) := by decide +kernel
theorem dX12_moreFit_313 : decode cX12_moreFit 313 = .ok (.ireturn, 1) := by decide +kernel
theorem dX12_fathers_0 : decode cX12_fathers 0 = .ok (.iload_n 1, 1) := by decide +kernel
theorem dX12_fathers_1 : decode cX12_fathers 1 = .ok (.iconst 0, 1) := by decide +kernel
theorem dX12_fathers_2 : decode cX12_fathers 2 = .ok (.iconst 1, 1) := by decide +kernel
theorem dX12_fathers_3 : decode cX12_fathers 3 = .ok (.invokestatic 108, 3) := by decide +kernel
theorem dX12_fathers_6 : decode cX12_fathers 6 = .ok (.ifCond .eq 22, 3) := by decide +kernel
theorem dX12_fathers_9 : decode cX12_fathers 9 = .ok (.iload_n 2, 1) := by decide +kernel
theorem dX12_fathers_10 : decode cX12_fathers 10 = .ok (.iconst 0, 1) := by decide +kernel
theorem dX12_fathers_11 : decode cX12_fathers 11 = .ok (.bipush 7, 2) := by decide +kernel
theorem dX12_fathers_13 : decode cX12_fathers 13 = .ok (.invokestatic 108, 3) := by decide +kernel
theorem dX12_fathers_16 : decode cX12_fathers 16 = .ok (.ifCond .eq 12, 3) := by decide +kernel
theorem dX12_fathers_19 : decode cX12_fathers 19 = .ok (.iload_n 3, 1) := by decide +kernel
theorem dX12_fathers_20 : decode cX12_fathers 20 = .ok (.iconst 0, 1) := by decide +kernel
theorem dX12_fathers_21 : decode cX12_fathers 21 = .ok (.iconst 2, 1) := by decide +kernel
theorem dX12_fathers_22 : decode cX12_fathers 22 = .ok (.invokestatic 108, 3) := by decide +kernel
theorem dX12_fathers_25 : decode cX12_fathers 25 = .ok (.ifCond .ne 5, 3) := by decide +kernel
theorem dX12_fathers_28 : decode cX12_fathers 28 = .ok (.iconst (-1), 1) := by decide +kernel
theorem dX12_fathers_29 : decode cX12_fathers 29 = .ok (.ireturn, 1) := by decide +kernel
theorem dX12_fathers_30 : decode cX12_fathers 30 = .ok (.iconst 0, 1) := by decide +kernel
theorem dX12_fathers_31 : decode cX12_fathers 31 = .ok (.istore 4, 2) := by decide +kernel
theorem dX12_fathers_33 : decode cX12_fathers 33 = .ok (.bipush (-2), 2) := by decide +kernel
theorem dX12_fathers_35 : decode cX12_fathers 35 = .ok (.istore 5, 2) := by decide +kernel
theorem dX12_fathers_37 : decode cX12_fathers 37 = .ok (.bipush (-2), 2) := by decide +kernel
theorem dX12_fathers_39 : decode cX12_fathers 39 = .ok (.istore 6, 2) := by decide +kernel
theorem dX12_fathers_41 : decode cX12_fathers 41 = .ok (.bipush 72, 2) := by decide +kernel
theorem dX12_fathers_43 : decode cX12_fathers 43 = .ok (.iload_n 1, 1) := by decide +kernel
theorem dX12_fathers_44 : decode cX12_fathers 44 = .ok (.imul, 1) := by decide +kernel
theorem dX12_fathers_45 : decode cX12_fathers 45 = .ok (.istore 7, 2) := by decide +kernel
theorem dX12_fathers_47 : decode cX12_fathers 47 = .ok (.iload 7, 2) := by decide +kernel
theorem dX12_fathers_49 : decode cX12_fathers 49 = .ok (.bipush 72, 2) := by decide +kernel
theorem dX12_fathers_51 : decode cX12_fathers 51 = .ok (.iload_n 1, 1) := by decide +kernel
theorem dX12_fathers_52 : decode cX12_fathers 52 = .ok (.imul, 1) := by decide +kernel
theorem dX12_fathers_53 : decode cX12_fathers 53 = .ok (.bipush 72, 2) := by decide +kernel
theorem dX12_fathers_55 : decode cX12_fathers 55 = .ok (.iadd, 1) := by decide +kernel
theorem dX12_fathers_56 : decode cX12_fathers 56 = .ok (.if_icmp .ge 93, 3) := by decide +kernel
theorem dX12_fathers_59 : decode cX12_fathers 59 = .ok (.iload 7, 2) := by decide +kernel
theorem dX12_fathers_61 : decode cX12_fathers 61 = .ok (.iconst 1, 1) := by decide +kernel
theorem dX12_fathers_62 : decode cX12_fathers 62 = .ok (.iadd, 1) := by decide +kernel
theorem dX12_fathers_63 : decode cX12_fathers 63 = .ok (.istore 8, 2) := by decide +kernel
theorem dX12_fathers_65 : decode cX12_fathers 65 = .ok (.iload 8, 2) := by decide +kernel
theorem dX12_fathers_67 : decode cX12_fathers 67 = .ok (.bipush 72, 2) := by decide +kernel
theorem dX12_fathers_69 : decode cX12_fathers 69 = .ok (.iload_n 1, 1) := by decide +kernel
theorem dX12_fathers_70 : decode cX12_fathers 70 = .ok (.imul, 1) := by decide +kernel
theorem dX12_fathers_71 : decode cX12_fathers 71 = .ok (.bipush 72, 2) := by decide +kernel
theorem dX12_fathers_73 : decode cX12_fathers 73 = .ok (.iadd, 1) := by decide +kernel
theorem dX12_fathers_74 : decode cX12_fathers 74 = .ok (.if_icmp .ge 69, 3) := by decide +kernel
theorem dX12_fathers_77 : decode cX12_fathers 77 = .ok (.aload_n 0, 1) := by decide +kernel
theorem dX12_fathers_78 : decode cX12_fathers 78 = .ok (.iload 7, 2) := by decide +kernel
theorem dX12_fathers_80 : decode cX12_fathers 80 = .ok (.invokevirtual 93, 3) := by decide +kernel
theorem dX12_fathers_83 : decode cX12_fathers 83 = .ok (.ifCond .ne 54, 3) := by decide +kernel
theorem dX12_fathers_86 : decode cX12_fathers 86 = .ok (.aload_n 0, 1) := by decide +kernel
theorem dX12_fathers_87 : decode cX12_fathers 87 = .ok (.iload 8, 2) := by decide +kernel
theorem dX12_fathers_89 : decode cX12_fathers 89 = .ok (.invokevirtual 93, 3) := by decide +kernel
theorem dX12_fathers_92 : decode cX12_fathers 92 = .ok (.ifCond .ne 45, 3) := by decide +kernel
theorem dX12_fathers_95 : decode cX12_fathers 95 = .ok (.iload 8, 2) := by decide +kernel
theorem dX12_fathers_97 : decode cX12_fathers 97 = .ok (.bipush 9, 2) := by decide +kernel
theorem dX12_fathers_99 : decode cX12_fathers 99 = .ok (.idiv, 1) := by decide +kernel
theorem dX12_fathers_100 : decode cX12_fathers 100 = .ok (.iload 7, 2) := by decide +kernel
theorem dX12_fathers_102 : decode cX12_fathers 102 = .ok (.bipush 9, 2) := by decide +kernel
theorem dX12_fathers_104 : decode cX12_fathers 104 = .ok (.idiv, 1) := by decide +kernel
theorem dX12_fathers_105 : decode cX12_fathers 105 = .ok (.isub, 1) := by decide +kernel
theorem dX12_fathers_106 : decode cX12_fathers 106 = .ok (.iload_n 2, 1) := by decide +kernel
theorem dX12_fathers_107 : decode cX12_fathers 107 = .ok (.if_icmp .ge 6, 3) := by decide +kernel
theorem dX12_fathers_110 : decode cX12_fathers 110 = .ok (.goto 27, 3) := by decide +kernel
theorem dX12_fathers_113 : decode cX12_fathers 113 = .ok (.iload 4, 2) := by decide +kernel
theorem dX12_fathers_115 : decode cX12_fathers 115 = .ok (.iconst 1, 1) := by decide +kernel
theorem dX12_fathers_116 : decode cX12_fathers 116 = .ok (.iadd, 1) := by decide +kernel
theorem dX12_fathers_117 : decode cX12_fathers 117 = .ok (.istore 4, 2) := by decide +kernel
theorem dX12_fathers_119 : decode cX12_fathers 119 = .ok (.iload 5, 2) := by decide +kernel
theorem dX12_fathers_121 : decode cX12_fathers 121 = .ok (.bipush (-2), 2) := by decide +kernel
theorem dX12_fathers_123 : decode cX12_fathers 123 = .ok (.if_icmp .eq 6, 3) := by decide +kernel
theorem dX12_fathers_126 : decode cX12_fathers 126 = .ok (.goto 11, 3) := by decide +kernel
theorem dX12_fathers_129 : decode cX12_fathers 129 = .ok (.iload 7, 2) := by decide +kernel
theorem dX12_fathers_131 : decode cX12_fathers 131 = .ok (.istore 5, 2) := by decide +kernel
theorem dX12_fathers_133 : decode cX12_fathers 133 = .ok (.iload 8, 2) := by decide +kernel
theorem dX12_fathers_135 : decode cX12_fathers 135 = .ok (.istore 6, 2) := by decide +kernel
theorem dX12_fathers_137 : decode cX12_fathers 137 = .ok (.iinc 8 1, 3) := by decide +kernel
theorem dX12_fathers_140 : decode cX12_fathers 140 = .ok (.goto (-75), 3) := by decide +kernel
theorem dX12_fathers_143 : decode cX12_fathers 143 = .ok (.iinc 7 1, 3) := by decide +kernel
theorem dX12_fathers_146 : decode cX12_fathers 146 = .ok (.goto (-99), 3) := by decide +kernel
theorem dX12_fathers_149 : decode cX12_fathers 149 = .ok (.iload_n 3, 1) := by decide +kernel
theorem dX12_fathers_150 : decode cX12_fathers 150 = .ok (.ifCond .ne 8, 3) := by decide +kernel
theorem dX12_fathers_153 : decode cX12_fathers 153 = .ok (.iload 4, 2) := by decide +kernel
theorem dX12_fathers_155 : decode cX12_fathers 155 = .ok (.goto 15, 3) := by decide +kernel
theorem dX12_fathers_158 : decode cX12_fathers 158 = .ok (.iload_n 3, 1) := by decide +kernel
theorem dX12_fathers_159 : decode cX12_fathers 159 = .ok (.iconst 1, 1) := by decide +kernel
theorem dX12_fathers_160 : decode cX12_fathers 160 = .ok (.if_icmp .ne 8, 3) := by decide +kernel
theorem dX12_fathers_163 : decode cX12_fathers 163 = .ok (.iload 5, 2) := by decide +kernel
theorem dX12_fathers_165 : decode cX12_fathers 165 = .ok (.goto 5, 3) := by decide +kernel
theorem dX12_fathers_168 : decode cX12_fathers 168 = .ok (.iload 6, 2) := by decide +kernel
theorem dX12_fathers_170 : decode cX12_fathers 170 = .ok (.ireturn, 1) := by decide +kernel
theorem dX12_singers_0 : decode cX12_singers 0 = .ok (.iload_n 1, 1) := by decide +kernel
theorem dX12_singers_1 : decode cX12_singers 1 = .ok (.iconst 0, 1) := by decide +kernel
theorem dX12_singers_2 : decode cX12_singers 2 = .ok (.iconst 2, 1) := by decide +kernel
theorem dX12_singers_3 : decode cX12_singers 3 = .ok (.invokestatic 108, 3) := by decide +kernel
theorem dX12_singers_6 : decode cX12_singers 6 = .ok (.ifCond .ne 5, 3) := by decide +kernel
theorem dX12_singers_9 : decode cX12_singers 9 = .ok (.iconst (-1), 1) := by decide +kernel
theorem dX12_singers_10 : decode cX12_singers 10 = .ok (.ireturn, 1) := by decide +kernel
theorem dX12_singers_11 : decode cX12_singers 11 = .ok (.iconst 0, 1) := by decide +kernel
theorem dX12_singers_12 : decode cX12_singers 12 = .ok (.istore_n 2, 1) := by decide +kernel
theorem dX12_singers_13 : decode cX12_singers 13 = .ok (.iconst 0, 1) := by decide +kernel
theorem dX12_singers_14 : decode cX12_singers 14 = .ok (.istore_n 3, 1) := by decide +kernel
theorem dX12_singers_15 : decode cX12_singers 15 = .ok (.iload_n 3, 1) := by decide +kernel
theorem dX12_singers_16 : decode cX12_singers 16 = .ok (.bipush 8, 2) := by decide +kernel
theorem dX12_singers_18 : decode cX12_singers 18 = .ok (.if_icmp .ge 16, 3) := by decide +kernel
theorem dX12_singers_21 : decode cX12_singers 21 = .ok (.aload_n 0, 1) := by decide +kernel
theorem dX12_singers_22 : decode cX12_singers 22 = .ok (.getfield 72, 3) := by decide +kernel
theorem dX12_singers_25 : decode cX12_singers 25 = .ok (.iload_n 3, 1) := by decide +kernel
theorem dX12_singers_26 : decode cX12_singers 26 = .ok (.iconst 0, 1) := by decide +kernel
theorem dX12_singers_27 : decode cX12_singers 27 = .ok (.iastore, 1) := by decide +kernel
theorem dX12_singers_28 : decode cX12_singers 28 = .ok (.iinc 3 1, 3) := by decide +kernel
theorem dX12_singers_31 : decode cX12_singers 31 = .ok (.goto (-16), 3) := by decide +kernel
theorem dX12_singers_34 : decode cX12_singers 34 = .ok (.iconst 0, 1) := by decide +kernel
theorem dX12_singers_35 : decode cX12_singers 35 = .ok (.istore_n 3, 1) := by decide +kernel
theorem dX12_singers_36 : decode cX12_singers 36 = .ok (.iload_n 3, 1) := by decide +kernel
theorem dX12_singers_37 : decode cX12_singers 37 = .ok (.sipush 144, 3) := by decide +kernel
theorem dX12_singers_40 : decode cX12_singers 40 = .ok (.if_icmp .ge 64, 3) := by decide +kernel
theorem dX12_singers_43 : decode cX12_singers 43 = .ok (.aload_n 0, 1) := by decide +kernel
theorem dX12_singers_44 : decode cX12_singers 44 = .ok (.iload_n 3, 1) := by decide +kernel
theorem dX12_singers_45 : decode cX12_singers 45 = .ok (.invokevirtual 93, 3) := by decide +kernel
theorem dX12_singers_48 : decode cX12_singers 48 = .ok (.ifCond .eq 50, 3) := by decide +kernel
theorem dX12_singers_51 : decode cX12_singers 51 = .ok (.aload_n 0, 1) := by decide +kernel
theorem dX12_singers_52 : decode cX12_singers 52 = .ok (.getfield 7, 3) := by decide +kernel
theorem dX12_singers_55 : decode cX12_singers 55 = .ok (.iconst 0, 1) := by decide +kernel
theorem dX12_singers_56 : decode cX12_singers 56 = .ok (.iload_n 3, 1) := by decide +kernel
theorem dX12_singers_57 : decode cX12_singers 57 = .ok (.iadd, 1) := by decide +kernel
theorem dX12_singers_58 : decode cX12_singers 58 = .ok (.iaload, 1) := by decide +kernel
theorem dX12_singers_59 : decode cX12_singers 59 = .ok (.invokestatic 232, 3) := by decide +kernel
theorem dX12_singers_62 : decode cX12_singers 62 = .ok (.ifCond .ne 6, 3) := by decide +kernel
theorem dX12_singers_65 : decode cX12_singers 65 = .ok (.goto 33, 3) := by decide +kernel
theorem dX12_singers_68 : decode cX12_singers 68 = .ok (.aload_n 0, 1) := by decide +kernel
theorem dX12_singers_69 : decode cX12_singers 69 = .ok (.getfield 72, 3) := by decide +kernel
theorem dX12_singers_72 : decode cX12_singers 72 = .ok (.iload_n 3, 1) := by decide +kernel
theorem dX12_singers_73 : decode cX12_singers 73 = .ok (.bipush 72, 2) := by decide +kernel
theorem dX12_singers_75 : decode cX12_singers 75 = .ok (.irem, 1) := by decide +kernel
theorem dX12_singers_76 : decode cX12_singers 76 = .ok (.bipush 9, 2) := by decide +kernel
theorem dX12_singers_78 : decode cX12_singers 78 = .ok (.idiv, 1) := by decide +kernel
theorem dX12_singers_79 : decode cX12_singers 79 = .ok (.aload_n 0, 1) := by decide +kernel
theorem dX12_singers_80 : decode cX12_singers 80 = .ok (.getfield 72, 3) := by decide +kernel
theorem dX12_singers_83 : decode cX12_singers 83 = .ok (.iload_n 3, 1) := by decide +kernel
theorem dX12_singers_84 : decode cX12_singers 84 = .ok (.bipush 72, 2) := by decide +kernel
theorem dX12_singers_86 : decode cX12_singers 86 = .ok (.irem, 1) := by decide +kernel
theorem dX12_singers_87 : decode cX12_singers 87 = .ok (.bipush 9, 2) := by decide +kernel
theorem dX12_singers_89 : decode cX12_singers 89 = .ok (.idiv, 1) := by decide +kernel
theorem dX12_singers_90 : decode cX12_singers 90 = .ok (.iaload, 1) := by decide +kernel
theorem dX12_singers_91 : decode cX12_singers 91 = .ok (.iconst 1, 1) := by decide +kernel
theorem dX12_singers_92 : decode cX12_singers 92 = .ok (.iadd, 1) := by decide +kernel
theorem dX12_singers_93 : decode cX12_singers 93 = .ok (.iastore, 1) := by decide +kernel
theorem dX12_singers_94 : decode cX12_singers 94 = .ok (.iload_n 2, 1) := by decide +kernel
theorem dX12_singers_95 : decode cX12_singers 95 = .ok (.iconst 1, 1) := by decide +kernel
theorem dX12_singers_96 : decode cX12_singers 96 = .ok (.iadd, 1) := by decide +kernel
theorem dX12_singers_97 : decode cX12_singers 97 = .ok (.istore_n 2, 1) := by decide +kernel
theorem dX12_singers_98 : decode cX12_singers 98 = .ok (.iinc 3 1, 3) := by decide +kernel
theorem dX12_singers_101 : decode cX12_singers 101 = .ok (.goto (-65), 3) := by decide +kernel
theorem dX12_singers_104 : decode cX12_singers 104 = .ok (.iload_n 1, 1) := by decide +kernel
theorem dX12_singers_105 : decode cX12_singers 105 = .ok (.ifCond .ne 5, 3) := by decide +kernel
theorem dX12_singers_108 : decode cX12_singers 108 = .ok (.iload_n 2, 1) := by decide +kernel
theorem dX12_singers_109 : decode cX12_singers 109 = .ok (.ireturn, 1) := by decide +kernel
theorem dX12_singers_110 : decode cX12_singers 110 = .ok (.iload_n 2, 1) := by decide +kernel
theorem dX12_singers_111 : decode cX12_singers 111 = .ok (.ifCond .ne 6, 3) := by decide +kernel
theorem dX12_singers_114 : decode cX12_singers 114 = .ok (.bipush (-2), 2) := by decide +kernel
theorem dX12_singers_116 : decode cX12_singers 116 = .ok (.ireturn, 1) := by decide +kernel
theorem dX12_singers_117 : decode cX12_singers 117 = .ok (.iconst 0, 1) := by decide +kernel
theorem dX12_singers_118 : decode cX12_singers 118 = .ok (.istore_n 3, 1) := by decide +kernel
theorem dX12_singers_119 : decode cX12_singers 119 = .ok (.aload_n 0, 1) := by decide +kernel
theorem dX12_singers_120 : decode cX12_singers 120 = .ok (.getfield 72, 3) := by decide +kernel
theorem dX12_singers_123 : decode cX12_singers 123 = .ok (.iconst 0, 1) := by decide +kernel
theorem dX12_singers_124 : decode cX12_singers 124 = .ok (.iaload, 1) := by decide +kernel
theorem dX12_singers_125 : decode cX12_singers 125 = .ok (.istore 4, 2) := by decide +kernel
theorem dX12_singers_127 : decode cX12_singers 127 = .ok (.iload 4, 2) := by decide +kernel
theorem dX12_singers_129 : decode cX12_singers 129 = .ok (.iload_n 2, 1) := by decide +kernel
theorem dX12_singers_130 : decode cX12_singers 130 = .ok (.iconst 1, 1) := by decide +kernel
theorem dX12_singers_131 : decode cX12_singers 131 = .ok (.iadd, 1) := by decide +kernel
theorem dX12_singers_132 : decode cX12_singers 132 = .ok (.iconst 2, 1) := by decide +kernel
theorem dX12_singers_133 : decode cX12_singers 133 = .ok (.idiv, 1) := by decide +kernel
theorem dX12_singers_134 : decode cX12_singers 134 = .ok (.if_icmp .ge 21, 3) := by decide +kernel
theorem dX12_singers_137 : decode cX12_singers 137 = .ok (.iload_n 3, 1) := by decide +kernel
theorem dX12_singers_138 : decode cX12_singers 138 = .ok (.iconst 1, 1) := by decide +kernel
theorem dX12_singers_139 : decode cX12_singers 139 = .ok (.iadd, 1) := by decide +kernel
theorem dX12_singers_140 : decode cX12_singers 140 = .ok (.istore_n 3, 1) := by decide +kernel
theorem dX12_singers_141 : decode cX12_singers 141 = .ok (.iload 4, 2) := by decide +kernel
theorem dX12_singers_143 : decode cX12_singers 143 = .ok (.aload_n 0, 1) := by decide +kernel
theorem dX12_singers_144 : decode cX12_singers 144 = .ok (.getfield 72, 3) := by decide +kernel
theorem dX12_singers_147 : decode cX12_singers 147 = .ok (.iload_n 3, 1) := by decide +kernel
theorem dX12_singers_148 : decode cX12_singers 148 = .ok (.iaload, 1) := by decide +kernel
theorem dX12_singers_149 : decode cX12_singers 149 = .ok (.iadd, 1) := by decide +kernel
theorem dX12_singers_150 : decode cX12_singers 150 = .ok (.istore 4, 2) := by decide +kernel
theorem dX12_singers_152 : decode cX12_singers 152 = .ok (.goto (-25), 3) := by decide +kernel
theorem dX12_singers_155 : decode cX12_singers 155 = .ok (.iload_n 1, 1) := by decide +kernel
theorem dX12_singers_156 : decode cX12_singers 156 = .ok (.iconst 1, 1) := by decide +kernel
theorem dX12_singers_157 : decode cX12_singers 157 = .ok (.if_icmp .ne 5, 3) := by decide +kernel
theorem dX12_singers_160 : decode cX12_singers 160 = .ok (.iload_n 3, 1) := by decide +kernel
theorem dX12_singers_161 : decode cX12_singers 161 = .ok (.ireturn, 1) := by decide +kernel
theorem dX12_singers_162 : decode cX12_singers 162 = .ok (.iconst 0, 1) := by decide +kernel
theorem dX12_singers_163 : decode cX12_singers 163 = .ok (.istore 5, 2) := by decide +kernel
theorem dX12_singers_165 : decode cX12_singers 165 = .ok (.iconst 0, 1) := by decide +kernel
theorem dX12_singers_166 : decode cX12_singers 166 = .ok (.istore 6, 2) := by decide +kernel
theorem dX12_singers_168 : decode cX12_singers 168 = .ok (.iload 6, 2) := by decide +kernel
theorem dX12_singers_170 : decode cX12_singers 170 = .ok (.bipush 8, 2) := by decide +kernel
theorem dX12_singers_172 : decode cX12_singers 172 = .ok (.if_icmp .ge 29, 3) := by decide +kernel
theorem dX12_singers_175 : decode cX12_singers 175 = .ok (.iload 5, 2) := by decide +kernel
theorem dX12_singers_177 : decode cX12_singers 177 = .ok (.iload 6, 2) := by decide +kernel
theorem dX12_singers_179 : decode cX12_singers 179 = .ok (.iload_n 3, 1) := by decide +kernel
theorem dX12_singers_180 : decode cX12_singers 180 = .ok (.isub, 1) := by decide +kernel
theorem dX12_singers_181 : decode cX12_singers 181 = .ok (.invokestatic 342, 3) := by decide +kernel
theorem dX12_singers_184 : decode cX12_singers 184 = .ok (.aload_n 0, 1) := by decide +kernel
theorem dX12_singers_185 : decode cX12_singers 185 = .ok (.getfield 72, 3) := by decide +kernel
theorem dX12_singers_188 : decode cX12_singers 188 = .ok (.iload 6, 2) := by decide +kernel
theorem dX12_singers_190 : decode cX12_singers 190 = .ok (.iaload, 1) := by decide +kernel
theorem dX12_singers_191 : decode cX12_singers 191 = .ok (.imul, 1) := by decide +kernel
theorem dX12_singers_192 : decode cX12_singers 192 = .ok (.iadd, 1) := by decide +kernel
theorem dX12_singers_193 : decode cX12_singers 193 = .ok (.istore 5, 2) := by decide +kernel
theorem dX12_singers_195 : decode cX12_singers 195 = .ok (.iinc 6 1, 3) := by decide +kernel
theorem dX12_singers_198 : decode cX12_singers 198 = .ok (.goto (-30), 3) := by decide +kernel
theorem dX12_singers_201 : decode cX12_singers 201 = .ok (.iload 5, 2) := by decide +kernel
theorem dX12_singers_203 : decode cX12_singers 203 = .ok (.ireturn, 1) := by decide +kernel
theorem dX12_isBeside_0 : decode cX12_isBeside 0 = .ok (.iload_n 1, 1) := by decide +kernel
theorem dX12_isBeside_1 : decode cX12_isBeside 1 = .ok (.bipush 9, 2) := by decide +kernel
theorem dX12_isBeside_3 : decode cX12_isBeside 3 = .ok (.irem, 1) := by decide +kernel
theorem dX12_isBeside_4 : decode cX12_isBeside 4 = .ok (.iload_n 2, 1) := by decide +kernel
theorem dX12_isBeside_5 : decode cX12_isBeside 5 = .ok (.iadd, 1) := by decide +kernel
theorem dX12_isBeside_6 : decode cX12_isBeside 6 = .ok (.istore 4, 2) := by decide +kernel
theorem dX12_isBeside_8 : decode cX12_isBeside 8 = .ok (.iload 4, 2) := by decide +kernel
theorem dX12_isBeside_10 : decode cX12_isBeside 10 = .ok (.iconst 0, 1) := by decide +kernel
theorem dX12_isBeside_11 : decode cX12_isBeside 11 = .ok (.bipush 8, 2) := by decide +kernel
theorem dX12_isBeside_13 : decode cX12_isBeside 13 = .ok (.invokestatic 108, 3) := by decide +kernel
theorem dX12_isBeside_16 : decode cX12_isBeside 16 = .ok (.ifCond .eq 13, 3) := by decide +kernel
theorem dX12_isBeside_19 : decode cX12_isBeside 19 = .ok (.aload_n 0, 1) := by decide +kernel
theorem dX12_isBeside_20 : decode cX12_isBeside 20 = .ok (.iload_n 1, 1) := by decide +kernel
theorem dX12_isBeside_21 : decode cX12_isBeside 21 = .ok (.iload_n 2, 1) := by decide +kernel
theorem dX12_isBeside_22 : decode cX12_isBeside 22 = .ok (.iadd, 1) := by decide +kernel
theorem dX12_isBeside_23 : decode cX12_isBeside 23 = .ok (.invokevirtual 93, 3) := by decide +kernel
theorem dX12_isBeside_26 : decode cX12_isBeside 26 = .ok (.ifCond .ne 5, 3) := by decide +kernel
theorem dX12_isBeside_29 : decode cX12_isBeside 29 = .ok (.iconst 0, 1) := by decide +kernel
theorem dX12_isBeside_30 : decode cX12_isBeside 30 = .ok (.ireturn, 1) := by decide +kernel
theorem dX12_isBeside_31 : decode cX12_isBeside 31 = .ok (.iload_n 3, 1) := by decide +kernel
theorem dX12_isBeside_32 : decode cX12_isBeside 32 = .ok (.ifCond .eq 30, 3) := by decide +kernel
theorem dX12_isBeside_35 : decode cX12_isBeside 35 = .ok (.aload_n 0, 1) := by decide +kernel
theorem dX12_isBeside_36 : decode cX12_isBeside 36 = .ok (.getfield 7, 3) := by decide +kernel
theorem dX12_isBeside_39 : decode cX12_isBeside 39 = .ok (.iconst 0, 1) := by decide +kernel
theorem dX12_isBeside_40 : decode cX12_isBeside 40 = .ok (.iload_n 1, 1) := by decide +kernel
theorem dX12_isBeside_41 : decode cX12_isBeside 41 = .ok (.iadd, 1) := by decide +kernel
theorem dX12_isBeside_42 : decode cX12_isBeside 42 = .ok (.iaload, 1) := by decide +kernel
theorem dX12_isBeside_43 : decode cX12_isBeside 43 = .ok (.invokestatic 101, 3) := by decide +kernel
theorem dX12_isBeside_46 : decode cX12_isBeside 46 = .ok (.aload_n 0, 1) := by decide +kernel
theorem dX12_isBeside_47 : decode cX12_isBeside 47 = .ok (.getfield 7, 3) := by decide +kernel
theorem dX12_isBeside_50 : decode cX12_isBeside 50 = .ok (.iconst 0, 1) := by decide +kernel
theorem dX12_isBeside_51 : decode cX12_isBeside 51 = .ok (.iload_n 1, 1) := by decide +kernel
theorem dX12_isBeside_52 : decode cX12_isBeside 52 = .ok (.iadd, 1) := by decide +kernel
theorem dX12_isBeside_53 : decode cX12_isBeside 53 = .ok (.iload_n 2, 1) := by decide +kernel
theorem dX12_isBeside_54 : decode cX12_isBeside 54 = .ok (.iadd, 1) := by decide +kernel
theorem dX12_isBeside_55 : decode cX12_isBeside 55 = .ok (.iaload, 1) := by decide +kernel
theorem dX12_isBeside_56 : decode cX12_isBeside 56 = .ok (.invokestatic 101, 3) := by decide +kernel
theorem dX12_isBeside_59 : decode cX12_isBeside 59 = .ok (.if_icmp .ne 7, 3) := by decide +kernel
theorem dX12_isBeside_62 : decode cX12_isBeside 62 = .ok (.iconst 1, 1) := by decide +kernel
theorem dX12_isBeside_63 : decode cX12_isBeside 63 = .ok (.goto 4, 3) := by decide +kernel
theorem dX12_isBeside_66 : decode cX12_isBeside 66 = .ok (.iconst 0, 1) := by decide +kernel
theorem dX12_isBeside_67 : decode cX12_isBeside 67 = .ok (.ireturn, 1) := by decide +kernel
theorem dX12_strangers_0 : decode cX12_strangers 0 = .ok (.iload_n 1, 1) := by decide +kernel
theorem dX12_strangers_1 : decode cX12_strangers 1 = .ok (.iconst 0, 1) := by decide +kernel
theorem dX12_strangers_2 : decode cX12_strangers 2 = .ok (.iconst 1, 1) := by decide +kernel
theorem dX12_strangers_3 : decode cX12_strangers 3 = .ok (.invokestatic 108, 3) := by decide +kernel
theorem dX12_strangers_6 : decode cX12_strangers 6 = .ok (.ifCond .ne 5, 3) := by decide +kernel
theorem dX12_strangers_9 : decode cX12_strangers 9 = .ok (.iconst (-1), 1) := by decide +kernel
theorem dX12_strangers_10 : decode cX12_strangers 10 = .ok (.ireturn, 1) := by decide +kernel
theorem dX12_strangers_11 : decode cX12_strangers 11 = .ok (.iconst 0, 1) := by decide +kernel
theorem dX12_strangers_12 : decode cX12_strangers 12 = .ok (.istore_n 2, 1) := by decide +kernel
theorem dX12_strangers_13 : decode cX12_strangers 13 = .ok (.bipush (-2), 2) := by decide +kernel
theorem dX12_strangers_15 : decode cX12_strangers 15 = .ok (.istore_n 3, 1) := by decide +kernel
theorem dX12_strangers_16 : decode cX12_strangers 16 = .ok (.sipush 143, 3) := by decide +kernel
theorem dX12_strangers_19 : decode cX12_strangers 19 = .ok (.istore 4, 2) := by decide +kernel
theorem dX12_strangers_21 : decode cX12_strangers 21 = .ok (.iload 4, 2) := by decide +kernel
theorem dX12_strangers_23 : decode cX12_strangers 23 = .ok (.ifCond .lt 75, 3) := by decide +kernel
theorem dX12_strangers_26 : decode cX12_strangers 26 = .ok (.aload_n 0, 1) := by decide +kernel
theorem dX12_strangers_27 : decode cX12_strangers 27 = .ok (.iload 4, 2) := by decide +kernel
theorem dX12_strangers_29 : decode cX12_strangers 29 = .ok (.invokevirtual 93, 3) := by decide +kernel
theorem dX12_strangers_32 : decode cX12_strangers 32 = .ok (.ifCond .eq 60, 3) := by decide +kernel
theorem dX12_strangers_35 : decode cX12_strangers 35 = .ok (.aload_n 0, 1) := by decide +kernel
theorem dX12_strangers_36 : decode cX12_strangers 36 = .ok (.iload 4, 2) := by decide +kernel
theorem dX12_strangers_38 : decode cX12_strangers 38 = .ok (.iconst (-1), 1) := by decide +kernel
theorem dX12_strangers_39 : decode cX12_strangers 39 = .ok (.iconst 0, 1) := by decide +kernel
theorem dX12_strangers_40 : decode cX12_strangers 40 = .ok (.invokevirtual 351, 3) := by decide +kernel
theorem dX12_strangers_43 : decode cX12_strangers 43 = .ok (.ifCond .ne 17, 3) := by decide +kernel
theorem dX12_strangers_46 : decode cX12_strangers 46 = .ok (.aload_n 0, 1) := by decide +kernel
theorem dX12_strangers_47 : decode cX12_strangers 47 = .ok (.iload 4, 2) := by decide +kernel
theorem dX12_strangers_49 : decode cX12_strangers 49 = .ok (.iconst 1, 1) := by decide +kernel
theorem dX12_strangers_50 : decode cX12_strangers 50 = .ok (.iconst 0, 1) := by decide +kernel
theorem dX12_strangers_51 : decode cX12_strangers 51 = .ok (.invokevirtual 351, 3) := by decide +kernel
theorem dX12_strangers_54 : decode cX12_strangers 54 = .ok (.ifCond .ne 6, 3) := by decide +kernel
theorem dX12_strangers_57 : decode cX12_strangers 57 = .ok (.goto 35, 3) := by decide +kernel
theorem dX12_strangers_60 : decode cX12_strangers 60 = .ok (.aload_n 0, 1) := by decide +kernel
theorem dX12_strangers_61 : decode cX12_strangers 61 = .ok (.iload 4, 2) := by decide +kernel
theorem dX12_strangers_63 : decode cX12_strangers 63 = .ok (.iconst (-1), 1) := by decide +kernel
theorem dX12_strangers_64 : decode cX12_strangers 64 = .ok (.iconst 1, 1) := by decide +kernel
theorem dX12_strangers_65 : decode cX12_strangers 65 = .ok (.invokevirtual 351, 3) := by decide +kernel
theorem dX12_strangers_68 : decode cX12_strangers 68 = .ok (.ifCond .ne 24, 3) := by decide +kernel
theorem dX12_strangers_71 : decode cX12_strangers 71 = .ok (.aload_n 0, 1) := by decide +kernel
theorem dX12_strangers_72 : decode cX12_strangers 72 = .ok (.iload 4, 2) := by decide +kernel
theorem dX12_strangers_74 : decode cX12_strangers 74 = .ok (.iconst 1, 1) := by decide +kernel
theorem dX12_strangers_75 : decode cX12_strangers 75 = .ok (.iconst 1, 1) := by decide +kernel
theorem dX12_strangers_76 : decode cX12_strangers 76 = .ok (.invokevirtual 351, 3) := by decide +kernel
theorem dX12_strangers_79 : decode cX12_strangers 79 = .ok (.ifCond .eq 6, 3) := by decide +kernel
theorem dX12_strangers_82 : decode cX12_strangers 82 = .ok (.goto 10, 3) := by decide +kernel
theorem dX12_strangers_85 : decode cX12_strangers 85 = .ok (.iload_n 2, 1) := by decide +kernel
theorem dX12_strangers_86 : decode cX12_strangers 86 = .ok (.iconst 1, 1) := by decide +kernel
theorem dX12_strangers_87 : decode cX12_strangers 87 = .ok (.iadd, 1) := by decide +kernel
theorem dX12_strangers_88 : decode cX12_strangers 88 = .ok (.istore_n 2, 1) := by decide +kernel
theorem dX12_strangers_89 : decode cX12_strangers 89 = .ok (.iload 4, 2) := by decide +kernel
theorem dX12_strangers_91 : decode cX12_strangers 91 = .ok (.istore_n 3, 1) := by decide +kernel
theorem dX12_strangers_92 : decode cX12_strangers 92 = .ok (.iinc 4 (-1), 3) := by decide +kernel
theorem dX12_strangers_95 : decode cX12_strangers 95 = .ok (.goto (-74), 3) := by decide +kernel
theorem dX12_strangers_98 : decode cX12_strangers 98 = .ok (.iload_n 1, 1) := by decide +kernel
theorem dX12_strangers_99 : decode cX12_strangers 99 = .ok (.ifCond .ne 7, 3) := by decide +kernel
theorem dX12_strangers_102 : decode cX12_strangers 102 = .ok (.iload_n 2, 1) := by decide +kernel
theorem dX12_strangers_103 : decode cX12_strangers 103 = .ok (.goto 4, 3) := by decide +kernel
theorem dX12_strangers_106 : decode cX12_strangers 106 = .ok (.iload_n 3, 1) := by decide +kernel
theorem dX12_strangers_107 : decode cX12_strangers 107 = .ok (.ireturn, 1) := by decide +kernel
theorem dX12_inLine_0 : decode cX12_inLine 0 = .ok (.iload_n 1, 1) := by decide +kernel
theorem dX12_inLine_1 : decode cX12_inLine 1 = .ok (.iconst 0, 1) := by decide +kernel
theorem dX12_inLine_2 : decode cX12_inLine 2 = .ok (.iconst 5, 1) := by decide +kernel
theorem dX12_inLine_3 : decode cX12_inLine 3 = .ok (.invokestatic 108, 3) := by decide +kernel
theorem dX12_inLine_6 : decode cX12_inLine 6 = .ok (.ifCond .ne 5, 3) := by decide +kernel
theorem dX12_inLine_9 : decode cX12_inLine 9 = .ok (.iconst (-1), 1) := by decide +kernel
theorem dX12_inLine_10 : decode cX12_inLine 10 = .ok (.ireturn, 1) := by decide +kernel
theorem dX12_inLine_11 : decode cX12_inLine 11 = .ok (.iconst 0, 1) := by decide +kernel
theorem dX12_inLine_12 : decode cX12_inLine 12 = .ok (.istore_n 2, 1) := by decide +kernel
theorem dX12_inLine_13 : decode cX12_inLine 13 = .ok (.iconst 0, 1) := by decide +kernel
theorem dX12_inLine_14 : decode cX12_inLine 14 = .ok (.istore_n 3, 1) := by decide +kernel
theorem dX12_inLine_15 : decode cX12_inLine 15 = .ok (.iconst 0, 1) := by decide +kernel
theorem dX12_inLine_16 : decode cX12_inLine 16 = .ok (.istore 4, 2) := by decide +kernel
theorem dX12_inLine_18 : decode cX12_inLine 18 = .ok (.iload 4, 2) := by decide +kernel
theorem dX12_inLine_20 : decode cX12_inLine 20 = .ok (.aload_n 0, 1) := by decide +kernel
theorem dX12_inLine_21 : decode cX12_inLine 21 = .ok (.getfield 7, 3) := by decide +kernel
theorem dX12_inLine_24 : decode cX12_inLine 24 = .ok (.sipush 632, 3) := by decide +kernel
theorem dX12_inLine_27 : decode cX12_inLine 27 = .ok (.iaload, 1) := by decide +kernel
theorem dX12_inLine_28 : decode cX12_inLine 28 = .ok (.if_icmp .ge 101, 3) := by decide +kernel
theorem dX12_inLine_31 : decode cX12_inLine 31 = .ok (.aload_n 0, 1) := by decide +kernel
theorem dX12_inLine_32 : decode cX12_inLine 32 = .ok (.getfield 7, 3) := by decide +kernel
theorem dX12_inLine_35 : decode cX12_inLine 35 = .ok (.sipush 432, 3) := by decide +kernel
theorem dX12_inLine_38 : decode cX12_inLine 38 = .ok (.iload 4, 2) := by decide +kernel
theorem dX12_inLine_40 : decode cX12_inLine 40 = .ok (.iadd, 1) := by decide +kernel
theorem dX12_inLine_41 : decode cX12_inLine 41 = .ok (.iaload, 1) := by decide +kernel
theorem dX12_inLine_42 : decode cX12_inLine 42 = .ok (.istore 5, 2) := by decide +kernel
theorem dX12_inLine_44 : decode cX12_inLine 44 = .ok (.iload_n 1, 1) := by decide +kernel
theorem dX12_inLine_45 : decode cX12_inLine 45 = .ok (.iconst 3, 1) := by decide +kernel
theorem dX12_inLine_46 : decode cX12_inLine 46 = .ok (.if_icmp .ge 20, 3) := by decide +kernel
theorem dX12_inLine_49 : decode cX12_inLine 49 = .ok (.iload 5, 2) := by decide +kernel
theorem dX12_inLine_51 : decode cX12_inLine 51 = .ok (.invokestatic 223, 3) := by decide +kernel
theorem dX12_inLine_54 : decode cX12_inLine 54 = .ok (.iload_n 1, 1) := by decide +kernel
theorem dX12_inLine_55 : decode cX12_inLine 55 = .ok (.if_icmp .ne 7, 3) := by decide +kernel
theorem dX12_inLine_58 : decode cX12_inLine 58 = .ok (.iconst 1, 1) := by decide +kernel
theorem dX12_inLine_59 : decode cX12_inLine 59 = .ok (.goto 43, 3) := by decide +kernel
theorem dX12_inLine_62 : decode cX12_inLine 62 = .ok (.iconst 0, 1) := by decide +kernel
theorem dX12_inLine_63 : decode cX12_inLine 63 = .ok (.goto 39, 3) := by decide +kernel
theorem dX12_inLine_66 : decode cX12_inLine 66 = .ok (.iload_n 1, 1) := by decide +kernel
theorem dX12_inLine_67 : decode cX12_inLine 67 = .ok (.iconst 3, 1) := by decide +kernel
theorem dX12_inLine_68 : decode cX12_inLine 68 = .ok (.if_icmp .ne 20, 3) := by decide +kernel
theorem dX12_inLine_71 : decode cX12_inLine 71 = .ok (.iload 5, 2) := by decide +kernel
theorem dX12_inLine_73 : decode cX12_inLine 73 = .ok (.invokestatic 229, 3) := by decide +kernel
theorem dX12_inLine_76 : decode cX12_inLine 76 = .ok (.iconst 1, 1) := by decide +kernel
theorem dX12_inLine_77 : decode cX12_inLine 77 = .ok (.if_icmp .ne 7, 3) := by decide +kernel
theorem dX12_inLine_80 : decode cX12_inLine 80 = .ok (.iconst 1, 1) := by decide +kernel
theorem dX12_inLine_81 : decode cX12_inLine 81 = .ok (.goto 21, 3) := by decide +kernel
theorem dX12_inLine_84 : decode cX12_inLine 84 = .ok (.iconst 0, 1) := by decide +kernel
theorem dX12_inLine_85 : decode cX12_inLine 85 = .ok (.goto 17, 3) := by decide +kernel
theorem dX12_inLine_88 : decode cX12_inLine 88 = .ok (.iload 5, 2) := by decide +kernel
theorem dX12_inLine_90 : decode cX12_inLine 90 = .ok (.invokestatic 232, 3) := by decide +kernel
theorem dX12_inLine_93 : decode cX12_inLine 93 = .ok (.iconst 1, 1) := by decide +kernel
theorem dX12_inLine_94 : decode cX12_inLine 94 = .ok (.if_icmp .ne 7, 3) := by decide +kernel
theorem dX12_inLine_97 : decode cX12_inLine 97 = .ok (.iconst 1, 1) := by decide +kernel
theorem dX12_inLine_98 : decode cX12_inLine 98 = .ok (.goto 4, 3) := by decide +kernel
theorem dX12_inLine_101 : decode cX12_inLine 101 = .ok (.iconst 0, 1) := by decide +kernel
theorem dX12_inLine_102 : decode cX12_inLine 102 = .ok (.istore 6, 2) := by decide +kernel
theorem dX12_inLine_104 : decode cX12_inLine 104 = .ok (.iload 6, 2) := by decide +kernel
theorem dX12_inLine_106 : decode cX12_inLine 106 = .ok (.ifCond .eq 7, 3) := by decide +kernel
theorem dX12_inLine_109 : decode cX12_inLine 109 = .ok (.iload_n 2, 1) := by decide +kernel
theorem dX12_inLine_110 : decode cX12_inLine 110 = .ok (.iconst 1, 1) := by decide +kernel
theorem dX12_inLine_111 : decode cX12_inLine 111 = .ok (.iadd, 1) := by decide +kernel
theorem dX12_inLine_112 : decode cX12_inLine 112 = .ok (.istore_n 2, 1) := by decide +kernel
theorem dX12_inLine_113 : decode cX12_inLine 113 = .ok (.iload_n 3, 1) := by decide +kernel
theorem dX12_inLine_114 : decode cX12_inLine 114 = .ok (.iconst 1, 1) := by decide +kernel
theorem dX12_inLine_115 : decode cX12_inLine 115 = .ok (.iload 5, 2) := by decide +kernel
theorem dX12_inLine_117 : decode cX12_inLine 117 = .ok (.invokestatic 101, 3) := by decide +kernel
theorem dX12_inLine_120 : decode cX12_inLine 120 = .ok (.ishl, 1) := by decide +kernel
theorem dX12_inLine_121 : decode cX12_inLine 121 = .ok (.ior, 1) := by decide +kernel
theorem dX12_inLine_122 : decode cX12_inLine 122 = .ok (.istore_n 3, 1) := by decide +kernel
theorem dX12_inLine_123 : decode cX12_inLine 123 = .ok (.iinc 4 1, 3) := by decide +kernel
theorem dX12_inLine_126 : decode cX12_inLine 126 = .ok (.goto (-108), 3) := by decide +kernel
theorem dX12_inLine_129 : decode cX12_inLine 129 = .ok (.iload_n 1, 1) := by decide +kernel
theorem dX12_inLine_130 : decode cX12_inLine 130 = .ok (.iconst 5, 1) := by decide +kernel
theorem dX12_inLine_131 : decode cX12_inLine 131 = .ok (.if_icmp .ne 7, 3) := by decide +kernel
theorem dX12_inLine_134 : decode cX12_inLine 134 = .ok (.iload_n 3, 1) := by decide +kernel
theorem dX12_inLine_135 : decode cX12_inLine 135 = .ok (.goto 4, 3) := by decide +kernel
theorem dX12_inLine_138 : decode cX12_inLine 138 = .ok (.iload_n 2, 1) := by decide +kernel
theorem dX12_inLine_139 : decode cX12_inLine 139 = .ok (.ireturn, 1) := by decide +kernel
theorem dX12_edge_0 : decode cX12_edge 0 = .ok (.iload_n 1, 1) := by decide +kernel
theorem dX12_edge_1 : decode cX12_edge 1 = .ok (.iconst 0, 1) := by decide +kernel
theorem dX12_edge_2 : decode cX12_edge 2 = .ok (.iconst 1, 1) := by decide +kernel
theorem dX12_edge_3 : decode cX12_edge 3 = .ok (.invokestatic 108, 3) := by decide +kernel
theorem dX12_edge_6 : decode cX12_edge 6 = .ok (.ifCond .ne 5, 3) := by decide +kernel
theorem dX12_edge_9 : decode cX12_edge 9 = .ok (.iconst (-1), 1) := by decide +kernel
theorem dX12_edge_10 : decode cX12_edge 10 = .ok (.ireturn, 1) := by decide +kernel
theorem dX12_edge_11 : decode cX12_edge 11 = .ok (.iconst 0, 1) := by decide +kernel
theorem dX12_edge_12 : decode cX12_edge 12 = .ok (.istore_n 2, 1) := by decide +kernel
theorem dX12_edge_13 : decode cX12_edge 13 = .ok (.iconst 0, 1) := by decide +kernel
theorem dX12_edge_14 : decode cX12_edge 14 = .ok (.istore_n 3, 1) := by decide +kernel
theorem dX12_edge_15 : decode cX12_edge 15 = .ok (.iconst 0, 1) := by decide +kernel
theorem dX12_edge_16 : decode cX12_edge 16 = .ok (.istore 4, 2) := by decide +kernel
theorem dX12_edge_18 : decode cX12_edge 18 = .ok (.iload 4, 2) := by decide +kernel
theorem dX12_edge_20 : decode cX12_edge 20 = .ok (.bipush 16, 2) := by decide +kernel
theorem dX12_edge_22 : decode cX12_edge 22 = .ok (.if_icmp .ge 104, 3) := by decide +kernel
theorem dX12_edge_25 : decode cX12_edge 25 = .ok (.iconst 0, 1) := by decide +kernel
theorem dX12_edge_26 : decode cX12_edge 26 = .ok (.istore 5, 2) := by decide +kernel
theorem dX12_edge_28 : decode cX12_edge 28 = .ok (.bipush 9, 2) := by decide +kernel
theorem dX12_edge_30 : decode cX12_edge 30 = .ok (.iload 4, 2) := by decide +kernel
theorem dX12_edge_32 : decode cX12_edge 32 = .ok (.imul, 1) := by decide +kernel
theorem dX12_edge_33 : decode cX12_edge 33 = .ok (.istore 6, 2) := by decide +kernel
theorem dX12_edge_35 : decode cX12_edge 35 = .ok (.iload 6, 2) := by decide +kernel
theorem dX12_edge_37 : decode cX12_edge 37 = .ok (.bipush 9, 2) := by decide +kernel
theorem dX12_edge_39 : decode cX12_edge 39 = .ok (.iload 4, 2) := by decide +kernel
theorem dX12_edge_41 : decode cX12_edge 41 = .ok (.imul, 1) := by decide +kernel
theorem dX12_edge_42 : decode cX12_edge 42 = .ok (.bipush 9, 2) := by decide +kernel
theorem dX12_edge_44 : decode cX12_edge 44 = .ok (.iadd, 1) := by decide +kernel
theorem dX12_edge_45 : decode cX12_edge 45 = .ok (.if_icmp .ge 75, 3) := by decide +kernel
theorem dX12_edge_48 : decode cX12_edge 48 = .ok (.aload_n 0, 1) := by decide +kernel
theorem dX12_edge_49 : decode cX12_edge 49 = .ok (.iload 6, 2) := by decide +kernel
theorem dX12_edge_51 : decode cX12_edge 51 = .ok (.invokevirtual 93, 3) := by decide +kernel
theorem dX12_edge_54 : decode cX12_edge 54 = .ok (.ifCond .ne 6, 3) := by decide +kernel
theorem dX12_edge_57 : decode cX12_edge 57 = .ok (.goto 57, 3) := by decide +kernel
theorem dX12_edge_60 : decode cX12_edge 60 = .ok (.aload_n 0, 1) := by decide +kernel
theorem dX12_edge_61 : decode cX12_edge 61 = .ok (.getfield 7, 3) := by decide +kernel
theorem dX12_edge_64 : decode cX12_edge 64 = .ok (.iconst 0, 1) := by decide +kernel
theorem dX12_edge_65 : decode cX12_edge 65 = .ok (.iload 6, 2) := by decide +kernel
theorem dX12_edge_67 : decode cX12_edge 67 = .ok (.iadd, 1) := by decide +kernel
theorem dX12_edge_68 : decode cX12_edge 68 = .ok (.iaload, 1) := by decide +kernel
theorem dX12_edge_69 : decode cX12_edge 69 = .ok (.invokestatic 229, 3) := by decide +kernel
theorem dX12_edge_72 : decode cX12_edge 72 = .ok (.iconst 1, 1) := by decide +kernel
theorem dX12_edge_73 : decode cX12_edge 73 = .ok (.if_icmp .ne 7, 3) := by decide +kernel
theorem dX12_edge_76 : decode cX12_edge 76 = .ok (.iconst 1, 1) := by decide +kernel
theorem dX12_edge_77 : decode cX12_edge 77 = .ok (.goto 4, 3) := by decide +kernel
theorem dX12_edge_80 : decode cX12_edge 80 = .ok (.iconst 0, 1) := by decide +kernel
theorem dX12_edge_81 : decode cX12_edge 81 = .ok (.istore 7, 2) := by decide +kernel
theorem dX12_edge_83 : decode cX12_edge 83 = .ok (.iload 7, 2) := by decide +kernel
theorem dX12_edge_85 : decode cX12_edge 85 = .ok (.ifCond .eq 12, 3) := by decide +kernel
theorem dX12_edge_88 : decode cX12_edge 88 = .ok (.iload 5, 2) := by decide +kernel
theorem dX12_edge_90 : decode cX12_edge 90 = .ok (.ifCond .eq 7, 3) := by decide +kernel
theorem dX12_edge_93 : decode cX12_edge 93 = .ok (.iload_n 3, 1) := by decide +kernel
theorem dX12_edge_94 : decode cX12_edge 94 = .ok (.iconst 1, 1) := by decide +kernel
theorem dX12_edge_95 : decode cX12_edge 95 = .ok (.iadd, 1) := by decide +kernel
theorem dX12_edge_96 : decode cX12_edge 96 = .ok (.istore_n 3, 1) := by decide +kernel
theorem dX12_edge_97 : decode cX12_edge 97 = .ok (.iload 7, 2) := by decide +kernel
theorem dX12_edge_99 : decode cX12_edge 99 = .ok (.ifCond .eq 12, 3) := by decide +kernel
theorem dX12_edge_102 : decode cX12_edge 102 = .ok (.iload 5, 2) := by decide +kernel
theorem dX12_edge_104 : decode cX12_edge 104 = .ok (.ifCond .ne 7, 3) := by decide +kernel
theorem dX12_edge_107 : decode cX12_edge 107 = .ok (.iload_n 2, 1) := by decide +kernel
theorem dX12_edge_108 : decode cX12_edge 108 = .ok (.iconst 1, 1) := by decide +kernel
theorem dX12_edge_109 : decode cX12_edge 109 = .ok (.iadd, 1) := by decide +kernel
theorem dX12_edge_110 : decode cX12_edge 110 = .ok (.istore_n 2, 1) := by decide +kernel
theorem dX12_edge_111 : decode cX12_edge 111 = .ok (.iconst 1, 1) := by decide +kernel
theorem dX12_edge_112 : decode cX12_edge 112 = .ok (.istore 5, 2) := by decide +kernel
theorem dX12_edge_114 : decode cX12_edge 114 = .ok (.iinc 6 1, 3) := by decide +kernel
theorem dX12_edge_117 : decode cX12_edge 117 = .ok (.goto (-82), 3) := by decide +kernel
theorem dX12_edge_120 : decode cX12_edge 120 = .ok (.iinc 4 1, 3) := by decide +kernel
theorem dX12_edge_123 : decode cX12_edge 123 = .ok (.goto (-105), 3) := by decide +kernel
theorem dX12_edge_126 : decode cX12_edge 126 = .ok (.iload_n 1, 1) := by decide +kernel
theorem dX12_edge_127 : decode cX12_edge 127 = .ok (.ifCond .ne 7, 3) := by decide +kernel
theorem dX12_edge_130 : decode cX12_edge 130 = .ok (.iload_n 2, 1) := by decide +kernel
theorem dX12_edge_131 : decode cX12_edge 131 = .ok (.goto 4, 3) := by decide +kernel
theorem dX12_edge_134 : decode cX12_edge 134 = .ok (.iload_n 3, 1) := by decide +kernel
theorem dX12_edge_135 : decode cX12_edge 135 = .ok (.ireturn, 1) := by decide +kernel
theorem dX12_ushers_0 : decode cX12_ushers 0 = .ok (.iload_n 1, 1) := by decide +kernel
theorem dX12_ushers_1 : decode cX12_ushers 1 = .ok (.iconst 1, 1) := by decide +kernel
theorem dX12_ushers_2 : decode cX12_ushers 2 = .ok (.bipush 20, 2) := by decide +kernel
theorem dX12_ushers_4 : decode cX12_ushers 4 = .ok (.invokestatic 108, 3) := by decide +kernel
theorem dX12_ushers_7 : decode cX12_ushers 7 = .ok (.ifCond .eq 38, 3) := by decide +kernel
theorem dX12_ushers_10 : decode cX12_ushers 10 = .ok (.iload_n 2, 1) := by decide +kernel
theorem dX12_ushers_11 : decode cX12_ushers 11 = .ok (.iconst 1, 1) := by decide +kernel
theorem dX12_ushers_12 : decode cX12_ushers 12 = .ok (.bipush 8, 2) := by decide +kernel
theorem dX12_ushers_14 : decode cX12_ushers 14 = .ok (.invokestatic 108, 3) := by decide +kernel
theorem dX12_ushers_17 : decode cX12_ushers 17 = .ok (.ifCond .eq 28, 3) := by decide +kernel
theorem dX12_ushers_20 : decode cX12_ushers 20 = .ok (.iload_n 3, 1) := by decide +kernel
theorem dX12_ushers_21 : decode cX12_ushers 21 = .ok (.bipush 100, 2) := by decide +kernel
theorem dX12_ushers_23 : decode cX12_ushers 23 = .ok (.if_icmp .eq 14, 3) := by decide +kernel
theorem dX12_ushers_26 : decode cX12_ushers 26 = .ok (.iload_n 3, 1) := by decide +kernel
theorem dX12_ushers_27 : decode cX12_ushers 27 = .ok (.iconst 0, 1) := by decide +kernel
theorem dX12_ushers_28 : decode cX12_ushers 28 = .ok (.iload_n 1, 1) := by decide +kernel
theorem dX12_ushers_29 : decode cX12_ushers 29 = .ok (.iconst 1, 1) := by decide +kernel
theorem dX12_ushers_30 : decode cX12_ushers 30 = .ok (.isub, 1) := by decide +kernel
theorem dX12_ushers_31 : decode cX12_ushers 31 = .ok (.invokestatic 108, 3) := by decide +kernel
theorem dX12_ushers_34 : decode cX12_ushers 34 = .ok (.ifCond .eq 11, 3) := by decide +kernel
theorem dX12_ushers_37 : decode cX12_ushers 37 = .ok (.iload_n 1, 1) := by decide +kernel
theorem dX12_ushers_38 : decode cX12_ushers 38 = .ok (.aload_n 0, 1) := by decide +kernel
theorem dX12_ushers_39 : decode cX12_ushers 39 = .ok (.getfield 112, 3) := by decide +kernel
theorem dX12_ushers_42 : decode cX12_ushers 42 = .ok (.if_icmp .le 5, 3) := by decide +kernel
theorem dX12_ushers_45 : decode cX12_ushers 45 = .ok (.iconst (-1), 1) := by decide +kernel
theorem dX12_ushers_46 : decode cX12_ushers 46 = .ok (.ireturn, 1) := by decide +kernel
theorem dX12_ushers_47 : decode cX12_ushers 47 = .ok (.aload_n 0, 1) := by decide +kernel
theorem dX12_ushers_48 : decode cX12_ushers 48 = .ok (.iconst 0, 1) := by decide +kernel
theorem dX12_ushers_49 : decode cX12_ushers 49 = .ok (.putfield 112, 3) := by decide +kernel
theorem dX12_ushers_52 : decode cX12_ushers 52 = .ok (.iconst 0, 1) := by decide +kernel
theorem dX12_ushers_53 : decode cX12_ushers 53 = .ok (.istore 4, 2) := by decide +kernel
theorem dX12_ushers_55 : decode cX12_ushers 55 = .ok (.iload 4, 2) := by decide +kernel
theorem dX12_ushers_57 : decode cX12_ushers 57 = .ok (.bipush 8, 2) := by decide +kernel
theorem dX12_ushers_59 : decode cX12_ushers 59 = .ok (.if_icmp .ge 17, 3) := by decide +kernel
theorem dX12_ushers_62 : decode cX12_ushers 62 = .ok (.aload_n 0, 1) := by decide +kernel
theorem dX12_ushers_63 : decode cX12_ushers 63 = .ok (.getfield 75, 3) := by decide +kernel
theorem dX12_ushers_66 : decode cX12_ushers 66 = .ok (.iload 4, 2) := by decide +kernel
theorem dX12_ushers_68 : decode cX12_ushers 68 = .ok (.iconst 0, 1) := by decide +kernel
theorem dX12_ushers_69 : decode cX12_ushers 69 = .ok (.iastore, 1) := by decide +kernel
theorem dX12_ushers_70 : decode cX12_ushers 70 = .ok (.iinc 4 1, 3) := by decide +kernel
theorem dX12_ushers_73 : decode cX12_ushers 73 = .ok (.goto (-18), 3) := by decide +kernel
theorem dX12_ushers_76 : decode cX12_ushers 76 = .ok (.iconst 0, 1) := by decide +kernel
theorem dX12_ushers_77 : decode cX12_ushers 77 = .ok (.istore 4, 2) := by decide +kernel
theorem dX12_ushers_79 : decode cX12_ushers 79 = .ok (.iconst 0, 1) := by decide +kernel
theorem dX12_ushers_80 : decode cX12_ushers 80 = .ok (.istore 5, 2) := by decide +kernel
theorem dX12_ushers_82 : decode cX12_ushers 82 = .ok (.iload 5, 2) := by decide +kernel
theorem dX12_ushers_84 : decode cX12_ushers 84 = .ok (.iload_n 1, 1) := by decide +kernel
theorem dX12_ushers_85 : decode cX12_ushers 85 = .ok (.if_icmp .ge 97, 3) := by decide +kernel
theorem dX12_ushers_88 : decode cX12_ushers 88 = .ok (.iconst 0, 1) := by decide +kernel
theorem dX12_ushers_89 : decode cX12_ushers 89 = .ok (.istore 6, 2) := by decide +kernel
theorem dX12_ushers_91 : decode cX12_ushers 91 = .ok (.iconst 1, 1) := by decide +kernel
theorem dX12_ushers_92 : decode cX12_ushers 92 = .ok (.istore 7, 2) := by decide +kernel
theorem dX12_ushers_94 : decode cX12_ushers 94 = .ok (.iload 7, 2) := by decide +kernel
theorem dX12_ushers_96 : decode cX12_ushers 96 = .ok (.iload_n 2, 1) := by decide +kernel
theorem dX12_ushers_97 : decode cX12_ushers 97 = .ok (.if_icmp .ge 30, 3) := by decide +kernel
theorem dX12_ushers_100 : decode cX12_ushers 100 = .ok (.aload_n 0, 1) := by decide +kernel
theorem dX12_ushers_101 : decode cX12_ushers 101 = .ok (.getfield 75, 3) := by decide +kernel
theorem dX12_ushers_104 : decode cX12_ushers 104 = .ok (.iload 7, 2) := by decide +kernel
theorem dX12_ushers_106 : decode cX12_ushers 106 = .ok (.iaload, 1) := by decide +kernel
theorem dX12_ushers_107 : decode cX12_ushers 107 = .ok (.aload_n 0, 1) := by decide +kernel
theorem dX12_ushers_108 : decode cX12_ushers 108 = .ok (.getfield 75, 3) := by decide +kernel
theorem dX12_ushers_111 : decode cX12_ushers 111 = .ok (.iload 6, 2) := by decide +kernel
theorem dX12_ushers_113 : decode cX12_ushers 113 = .ok (.iaload, 1) := by decide +kernel
theorem dX12_ushers_114 : decode cX12_ushers 114 = .ok (.if_icmp .ge 7, 3) := by decide +kernel
theorem dX12_ushers_117 : decode cX12_ushers 117 = .ok (.iload 7, 2) := by decide +kernel
theorem dX12_ushers_119 : decode cX12_ushers 119 = .ok (.istore 6, 2) := by decide +kernel
theorem dX12_ushers_121 : decode cX12_ushers 121 = .ok (.iinc 7 1, 3) := by decide +kernel
theorem dX12_ushers_124 : decode cX12_ushers 124 = .ok (.goto (-30), 3) := by decide +kernel
theorem dX12_ushers_127 : decode cX12_ushers 127 = .ok (.aload_n 0, 1) := by decide +kernel
theorem dX12_ushers_128 : decode cX12_ushers 128 = .ok (.getfield 78, 3) := by decide +kernel
theorem dX12_ushers_131 : decode cX12_ushers 131 = .ok (.iload 5, 2) := by decide +kernel
theorem dX12_ushers_133 : decode cX12_ushers 133 = .ok (.aload_n 0, 1) := by decide +kernel
theorem dX12_ushers_134 : decode cX12_ushers 134 = .ok (.getfield 75, 3) := by decide +kernel
theorem dX12_ushers_137 : decode cX12_ushers 137 = .ok (.iload 6, 2) := by decide +kernel
theorem dX12_ushers_139 : decode cX12_ushers 139 = .ok (.iaload, 1) := by decide +kernel
theorem dX12_ushers_140 : decode cX12_ushers 140 = .ok (.iastore, 1) := by decide +kernel
theorem dX12_ushers_141 : decode cX12_ushers 141 = .ok (.aload_n 0, 1) := by decide +kernel
theorem dX12_ushers_142 : decode cX12_ushers 142 = .ok (.getfield 75, 3) := by decide +kernel
theorem dX12_ushers_145 : decode cX12_ushers 145 = .ok (.iload 6, 2) := by decide +kernel
theorem dX12_ushers_147 : decode cX12_ushers 147 = .ok (.aload_n 0, 1) := by decide +kernel
theorem dX12_ushers_148 : decode cX12_ushers 148 = .ok (.getfield 75, 3) := by decide +kernel
theorem dX12_ushers_151 : decode cX12_ushers 151 = .ok (.iload 6, 2) := by decide +kernel
theorem dX12_ushers_153 : decode cX12_ushers 153 = .ok (.iaload, 1) := by decide +kernel
theorem dX12_ushers_154 : decode cX12_ushers 154 = .ok (.aload_n 0, 1) := by decide +kernel
theorem dX12_ushers_155 : decode cX12_ushers 155 = .ok (.iload 5, 2) := by decide +kernel
theorem dX12_ushers_157 : decode cX12_ushers 157 = .ok (.invokevirtual 339, 3) := by decide +kernel
theorem dX12_ushers_160 : decode cX12_ushers 160 = .ok (.iadd, 1) := by decide +kernel
theorem dX12_ushers_161 : decode cX12_ushers 161 = .ok (.iastore, 1) := by decide +kernel
theorem dX12_ushers_162 : decode cX12_ushers 162 = .ok (.iload 4, 2) := by decide +kernel
theorem dX12_ushers_164 : decode cX12_ushers 164 = .ok (.aload_n 0, 1) := by decide +kernel
theorem dX12_ushers_165 : decode cX12_ushers 165 = .ok (.getfield 75, 3) := by decide +kernel
theorem dX12_ushers_168 : decode cX12_ushers 168 = .ok (.iload 6, 2) := by decide +kernel
theorem dX12_ushers_170 : decode cX12_ushers 170 = .ok (.iaload, 1) := by decide +kernel
theorem dX12_ushers_171 : decode cX12_ushers 171 = .ok (.invokestatic 313, 3) := by decide +kernel
theorem dX12_ushers_174 : decode cX12_ushers 174 = .ok (.istore 4, 2) := by decide +kernel
theorem dX12_ushers_176 : decode cX12_ushers 176 = .ok (.iinc 5 1, 3) := by decide +kernel
theorem dX12_ushers_179 : decode cX12_ushers 179 = .ok (.goto (-97), 3) := by decide +kernel
theorem dX12_ushers_182 : decode cX12_ushers 182 = .ok (.iload_n 3, 1) := by decide +kernel
theorem dX12_ushers_183 : decode cX12_ushers 183 = .ok (.bipush 100, 2) := by decide +kernel
theorem dX12_ushers_185 : decode cX12_ushers 185 = .ok (.if_icmp .ne 8, 3) := by decide +kernel
theorem dX12_ushers_188 : decode cX12_ushers 188 = .ok (.iload 4, 2) := by decide +kernel
theorem dX12_ushers_190 : decode cX12_ushers 190 = .ok (.goto 9, 3) := by decide +kernel
theorem dX12_ushers_193 : decode cX12_ushers 193 = .ok (.aload_n 0, 1) := by decide +kernel
theorem dX12_ushers_194 : decode cX12_ushers 194 = .ok (.getfield 78, 3) := by decide +kernel
theorem dX12_ushers_197 : decode cX12_ushers 197 = .ok (.iload_n 3, 1) := by decide +kernel
theorem dX12_ushers_198 : decode cX12_ushers 198 = .ok (.iaload, 1) := by decide +kernel
theorem dX12_ushers_199 : decode cX12_ushers 199 = .ok (.ireturn, 1) := by decide +kernel
theorem dX12_leastTime_0 : decode cX12_leastTime 0 = .ok (.iload_n 1, 1) := by decide +kernel
theorem dX12_leastTime_1 : decode cX12_leastTime 1 = .ok (.iconst 1, 1) := by decide +kernel
theorem dX12_leastTime_2 : decode cX12_leastTime 2 = .ok (.bipush 10, 2) := by decide +kernel
theorem dX12_leastTime_4 : decode cX12_leastTime 4 = .ok (.invokestatic 108, 3) := by decide +kernel
theorem dX12_leastTime_7 : decode cX12_leastTime 7 = .ok (.ifCond .eq 21, 3) := by decide +kernel
theorem dX12_leastTime_10 : decode cX12_leastTime 10 = .ok (.iload_n 2, 1) := by decide +kernel
theorem dX12_leastTime_11 : decode cX12_leastTime 11 = .ok (.iconst 1, 1) := by decide +kernel
theorem dX12_leastTime_12 : decode cX12_leastTime 12 = .ok (.bipush 8, 2) := by decide +kernel
theorem dX12_leastTime_14 : decode cX12_leastTime 14 = .ok (.invokestatic 108, 3) := by decide +kernel
theorem dX12_leastTime_17 : decode cX12_leastTime 17 = .ok (.ifCond .eq 11, 3) := by decide +kernel
theorem dX12_leastTime_20 : decode cX12_leastTime 20 = .ok (.iload_n 1, 1) := by decide +kernel
theorem dX12_leastTime_21 : decode cX12_leastTime 21 = .ok (.aload_n 0, 1) := by decide +kernel
theorem dX12_leastTime_22 : decode cX12_leastTime 22 = .ok (.getfield 112, 3) := by decide +kernel
theorem dX12_leastTime_25 : decode cX12_leastTime 25 = .ok (.if_icmp .le 5, 3) := by decide +kernel
theorem dX12_leastTime_28 : decode cX12_leastTime 28 = .ok (.iconst (-1), 1) := by decide +kernel
theorem dX12_leastTime_29 : decode cX12_leastTime 29 = .ok (.ireturn, 1) := by decide +kernel
theorem dX12_leastTime_30 : decode cX12_leastTime 30 = .ok (.aload_n 0, 1) := by decide +kernel
theorem dX12_leastTime_31 : decode cX12_leastTime 31 = .ok (.iconst 0, 1) := by decide +kernel
theorem dX12_leastTime_32 : decode cX12_leastTime 32 = .ok (.putfield 112, 3) := by decide +kernel
theorem dX12_leastTime_35 : decode cX12_leastTime 35 = .ok (.iconst 1, 1) := by decide +kernel
theorem dX12_leastTime_36 : decode cX12_leastTime 36 = .ok (.iload_n 1, 1) := by decide +kernel
theorem dX12_leastTime_37 : decode cX12_leastTime 37 = .ok (.ishl, 1) := by decide +kernel
theorem dX12_leastTime_38 : decode cX12_leastTime 38 = .ok (.iconst 1, 1) := by decide +kernel
theorem dX12_leastTime_39 : decode cX12_leastTime 39 = .ok (.isub, 1) := by decide +kernel
theorem dX12_leastTime_40 : decode cX12_leastTime 40 = .ok (.istore_n 3, 1) := by decide +kernel
theorem dX12_leastTime_41 : decode cX12_leastTime 41 = .ok (.iconst 0, 1) := by decide +kernel
theorem dX12_leastTime_42 : decode cX12_leastTime 42 = .ok (.istore 4, 2) := by decide +kernel
theorem dX12_leastTime_44 : decode cX12_leastTime 44 = .ok (.iload 4, 2) := by decide +kernel
theorem dX12_leastTime_46 : decode cX12_leastTime 46 = .ok (.iload_n 3, 1) := by decide +kernel
theorem dX12_leastTime_47 : decode cX12_leastTime 47 = .ok (.if_icmp .gt 23, 3) := by decide +kernel
theorem dX12_leastTime_50 : decode cX12_leastTime 50 = .ok (.aload_n 0, 1) := by decide +kernel
theorem dX12_leastTime_51 : decode cX12_leastTime 51 = .ok (.getfield 81, 3) := by decide +kernel
theorem dX12_leastTime_54 : decode cX12_leastTime 54 = .ok (.iload 4, 2) := by decide +kernel
theorem dX12_leastTime_56 : decode cX12_leastTime 56 = .ok (.aload_n 0, 1) := by decide +kernel
theorem dX12_leastTime_57 : decode cX12_leastTime 57 = .ok (.iload 4, 2) := by decide +kernel
theorem dX12_leastTime_59 : decode cX12_leastTime 59 = .ok (.iload_n 1, 1) := by decide +kernel
theorem dX12_leastTime_60 : decode cX12_leastTime 60 = .ok (.invokevirtual 345, 3) := by decide +kernel
theorem dX12_leastTime_63 : decode cX12_leastTime 63 = .ok (.iastore, 1) := by decide +kernel
theorem dX12_leastTime_64 : decode cX12_leastTime 64 = .ok (.iinc 4 1, 3) := by decide +kernel
theorem dX12_leastTime_67 : decode cX12_leastTime 67 = .ok (.goto (-23), 3) := by decide +kernel
theorem dX12_leastTime_70 : decode cX12_leastTime 70 = .ok (.iconst 1, 1) := by decide +kernel
theorem dX12_leastTime_71 : decode cX12_leastTime 71 = .ok (.istore 4, 2) := by decide +kernel
theorem dX12_leastTime_73 : decode cX12_leastTime 73 = .ok (.iload 4, 2) := by decide +kernel
theorem dX12_leastTime_75 : decode cX12_leastTime 75 = .ok (.iload_n 2, 1) := by decide +kernel
theorem dX12_leastTime_76 : decode cX12_leastTime 76 = .ok (.if_icmp .ge 83, 3) := by decide +kernel
theorem dX12_leastTime_79 : decode cX12_leastTime 79 = .ok (.iload_n 3, 1) := by decide +kernel
theorem dX12_leastTime_80 : decode cX12_leastTime 80 = .ok (.istore 5, 2) := by decide +kernel
theorem dX12_leastTime_82 : decode cX12_leastTime 82 = .ok (.iload 5, 2) := by decide +kernel
theorem dX12_leastTime_84 : decode cX12_leastTime 84 = .ok (.ifCond .le 69, 3) := by decide +kernel
theorem dX12_leastTime_87 : decode cX12_leastTime 87 = .ok (.iload 5, 2) := by decide +kernel
theorem dX12_leastTime_89 : decode cX12_leastTime 89 = .ok (.istore 6, 2) := by decide +kernel
theorem dX12_leastTime_91 : decode cX12_leastTime 91 = .ok (.iload 6, 2) := by decide +kernel
theorem dX12_leastTime_93 : decode cX12_leastTime 93 = .ok (.ifCond .le 54, 3) := by decide +kernel
theorem dX12_leastTime_96 : decode cX12_leastTime 96 = .ok (.aload_n 0, 1) := by decide +kernel
theorem dX12_leastTime_97 : decode cX12_leastTime 97 = .ok (.getfield 81, 3) := by decide +kernel
theorem dX12_leastTime_100 : decode cX12_leastTime 100 = .ok (.iload 5, 2) := by decide +kernel
theorem dX12_leastTime_102 : decode cX12_leastTime 102 = .ok (.aload_n 0, 1) := by decide +kernel
theorem dX12_leastTime_103 : decode cX12_leastTime 103 = .ok (.getfield 81, 3) := by decide +kernel
theorem dX12_leastTime_106 : decode cX12_leastTime 106 = .ok (.iload 5, 2) := by decide +kernel
theorem dX12_leastTime_108 : decode cX12_leastTime 108 = .ok (.iaload, 1) := by decide +kernel
theorem dX12_leastTime_109 : decode cX12_leastTime 109 = .ok (.aload_n 0, 1) := by decide +kernel
theorem dX12_leastTime_110 : decode cX12_leastTime 110 = .ok (.iload 6, 2) := by decide +kernel
theorem dX12_leastTime_112 : decode cX12_leastTime 112 = .ok (.iload_n 1, 1) := by decide +kernel
theorem dX12_leastTime_113 : decode cX12_leastTime 113 = .ok (.invokevirtual 345, 3) := by decide +kernel
theorem dX12_leastTime_116 : decode cX12_leastTime 116 = .ok (.aload_n 0, 1) := by decide +kernel
theorem dX12_leastTime_117 : decode cX12_leastTime 117 = .ok (.getfield 81, 3) := by decide +kernel
theorem dX12_leastTime_120 : decode cX12_leastTime 120 = .ok (.iload 5, 2) := by decide +kernel
theorem dX12_leastTime_122 : decode cX12_leastTime 122 = .ok (.iload 6, 2) := by decide +kernel
theorem dX12_leastTime_124 : decode cX12_leastTime 124 = .ok (.iconst (-1), 1) := by decide +kernel
theorem dX12_leastTime_125 : decode cX12_leastTime 125 = .ok (.ixor, 1) := by decide +kernel
theorem dX12_leastTime_126 : decode cX12_leastTime 126 = .ok (.iand, 1) := by decide +kernel
theorem dX12_leastTime_127 : decode cX12_leastTime 127 = .ok (.iaload, 1) := by decide +kernel
theorem dX12_leastTime_128 : decode cX12_leastTime 128 = .ok (.invokestatic 313, 3) := by decide +kernel
theorem dX12_leastTime_131 : decode cX12_leastTime 131 = .ok (.invokestatic 355, 3) := by decide +kernel
theorem dX12_leastTime_134 : decode cX12_leastTime 134 = .ok (.iastore, 1) := by decide +kernel
theorem dX12_leastTime_135 : decode cX12_leastTime 135 = .ok (.iload 6, 2) := by decide +kernel
theorem dX12_leastTime_137 : decode cX12_leastTime 137 = .ok (.iconst 1, 1) := by decide +kernel
theorem dX12_leastTime_138 : decode cX12_leastTime 138 = .ok (.isub, 1) := by decide +kernel
theorem dX12_leastTime_139 : decode cX12_leastTime 139 = .ok (.iload 5, 2) := by decide +kernel
theorem dX12_leastTime_141 : decode cX12_leastTime 141 = .ok (.iand, 1) := by decide +kernel
theorem dX12_leastTime_142 : decode cX12_leastTime 142 = .ok (.istore 6, 2) := by decide +kernel
theorem dX12_leastTime_144 : decode cX12_leastTime 144 = .ok (.goto (-53), 3) := by decide +kernel
theorem dX12_leastTime_147 : decode cX12_leastTime 147 = .ok (.iinc 5 (-1), 3) := by decide +kernel
theorem dX12_leastTime_150 : decode cX12_leastTime 150 = .ok (.goto (-68), 3) := by decide +kernel
theorem dX12_leastTime_153 : decode cX12_leastTime 153 = .ok (.iinc 4 1, 3) := by decide +kernel
theorem dX12_leastTime_156 : decode cX12_leastTime 156 = .ok (.goto (-83), 3) := by decide +kernel
theorem dX12_leastTime_159 : decode cX12_leastTime 159 = .ok (.aload_n 0, 1) := by decide +kernel
theorem dX12_leastTime_160 : decode cX12_leastTime 160 = .ok (.getfield 81, 3) := by decide +kernel
theorem dX12_leastTime_163 : decode cX12_leastTime 163 = .ok (.iload_n 3, 1) := by decide +kernel
theorem dX12_leastTime_164 : decode cX12_leastTime 164 = .ok (.iaload, 1) := by decide +kernel
theorem dX12_leastTime_165 : decode cX12_leastTime 165 = .ok (.ireturn, 1) := by decide +kernel
theorem dX12_takenIn_0 : decode cX12_takenIn 0 = .ok (.iconst 0, 1) := by decide +kernel
theorem dX12_takenIn_1 : decode cX12_takenIn 1 = .ok (.istore_n 2, 1) := by decide +kernel
theorem dX12_takenIn_2 : decode cX12_takenIn 2 = .ok (.iconst 0, 1) := by decide +kernel
theorem dX12_takenIn_3 : decode cX12_takenIn 3 = .ok (.istore_n 3, 1) := by decide +kernel
theorem dX12_takenIn_4 : decode cX12_takenIn 4 = .ok (.iload_n 3, 1) := by decide +kernel
theorem dX12_takenIn_5 : decode cX12_takenIn 5 = .ok (.bipush 9, 2) := by decide +kernel
theorem dX12_takenIn_7 : decode cX12_takenIn 7 = .ok (.if_icmp .ge 28, 3) := by decide +kernel
theorem dX12_takenIn_10 : decode cX12_takenIn 10 = .ok (.aload_n 0, 1) := by decide +kernel
theorem dX12_takenIn_11 : decode cX12_takenIn 11 = .ok (.bipush 9, 2) := by decide +kernel
theorem dX12_takenIn_13 : decode cX12_takenIn 13 = .ok (.iload_n 1, 1) := by decide +kernel
theorem dX12_takenIn_14 : decode cX12_takenIn 14 = .ok (.imul, 1) := by decide +kernel
theorem dX12_takenIn_15 : decode cX12_takenIn 15 = .ok (.iload_n 3, 1) := by decide +kernel
theorem dX12_takenIn_16 : decode cX12_takenIn 16 = .ok (.iadd, 1) := by decide +kernel
theorem dX12_takenIn_17 : decode cX12_takenIn 17 = .ok (.invokevirtual 93, 3) := by decide +kernel
theorem dX12_takenIn_20 : decode cX12_takenIn 20 = .ok (.ifCond .eq 9, 3) := by decide +kernel
theorem dX12_takenIn_23 : decode cX12_takenIn 23 = .ok (.iload_n 2, 1) := by decide +kernel
theorem dX12_takenIn_24 : decode cX12_takenIn 24 = .ok (.iconst 1, 1) := by decide +kernel
theorem dX12_takenIn_25 : decode cX12_takenIn 25 = .ok (.iload_n 3, 1) := by decide +kernel
theorem dX12_takenIn_26 : decode cX12_takenIn 26 = .ok (.ishl, 1) := by decide +kernel
theorem dX12_takenIn_27 : decode cX12_takenIn 27 = .ok (.ior, 1) := by decide +kernel
theorem dX12_takenIn_28 : decode cX12_takenIn 28 = .ok (.istore_n 2, 1) := by decide +kernel
theorem dX12_takenIn_29 : decode cX12_takenIn 29 = .ok (.iinc 3 1, 3) := by decide +kernel
theorem dX12_takenIn_32 : decode cX12_takenIn 32 = .ok (.goto (-28), 3) := by decide +kernel
theorem dX12_takenIn_35 : decode cX12_takenIn 35 = .ok (.iload_n 2, 1) := by decide +kernel
theorem dX12_takenIn_36 : decode cX12_takenIn 36 = .ok (.ireturn, 1) := by decide +kernel
theorem dX12_photo_0 : decode cX12_photo 0 = .ok (.iload_n 1, 1) := by decide +kernel
theorem dX12_photo_1 : decode cX12_photo 1 = .ok (.iconst 0, 1) := by decide +kernel
theorem dX12_photo_2 : decode cX12_photo 2 = .ok (.iconst 1, 1) := by decide +kernel
theorem dX12_photo_3 : decode cX12_photo 3 = .ok (.invokestatic 108, 3) := by decide +kernel
theorem dX12_photo_6 : decode cX12_photo 6 = .ok (.ifCond .ne 5, 3) := by decide +kernel
theorem dX12_photo_9 : decode cX12_photo 9 = .ok (.iconst (-1), 1) := by decide +kernel
theorem dX12_photo_10 : decode cX12_photo 10 = .ok (.ireturn, 1) := by decide +kernel
theorem dX12_photo_11 : decode cX12_photo 11 = .ok (.iconst 0, 1) := by decide +kernel
theorem dX12_photo_12 : decode cX12_photo 12 = .ok (.istore_n 2, 1) := by decide +kernel
theorem dX12_photo_13 : decode cX12_photo 13 = .ok (.iconst 0, 1) := by decide +kernel
theorem dX12_photo_14 : decode cX12_photo 14 = .ok (.istore_n 3, 1) := by decide +kernel
theorem dX12_photo_15 : decode cX12_photo 15 = .ok (.iload_n 3, 1) := by decide +kernel
theorem dX12_photo_16 : decode cX12_photo 16 = .ok (.sipush 512, 3) := by decide +kernel
theorem dX12_photo_19 : decode cX12_photo 19 = .ok (.if_icmp .ge 24, 3) := by decide +kernel
theorem dX12_photo_22 : decode cX12_photo 22 = .ok (.aload_n 0, 1) := by decide +kernel
theorem dX12_photo_23 : decode cX12_photo 23 = .ok (.getfield 84, 3) := by decide +kernel
theorem dX12_photo_26 : decode cX12_photo 26 = .ok (.iload_n 3, 1) := by decide +kernel
theorem dX12_photo_27 : decode cX12_photo 27 = .ok (.iload_n 3, 1) := by decide +kernel
theorem dX12_photo_28 : decode cX12_photo 28 = .ok (.ifCond .ne 7, 3) := by decide +kernel
theorem dX12_photo_31 : decode cX12_photo 31 = .ok (.iconst 0, 1) := by decide +kernel
theorem dX12_photo_32 : decode cX12_photo 32 = .ok (.goto 4, 3) := by decide +kernel
theorem dX12_photo_35 : decode cX12_photo 35 = .ok (.iconst (-1), 1) := by decide +kernel
theorem dX12_photo_36 : decode cX12_photo 36 = .ok (.iastore, 1) := by decide +kernel
theorem dX12_photo_37 : decode cX12_photo 37 = .ok (.iinc 3 1, 3) := by decide +kernel
theorem dX12_photo_40 : decode cX12_photo 40 = .ok (.goto (-25), 3) := by decide +kernel
theorem dX12_photo_43 : decode cX12_photo 43 = .ok (.iconst 0, 1) := by decide +kernel
theorem dX12_photo_44 : decode cX12_photo 44 = .ok (.istore_n 3, 1) := by decide +kernel
theorem dX12_photo_45 : decode cX12_photo 45 = .ok (.iload_n 3, 1) := by decide +kernel
theorem dX12_photo_46 : decode cX12_photo 46 = .ok (.bipush 8, 2) := by decide +kernel
theorem dX12_photo_48 : decode cX12_photo 48 = .ok (.if_icmp .ge 178, 3) := by decide +kernel
theorem dX12_photo_51 : decode cX12_photo 51 = .ok (.aload_n 0, 1) := by decide +kernel
theorem dX12_photo_52 : decode cX12_photo 52 = .ok (.bipush 8, 2) := by decide +kernel
theorem dX12_photo_54 : decode cX12_photo 54 = .ok (.iload_n 1, 1) := by decide +kernel
theorem dX12_photo_55 : decode cX12_photo 55 = .ok (.imul, 1) := by decide +kernel
theorem dX12_photo_56 : decode cX12_photo 56 = .ok (.iload_n 3, 1) := by decide +kernel
theorem dX12_photo_57 : decode cX12_photo 57 = .ok (.iadd, 1) := by decide +kernel
theorem dX12_photo_58 : decode cX12_photo 58 = .ok (.invokevirtual 358, 3) := by decide +kernel
theorem dX12_photo_61 : decode cX12_photo 61 = .ok (.istore 4, 2) := by decide +kernel
theorem dX12_photo_63 : decode cX12_photo 63 = .ok (.iconst 0, 1) := by decide +kernel
theorem dX12_photo_64 : decode cX12_photo 64 = .ok (.istore 5, 2) := by decide +kernel
theorem dX12_photo_66 : decode cX12_photo 66 = .ok (.iload 5, 2) := by decide +kernel
theorem dX12_photo_68 : decode cX12_photo 68 = .ok (.sipush 512, 3) := by decide +kernel
theorem dX12_photo_71 : decode cX12_photo 71 = .ok (.if_icmp .ge 118, 3) := by decide +kernel
theorem dX12_photo_74 : decode cX12_photo 74 = .ok (.aload_n 0, 1) := by decide +kernel
theorem dX12_photo_75 : decode cX12_photo 75 = .ok (.getfield 87, 3) := by decide +kernel
theorem dX12_photo_78 : decode cX12_photo 78 = .ok (.iload 5, 2) := by decide +kernel
theorem dX12_photo_80 : decode cX12_photo 80 = .ok (.iconst (-1), 1) := by decide +kernel
theorem dX12_photo_81 : decode cX12_photo 81 = .ok (.iastore, 1) := by decide +kernel
theorem dX12_photo_82 : decode cX12_photo 82 = .ok (.iload 5, 2) := by decide +kernel
theorem dX12_photo_84 : decode cX12_photo 84 = .ok (.iload 4, 2) := by decide +kernel
theorem dX12_photo_86 : decode cX12_photo 86 = .ok (.iconst (-1), 1) := by decide +kernel
theorem dX12_photo_87 : decode cX12_photo 87 = .ok (.ixor, 1) := by decide +kernel
theorem dX12_photo_88 : decode cX12_photo 88 = .ok (.iand, 1) := by decide +kernel
theorem dX12_photo_89 : decode cX12_photo 89 = .ok (.ifCond .ne 94, 3) := by decide +kernel
theorem dX12_photo_92 : decode cX12_photo 92 = .ok (.iload 5, 2) := by decide +kernel
theorem dX12_photo_94 : decode cX12_photo 94 = .ok (.iload 5, 2) := by decide +kernel
theorem dX12_photo_96 : decode cX12_photo 96 = .ok (.iconst 1, 1) := by decide +kernel
theorem dX12_photo_97 : decode cX12_photo 97 = .ok (.ishr, 1) := by decide +kernel
theorem dX12_photo_98 : decode cX12_photo 98 = .ok (.iand, 1) := by decide +kernel
theorem dX12_photo_99 : decode cX12_photo 99 = .ok (.ifCond .eq 6, 3) := by decide +kernel
theorem dX12_photo_102 : decode cX12_photo 102 = .ok (.goto 81, 3) := by decide +kernel
theorem dX12_photo_105 : decode cX12_photo 105 = .ok (.iconst 0, 1) := by decide +kernel
theorem dX12_photo_106 : decode cX12_photo 106 = .ok (.istore 6, 2) := by decide +kernel
theorem dX12_photo_108 : decode cX12_photo 108 = .ok (.iload 6, 2) := by decide +kernel
theorem dX12_photo_110 : decode cX12_photo 110 = .ok (.sipush 512, 3) := by decide +kernel
theorem dX12_photo_113 : decode cX12_photo 113 = .ok (.if_icmp .ge 58, 3) := by decide +kernel
theorem dX12_photo_116 : decode cX12_photo 116 = .ok (.aload_n 0, 1) := by decide +kernel
theorem dX12_photo_117 : decode cX12_photo 117 = .ok (.getfield 84, 3) := by decide +kernel
theorem dX12_photo_120 : decode cX12_photo 120 = .ok (.iload 6, 2) := by decide +kernel
theorem dX12_photo_122 : decode cX12_photo 122 = .ok (.iaload, 1) := by decide +kernel
theorem dX12_photo_123 : decode cX12_photo 123 = .ok (.iconst (-1), 1) := by decide +kernel
theorem dX12_photo_124 : decode cX12_photo 124 = .ok (.if_icmp .eq 41, 3) := by decide +kernel
theorem dX12_photo_127 : decode cX12_photo 127 = .ok (.iload 6, 2) := by decide +kernel
theorem dX12_photo_129 : decode cX12_photo 129 = .ok (.iload 5, 2) := by decide +kernel
theorem dX12_photo_131 : decode cX12_photo 131 = .ok (.iand, 1) := by decide +kernel
theorem dX12_photo_132 : decode cX12_photo 132 = .ok (.ifCond .ne 33, 3) := by decide +kernel
theorem dX12_photo_135 : decode cX12_photo 135 = .ok (.aload_n 0, 1) := by decide +kernel
theorem dX12_photo_136 : decode cX12_photo 136 = .ok (.getfield 87, 3) := by decide +kernel
theorem dX12_photo_139 : decode cX12_photo 139 = .ok (.iload 5, 2) := by decide +kernel
theorem dX12_photo_141 : decode cX12_photo 141 = .ok (.aload_n 0, 1) := by decide +kernel
theorem dX12_photo_142 : decode cX12_photo 142 = .ok (.getfield 87, 3) := by decide +kernel
theorem dX12_photo_145 : decode cX12_photo 145 = .ok (.iload 5, 2) := by decide +kernel
theorem dX12_photo_147 : decode cX12_photo 147 = .ok (.iaload, 1) := by decide +kernel
theorem dX12_photo_148 : decode cX12_photo 148 = .ok (.aload_n 0, 1) := by decide +kernel
theorem dX12_photo_149 : decode cX12_photo 149 = .ok (.getfield 84, 3) := by decide +kernel
theorem dX12_photo_152 : decode cX12_photo 152 = .ok (.iload 6, 2) := by decide +kernel
theorem dX12_photo_154 : decode cX12_photo 154 = .ok (.iaload, 1) := by decide +kernel
theorem dX12_photo_155 : decode cX12_photo 155 = .ok (.iload 5, 2) := by decide +kernel
theorem dX12_photo_157 : decode cX12_photo 157 = .ok (.invokestatic 348, 3) := by decide +kernel
theorem dX12_photo_160 : decode cX12_photo 160 = .ok (.iadd, 1) := by decide +kernel
theorem dX12_photo_161 : decode cX12_photo 161 = .ok (.invokestatic 313, 3) := by decide +kernel
theorem dX12_photo_164 : decode cX12_photo 164 = .ok (.iastore, 1) := by decide +kernel
theorem dX12_photo_165 : decode cX12_photo 165 = .ok (.iinc 6 1, 3) := by decide +kernel
theorem dX12_photo_168 : decode cX12_photo 168 = .ok (.goto (-60), 3) := by decide +kernel
theorem dX12_photo_171 : decode cX12_photo 171 = .ok (.iload_n 2, 1) := by decide +kernel
theorem dX12_photo_172 : decode cX12_photo 172 = .ok (.aload_n 0, 1) := by decide +kernel
theorem dX12_photo_173 : decode cX12_photo 173 = .ok (.getfield 87, 3) := by decide +kernel
theorem dX12_photo_176 : decode cX12_photo 176 = .ok (.iload 5, 2) := by decide +kernel
theorem dX12_photo_178 : decode cX12_photo 178 = .ok (.iaload, 1) := by decide +kernel
theorem dX12_photo_179 : decode cX12_photo 179 = .ok (.invokestatic 313, 3) := by decide +kernel
theorem dX12_photo_182 : decode cX12_photo 182 = .ok (.istore_n 2, 1) := by decide +kernel
theorem dX12_photo_183 : decode cX12_photo 183 = .ok (.iinc 5 1, 3) := by decide +kernel
theorem dX12_photo_186 : decode cX12_photo 186 = .ok (.goto (-120), 3) := by decide +kernel
theorem dX12_photo_189 : decode cX12_photo 189 = .ok (.iconst 0, 1) := by decide +kernel
theorem dX12_photo_190 : decode cX12_photo 190 = .ok (.istore 5, 2) := by decide +kernel
theorem dX12_photo_192 : decode cX12_photo 192 = .ok (.iload 5, 2) := by decide +kernel
theorem dX12_photo_194 : decode cX12_photo 194 = .ok (.sipush 512, 3) := by decide +kernel
theorem dX12_photo_197 : decode cX12_photo 197 = .ok (.if_icmp .ge 23, 3) := by decide +kernel
theorem dX12_photo_200 : decode cX12_photo 200 = .ok (.aload_n 0, 1) := by decide +kernel
theorem dX12_photo_201 : decode cX12_photo 201 = .ok (.getfield 84, 3) := by decide +kernel
theorem dX12_photo_204 : decode cX12_photo 204 = .ok (.iload 5, 2) := by decide +kernel
theorem dX12_photo_206 : decode cX12_photo 206 = .ok (.aload_n 0, 1) := by decide +kernel
theorem dX12_photo_207 : decode cX12_photo 207 = .ok (.getfield 87, 3) := by decide +kernel
theorem dX12_photo_210 : decode cX12_photo 210 = .ok (.iload 5, 2) := by decide +kernel
theorem dX12_photo_212 : decode cX12_photo 212 = .ok (.iaload, 1) := by decide +kernel
theorem dX12_photo_213 : decode cX12_photo 213 = .ok (.iastore, 1) := by decide +kernel
theorem dX12_photo_214 : decode cX12_photo 214 = .ok (.iinc 5 1, 3) := by decide +kernel
theorem dX12_photo_217 : decode cX12_photo 217 = .ok (.goto (-25), 3) := by decide +kernel
theorem dX12_photo_220 : decode cX12_photo 220 = .ok (.iinc 3 1, 3) := by decide +kernel
theorem dX12_photo_223 : decode cX12_photo 223 = .ok (.goto (-178), 3) := by decide +kernel
theorem dX12_photo_226 : decode cX12_photo 226 = .ok (.iload_n 2, 1) := by decide +kernel
theorem dX12_photo_227 : decode cX12_photo 227 = .ok (.ireturn, 1) := by decide +kernel
theorem dX12_hats_0 : decode cX12_hats 0 = .ok (.iload_n 1, 1) := by decide +kernel
theorem dX12_hats_1 : decode cX12_hats 1 = .ok (.iconst 1, 1) := by decide +kernel
theorem dX12_hats_2 : decode cX12_hats 2 = .ok (.bipush 12, 2) := by decide +kernel
theorem dX12_hats_4 : decode cX12_hats 4 = .ok (.invokestatic 108, 3) := by decide +kernel
theorem dX12_hats_7 : decode cX12_hats 7 = .ok (.ifCond .eq 20, 3) := by decide +kernel
theorem dX12_hats_10 : decode cX12_hats 10 = .ok (.iload_n 2, 1) := by decide +kernel
theorem dX12_hats_11 : decode cX12_hats 11 = .ok (.iconst 0, 1) := by decide +kernel
theorem dX12_hats_12 : decode cX12_hats 12 = .ok (.iconst 2, 1) := by decide +kernel
theorem dX12_hats_13 : decode cX12_hats 13 = .ok (.invokestatic 108, 3) := by decide +kernel
theorem dX12_hats_16 : decode cX12_hats 16 = .ok (.ifCond .eq 11, 3) := by decide +kernel
theorem dX12_hats_19 : decode cX12_hats 19 = .ok (.iload_n 1, 1) := by decide +kernel
theorem dX12_hats_20 : decode cX12_hats 20 = .ok (.aload_n 0, 1) := by decide +kernel
theorem dX12_hats_21 : decode cX12_hats 21 = .ok (.getfield 112, 3) := by decide +kernel
theorem dX12_hats_24 : decode cX12_hats 24 = .ok (.if_icmp .le 5, 3) := by decide +kernel
theorem dX12_hats_27 : decode cX12_hats 27 = .ok (.iconst (-1), 1) := by decide +kernel
theorem dX12_hats_28 : decode cX12_hats 28 = .ok (.ireturn, 1) := by decide +kernel
theorem dX12_hats_29 : decode cX12_hats 29 = .ok (.aload_n 0, 1) := by decide +kernel
theorem dX12_hats_30 : decode cX12_hats 30 = .ok (.iconst 0, 1) := by decide +kernel
theorem dX12_hats_31 : decode cX12_hats 31 = .ok (.putfield 112, 3) := by decide +kernel
theorem dX12_hats_34 : decode cX12_hats 34 = .ok (.iconst 0, 1) := by decide +kernel
theorem dX12_hats_35 : decode cX12_hats 35 = .ok (.istore_n 3, 1) := by decide +kernel
theorem dX12_hats_36 : decode cX12_hats 36 = .ok (.iconst (-1), 1) := by decide +kernel
theorem dX12_hats_37 : decode cX12_hats 37 = .ok (.istore 4, 2) := by decide +kernel
theorem dX12_hats_39 : decode cX12_hats 39 = .ok (.iconst 0, 1) := by decide +kernel
theorem dX12_hats_40 : decode cX12_hats 40 = .ok (.istore 5, 2) := by decide +kernel
theorem dX12_hats_42 : decode cX12_hats 42 = .ok (.iconst 0, 1) := by decide +kernel
theorem dX12_hats_43 : decode cX12_hats 43 = .ok (.istore 6, 2) := by decide +kernel
theorem dX12_hats_45 : decode cX12_hats 45 = .ok (.iconst 0, 1) := by decide +kernel
theorem dX12_hats_46 : decode cX12_hats 46 = .ok (.istore 7, 2) := by decide +kernel
theorem dX12_hats_48 : decode cX12_hats 48 = .ok (.iload 7, 2) := by decide +kernel
theorem dX12_hats_50 : decode cX12_hats 50 = .ok (.iload_n 1, 1) := by decide +kernel
theorem dX12_hats_51 : decode cX12_hats 51 = .ok (.if_icmp .ge 137, 3) := by decide +kernel
theorem dX12_hats_54 : decode cX12_hats 54 = .ok (.aload_n 0, 1) := by decide +kernel
theorem dX12_hats_55 : decode cX12_hats 55 = .ok (.getfield 90, 3) := by decide +kernel
theorem dX12_hats_58 : decode cX12_hats 58 = .ok (.iload 7, 2) := by decide +kernel
theorem dX12_hats_60 : decode cX12_hats 60 = .ok (.iconst 1, 1) := by decide +kernel
theorem dX12_hats_61 : decode cX12_hats 61 = .ok (.iastore, 1) := by decide +kernel
theorem dX12_hats_62 : decode cX12_hats 62 = .ok (.iconst 0, 1) := by decide +kernel
theorem dX12_hats_63 : decode cX12_hats 63 = .ok (.istore 8, 2) := by decide +kernel
theorem dX12_hats_65 : decode cX12_hats 65 = .ok (.iload 8, 2) := by decide +kernel
theorem dX12_hats_67 : decode cX12_hats 67 = .ok (.iload 7, 2) := by decide +kernel
theorem dX12_hats_69 : decode cX12_hats 69 = .ok (.if_icmp .ge 71, 3) := by decide +kernel
theorem dX12_hats_72 : decode cX12_hats 72 = .ok (.aload_n 0, 1) := by decide +kernel
theorem dX12_hats_73 : decode cX12_hats 73 = .ok (.iload 8, 2) := by decide +kernel
theorem dX12_hats_75 : decode cX12_hats 75 = .ok (.invokevirtual 339, 3) := by decide +kernel
theorem dX12_hats_78 : decode cX12_hats 78 = .ok (.aload_n 0, 1) := by decide +kernel
theorem dX12_hats_79 : decode cX12_hats 79 = .ok (.iload 7, 2) := by decide +kernel
theorem dX12_hats_81 : decode cX12_hats 81 = .ok (.invokevirtual 339, 3) := by decide +kernel
theorem dX12_hats_84 : decode cX12_hats 84 = .ok (.if_icmp .le 9, 3) := by decide +kernel
theorem dX12_hats_87 : decode cX12_hats 87 = .ok (.iload 5, 2) := by decide +kernel
theorem dX12_hats_89 : decode cX12_hats 89 = .ok (.iconst 1, 1) := by decide +kernel
theorem dX12_hats_90 : decode cX12_hats 90 = .ok (.iadd, 1) := by decide +kernel
theorem dX12_hats_91 : decode cX12_hats 91 = .ok (.istore 5, 2) := by decide +kernel
theorem dX12_hats_93 : decode cX12_hats 93 = .ok (.aload_n 0, 1) := by decide +kernel
theorem dX12_hats_94 : decode cX12_hats 94 = .ok (.iload 8, 2) := by decide +kernel
theorem dX12_hats_96 : decode cX12_hats 96 = .ok (.invokevirtual 339, 3) := by decide +kernel
theorem dX12_hats_99 : decode cX12_hats 99 = .ok (.aload_n 0, 1) := by decide +kernel
theorem dX12_hats_100 : decode cX12_hats 100 = .ok (.iload 7, 2) := by decide +kernel
theorem dX12_hats_102 : decode cX12_hats 102 = .ok (.invokevirtual 339, 3) := by decide +kernel
theorem dX12_hats_105 : decode cX12_hats 105 = .ok (.if_icmp .ge 29, 3) := by decide +kernel
theorem dX12_hats_108 : decode cX12_hats 108 = .ok (.aload_n 0, 1) := by decide +kernel
theorem dX12_hats_109 : decode cX12_hats 109 = .ok (.getfield 90, 3) := by decide +kernel
theorem dX12_hats_112 : decode cX12_hats 112 = .ok (.iload 7, 2) := by decide +kernel
theorem dX12_hats_114 : decode cX12_hats 114 = .ok (.aload_n 0, 1) := by decide +kernel
theorem dX12_hats_115 : decode cX12_hats 115 = .ok (.getfield 90, 3) := by decide +kernel
theorem dX12_hats_118 : decode cX12_hats 118 = .ok (.iload 7, 2) := by decide +kernel
theorem dX12_hats_120 : decode cX12_hats 120 = .ok (.iaload, 1) := by decide +kernel
theorem dX12_hats_121 : decode cX12_hats 121 = .ok (.aload_n 0, 1) := by decide +kernel
theorem dX12_hats_122 : decode cX12_hats 122 = .ok (.getfield 90, 3) := by decide +kernel
theorem dX12_hats_125 : decode cX12_hats 125 = .ok (.iload 8, 2) := by decide +kernel
theorem dX12_hats_127 : decode cX12_hats 127 = .ok (.iaload, 1) := by decide +kernel
theorem dX12_hats_128 : decode cX12_hats 128 = .ok (.iconst 1, 1) := by decide +kernel
theorem dX12_hats_129 : decode cX12_hats 129 = .ok (.iadd, 1) := by decide +kernel
theorem dX12_hats_130 : decode cX12_hats 130 = .ok (.invokestatic 313, 3) := by decide +kernel
theorem dX12_hats_133 : decode cX12_hats 133 = .ok (.iastore, 1) := by decide +kernel
theorem dX12_hats_134 : decode cX12_hats 134 = .ok (.iinc 8 1, 3) := by decide +kernel
theorem dX12_hats_137 : decode cX12_hats 137 = .ok (.goto (-72), 3) := by decide +kernel
theorem dX12_hats_140 : decode cX12_hats 140 = .ok (.iload 6, 2) := by decide +kernel
theorem dX12_hats_142 : decode cX12_hats 142 = .ok (.aload_n 0, 1) := by decide +kernel
theorem dX12_hats_143 : decode cX12_hats 143 = .ok (.getfield 90, 3) := by decide +kernel
theorem dX12_hats_146 : decode cX12_hats 146 = .ok (.iload 7, 2) := by decide +kernel
theorem dX12_hats_148 : decode cX12_hats 148 = .ok (.iaload, 1) := by decide +kernel
theorem dX12_hats_149 : decode cX12_hats 149 = .ok (.invokestatic 313, 3) := by decide +kernel
theorem dX12_hats_152 : decode cX12_hats 152 = .ok (.istore 6, 2) := by decide +kernel
theorem dX12_hats_154 : decode cX12_hats 154 = .ok (.aload_n 0, 1) := by decide +kernel
theorem dX12_hats_155 : decode cX12_hats 155 = .ok (.iload 7, 2) := by decide +kernel
theorem dX12_hats_157 : decode cX12_hats 157 = .ok (.invokevirtual 339, 3) := by decide +kernel
theorem dX12_hats_160 : decode cX12_hats 160 = .ok (.iload 4, 2) := by decide +kernel
theorem dX12_hats_162 : decode cX12_hats 162 = .ok (.if_icmp .le 7, 3) := by decide +kernel
theorem dX12_hats_165 : decode cX12_hats 165 = .ok (.iload_n 3, 1) := by decide +kernel
theorem dX12_hats_166 : decode cX12_hats 166 = .ok (.iconst 1, 1) := by decide +kernel
theorem dX12_hats_167 : decode cX12_hats 167 = .ok (.iadd, 1) := by decide +kernel
theorem dX12_hats_168 : decode cX12_hats 168 = .ok (.istore_n 3, 1) := by decide +kernel
theorem dX12_hats_169 : decode cX12_hats 169 = .ok (.iload 4, 2) := by decide +kernel
theorem dX12_hats_171 : decode cX12_hats 171 = .ok (.aload_n 0, 1) := by decide +kernel
theorem dX12_hats_172 : decode cX12_hats 172 = .ok (.iload 7, 2) := by decide +kernel
theorem dX12_hats_174 : decode cX12_hats 174 = .ok (.invokevirtual 339, 3) := by decide +kernel
theorem dX12_hats_177 : decode cX12_hats 177 = .ok (.invokestatic 313, 3) := by decide +kernel
theorem dX12_hats_180 : decode cX12_hats 180 = .ok (.istore 4, 2) := by decide +kernel
theorem dX12_hats_182 : decode cX12_hats 182 = .ok (.iinc 7 1, 3) := by decide +kernel
theorem dX12_hats_185 : decode cX12_hats 185 = .ok (.goto (-137), 3) := by decide +kernel
theorem dX12_hats_188 : decode cX12_hats 188 = .ok (.iload_n 2, 1) := by decide +kernel
theorem dX12_hats_189 : decode cX12_hats 189 = .ok (.ifCond .ne 7, 3) := by decide +kernel
theorem dX12_hats_192 : decode cX12_hats 192 = .ok (.iload_n 3, 1) := by decide +kernel
theorem dX12_hats_193 : decode cX12_hats 193 = .ok (.goto 17, 3) := by decide +kernel
theorem dX12_hats_196 : decode cX12_hats 196 = .ok (.iload_n 2, 1) := by decide +kernel
theorem dX12_hats_197 : decode cX12_hats 197 = .ok (.iconst 1, 1) := by decide +kernel
theorem dX12_hats_198 : decode cX12_hats 198 = .ok (.if_icmp .ne 8, 3) := by decide +kernel
theorem dX12_hats_201 : decode cX12_hats 201 = .ok (.iload 5, 2) := by decide +kernel
theorem dX12_hats_203 : decode cX12_hats 203 = .ok (.goto 7, 3) := by decide +kernel
theorem dX12_hats_206 : decode cX12_hats 206 = .ok (.iload_n 1, 1) := by decide +kernel
theorem dX12_hats_207 : decode cX12_hats 207 = .ok (.iload 6, 2) := by decide +kernel
theorem dX12_hats_209 : decode cX12_hats 209 = .ok (.isub, 1) := by decide +kernel
theorem dX12_hats_210 : decode cX12_hats 210 = .ok (.ireturn, 1) := by decide +kernel
theorem dX12_seed_0 : decode cX12_seed 0 = .ok (.iload_n 1, 1) := by decide +kernel
theorem dX12_seed_1 : decode cX12_seed 1 = .ok (.iconst 0, 1) := by decide +kernel
theorem dX12_seed_2 : decode cX12_seed 2 = .ok (.ldc_w 361, 3) := by decide +kernel
theorem dX12_seed_5 : decode cX12_seed 5 = .ok (.invokestatic 108, 3) := by decide +kernel
theorem dX12_seed_8 : decode cX12_seed 8 = .ok (.ifCond .ne 5, 3) := by decide +kernel
theorem dX12_seed_11 : decode cX12_seed 11 = .ok (.iconst 0, 1) := by decide +kernel
theorem dX12_seed_12 : decode cX12_seed 12 = .ok (.ireturn, 1) := by decide +kernel
theorem dX12_seed_13 : decode cX12_seed 13 = .ok (.aload_n 0, 1) := by decide +kernel
theorem dX12_seed_14 : decode cX12_seed 14 = .ok (.getfield 7, 3) := by decide +kernel
theorem dX12_seed_17 : decode cX12_seed 17 = .ok (.sipush 636, 3) := by decide +kernel
theorem dX12_seed_20 : decode cX12_seed 20 = .ok (.iload_n 1, 1) := by decide +kernel
theorem dX12_seed_21 : decode cX12_seed 21 = .ok (.iastore, 1) := by decide +kernel
theorem dX12_seed_22 : decode cX12_seed 22 = .ok (.iconst 1, 1) := by decide +kernel
theorem dX12_seed_23 : decode cX12_seed 23 = .ok (.ireturn, 1) := by decide +kernel
theorem dX12_keep_0 : decode cX12_keep 0 = .ok (.aload_n 0, 1) := by decide +kernel
theorem dX12_keep_1 : decode cX12_keep 1 = .ok (.iconst 1, 1) := by decide +kernel
theorem dX12_keep_2 : decode cX12_keep 2 = .ok (.putfield 362, 3) := by decide +kernel
theorem dX12_keep_5 : decode cX12_keep 5 = .ok (.aload_n 0, 1) := by decide +kernel
theorem dX12_keep_6 : decode cX12_keep 6 = .ok (.getfield 7, 3) := by decide +kernel
theorem dX12_keep_9 : decode cX12_keep 9 = .ok (.aload_n 0, 1) := by decide +kernel
theorem dX12_keep_10 : decode cX12_keep 10 = .ok (.getfield 16, 3) := by decide +kernel
theorem dX12_keep_13 : decode cX12_keep 13 = .ok (.invokestatic 256, 3) := by decide +kernel
theorem dX12_keep_16 : decode cX12_keep 16 = .ok (.aload_n 0, 1) := by decide +kernel
theorem dX12_keep_17 : decode cX12_keep 17 = .ok (.getfield 7, 3) := by decide +kernel
theorem dX12_keep_20 : decode cX12_keep 20 = .ok (.sipush 633, 3) := by decide +kernel
theorem dX12_keep_23 : decode cX12_keep 23 = .ok (.iaload, 1) := by decide +kernel
theorem dX12_keep_24 : decode cX12_keep 24 = .ok (.ireturn, 1) := by decide +kernel
theorem dX12_undo_0 : decode cX12_undo 0 = .ok (.aload_n 0, 1) := by decide +kernel
theorem dX12_undo_1 : decode cX12_undo 1 = .ok (.getfield 362, 3) := by decide +kernel
theorem dX12_undo_4 : decode cX12_undo 4 = .ok (.ifCond .ne 5, 3) := by decide +kernel
theorem dX12_undo_7 : decode cX12_undo 7 = .ok (.iconst 0, 1) := by decide +kernel
theorem dX12_undo_8 : decode cX12_undo 8 = .ok (.ireturn, 1) := by decide +kernel
theorem dX12_undo_9 : decode cX12_undo 9 = .ok (.aload_n 0, 1) := by decide +kernel
theorem dX12_undo_10 : decode cX12_undo 10 = .ok (.getfield 16, 3) := by decide +kernel
theorem dX12_undo_13 : decode cX12_undo 13 = .ok (.aload_n 0, 1) := by decide +kernel
theorem dX12_undo_14 : decode cX12_undo 14 = .ok (.getfield 7, 3) := by decide +kernel
theorem dX12_undo_17 : decode cX12_undo 17 = .ok (.invokestatic 256, 3) := by decide +kernel
theorem dX12_undo_20 : decode cX12_undo 20 = .ok (.iconst 1, 1) := by decide +kernel
theorem dX12_undo_21 : decode cX12_undo 21 = .ok (.ireturn, 1) := by decide +kernel
theorem dX12_check_0 : decode cX12_check 0 = .ok (.iload_n 1, 1) := by decide +kernel
theorem dX12_check_1 : decode cX12_check 1 = .ok (.iconst 0, 1) := by decide +kernel
theorem dX12_check_2 : decode cX12_check 2 = .ok (.iconst 1, 1) := by decide +kernel
theorem dX12_check_3 : decode cX12_check 3 = .ok (.invokestatic 108, 3) := by decide +kernel
theorem dX12_check_6 : decode cX12_check 6 = .ok (.ifCond .eq 21, 3) := by decide +kernel
theorem dX12_check_9 : decode cX12_check 9 = .ok (.iload_n 2, 1) := by decide +kernel
theorem dX12_check_10 : decode cX12_check 10 = .ok (.iconst 0, 1) := by decide +kernel
theorem dX12_check_11 : decode cX12_check 11 = .ok (.bipush 8, 2) := by decide +kernel
theorem dX12_check_13 : decode cX12_check 13 = .ok (.invokestatic 108, 3) := by decide +kernel
theorem dX12_check_16 : decode cX12_check 16 = .ok (.ifCond .eq 11, 3) := by decide +kernel
theorem dX12_check_19 : decode cX12_check 19 = .ok (.iload_n 2, 1) := by decide +kernel
theorem dX12_check_20 : decode cX12_check 20 = .ok (.aload_n 0, 1) := by decide +kernel
theorem dX12_check_21 : decode cX12_check 21 = .ok (.getfield 112, 3) := by decide +kernel
theorem dX12_check_24 : decode cX12_check 24 = .ok (.if_icmp .le 6, 3) := by decide +kernel
theorem dX12_check_27 : decode cX12_check 27 = .ok (.bipush (-2), 2) := by decide +kernel
theorem dX12_check_29 : decode cX12_check 29 = .ok (.ireturn, 1) := by decide +kernel
theorem dX12_check_30 : decode cX12_check 30 = .ok (.aload_n 0, 1) := by decide +kernel
theorem dX12_check_31 : decode cX12_check 31 = .ok (.iconst 0, 1) := by decide +kernel
theorem dX12_check_32 : decode cX12_check 32 = .ok (.putfield 112, 3) := by decide +kernel
theorem dX12_check_35 : decode cX12_check 35 = .ok (.iconst 0, 1) := by decide +kernel
theorem dX12_check_36 : decode cX12_check 36 = .ok (.istore_n 3, 1) := by decide +kernel
theorem dX12_check_37 : decode cX12_check 37 = .ok (.iload_n 3, 1) := by decide +kernel
theorem dX12_check_38 : decode cX12_check 38 = .ok (.iload_n 2, 1) := by decide +kernel
theorem dX12_check_39 : decode cX12_check 39 = .ok (.if_icmp .ge 29, 3) := by decide +kernel
theorem dX12_check_42 : decode cX12_check 42 = .ok (.aload_n 0, 1) := by decide +kernel
theorem dX12_check_43 : decode cX12_check 43 = .ok (.iload_n 3, 1) := by decide +kernel
theorem dX12_check_44 : decode cX12_check 44 = .ok (.invokevirtual 339, 3) := by decide +kernel
theorem dX12_check_47 : decode cX12_check 47 = .ok (.aload_n 0, 1) := by decide +kernel
theorem dX12_check_48 : decode cX12_check 48 = .ok (.bipush 8, 2) := by decide +kernel
theorem dX12_check_50 : decode cX12_check 50 = .ok (.iload_n 1, 1) := by decide +kernel
theorem dX12_check_51 : decode cX12_check 51 = .ok (.imul, 1) := by decide +kernel
theorem dX12_check_52 : decode cX12_check 52 = .ok (.iload_n 3, 1) := by decide +kernel
theorem dX12_check_53 : decode cX12_check 53 = .ok (.iadd, 1) := by decide +kernel
theorem dX12_check_54 : decode cX12_check 54 = .ok (.invokevirtual 97, 3) := by decide +kernel
theorem dX12_check_57 : decode cX12_check 57 = .ok (.if_icmp .eq 5, 3) := by decide +kernel
theorem dX12_check_60 : decode cX12_check 60 = .ok (.iload_n 3, 1) := by decide +kernel
theorem dX12_check_61 : decode cX12_check 61 = .ok (.ireturn, 1) := by decide +kernel
theorem dX12_check_62 : decode cX12_check 62 = .ok (.iinc 3 1, 3) := by decide +kernel
theorem dX12_check_65 : decode cX12_check 65 = .ok (.goto (-28), 3) := by decide +kernel
theorem dX12_check_68 : decode cX12_check 68 = .ok (.iconst (-1), 1) := by decide +kernel
theorem dX12_check_69 : decode cX12_check 69 = .ok (.ireturn, 1) := by decide +kernel
theorem dX12_count_0 : decode cX12_count 0 = .ok (.iload_n 1, 1) := by decide +kernel
theorem dX12_count_1 : decode cX12_count 1 = .ok (.tableswitch 134 0 9 #[55, 64, 73, 82, 94, 103, 109, 115, 120, 125], 55) := by decide +kernel
theorem dX12_count_56 : decode cX12_count 56 = .ok (.aload_n 0, 1) := by decide +kernel
theorem dX12_count_57 : decode cX12_count 57 = .ok (.getfield 7, 3) := by decide +kernel
theorem dX12_count_60 : decode cX12_count 60 = .ok (.sipush 633, 3) := by decide +kernel
theorem dX12_count_63 : decode cX12_count 63 = .ok (.iaload, 1) := by decide +kernel
theorem dX12_count_64 : decode cX12_count 64 = .ok (.ireturn, 1) := by decide +kernel
theorem dX12_count_65 : decode cX12_count 65 = .ok (.aload_n 0, 1) := by decide +kernel
theorem dX12_count_66 : decode cX12_count 66 = .ok (.getfield 7, 3) := by decide +kernel
theorem dX12_count_69 : decode cX12_count 69 = .ok (.sipush 632, 3) := by decide +kernel
theorem dX12_count_72 : decode cX12_count 72 = .ok (.iaload, 1) := by decide +kernel
theorem dX12_count_73 : decode cX12_count 73 = .ok (.ireturn, 1) := by decide +kernel
theorem dX12_count_74 : decode cX12_count 74 = .ok (.aload_n 0, 1) := by decide +kernel
theorem dX12_count_75 : decode cX12_count 75 = .ok (.getfield 7, 3) := by decide +kernel
theorem dX12_count_78 : decode cX12_count 78 = .ok (.sipush 634, 3) := by decide +kernel
theorem dX12_count_81 : decode cX12_count 81 = .ok (.iaload, 1) := by decide +kernel
theorem dX12_count_82 : decode cX12_count 82 = .ok (.ireturn, 1) := by decide +kernel
theorem dX12_count_83 : decode cX12_count 83 = .ok (.aload_n 0, 1) := by decide +kernel
theorem dX12_count_84 : decode cX12_count 84 = .ok (.iconst 0, 1) := by decide +kernel
theorem dX12_count_85 : decode cX12_count 85 = .ok (.invokevirtual 235, 3) := by decide +kernel
theorem dX12_count_88 : decode cX12_count 88 = .ok (.aload_n 0, 1) := by decide +kernel
theorem dX12_count_89 : decode cX12_count 89 = .ok (.iconst 1, 1) := by decide +kernel
theorem dX12_count_90 : decode cX12_count 90 = .ok (.invokevirtual 235, 3) := by decide +kernel
theorem dX12_count_93 : decode cX12_count 93 = .ok (.iadd, 1) := by decide +kernel
theorem dX12_count_94 : decode cX12_count 94 = .ok (.ireturn, 1) := by decide +kernel
theorem dX12_count_95 : decode cX12_count 95 = .ok (.aload_n 0, 1) := by decide +kernel
theorem dX12_count_96 : decode cX12_count 96 = .ok (.getfield 7, 3) := by decide +kernel
theorem dX12_count_99 : decode cX12_count 99 = .ok (.sipush 635, 3) := by decide +kernel
theorem dX12_count_102 : decode cX12_count 102 = .ok (.iaload, 1) := by decide +kernel
theorem dX12_count_103 : decode cX12_count 103 = .ok (.ireturn, 1) := by decide +kernel
theorem dX12_count_104 : decode cX12_count 104 = .ok (.aload_n 0, 1) := by decide +kernel
theorem dX12_count_105 : decode cX12_count 105 = .ok (.iconst 0, 1) := by decide +kernel
theorem dX12_count_106 : decode cX12_count 106 = .ok (.invokevirtual 235, 3) := by decide +kernel
theorem dX12_count_109 : decode cX12_count 109 = .ok (.ireturn, 1) := by decide +kernel
theorem dX12_count_110 : decode cX12_count 110 = .ok (.aload_n 0, 1) := by decide +kernel
theorem dX12_count_111 : decode cX12_count 111 = .ok (.iconst 1, 1) := by decide +kernel
theorem dX12_count_112 : decode cX12_count 112 = .ok (.invokevirtual 235, 3) := by decide +kernel
theorem dX12_count_115 : decode cX12_count 115 = .ok (.ireturn, 1) := by decide +kernel
theorem dX12_count_116 : decode cX12_count 116 = .ok (.aload_n 0, 1) := by decide +kernel
theorem dX12_count_117 : decode cX12_count 117 = .ok (.getfield 213, 3) := by decide +kernel
theorem dX12_count_120 : decode cX12_count 120 = .ok (.ireturn, 1) := by decide +kernel
theorem dX12_count_121 : decode cX12_count 121 = .ok (.aload_n 0, 1) := by decide +kernel
theorem dX12_count_122 : decode cX12_count 122 = .ok (.getfield 112, 3) := by decide +kernel
theorem dX12_count_125 : decode cX12_count 125 = .ok (.ireturn, 1) := by decide +kernel
theorem dX12_count_126 : decode cX12_count 126 = .ok (.aload_n 0, 1) := by decide +kernel
theorem dX12_count_127 : decode cX12_count 127 = .ok (.getfield 7, 3) := by decide +kernel
theorem dX12_count_130 : decode cX12_count 130 = .ok (.sipush 636, 3) := by decide +kernel
theorem dX12_count_133 : decode cX12_count 133 = .ok (.iaload, 1) := by decide +kernel
theorem dX12_count_134 : decode cX12_count 134 = .ok (.ireturn, 1) := by decide +kernel
theorem dX12_count_135 : decode cX12_count 135 = .ok (.iload_n 1, 1) := by decide +kernel
theorem dX12_count_136 : decode cX12_count 136 = .ok (.bipush 10, 2) := by decide +kernel
theorem dX12_count_138 : decode cX12_count 138 = .ok (.bipush 25, 2) := by decide +kernel
theorem dX12_count_140 : decode cX12_count 140 = .ok (.invokestatic 108, 3) := by decide +kernel
theorem dX12_count_143 : decode cX12_count 143 = .ok (.ifCond .eq 12, 3) := by decide +kernel
theorem dX12_count_146 : decode cX12_count 146 = .ok (.aload_n 0, 1) := by decide +kernel
theorem dX12_count_147 : decode cX12_count 147 = .ok (.iload_n 1, 1) := by decide +kernel
theorem dX12_count_148 : decode cX12_count 148 = .ok (.bipush 10, 2) := by decide +kernel
theorem dX12_count_150 : decode cX12_count 150 = .ok (.isub, 1) := by decide +kernel
theorem dX12_count_151 : decode cX12_count 151 = .ok (.invokevirtual 329, 3) := by decide +kernel
theorem dX12_count_154 : decode cX12_count 154 = .ok (.ireturn, 1) := by decide +kernel
theorem dX12_count_155 : decode cX12_count 155 = .ok (.iload_n 1, 1) := by decide +kernel
theorem dX12_count_156 : decode cX12_count 156 = .ok (.bipush 30, 2) := by decide +kernel
theorem dX12_count_158 : decode cX12_count 158 = .ok (.bipush 29, 2) := by decide +kernel
theorem dX12_count_160 : decode cX12_count 160 = .ok (.aload_n 0, 1) := by decide +kernel
theorem dX12_count_161 : decode cX12_count 161 = .ok (.getfield 7, 3) := by decide +kernel
theorem dX12_count_164 : decode cX12_count 164 = .ok (.sipush 632, 3) := by decide +kernel
theorem dX12_count_167 : decode cX12_count 167 = .ok (.iaload, 1) := by decide +kernel
theorem dX12_count_168 : decode cX12_count 168 = .ok (.iadd, 1) := by decide +kernel
theorem dX12_count_169 : decode cX12_count 169 = .ok (.invokestatic 108, 3) := by decide +kernel
theorem dX12_count_172 : decode cX12_count 172 = .ok (.ifCond .eq 22, 3) := by decide +kernel
theorem dX12_count_175 : decode cX12_count 175 = .ok (.aload_n 0, 1) := by decide +kernel
theorem dX12_count_176 : decode cX12_count 176 = .ok (.getfield 7, 3) := by decide +kernel
theorem dX12_count_179 : decode cX12_count 179 = .ok (.sipush 432, 3) := by decide +kernel
theorem dX12_count_182 : decode cX12_count 182 = .ok (.iload_n 1, 1) := by decide +kernel
theorem dX12_count_183 : decode cX12_count 183 = .ok (.iadd, 1) := by decide +kernel
theorem dX12_count_184 : decode cX12_count 184 = .ok (.bipush 30, 2) := by decide +kernel
theorem dX12_count_186 : decode cX12_count 186 = .ok (.isub, 1) := by decide +kernel
theorem dX12_count_187 : decode cX12_count 187 = .ok (.iaload, 1) := by decide +kernel
theorem dX12_count_188 : decode cX12_count 188 = .ok (.invokestatic 101, 3) := by decide +kernel
theorem dX12_count_191 : decode cX12_count 191 = .ok (.goto 4, 3) := by decide +kernel
theorem dX12_count_194 : decode cX12_count 194 = .ok (.iconst (-1), 1) := by decide +kernel
theorem dX12_count_195 : decode cX12_count 195 = .ok (.ireturn, 1) := by decide +kernel
theorem dJ11_isValidCodePoint_9a6ad_0 : decode cJ11_isValidCodePoint_9a6ad 0 = .ok (.iload_n 0, 1) := by decide +kernel
theorem dJ11_isValidCodePoint_9a6ad_1 : decode cJ11_isValidCodePoint_9a6ad 1 = .ok (.bipush 16, 2) := by decide +kernel
theorem dJ11_isValidCodePoint_9a6ad_3 : decode cJ11_isValidCodePoint_9a6ad 3 = .ok (.iushr, 1) := by decide +kernel
theorem dJ11_isValidCodePoint_9a6ad_4 : decode cJ11_isValidCodePoint_9a6ad 4 = .ok (.istore_n 1, 1) := by decide +kernel
theorem dJ11_isValidCodePoint_9a6ad_5 : decode cJ11_isValidCodePoint_9a6ad 5 = .ok (.iload_n 1, 1) := by decide +kernel
theorem dJ11_isValidCodePoint_9a6ad_6 : decode cJ11_isValidCodePoint_9a6ad 6 = .ok (.bipush 17, 2) := by decide +kernel
theorem dJ11_isValidCodePoint_9a6ad_8 : decode cJ11_isValidCodePoint_9a6ad 8 = .ok (.if_icmp .ge 7, 3) := by decide +kernel
theorem dJ11_isValidCodePoint_9a6ad_11 : decode cJ11_isValidCodePoint_9a6ad 11 = .ok (.iconst 1, 1) := by decide +kernel
theorem dJ11_isValidCodePoint_9a6ad_12 : decode cJ11_isValidCodePoint_9a6ad 12 = .ok (.goto 4, 3) := by decide +kernel
theorem dJ11_isValidCodePoint_9a6ad_15 : decode cJ11_isValidCodePoint_9a6ad 15 = .ok (.iconst 0, 1) := by decide +kernel
theorem dJ11_isValidCodePoint_9a6ad_16 : decode cJ11_isValidCodePoint_9a6ad 16 = .ok (.ireturn, 1) := by decide +kernel
theorem dJ11_highSurrogate_5068e_0 : decode cJ11_highSurrogate_5068e 0 = .ok (.iload_n 0, 1) := by decide +kernel
theorem dJ11_highSurrogate_5068e_1 : decode cJ11_highSurrogate_5068e 1 = .ok (.bipush 10, 2) := by decide +kernel
theorem dJ11_highSurrogate_5068e_3 : decode cJ11_highSurrogate_5068e 3 = .ok (.iushr, 1) := by decide +kernel
theorem dJ11_highSurrogate_5068e_4 : decode cJ11_highSurrogate_5068e 4 = .ok (.ldc 110, 2) := by decide +kernel
theorem dJ11_highSurrogate_5068e_6 : decode cJ11_highSurrogate_5068e 6 = .ok (.iadd, 1) := by decide +kernel
theorem dJ11_highSurrogate_5068e_7 : decode cJ11_highSurrogate_5068e 7 = .ok (.i2c, 1) := by decide +kernel
theorem dJ11_highSurrogate_5068e_8 : decode cJ11_highSurrogate_5068e 8 = .ok (.ireturn, 1) := by decide +kernel
theorem dJ11_lowSurrogate_5068e_0 : decode cJ11_lowSurrogate_5068e 0 = .ok (.iload_n 0, 1) := by decide +kernel
theorem dJ11_lowSurrogate_5068e_1 : decode cJ11_lowSurrogate_5068e 1 = .ok (.sipush 1023, 3) := by decide +kernel
theorem dJ11_lowSurrogate_5068e_4 : decode cJ11_lowSurrogate_5068e 4 = .ok (.iand, 1) := by decide +kernel
theorem dJ11_lowSurrogate_5068e_5 : decode cJ11_lowSurrogate_5068e 5 = .ok (.ldc 76, 2) := by decide +kernel
theorem dJ11_lowSurrogate_5068e_7 : decode cJ11_lowSurrogate_5068e 7 = .ok (.iadd, 1) := by decide +kernel
theorem dJ11_lowSurrogate_5068e_8 : decode cJ11_lowSurrogate_5068e 8 = .ok (.i2c, 1) := by decide +kernel
theorem dJ11_lowSurrogate_5068e_9 : decode cJ11_lowSurrogate_5068e 9 = .ok (.ireturn, 1) := by decide +kernel
theorem dJ6_bitCount_0f7a4_0 : decode cJ6_bitCount_0f7a4 0 = .ok (.iload_n 0, 1) := by decide +kernel
theorem dJ6_bitCount_0f7a4_1 : decode cJ6_bitCount_0f7a4 1 = .ok (.iload_n 0, 1) := by decide +kernel
theorem dJ6_bitCount_0f7a4_2 : decode cJ6_bitCount_0f7a4 2 = .ok (.iconst 1, 1) := by decide +kernel
theorem dJ6_bitCount_0f7a4_3 : decode cJ6_bitCount_0f7a4 3 = .ok (.iushr, 1) := by decide +kernel
theorem dJ6_bitCount_0f7a4_4 : decode cJ6_bitCount_0f7a4 4 = .ok (.ldc_w 265, 3) := by decide +kernel
theorem dJ6_bitCount_0f7a4_7 : decode cJ6_bitCount_0f7a4 7 = .ok (.iand, 1) := by decide +kernel
theorem dJ6_bitCount_0f7a4_8 : decode cJ6_bitCount_0f7a4 8 = .ok (.isub, 1) := by decide +kernel
theorem dJ6_bitCount_0f7a4_9 : decode cJ6_bitCount_0f7a4 9 = .ok (.istore_n 0, 1) := by decide +kernel
theorem dJ6_bitCount_0f7a4_10 : decode cJ6_bitCount_0f7a4 10 = .ok (.iload_n 0, 1) := by decide +kernel
theorem dJ6_bitCount_0f7a4_11 : decode cJ6_bitCount_0f7a4 11 = .ok (.ldc_w 266, 3) := by decide +kernel
theorem dJ6_bitCount_0f7a4_14 : decode cJ6_bitCount_0f7a4 14 = .ok (.iand, 1) := by decide +kernel
theorem dJ6_bitCount_0f7a4_15 : decode cJ6_bitCount_0f7a4 15 = .ok (.iload_n 0, 1) := by decide +kernel
theorem dJ6_bitCount_0f7a4_16 : decode cJ6_bitCount_0f7a4 16 = .ok (.iconst 2, 1) := by decide +kernel
theorem dJ6_bitCount_0f7a4_17 : decode cJ6_bitCount_0f7a4 17 = .ok (.iushr, 1) := by decide +kernel
theorem dJ6_bitCount_0f7a4_18 : decode cJ6_bitCount_0f7a4 18 = .ok (.ldc_w 266, 3) := by decide +kernel
theorem dJ6_bitCount_0f7a4_21 : decode cJ6_bitCount_0f7a4 21 = .ok (.iand, 1) := by decide +kernel
theorem dJ6_bitCount_0f7a4_22 : decode cJ6_bitCount_0f7a4 22 = .ok (.iadd, 1) := by decide +kernel
theorem dJ6_bitCount_0f7a4_23 : decode cJ6_bitCount_0f7a4 23 = .ok (.istore_n 0, 1) := by decide +kernel
theorem dJ6_bitCount_0f7a4_24 : decode cJ6_bitCount_0f7a4 24 = .ok (.iload_n 0, 1) := by decide +kernel
theorem dJ6_bitCount_0f7a4_25 : decode cJ6_bitCount_0f7a4 25 = .ok (.iload_n 0, 1) := by decide +kernel
theorem dJ6_bitCount_0f7a4_26 : decode cJ6_bitCount_0f7a4 26 = .ok (.iconst 4, 1) := by decide +kernel
theorem dJ6_bitCount_0f7a4_27 : decode cJ6_bitCount_0f7a4 27 = .ok (.iushr, 1) := by decide +kernel
theorem dJ6_bitCount_0f7a4_28 : decode cJ6_bitCount_0f7a4 28 = .ok (.iadd, 1) := by decide +kernel
theorem dJ6_bitCount_0f7a4_29 : decode cJ6_bitCount_0f7a4 29 = .ok (.ldc_w 267, 3) := by decide +kernel
theorem dJ6_bitCount_0f7a4_32 : decode cJ6_bitCount_0f7a4 32 = .ok (.iand, 1) := by decide +kernel
theorem dJ6_bitCount_0f7a4_33 : decode cJ6_bitCount_0f7a4 33 = .ok (.istore_n 0, 1) := by decide +kernel
theorem dJ6_bitCount_0f7a4_34 : decode cJ6_bitCount_0f7a4 34 = .ok (.iload_n 0, 1) := by decide +kernel
theorem dJ6_bitCount_0f7a4_35 : decode cJ6_bitCount_0f7a4 35 = .ok (.iload_n 0, 1) := by decide +kernel
theorem dJ6_bitCount_0f7a4_36 : decode cJ6_bitCount_0f7a4 36 = .ok (.bipush 8, 2) := by decide +kernel
theorem dJ6_bitCount_0f7a4_38 : decode cJ6_bitCount_0f7a4 38 = .ok (.iushr, 1) := by decide +kernel
theorem dJ6_bitCount_0f7a4_39 : decode cJ6_bitCount_0f7a4 39 = .ok (.iadd, 1) := by decide +kernel
theorem dJ6_bitCount_0f7a4_40 : decode cJ6_bitCount_0f7a4 40 = .ok (.istore_n 0, 1) := by decide +kernel
theorem dJ6_bitCount_0f7a4_41 : decode cJ6_bitCount_0f7a4 41 = .ok (.iload_n 0, 1) := by decide +kernel
theorem dJ6_bitCount_0f7a4_42 : decode cJ6_bitCount_0f7a4 42 = .ok (.iload_n 0, 1) := by decide +kernel
theorem dJ6_bitCount_0f7a4_43 : decode cJ6_bitCount_0f7a4 43 = .ok (.bipush 16, 2) := by decide +kernel
theorem dJ6_bitCount_0f7a4_45 : decode cJ6_bitCount_0f7a4 45 = .ok (.iushr, 1) := by decide +kernel
theorem dJ6_bitCount_0f7a4_46 : decode cJ6_bitCount_0f7a4 46 = .ok (.iadd, 1) := by decide +kernel
theorem dJ6_bitCount_0f7a4_47 : decode cJ6_bitCount_0f7a4 47 = .ok (.istore_n 0, 1) := by decide +kernel
theorem dJ6_bitCount_0f7a4_48 : decode cJ6_bitCount_0f7a4 48 = .ok (.iload_n 0, 1) := by decide +kernel
theorem dJ6_bitCount_0f7a4_49 : decode cJ6_bitCount_0f7a4 49 = .ok (.bipush 63, 2) := by decide +kernel
theorem dJ6_bitCount_0f7a4_51 : decode cJ6_bitCount_0f7a4 51 = .ok (.iand, 1) := by decide +kernel
theorem dJ6_bitCount_0f7a4_52 : decode cJ6_bitCount_0f7a4 52 = .ok (.ireturn, 1) := by decide +kernel
theorem dJ9_abs_0f7a4_0 : decode cJ9_abs_0f7a4 0 = .ok (.iload_n 0, 1) := by decide +kernel
theorem dJ9_abs_0f7a4_1 : decode cJ9_abs_0f7a4 1 = .ok (.ifCond .ge 8, 3) := by decide +kernel
theorem dJ9_abs_0f7a4_4 : decode cJ9_abs_0f7a4 4 = .ok (.iload_n 0, 1) := by decide +kernel
theorem dJ9_abs_0f7a4_5 : decode cJ9_abs_0f7a4 5 = .ok (.ineg, 1) := by decide +kernel
theorem dJ9_abs_0f7a4_6 : decode cJ9_abs_0f7a4 6 = .ok (.goto 4, 3) := by decide +kernel
theorem dJ9_abs_0f7a4_9 : decode cJ9_abs_0f7a4 9 = .ok (.iload_n 0, 1) := by decide +kernel
theorem dJ9_abs_0f7a4_10 : decode cJ9_abs_0f7a4 10 = .ok (.ireturn, 1) := by decide +kernel
theorem dJ9_max_7cf53_0 : decode cJ9_max_7cf53 0 = .ok (.iload_n 0, 1) := by decide +kernel
theorem dJ9_max_7cf53_1 : decode cJ9_max_7cf53 1 = .ok (.iload_n 1, 1) := by decide +kernel
theorem dJ9_max_7cf53_2 : decode cJ9_max_7cf53 2 = .ok (.if_icmp .lt 7, 3) := by decide +kernel
theorem dJ9_max_7cf53_5 : decode cJ9_max_7cf53 5 = .ok (.iload_n 0, 1) := by decide +kernel
theorem dJ9_max_7cf53_6 : decode cJ9_max_7cf53 6 = .ok (.goto 4, 3) := by decide +kernel
theorem dJ9_max_7cf53_9 : decode cJ9_max_7cf53 9 = .ok (.iload_n 1, 1) := by decide +kernel
theorem dJ9_max_7cf53_10 : decode cJ9_max_7cf53 10 = .ok (.ireturn, 1) := by decide +kernel
theorem dJ9_min_7cf53_0 : decode cJ9_min_7cf53 0 = .ok (.iload_n 0, 1) := by decide +kernel
theorem dJ9_min_7cf53_1 : decode cJ9_min_7cf53 1 = .ok (.iload_n 1, 1) := by decide +kernel
theorem dJ9_min_7cf53_2 : decode cJ9_min_7cf53 2 = .ok (.if_icmp .gt 7, 3) := by decide +kernel
theorem dJ9_min_7cf53_5 : decode cJ9_min_7cf53 5 = .ok (.iload_n 0, 1) := by decide +kernel
theorem dJ9_min_7cf53_6 : decode cJ9_min_7cf53 6 = .ok (.goto 4, 3) := by decide +kernel
theorem dJ9_min_7cf53_9 : decode cJ9_min_7cf53 9 = .ok (.iload_n 1, 1) := by decide +kernel
theorem dJ9_min_7cf53_10 : decode cJ9_min_7cf53 10 = .ok (.ireturn, 1) := by decide +kernel
theorem dJ0_length_8abf5_0 : decode cJ0_length_8abf5 0 = .ok (.aload_n 0, 1) := by decide +kernel
theorem dJ0_length_8abf5_1 : decode cJ0_length_8abf5 1 = .ok (.getfield 9, 3) := by decide +kernel
theorem dJ0_length_8abf5_4 : decode cJ0_length_8abf5 4 = .ok (.arraylength, 1) := by decide +kernel
theorem dJ0_length_8abf5_5 : decode cJ0_length_8abf5 5 = .ok (.aload_n 0, 1) := by decide +kernel
theorem dJ0_length_8abf5_6 : decode cJ0_length_8abf5 6 = .ok (.invokevirtual 335, 3) := by decide +kernel
theorem dJ0_length_8abf5_9 : decode cJ0_length_8abf5 9 = .ok (.ishr, 1) := by decide +kernel
theorem dJ0_length_8abf5_10 : decode cJ0_length_8abf5 10 = .ok (.ireturn, 1) := by decide +kernel
theorem dJ0_indexOf_0f7a4_0 : decode cJ0_indexOf_0f7a4 0 = .ok (.aload_n 0, 1) := by decide +kernel
theorem dJ0_indexOf_0f7a4_1 : decode cJ0_indexOf_0f7a4 1 = .ok (.iload_n 1, 1) := by decide +kernel
theorem dJ0_indexOf_0f7a4_2 : decode cJ0_indexOf_0f7a4 2 = .ok (.iconst 0, 1) := by decide +kernel
theorem dJ0_indexOf_0f7a4_3 : decode cJ0_indexOf_0f7a4 3 = .ok (.invokevirtual 633, 3) := by decide +kernel
theorem dJ0_indexOf_0f7a4_6 : decode cJ0_indexOf_0f7a4 6 = .ok (.ireturn, 1) := by decide +kernel
theorem dJ0_indexOf_7cf53_0 : decode cJ0_indexOf_7cf53 0 = .ok (.aload_n 0, 1) := by decide +kernel
theorem dJ0_indexOf_7cf53_1 : decode cJ0_indexOf_7cf53 1 = .ok (.invokevirtual 492, 3) := by decide +kernel
theorem dJ0_indexOf_7cf53_4 : decode cJ0_indexOf_7cf53 4 = .ok (.ifCond .eq 19, 3) := by decide +kernel
theorem dJ0_indexOf_7cf53_7 : decode cJ0_indexOf_7cf53 7 = .ok (.aload_n 0, 1) := by decide +kernel
theorem dJ0_indexOf_7cf53_8 : decode cJ0_indexOf_7cf53 8 = .ok (.getfield 9, 3) := by decide +kernel
theorem dJ0_indexOf_7cf53_11 : decode cJ0_indexOf_7cf53 11 = .ok (.iload_n 1, 1) := by decide +kernel
theorem dJ0_indexOf_7cf53_12 : decode cJ0_indexOf_7cf53 12 = .ok (.iload_n 2, 1) := by decide +kernel
theorem dJ0_indexOf_7cf53_13 : decode cJ0_indexOf_7cf53 13 = .ok (.aload_n 0, 1) := by decide +kernel
theorem dJ0_indexOf_7cf53_14 : decode cJ0_indexOf_7cf53 14 = .ok (.invokevirtual 505, 3) := by decide +kernel
theorem dJ0_indexOf_7cf53_17 : decode cJ0_indexOf_7cf53 17 = .ok (.invokestatic 637, 3) := by decide +kernel
theorem dJ0_indexOf_7cf53_20 : decode cJ0_indexOf_7cf53 20 = .ok (.goto 16, 3) := by decide +kernel
theorem dJ0_indexOf_7cf53_23 : decode cJ0_indexOf_7cf53 23 = .ok (.aload_n 0, 1) := by decide +kernel
theorem dJ0_indexOf_7cf53_24 : decode cJ0_indexOf_7cf53 24 = .ok (.getfield 9, 3) := by decide +kernel
theorem dJ0_indexOf_7cf53_27 : decode cJ0_indexOf_7cf53 27 = .ok (.iload_n 1, 1) := by decide +kernel
theorem dJ0_indexOf_7cf53_28 : decode cJ0_indexOf_7cf53 28 = .ok (.iload_n 2, 1) := by decide +kernel
theorem dJ0_indexOf_7cf53_29 : decode cJ0_indexOf_7cf53 29 = .ok (.aload_n 0, 1) := by decide +kernel
theorem dJ0_indexOf_7cf53_30 : decode cJ0_indexOf_7cf53 30 = .ok (.invokevirtual 505, 3) := by decide +kernel
theorem dJ0_indexOf_7cf53_33 : decode cJ0_indexOf_7cf53 33 = .ok (.invokestatic 640, 3) := by decide +kernel
theorem dJ0_indexOf_7cf53_36 : decode cJ0_indexOf_7cf53 36 = .ok (.ireturn, 1) := by decide +kernel
theorem dJ0_coder_7d493_0 : decode cJ0_coder_7d493 0 = .ok (.getstatic 38, 3) := by decide +kernel
theorem dJ0_coder_7d493_3 : decode cJ0_coder_7d493 3 = .ok (.ifCond .eq 10, 3) := by decide +kernel
theorem dJ0_coder_7d493_6 : decode cJ0_coder_7d493 6 = .ok (.aload_n 0, 1) := by decide +kernel
theorem dJ0_coder_7d493_7 : decode cJ0_coder_7d493 7 = .ok (.getfield 15, 3) := by decide +kernel
theorem dJ0_coder_7d493_10 : decode cJ0_coder_7d493 10 = .ok (.goto 4, 3) := by decide +kernel
theorem dJ0_coder_7d493_13 : decode cJ0_coder_7d493 13 = .ok (.iconst 1, 1) := by decide +kernel
theorem dJ0_coder_7d493_14 : decode cJ0_coder_7d493 14 = .ok (.ireturn, 1) := by decide +kernel
theorem dJ0_isLatin1_aae02_0 : decode cJ0_isLatin1_aae02 0 = .ok (.getstatic 38, 3) := by decide +kernel
theorem dJ0_isLatin1_aae02_3 : decode cJ0_isLatin1_aae02 3 = .ok (.ifCond .eq 14, 3) := by decide +kernel
theorem dJ0_isLatin1_aae02_6 : decode cJ0_isLatin1_aae02 6 = .ok (.aload_n 0, 1) := by decide +kernel
theorem dJ0_isLatin1_aae02_7 : decode cJ0_isLatin1_aae02 7 = .ok (.getfield 15, 3) := by decide +kernel
theorem dJ0_isLatin1_aae02_10 : decode cJ0_isLatin1_aae02 10 = .ok (.ifCond .ne 7, 3) := by decide +kernel
theorem dJ0_isLatin1_aae02_13 : decode cJ0_isLatin1_aae02 13 = .ok (.iconst 1, 1) := by decide +kernel
theorem dJ0_isLatin1_aae02_14 : decode cJ0_isLatin1_aae02 14 = .ok (.goto 4, 3) := by decide +kernel
theorem dJ0_isLatin1_aae02_17 : decode cJ0_isLatin1_aae02 17 = .ok (.iconst 0, 1) := by decide +kernel
theorem dJ0_isLatin1_aae02_18 : decode cJ0_isLatin1_aae02 18 = .ok (.ireturn, 1) := by decide +kernel
theorem dJ0_checkBoundsBeginEnd_23922_0 : decode cJ0_checkBoundsBeginEnd_23922 0 = .ok (.iload_n 0, 1) := by decide +kernel
theorem dJ0_checkBoundsBeginEnd_23922_1 : decode cJ0_checkBoundsBeginEnd_23922 1 = .ok (.iload_n 1, 1) := by decide +kernel
theorem dJ0_checkBoundsBeginEnd_23922_2 : decode cJ0_checkBoundsBeginEnd_23922 2 = .ok (.iload_n 2, 1) := by decide +kernel
theorem dJ0_checkBoundsBeginEnd_23922_3 : decode cJ0_checkBoundsBeginEnd_23922 3 = .ok (.getstatic 1053, 3) := by decide +kernel
theorem dJ0_checkBoundsBeginEnd_23922_6 : decode cJ0_checkBoundsBeginEnd_23922 6 = .ok (.invokestatic 1062, 3) := by decide +kernel
theorem dJ0_checkBoundsBeginEnd_23922_9 : decode cJ0_checkBoundsBeginEnd_23922 9 = .ok (.pop, 1) := by decide +kernel
theorem dJ0_checkBoundsBeginEnd_23922_10 : decode cJ0_checkBoundsBeginEnd_23922 10 = .ok (.return_, 1) := by decide +kernel
theorem dJ1_canEncode_9a6ad_0 : decode cJ1_canEncode_9a6ad 0 = .ok (.iload_n 0, 1) := by decide +kernel
theorem dJ1_canEncode_9a6ad_1 : decode cJ1_canEncode_9a6ad 1 = .ok (.ifCond .lt 14, 3) := by decide +kernel
theorem dJ1_canEncode_9a6ad_4 : decode cJ1_canEncode_9a6ad 4 = .ok (.iload_n 0, 1) := by decide +kernel
theorem dJ1_canEncode_9a6ad_5 : decode cJ1_canEncode_9a6ad 5 = .ok (.sipush 255, 3) := by decide +kernel
theorem dJ1_canEncode_9a6ad_8 : decode cJ1_canEncode_9a6ad 8 = .ok (.if_icmp .gt 7, 3) := by decide +kernel
theorem dJ1_canEncode_9a6ad_11 : decode cJ1_canEncode_9a6ad 11 = .ok (.iconst 1, 1) := by decide +kernel
theorem dJ1_canEncode_9a6ad_12 : decode cJ1_canEncode_9a6ad 12 = .ok (.goto 4, 3) := by decide +kernel
theorem dJ1_canEncode_9a6ad_15 : decode cJ1_canEncode_9a6ad 15 = .ok (.iconst 0, 1) := by decide +kernel
theorem dJ1_canEncode_9a6ad_16 : decode cJ1_canEncode_9a6ad 16 = .ok (.ireturn, 1) := by decide +kernel
theorem dJ1_indexOf_4cfef_0 : decode cJ1_indexOf_4cfef 0 = .ok (.iload_n 1, 1) := by decide +kernel
theorem dJ1_indexOf_4cfef_1 : decode cJ1_indexOf_4cfef 1 = .ok (.invokestatic 88, 3) := by decide +kernel
theorem dJ1_indexOf_4cfef_4 : decode cJ1_indexOf_4cfef 4 = .ok (.ifCond .ne 5, 3) := by decide +kernel
theorem dJ1_indexOf_4cfef_7 : decode cJ1_indexOf_4cfef 7 = .ok (.iconst (-1), 1) := by decide +kernel
theorem dJ1_indexOf_4cfef_8 : decode cJ1_indexOf_4cfef 8 = .ok (.ireturn, 1) := by decide +kernel
theorem dJ1_indexOf_4cfef_9 : decode cJ1_indexOf_4cfef 9 = .ok (.iload_n 2, 1) := by decide +kernel
theorem dJ1_indexOf_4cfef_10 : decode cJ1_indexOf_4cfef 10 = .ok (.iconst 0, 1) := by decide +kernel
theorem dJ1_indexOf_4cfef_11 : decode cJ1_indexOf_4cfef 11 = .ok (.invokestatic 92, 3) := by decide +kernel
theorem dJ1_indexOf_4cfef_14 : decode cJ1_indexOf_4cfef 14 = .ok (.istore_n 2, 1) := by decide +kernel
theorem dJ1_indexOf_4cfef_15 : decode cJ1_indexOf_4cfef 15 = .ok (.iload_n 3, 1) := by decide +kernel
theorem dJ1_indexOf_4cfef_16 : decode cJ1_indexOf_4cfef 16 = .ok (.aload_n 0, 1) := by decide +kernel
theorem dJ1_indexOf_4cfef_17 : decode cJ1_indexOf_4cfef 17 = .ok (.arraylength, 1) := by decide +kernel
theorem dJ1_indexOf_4cfef_18 : decode cJ1_indexOf_4cfef 18 = .ok (.invokestatic 38, 3) := by decide +kernel
theorem dJ1_indexOf_4cfef_21 : decode cJ1_indexOf_4cfef 21 = .ok (.istore_n 3, 1) := by decide +kernel
theorem dJ1_indexOf_4cfef_22 : decode cJ1_indexOf_4cfef 22 = .ok (.iload_n 2, 1) := by decide +kernel
theorem dJ1_indexOf_4cfef_23 : decode cJ1_indexOf_4cfef 23 = .ok (.iload_n 3, 1) := by decide +kernel
theorem dJ1_indexOf_4cfef_24 : decode cJ1_indexOf_4cfef 24 = .ok (.if_icmp .lt 5, 3) := by decide +kernel
theorem dJ1_indexOf_4cfef_27 : decode cJ1_indexOf_4cfef 27 = .ok (.iconst (-1), 1) := by decide +kernel
theorem dJ1_indexOf_4cfef_28 : decode cJ1_indexOf_4cfef 28 = .ok (.ireturn, 1) := by decide +kernel
theorem dJ1_indexOf_4cfef_29 : decode cJ1_indexOf_4cfef 29 = .ok (.aload_n 0, 1) := by decide +kernel
theorem dJ1_indexOf_4cfef_30 : decode cJ1_indexOf_4cfef 30 = .ok (.iload_n 1, 1) := by decide +kernel
theorem dJ1_indexOf_4cfef_31 : decode cJ1_indexOf_4cfef 31 = .ok (.iload_n 2, 1) := by decide +kernel
theorem dJ1_indexOf_4cfef_32 : decode cJ1_indexOf_4cfef 32 = .ok (.iload_n 3, 1) := by decide +kernel
theorem dJ1_indexOf_4cfef_33 : decode cJ1_indexOf_4cfef 33 = .ok (.invokestatic 95, 3) := by decide +kernel
theorem dJ1_indexOf_4cfef_36 : decode cJ1_indexOf_4cfef 36 = .ok (.ireturn, 1) := by decide +kernel
theorem dJ1_indexOfChar_4cfef_0 : decode cJ1_indexOfChar_4cfef 0 = .ok (.iload_n 1, 1) := by decide +kernel
theorem dJ1_indexOfChar_4cfef_1 : decode cJ1_indexOfChar_4cfef 1 = .ok (.i2b, 1) := by decide +kernel
theorem dJ1_indexOfChar_4cfef_2 : decode cJ1_indexOfChar_4cfef 2 = .ok (.istore 4, 2) := by decide +kernel
theorem dJ1_indexOfChar_4cfef_4 : decode cJ1_indexOfChar_4cfef 4 = .ok (.iload_n 2, 1) := by decide +kernel
theorem dJ1_indexOfChar_4cfef_5 : decode cJ1_indexOfChar_4cfef 5 = .ok (.istore 5, 2) := by decide +kernel
theorem dJ1_indexOfChar_4cfef_7 : decode cJ1_indexOfChar_4cfef 7 = .ok (.iload 5, 2) := by decide +kernel
theorem dJ1_indexOfChar_4cfef_9 : decode cJ1_indexOfChar_4cfef 9 = .ok (.iload_n 3, 1) := by decide +kernel
theorem dJ1_indexOfChar_4cfef_10 : decode cJ1_indexOfChar_4cfef 10 = .ok (.if_icmp .ge 21, 3) := by decide +kernel
theorem dJ1_indexOfChar_4cfef_13 : decode cJ1_indexOfChar_4cfef 13 = .ok (.aload_n 0, 1) := by decide +kernel
theorem dJ1_indexOfChar_4cfef_14 : decode cJ1_indexOfChar_4cfef 14 = .ok (.iload 5, 2) := by decide +kernel
theorem dJ1_indexOfChar_4cfef_16 : decode cJ1_indexOfChar_4cfef 16 = .ok (.baload, 1) := by decide +kernel
theorem dJ1_indexOfChar_4cfef_17 : decode cJ1_indexOfChar_4cfef 17 = .ok (.iload 4, 2) := by decide +kernel
theorem dJ1_indexOfChar_4cfef_19 : decode cJ1_indexOfChar_4cfef 19 = .ok (.if_icmp .ne 6, 3) := by decide +kernel
theorem dJ1_indexOfChar_4cfef_22 : decode cJ1_indexOfChar_4cfef 22 = .ok (.iload 5, 2) := by decide +kernel
theorem dJ1_indexOfChar_4cfef_24 : decode cJ1_indexOfChar_4cfef 24 = .ok (.ireturn, 1) := by decide +kernel
theorem dJ1_indexOfChar_4cfef_25 : decode cJ1_indexOfChar_4cfef 25 = .ok (.iinc 5 1, 3) := by decide +kernel
theorem dJ1_indexOfChar_4cfef_28 : decode cJ1_indexOfChar_4cfef 28 = .ok (.goto (-21), 3) := by decide +kernel
theorem dJ1_indexOfChar_4cfef_31 : decode cJ1_indexOfChar_4cfef 31 = .ok (.iconst (-1), 1) := by decide +kernel
theorem dJ1_indexOfChar_4cfef_32 : decode cJ1_indexOfChar_4cfef 32 = .ok (.ireturn, 1) := by decide +kernel
theorem dJ2_getChar_3b067_0 : decode cJ2_getChar_3b067 0 = .ok (.getstatic 44, 3) := by decide +kernel
theorem dJ2_getChar_3b067_3 : decode cJ2_getChar_3b067 3 = .ok (.ifCond .ne 25, 3) := by decide +kernel
theorem dJ2_getChar_3b067_6 : decode cJ2_getChar_3b067 6 = .ok (.iload_n 1, 1) := by decide +kernel
theorem dJ2_getChar_3b067_7 : decode cJ2_getChar_3b067 7 = .ok (.ifCond .lt 11, 3) := by decide +kernel
theorem dJ2_getChar_3b067_10 : decode cJ2_getChar_3b067 10 = .ok (.iload_n 1, 1) := by decide +kernel
theorem dJ2_getChar_3b067_11 : decode cJ2_getChar_3b067 11 = .ok (.aload_n 0, 1) := by decide +kernel
theorem dJ2_getChar_3b067_12 : decode cJ2_getChar_3b067 12 = .ok (.invokestatic 48, 3) := by decide +kernel
theorem dJ2_getChar_3b067_15 : decode cJ2_getChar_3b067 15 = .ok (.if_icmp .lt 13, 3) := by decide +kernel
theorem dJ2_getChar_3b067_18 : decode cJ2_getChar_3b067 18 = .ok (.new 52, 3) := by decide +kernel
theorem dJ2_getChar_3b067_21 : decode cJ2_getChar_3b067 21 = .ok (.dup, 1) := by decide +kernel
theorem dJ2_getChar_3b067_22 : decode cJ2_getChar_3b067 22 = .ok (.ldc 54, 2) := by decide +kernel
theorem dJ2_getChar_3b067_24 : decode cJ2_getChar_3b067 24 = .ok (.invokespecial 56, 3) := by decide +kernel
theorem dJ2_getChar_3b067_27 : decode cJ2_getChar_3b067 27 = .ok (.athrow, 1) := by decide +kernel
theorem dJ2_getChar_3b067_28 : decode cJ2_getChar_3b067 28 = .ok (.iload_n 1, 1) := by decide +kernel
theorem dJ2_getChar_3b067_29 : decode cJ2_getChar_3b067 29 = .ok (.iconst 1, 1) := by decide +kernel
theorem dJ2_getChar_3b067_30 : decode cJ2_getChar_3b067 30 = .ok (.ishl, 1) := by decide +kernel
theorem dJ2_getChar_3b067_31 : decode cJ2_getChar_3b067 31 = .ok (.istore_n 1, 1) := by decide +kernel
theorem dJ2_getChar_3b067_32 : decode cJ2_getChar_3b067 32 = .ok (.aload_n 0, 1) := by decide +kernel
theorem dJ2_getChar_3b067_33 : decode cJ2_getChar_3b067 33 = .ok (.iload_n 1, 1) := by decide +kernel
theorem dJ2_getChar_3b067_34 : decode cJ2_getChar_3b067 34 = .ok (.iinc 1 1, 3) := by decide +kernel
theorem dJ2_getChar_3b067_37 : decode cJ2_getChar_3b067 37 = .ok (.baload, 1) := by decide +kernel
theorem dJ2_getChar_3b067_38 : decode cJ2_getChar_3b067 38 = .ok (.sipush 255, 3) := by decide +kernel
theorem dJ2_getChar_3b067_41 : decode cJ2_getChar_3b067 41 = .ok (.iand, 1) := by decide +kernel
theorem dJ2_getChar_3b067_42 : decode cJ2_getChar_3b067 42 = .ok (.getstatic 59, 3) := by decide +kernel
theorem dJ2_getChar_3b067_45 : decode cJ2_getChar_3b067 45 = .ok (.ishl, 1) := by decide +kernel
theorem dJ2_getChar_3b067_46 : decode cJ2_getChar_3b067 46 = .ok (.aload_n 0, 1) := by decide +kernel
theorem dJ2_getChar_3b067_47 : decode cJ2_getChar_3b067 47 = .ok (.iload_n 1, 1) := by decide +kernel
theorem dJ2_getChar_3b067_48 : decode cJ2_getChar_3b067 48 = .ok (.baload, 1) := by decide +kernel
theorem dJ2_getChar_3b067_49 : decode cJ2_getChar_3b067 49 = .ok (.sipush 255, 3) := by decide +kernel
theorem dJ2_getChar_3b067_52 : decode cJ2_getChar_3b067 52 = .ok (.iand, 1) := by decide +kernel
theorem dJ2_getChar_3b067_53 : decode cJ2_getChar_3b067 53 = .ok (.getstatic 63, 3) := by decide +kernel
theorem dJ2_getChar_3b067_56 : decode cJ2_getChar_3b067 56 = .ok (.ishl, 1) := by decide +kernel
theorem dJ2_getChar_3b067_57 : decode cJ2_getChar_3b067 57 = .ok (.ior, 1) := by decide +kernel
theorem dJ2_getChar_3b067_58 : decode cJ2_getChar_3b067 58 = .ok (.i2c, 1) := by decide +kernel
theorem dJ2_getChar_3b067_59 : decode cJ2_getChar_3b067 59 = .ok (.ireturn, 1) := by decide +kernel
theorem dJ2_length_9d52b_0 : decode cJ2_length_9d52b 0 = .ok (.aload_n 0, 1) := by decide +kernel
theorem dJ2_length_9d52b_1 : decode cJ2_length_9d52b 1 = .ok (.arraylength, 1) := by decide +kernel
theorem dJ2_length_9d52b_2 : decode cJ2_length_9d52b 2 = .ok (.iconst 1, 1) := by decide +kernel
theorem dJ2_length_9d52b_3 : decode cJ2_length_9d52b 3 = .ok (.ishr, 1) := by decide +kernel
theorem dJ2_length_9d52b_4 : decode cJ2_length_9d52b 4 = .ok (.ireturn, 1) := by decide +kernel
theorem dJ2_indexOf_4cfef_0 : decode cJ2_indexOf_4cfef 0 = .ok (.iload_n 2, 1) := by decide +kernel
theorem dJ2_indexOf_4cfef_1 : decode cJ2_indexOf_4cfef 1 = .ok (.iconst 0, 1) := by decide +kernel
theorem dJ2_indexOf_4cfef_2 : decode cJ2_indexOf_4cfef 2 = .ok (.invokestatic 224, 3) := by decide +kernel
theorem dJ2_indexOf_4cfef_5 : decode cJ2_indexOf_4cfef 5 = .ok (.istore_n 2, 1) := by decide +kernel
theorem dJ2_indexOf_4cfef_6 : decode cJ2_indexOf_4cfef 6 = .ok (.iload_n 3, 1) := by decide +kernel
theorem dJ2_indexOf_4cfef_7 : decode cJ2_indexOf_4cfef 7 = .ok (.aload_n 0, 1) := by decide +kernel
theorem dJ2_indexOf_4cfef_8 : decode cJ2_indexOf_4cfef 8 = .ok (.arraylength, 1) := by decide +kernel
theorem dJ2_indexOf_4cfef_9 : decode cJ2_indexOf_4cfef 9 = .ok (.iconst 1, 1) := by decide +kernel
theorem dJ2_indexOf_4cfef_10 : decode cJ2_indexOf_4cfef 10 = .ok (.ishr, 1) := by decide +kernel
theorem dJ2_indexOf_4cfef_11 : decode cJ2_indexOf_4cfef 11 = .ok (.invokestatic 183, 3) := by decide +kernel
theorem dJ2_indexOf_4cfef_14 : decode cJ2_indexOf_4cfef 14 = .ok (.istore_n 3, 1) := by decide +kernel
theorem dJ2_indexOf_4cfef_15 : decode cJ2_indexOf_4cfef 15 = .ok (.iload_n 2, 1) := by decide +kernel
theorem dJ2_indexOf_4cfef_16 : decode cJ2_indexOf_4cfef 16 = .ok (.iload_n 3, 1) := by decide +kernel
theorem dJ2_indexOf_4cfef_17 : decode cJ2_indexOf_4cfef 17 = .ok (.if_icmp .lt 5, 3) := by decide +kernel
theorem dJ2_indexOf_4cfef_20 : decode cJ2_indexOf_4cfef 20 = .ok (.iconst (-1), 1) := by decide +kernel
theorem dJ2_indexOf_4cfef_21 : decode cJ2_indexOf_4cfef 21 = .ok (.ireturn, 1) := by decide +kernel
theorem dJ2_indexOf_4cfef_22 : decode cJ2_indexOf_4cfef 22 = .ok (.iload_n 1, 1) := by decide +kernel
theorem dJ2_indexOf_4cfef_23 : decode cJ2_indexOf_4cfef 23 = .ok (.ldc 227, 2) := by decide +kernel
theorem dJ2_indexOf_4cfef_25 : decode cJ2_indexOf_4cfef 25 = .ok (.if_icmp .ge 11, 3) := by decide +kernel
theorem dJ2_indexOf_4cfef_28 : decode cJ2_indexOf_4cfef 28 = .ok (.aload_n 0, 1) := by decide +kernel
theorem dJ2_indexOf_4cfef_29 : decode cJ2_indexOf_4cfef 29 = .ok (.iload_n 1, 1) := by decide +kernel
theorem dJ2_indexOf_4cfef_30 : decode cJ2_indexOf_4cfef 30 = .ok (.iload_n 2, 1) := by decide +kernel
theorem dJ2_indexOf_4cfef_31 : decode cJ2_indexOf_4cfef 31 = .ok (.iload_n 3, 1) := by decide +kernel
theorem dJ2_indexOf_4cfef_32 : decode cJ2_indexOf_4cfef 32 = .ok (.invokestatic 228, 3) := by decide +kernel
theorem dJ2_indexOf_4cfef_35 : decode cJ2_indexOf_4cfef 35 = .ok (.ireturn, 1) := by decide +kernel
theorem dJ2_indexOf_4cfef_36 : decode cJ2_indexOf_4cfef 36 = .ok (.aload_n 0, 1) := by decide +kernel
theorem dJ2_indexOf_4cfef_37 : decode cJ2_indexOf_4cfef 37 = .ok (.iload_n 1, 1) := by decide +kernel
theorem dJ2_indexOf_4cfef_38 : decode cJ2_indexOf_4cfef 38 = .ok (.iload_n 2, 1) := by decide +kernel
theorem dJ2_indexOf_4cfef_39 : decode cJ2_indexOf_4cfef 39 = .ok (.iload_n 3, 1) := by decide +kernel
theorem dJ2_indexOf_4cfef_40 : decode cJ2_indexOf_4cfef 40 = .ok (.invokestatic 232, 3) := by decide +kernel
theorem dJ2_indexOf_4cfef_43 : decode cJ2_indexOf_4cfef 43 = .ok (.ireturn, 1) := by decide +kernel
theorem dJ2_indexOfChar_4cfef_0 : decode cJ2_indexOfChar_4cfef 0 = .ok (.iload_n 2, 1) := by decide +kernel
theorem dJ2_indexOfChar_4cfef_1 : decode cJ2_indexOfChar_4cfef 1 = .ok (.iload_n 3, 1) := by decide +kernel
theorem dJ2_indexOfChar_4cfef_2 : decode cJ2_indexOfChar_4cfef 2 = .ok (.aload_n 0, 1) := by decide +kernel
theorem dJ2_indexOfChar_4cfef_3 : decode cJ2_indexOfChar_4cfef 3 = .ok (.invokestatic 96, 3) := by decide +kernel
theorem dJ2_indexOfChar_4cfef_6 : decode cJ2_indexOfChar_4cfef 6 = .ok (.aload_n 0, 1) := by decide +kernel
theorem dJ2_indexOfChar_4cfef_7 : decode cJ2_indexOfChar_4cfef 7 = .ok (.iload_n 1, 1) := by decide +kernel
theorem dJ2_indexOfChar_4cfef_8 : decode cJ2_indexOfChar_4cfef 8 = .ok (.iload_n 2, 1) := by decide +kernel
theorem dJ2_indexOfChar_4cfef_9 : decode cJ2_indexOfChar_4cfef 9 = .ok (.iload_n 3, 1) := by decide +kernel
theorem dJ2_indexOfChar_4cfef_10 : decode cJ2_indexOfChar_4cfef 10 = .ok (.invokestatic 244, 3) := by decide +kernel
theorem dJ2_indexOfChar_4cfef_13 : decode cJ2_indexOfChar_4cfef 13 = .ok (.ireturn, 1) := by decide +kernel
theorem dJ2_indexOfCharUnsafe_4cfef_0 : decode cJ2_indexOfCharUnsafe_4cfef 0 = .ok (.iload_n 2, 1) := by decide +kernel
theorem dJ2_indexOfCharUnsafe_4cfef_1 : decode cJ2_indexOfCharUnsafe_4cfef 1 = .ok (.istore 4, 2) := by decide +kernel
theorem dJ2_indexOfCharUnsafe_4cfef_3 : decode cJ2_indexOfCharUnsafe_4cfef 3 = .ok (.iload 4, 2) := by decide +kernel
theorem dJ2_indexOfCharUnsafe_4cfef_5 : decode cJ2_indexOfCharUnsafe_4cfef 5 = .ok (.iload_n 3, 1) := by decide +kernel
theorem dJ2_indexOfCharUnsafe_4cfef_6 : decode cJ2_indexOfCharUnsafe_4cfef 6 = .ok (.if_icmp .ge 22, 3) := by decide +kernel
theorem dJ2_indexOfCharUnsafe_4cfef_9 : decode cJ2_indexOfCharUnsafe_4cfef 9 = .ok (.aload_n 0, 1) := by decide +kernel
theorem dJ2_indexOfCharUnsafe_4cfef_10 : decode cJ2_indexOfCharUnsafe_4cfef 10 = .ok (.iload 4, 2) := by decide +kernel
theorem dJ2_indexOfCharUnsafe_4cfef_12 : decode cJ2_indexOfCharUnsafe_4cfef 12 = .ok (.invokestatic 71, 3) := by decide +kernel
theorem dJ2_indexOfCharUnsafe_4cfef_15 : decode cJ2_indexOfCharUnsafe_4cfef 15 = .ok (.iload_n 1, 1) := by decide +kernel
theorem dJ2_indexOfCharUnsafe_4cfef_16 : decode cJ2_indexOfCharUnsafe_4cfef 16 = .ok (.if_icmp .ne 6, 3) := by decide +kernel
theorem dJ2_indexOfCharUnsafe_4cfef_19 : decode cJ2_indexOfCharUnsafe_4cfef 19 = .ok (.iload 4, 2) := by decide +kernel
theorem dJ2_indexOfCharUnsafe_4cfef_21 : decode cJ2_indexOfCharUnsafe_4cfef 21 = .ok (.ireturn, 1) := by decide +kernel
theorem dJ2_indexOfCharUnsafe_4cfef_22 : decode cJ2_indexOfCharUnsafe_4cfef 22 = .ok (.iinc 4 1, 3) := by decide +kernel
theorem dJ2_indexOfCharUnsafe_4cfef_25 : decode cJ2_indexOfCharUnsafe_4cfef 25 = .ok (.goto (-22), 3) := by decide +kernel
theorem dJ2_indexOfCharUnsafe_4cfef_28 : decode cJ2_indexOfCharUnsafe_4cfef 28 = .ok (.iconst (-1), 1) := by decide +kernel
theorem dJ2_indexOfCharUnsafe_4cfef_29 : decode cJ2_indexOfCharUnsafe_4cfef 29 = .ok (.ireturn, 1) := by decide +kernel
theorem dJ2_indexOfSupplementary_4cfef_0 : decode cJ2_indexOfSupplementary_4cfef 0 = .ok (.iload_n 1, 1) := by decide +kernel
theorem dJ2_indexOfSupplementary_4cfef_1 : decode cJ2_indexOfSupplementary_4cfef 1 = .ok (.invokestatic 164, 3) := by decide +kernel
theorem dJ2_indexOfSupplementary_4cfef_4 : decode cJ2_indexOfSupplementary_4cfef 4 = .ok (.ifCond .eq 65, 3) := by decide +kernel
theorem dJ2_indexOfSupplementary_4cfef_7 : decode cJ2_indexOfSupplementary_4cfef 7 = .ok (.iload_n 1, 1) := by decide +kernel
theorem dJ2_indexOfSupplementary_4cfef_8 : decode cJ2_indexOfSupplementary_4cfef 8 = .ok (.invokestatic 157, 3) := by decide +kernel
theorem dJ2_indexOfSupplementary_4cfef_11 : decode cJ2_indexOfSupplementary_4cfef 11 = .ok (.istore 4, 2) := by decide +kernel
theorem dJ2_indexOfSupplementary_4cfef_13 : decode cJ2_indexOfSupplementary_4cfef 13 = .ok (.iload_n 1, 1) := by decide +kernel
theorem dJ2_indexOfSupplementary_4cfef_14 : decode cJ2_indexOfSupplementary_4cfef 14 = .ok (.invokestatic 161, 3) := by decide +kernel
theorem dJ2_indexOfSupplementary_4cfef_17 : decode cJ2_indexOfSupplementary_4cfef 17 = .ok (.istore 5, 2) := by decide +kernel
theorem dJ2_indexOfSupplementary_4cfef_19 : decode cJ2_indexOfSupplementary_4cfef 19 = .ok (.iload_n 2, 1) := by decide +kernel
theorem dJ2_indexOfSupplementary_4cfef_20 : decode cJ2_indexOfSupplementary_4cfef 20 = .ok (.iload_n 3, 1) := by decide +kernel
theorem dJ2_indexOfSupplementary_4cfef_21 : decode cJ2_indexOfSupplementary_4cfef 21 = .ok (.aload_n 0, 1) := by decide +kernel
theorem dJ2_indexOfSupplementary_4cfef_22 : decode cJ2_indexOfSupplementary_4cfef 22 = .ok (.invokestatic 96, 3) := by decide +kernel
theorem dJ2_indexOfSupplementary_4cfef_25 : decode cJ2_indexOfSupplementary_4cfef 25 = .ok (.iload_n 2, 1) := by decide +kernel
theorem dJ2_indexOfSupplementary_4cfef_26 : decode cJ2_indexOfSupplementary_4cfef 26 = .ok (.istore 6, 2) := by decide +kernel
theorem dJ2_indexOfSupplementary_4cfef_28 : decode cJ2_indexOfSupplementary_4cfef 28 = .ok (.iload 6, 2) := by decide +kernel
theorem dJ2_indexOfSupplementary_4cfef_30 : decode cJ2_indexOfSupplementary_4cfef 30 = .ok (.iload_n 3, 1) := by decide +kernel
theorem dJ2_indexOfSupplementary_4cfef_31 : decode cJ2_indexOfSupplementary_4cfef 31 = .ok (.iconst 1, 1) := by decide +kernel
theorem dJ2_indexOfSupplementary_4cfef_32 : decode cJ2_indexOfSupplementary_4cfef 32 = .ok (.isub, 1) := by decide +kernel
theorem dJ2_indexOfSupplementary_4cfef_33 : decode cJ2_indexOfSupplementary_4cfef 33 = .ok (.if_icmp .ge 36, 3) := by decide +kernel
theorem dJ2_indexOfSupplementary_4cfef_36 : decode cJ2_indexOfSupplementary_4cfef 36 = .ok (.aload_n 0, 1) := by decide +kernel
theorem dJ2_indexOfSupplementary_4cfef_37 : decode cJ2_indexOfSupplementary_4cfef 37 = .ok (.iload 6, 2) := by decide +kernel
theorem dJ2_indexOfSupplementary_4cfef_39 : decode cJ2_indexOfSupplementary_4cfef 39 = .ok (.invokestatic 71, 3) := by decide +kernel
theorem dJ2_indexOfSupplementary_4cfef_42 : decode cJ2_indexOfSupplementary_4cfef 42 = .ok (.iload 4, 2) := by decide +kernel
theorem dJ2_indexOfSupplementary_4cfef_44 : decode cJ2_indexOfSupplementary_4cfef 44 = .ok (.if_icmp .ne 19, 3) := by decide +kernel
theorem dJ2_indexOfSupplementary_4cfef_47 : decode cJ2_indexOfSupplementary_4cfef 47 = .ok (.aload_n 0, 1) := by decide +kernel
theorem dJ2_indexOfSupplementary_4cfef_48 : decode cJ2_indexOfSupplementary_4cfef 48 = .ok (.iload 6, 2) := by decide +kernel
theorem dJ2_indexOfSupplementary_4cfef_50 : decode cJ2_indexOfSupplementary_4cfef 50 = .ok (.iconst 1, 1) := by decide +kernel
theorem dJ2_indexOfSupplementary_4cfef_51 : decode cJ2_indexOfSupplementary_4cfef 51 = .ok (.iadd, 1) := by decide +kernel
theorem dJ2_indexOfSupplementary_4cfef_52 : decode cJ2_indexOfSupplementary_4cfef 52 = .ok (.invokestatic 71, 3) := by decide +kernel
theorem dJ2_indexOfSupplementary_4cfef_55 : decode cJ2_indexOfSupplementary_4cfef 55 = .ok (.iload 5, 2) := by decide +kernel
theorem dJ2_indexOfSupplementary_4cfef_57 : decode cJ2_indexOfSupplementary_4cfef 57 = .ok (.if_icmp .ne 6, 3) := by decide +kernel
theorem dJ2_indexOfSupplementary_4cfef_60 : decode cJ2_indexOfSupplementary_4cfef 60 = .ok (.iload 6, 2) := by decide +kernel
theorem dJ2_indexOfSupplementary_4cfef_62 : decode cJ2_indexOfSupplementary_4cfef 62 = .ok (.ireturn, 1) := by decide +kernel
theorem dJ2_indexOfSupplementary_4cfef_63 : decode cJ2_indexOfSupplementary_4cfef 63 = .ok (.iinc 6 1, 3) := by decide +kernel
theorem dJ2_indexOfSupplementary_4cfef_66 : decode cJ2_indexOfSupplementary_4cfef 66 = .ok (.goto (-38), 3) := by decide +kernel
theorem dJ2_indexOfSupplementary_4cfef_69 : decode cJ2_indexOfSupplementary_4cfef 69 = .ok (.iconst (-1), 1) := by decide +kernel
theorem dJ2_indexOfSupplementary_4cfef_70 : decode cJ2_indexOfSupplementary_4cfef 70 = .ok (.ireturn, 1) := by decide +kernel
theorem dJ2_checkBoundsBeginEnd_d044e_0 : decode cJ2_checkBoundsBeginEnd_d044e 0 = .ok (.iload_n 0, 1) := by decide +kernel
theorem dJ2_checkBoundsBeginEnd_d044e_1 : decode cJ2_checkBoundsBeginEnd_d044e 1 = .ok (.iload_n 1, 1) := by decide +kernel
theorem dJ2_checkBoundsBeginEnd_d044e_2 : decode cJ2_checkBoundsBeginEnd_d044e 2 = .ok (.aload_n 2, 1) := by decide +kernel
theorem dJ2_checkBoundsBeginEnd_d044e_3 : decode cJ2_checkBoundsBeginEnd_d044e 3 = .ok (.invokestatic 48, 3) := by decide +kernel
theorem dJ2_checkBoundsBeginEnd_d044e_6 : decode cJ2_checkBoundsBeginEnd_d044e 6 = .ok (.invokestatic 241, 3) := by decide +kernel
theorem dJ2_checkBoundsBeginEnd_d044e_9 : decode cJ2_checkBoundsBeginEnd_d044e 9 = .ok (.return_, 1) := by decide +kernel
theorem dJ7_fill_53178_0 : decode cJ7_fill_53178 0 = .ok (.iconst 0, 1) := by decide +kernel
theorem dJ7_fill_53178_1 : decode cJ7_fill_53178 1 = .ok (.istore_n 2, 1) := by decide +kernel
theorem dJ7_fill_53178_2 : decode cJ7_fill_53178 2 = .ok (.aload_n 0, 1) := by decide +kernel
theorem dJ7_fill_53178_3 : decode cJ7_fill_53178 3 = .ok (.arraylength, 1) := by decide +kernel
theorem dJ7_fill_53178_4 : decode cJ7_fill_53178 4 = .ok (.istore_n 3, 1) := by decide +kernel
theorem dJ7_fill_53178_5 : decode cJ7_fill_53178 5 = .ok (.iload_n 2, 1) := by decide +kernel
theorem dJ7_fill_53178_6 : decode cJ7_fill_53178 6 = .ok (.iload_n 3, 1) := by decide +kernel
theorem dJ7_fill_53178_7 : decode cJ7_fill_53178 7 = .ok (.if_icmp .ge 13, 3) := by decide +kernel
theorem dJ7_fill_53178_10 : decode cJ7_fill_53178 10 = .ok (.aload_n 0, 1) := by decide +kernel
theorem dJ7_fill_53178_11 : decode cJ7_fill_53178 11 = .ok (.iload_n 2, 1) := by decide +kernel
theorem dJ7_fill_53178_12 : decode cJ7_fill_53178 12 = .ok (.iload_n 1, 1) := by decide +kernel
theorem dJ7_fill_53178_13 : decode cJ7_fill_53178 13 = .ok (.iastore, 1) := by decide +kernel
theorem dJ7_fill_53178_14 : decode cJ7_fill_53178 14 = .ok (.iinc 2 1, 3) := by decide +kernel
theorem dJ7_fill_53178_17 : decode cJ7_fill_53178 17 = .ok (.goto (-12), 3) := by decide +kernel
theorem dJ7_fill_53178_20 : decode cJ7_fill_53178 20 = .ok (.return_, 1) := by decide +kernel
theorem dJ3_checkFromToIndex_8c36e_0 : decode cJ3_checkFromToIndex_8c36e 0 = .ok (.iload_n 0, 1) := by decide +kernel
theorem dJ3_checkFromToIndex_8c36e_1 : decode cJ3_checkFromToIndex_8c36e 1 = .ok (.ifCond .lt 13, 3) := by decide +kernel
theorem dJ3_checkFromToIndex_8c36e_4 : decode cJ3_checkFromToIndex_8c36e 4 = .ok (.iload_n 0, 1) := by decide +kernel
theorem dJ3_checkFromToIndex_8c36e_5 : decode cJ3_checkFromToIndex_8c36e 5 = .ok (.iload_n 1, 1) := by decide +kernel
theorem dJ3_checkFromToIndex_8c36e_6 : decode cJ3_checkFromToIndex_8c36e 6 = .ok (.if_icmp .gt 8, 3) := by decide +kernel
theorem dJ3_checkFromToIndex_8c36e_9 : decode cJ3_checkFromToIndex_8c36e 9 = .ok (.iload_n 1, 1) := by decide +kernel
theorem dJ3_checkFromToIndex_8c36e_10 : decode cJ3_checkFromToIndex_8c36e 10 = .ok (.iload_n 2, 1) := by decide +kernel
theorem dJ3_checkFromToIndex_8c36e_11 : decode cJ3_checkFromToIndex_8c36e 11 = .ok (.if_icmp .le 11, 3) := by decide +kernel
theorem dJ3_checkFromToIndex_8c36e_14 : decode cJ3_checkFromToIndex_8c36e 14 = .ok (.aload_n 3, 1) := by decide +kernel
theorem dJ3_checkFromToIndex_8c36e_15 : decode cJ3_checkFromToIndex_8c36e 15 = .ok (.iload_n 0, 1) := by decide +kernel
theorem dJ3_checkFromToIndex_8c36e_16 : decode cJ3_checkFromToIndex_8c36e 16 = .ok (.iload_n 1, 1) := by decide +kernel
theorem dJ3_checkFromToIndex_8c36e_17 : decode cJ3_checkFromToIndex_8c36e 17 = .ok (.iload_n 2, 1) := by decide +kernel
theorem dJ3_checkFromToIndex_8c36e_18 : decode cJ3_checkFromToIndex_8c36e 18 = .ok (.invokestatic 99, 3) := by decide +kernel
theorem dJ3_checkFromToIndex_8c36e_21 : decode cJ3_checkFromToIndex_8c36e 21 = .ok (.athrow, 1) := by decide +kernel
theorem dJ3_checkFromToIndex_8c36e_22 : decode cJ3_checkFromToIndex_8c36e 22 = .ok (.iload_n 0, 1) := by decide +kernel
theorem dJ3_checkFromToIndex_8c36e_23 : decode cJ3_checkFromToIndex_8c36e 23 = .ok (.ireturn, 1) := by decide +kernel
theorem dL_law_0 : decode cL_law 0 = .ok (.new 7, 3) := by decide +kernel
theorem dL_law_3 : decode cL_law 3 = .ok (.dup, 1) := by decide +kernel
theorem dL_law_4 : decode cL_law 4 = .ok (.invokespecial 9, 3) := by decide +kernel
theorem dL_law_7 : decode cL_law 7 = .ok (.astore_n 1, 1) := by decide +kernel
theorem dL_law_8 : decode cL_law 8 = .ok (.new 10, 3) := by decide +kernel
theorem dL_law_11 : decode cL_law 11 = .ok (.dup, 1) := by decide +kernel
theorem dL_law_12 : decode cL_law 12 = .ok (.invokespecial 12, 3) := by decide +kernel
theorem dL_law_15 : decode cL_law 15 = .ok (.astore_n 2, 1) := by decide +kernel
theorem dL_law_16 : decode cL_law 16 = .ok (.iconst 0, 1) := by decide +kernel
theorem dL_law_17 : decode cL_law 17 = .ok (.istore_n 3, 1) := by decide +kernel
theorem dL_law_18 : decode cL_law 18 = .ok (.iload_n 3, 1) := by decide +kernel
theorem dL_law_19 : decode cL_law 19 = .ok (.aload_n 0, 1) := by decide +kernel
theorem dL_law_20 : decode cL_law 20 = .ok (.arraylength, 1) := by decide +kernel
theorem dL_law_21 : decode cL_law 21 = .ok (.bipush 6, 2) := by decide +kernel
theorem dL_law_23 : decode cL_law 23 = .ok (.isub, 1) := by decide +kernel
theorem dL_law_24 : decode cL_law 24 = .ok (.if_icmp .gt 1040, 3) := by decide +kernel
theorem dL_law_27 : decode cL_law 27 = .ok (.aload_n 0, 1) := by decide +kernel
theorem dL_law_28 : decode cL_law 28 = .ok (.iload_n 3, 1) := by decide +kernel
theorem dL_law_29 : decode cL_law 29 = .ok (.iaload, 1) := by decide +kernel
theorem dL_law_30 : decode cL_law 30 = .ok (.bipush 31, 2) := by decide +kernel
theorem dL_law_32 : decode cL_law 32 = .ok (.iand, 1) := by decide +kernel
theorem dL_law_33 : decode cL_law 33 = .ok (.tableswitch 1025 0 29 #[135, 168, 231, 254, 277, 300, 323, 356, 389, 412, 455, 468, 501, 524, 577, 620, 653, 696, 719, 742, 765, 788, 831, 864, 887, 920, 943, 956, 969, 1002], 135) := by decide +kernel
theorem dL_law_168 : decode cL_law 168 = .ok (.aload_n 1, 1) := by decide +kernel
theorem dL_law_169 : decode cL_law 169 = .ok (.aload_n 0, 1) := by decide +kernel
theorem dL_law_170 : decode cL_law 170 = .ok (.iload_n 3, 1) := by decide +kernel
theorem dL_law_171 : decode cL_law 171 = .ok (.iconst 1, 1) := by decide +kernel
theorem dL_law_172 : decode cL_law 172 = .ok (.iadd, 1) := by decide +kernel
theorem dL_law_173 : decode cL_law 173 = .ok (.iaload, 1) := by decide +kernel
theorem dL_law_174 : decode cL_law 174 = .ok (.aload_n 0, 1) := by decide +kernel
theorem dL_law_175 : decode cL_law 175 = .ok (.iload_n 3, 1) := by decide +kernel
theorem dL_law_176 : decode cL_law 176 = .ok (.iconst 2, 1) := by decide +kernel
theorem dL_law_177 : decode cL_law 177 = .ok (.iadd, 1) := by decide +kernel
theorem dL_law_178 : decode cL_law 178 = .ok (.iaload, 1) := by decide +kernel
theorem dL_law_179 : decode cL_law 179 = .ok (.invokevirtual 13, 3) := by decide +kernel
theorem dL_law_182 : decode cL_law 182 = .ok (.aload_n 2, 1) := by decide +kernel
theorem dL_law_183 : decode cL_law 183 = .ok (.aload_n 0, 1) := by decide +kernel
theorem dL_law_184 : decode cL_law 184 = .ok (.iload_n 3, 1) := by decide +kernel
theorem dL_law_185 : decode cL_law 185 = .ok (.iconst 1, 1) := by decide +kernel
theorem dL_law_186 : decode cL_law 186 = .ok (.iadd, 1) := by decide +kernel
theorem dL_law_187 : decode cL_law 187 = .ok (.iaload, 1) := by decide +kernel
theorem dL_law_188 : decode cL_law 188 = .ok (.aload_n 0, 1) := by decide +kernel
theorem dL_law_189 : decode cL_law 189 = .ok (.iload_n 3, 1) := by decide +kernel
theorem dL_law_190 : decode cL_law 190 = .ok (.iconst 2, 1) := by decide +kernel
theorem dL_law_191 : decode cL_law 191 = .ok (.iadd, 1) := by decide +kernel
theorem dL_law_192 : decode cL_law 192 = .ok (.iaload, 1) := by decide +kernel
theorem dL_law_193 : decode cL_law 193 = .ok (.invokevirtual 17, 3) := by decide +kernel
theorem dL_law_196 : decode cL_law 196 = .ok (.if_icmp .eq 862, 3) := by decide +kernel
theorem dL_law_199 : decode cL_law 199 = .ok (.iconst 0, 1) := by decide +kernel
theorem dL_law_200 : decode cL_law 200 = .ok (.ireturn, 1) := by decide +kernel
theorem dL_law_201 : decode cL_law 201 = .ok (.aload_n 1, 1) := by decide +kernel
theorem dL_law_202 : decode cL_law 202 = .ok (.aload_n 0, 1) := by decide +kernel
theorem dL_law_203 : decode cL_law 203 = .ok (.iload_n 3, 1) := by decide +kernel
theorem dL_law_204 : decode cL_law 204 = .ok (.iconst 1, 1) := by decide +kernel
theorem dL_law_205 : decode cL_law 205 = .ok (.iadd, 1) := by decide +kernel
theorem dL_law_206 : decode cL_law 206 = .ok (.iaload, 1) := by decide +kernel
theorem dL_law_207 : decode cL_law 207 = .ok (.aload_n 0, 1) := by decide +kernel
theorem dL_law_208 : decode cL_law 208 = .ok (.iload_n 3, 1) := by decide +kernel
theorem dL_law_209 : decode cL_law 209 = .ok (.iconst 2, 1) := by decide +kernel
theorem dL_law_210 : decode cL_law 210 = .ok (.iadd, 1) := by decide +kernel
theorem dL_law_211 : decode cL_law 211 = .ok (.iaload, 1) := by decide +kernel
theorem dL_law_212 : decode cL_law 212 = .ok (.aload_n 0, 1) := by decide +kernel
theorem dL_law_213 : decode cL_law 213 = .ok (.iload_n 3, 1) := by decide +kernel
theorem dL_law_214 : decode cL_law 214 = .ok (.iconst 3, 1) := by decide +kernel
theorem dL_law_215 : decode cL_law 215 = .ok (.iadd, 1) := by decide +kernel
theorem dL_law_216 : decode cL_law 216 = .ok (.iaload, 1) := by decide +kernel
theorem dL_law_217 : decode cL_law 217 = .ok (.aload_n 0, 1) := by decide +kernel
theorem dL_law_218 : decode cL_law 218 = .ok (.iload_n 3, 1) := by decide +kernel
theorem dL_law_219 : decode cL_law 219 = .ok (.iconst 4, 1) := by decide +kernel
theorem dL_law_220 : decode cL_law 220 = .ok (.iadd, 1) := by decide +kernel
theorem dL_law_221 : decode cL_law 221 = .ok (.iaload, 1) := by decide +kernel
theorem dL_law_222 : decode cL_law 222 = .ok (.aload_n 0, 1) := by decide +kernel
theorem dL_law_223 : decode cL_law 223 = .ok (.iload_n 3, 1) := by decide +kernel
theorem dL_law_224 : decode cL_law 224 = .ok (.iconst 5, 1) := by decide +kernel
theorem dL_law_225 : decode cL_law 225 = .ok (.iadd, 1) := by decide +kernel
theorem dL_law_226 : decode cL_law 226 = .ok (.iaload, 1) := by decide +kernel
theorem dL_law_227 : decode cL_law 227 = .ok (.invokevirtual 18, 3) := by decide +kernel
theorem dL_law_230 : decode cL_law 230 = .ok (.aload_n 2, 1) := by decide +kernel
theorem dL_law_231 : decode cL_law 231 = .ok (.aload_n 0, 1) := by decide +kernel
theorem dL_law_232 : decode cL_law 232 = .ok (.iload_n 3, 1) := by decide +kernel
theorem dL_law_233 : decode cL_law 233 = .ok (.iconst 1, 1) := by decide +kernel
theorem dL_law_234 : decode cL_law 234 = .ok (.iadd, 1) := by decide +kernel
theorem dL_law_235 : decode cL_law 235 = .ok (.iaload, 1) := by decide +kernel
theorem dL_law_236 : decode cL_law 236 = .ok (.aload_n 0, 1) := by decide +kernel
theorem dL_law_237 : decode cL_law 237 = .ok (.iload_n 3, 1) := by decide +kernel
theorem dL_law_238 : decode cL_law 238 = .ok (.iconst 2, 1) := by decide +kernel
theorem dL_law_239 : decode cL_law 239 = .ok (.iadd, 1) := by decide +kernel
theorem dL_law_240 : decode cL_law 240 = .ok (.iaload, 1) := by decide +kernel
theorem dL_law_241 : decode cL_law 241 = .ok (.aload_n 0, 1) := by decide +kernel
theorem dL_law_242 : decode cL_law 242 = .ok (.iload_n 3, 1) := by decide +kernel
theorem dL_law_243 : decode cL_law 243 = .ok (.iconst 3, 1) := by decide +kernel
theorem dL_law_244 : decode cL_law 244 = .ok (.iadd, 1) := by decide +kernel
theorem dL_law_245 : decode cL_law 245 = .ok (.iaload, 1) := by decide +kernel
theorem dL_law_246 : decode cL_law 246 = .ok (.aload_n 0, 1) := by decide +kernel
theorem dL_law_247 : decode cL_law 247 = .ok (.iload_n 3, 1) := by decide +kernel
theorem dL_law_248 : decode cL_law 248 = .ok (.iconst 4, 1) := by decide +kernel
theorem dL_law_249 : decode cL_law 249 = .ok (.iadd, 1) := by decide +kernel
theorem dL_law_250 : decode cL_law 250 = .ok (.iaload, 1) := by decide +kernel
theorem dL_law_251 : decode cL_law 251 = .ok (.aload_n 0, 1) := by decide +kernel
theorem dL_law_252 : decode cL_law 252 = .ok (.iload_n 3, 1) := by decide +kernel
theorem dL_law_253 : decode cL_law 253 = .ok (.iconst 5, 1) := by decide +kernel
theorem dL_law_254 : decode cL_law 254 = .ok (.iadd, 1) := by decide +kernel
theorem dL_law_255 : decode cL_law 255 = .ok (.iaload, 1) := by decide +kernel
theorem dL_law_256 : decode cL_law 256 = .ok (.invokevirtual 22, 3) := by decide +kernel
theorem dL_law_259 : decode cL_law 259 = .ok (.if_icmp .eq 799, 3) := by decide +kernel
theorem dL_law_262 : decode cL_law 262 = .ok (.iconst 0, 1) := by decide +kernel
theorem dL_law_263 : decode cL_law 263 = .ok (.ireturn, 1) := by decide +kernel
theorem dL_law_264 : decode cL_law 264 = .ok (.aload_n 1, 1) := by decide +kernel
theorem dL_law_265 : decode cL_law 265 = .ok (.aload_n 0, 1) := by decide +kernel
theorem dL_law_266 : decode cL_law 266 = .ok (.iload_n 3, 1) := by decide +kernel
theorem dL_law_267 : decode cL_law 267 = .ok (.iconst 1, 1) := by decide +kernel
theorem dL_law_268 : decode cL_law 268 = .ok (.iadd, 1) := by decide +kernel
theorem dL_law_269 : decode cL_law 269 = .ok (.iaload, 1) := by decide +kernel
theorem dL_law_270 : decode cL_law 270 = .ok (.invokevirtual 23, 3) := by decide +kernel
theorem dL_law_273 : decode cL_law 273 = .ok (.aload_n 2, 1) := by decide +kernel
theorem dL_law_274 : decode cL_law 274 = .ok (.aload_n 0, 1) := by decide +kernel
theorem dL_law_275 : decode cL_law 275 = .ok (.iload_n 3, 1) := by decide +kernel
theorem dL_law_276 : decode cL_law 276 = .ok (.iconst 1, 1) := by decide +kernel
theorem dL_law_277 : decode cL_law 277 = .ok (.iadd, 1) := by decide +kernel
theorem dL_law_278 : decode cL_law 278 = .ok (.iaload, 1) := by decide +kernel
theorem dL_law_279 : decode cL_law 279 = .ok (.invokevirtual 27, 3) := by decide +kernel
theorem dL_law_282 : decode cL_law 282 = .ok (.if_icmp .eq 776, 3) := by decide +kernel
theorem dL_law_285 : decode cL_law 285 = .ok (.iconst 0, 1) := by decide +kernel
theorem dL_law_286 : decode cL_law 286 = .ok (.ireturn, 1) := by decide +kernel
theorem dL_law_287 : decode cL_law 287 = .ok (.aload_n 1, 1) := by decide +kernel
theorem dL_law_288 : decode cL_law 288 = .ok (.aload_n 0, 1) := by decide +kernel
theorem dL_law_289 : decode cL_law 289 = .ok (.iload_n 3, 1) := by decide +kernel
theorem dL_law_290 : decode cL_law 290 = .ok (.iconst 1, 1) := by decide +kernel
theorem dL_law_291 : decode cL_law 291 = .ok (.iadd, 1) := by decide +kernel
theorem dL_law_292 : decode cL_law 292 = .ok (.iaload, 1) := by decide +kernel
theorem dL_law_293 : decode cL_law 293 = .ok (.invokevirtual 28, 3) := by decide +kernel
theorem dL_law_296 : decode cL_law 296 = .ok (.aload_n 2, 1) := by decide +kernel
theorem dL_law_297 : decode cL_law 297 = .ok (.aload_n 0, 1) := by decide +kernel
theorem dL_law_298 : decode cL_law 298 = .ok (.iload_n 3, 1) := by decide +kernel
theorem dL_law_299 : decode cL_law 299 = .ok (.iconst 1, 1) := by decide +kernel
theorem dL_law_300 : decode cL_law 300 = .ok (.iadd, 1) := by decide +kernel
theorem dL_law_301 : decode cL_law 301 = .ok (.iaload, 1) := by decide +kernel
theorem dL_law_302 : decode cL_law 302 = .ok (.invokevirtual 31, 3) := by decide +kernel
theorem dL_law_305 : decode cL_law 305 = .ok (.if_icmp .eq 753, 3) := by decide +kernel
theorem dL_law_308 : decode cL_law 308 = .ok (.iconst 0, 1) := by decide +kernel
theorem dL_law_309 : decode cL_law 309 = .ok (.ireturn, 1) := by decide +kernel
theorem dL_law_310 : decode cL_law 310 = .ok (.aload_n 1, 1) := by decide +kernel
theorem dL_law_311 : decode cL_law 311 = .ok (.aload_n 0, 1) := by decide +kernel
theorem dL_law_312 : decode cL_law 312 = .ok (.iload_n 3, 1) := by decide +kernel
theorem dL_law_313 : decode cL_law 313 = .ok (.iconst 1, 1) := by decide +kernel
theorem dL_law_314 : decode cL_law 314 = .ok (.iadd, 1) := by decide +kernel
theorem dL_law_315 : decode cL_law 315 = .ok (.iaload, 1) := by decide +kernel
theorem dL_law_316 : decode cL_law 316 = .ok (.invokevirtual 32, 3) := by decide +kernel
theorem dL_law_319 : decode cL_law 319 = .ok (.aload_n 2, 1) := by decide +kernel
theorem dL_law_320 : decode cL_law 320 = .ok (.aload_n 0, 1) := by decide +kernel
theorem dL_law_321 : decode cL_law 321 = .ok (.iload_n 3, 1) := by decide +kernel
theorem dL_law_322 : decode cL_law 322 = .ok (.iconst 1, 1) := by decide +kernel
theorem dL_law_323 : decode cL_law 323 = .ok (.iadd, 1) := by decide +kernel
theorem dL_law_324 : decode cL_law 324 = .ok (.iaload, 1) := by decide +kernel
theorem dL_law_325 : decode cL_law 325 = .ok (.invokevirtual 35, 3) := by decide +kernel
theorem dL_law_328 : decode cL_law 328 = .ok (.if_icmp .eq 730, 3) := by decide +kernel
theorem dL_law_331 : decode cL_law 331 = .ok (.iconst 0, 1) := by decide +kernel
theorem dL_law_332 : decode cL_law 332 = .ok (.ireturn, 1) := by decide +kernel
theorem dL_law_333 : decode cL_law 333 = .ok (.aload_n 1, 1) := by decide +kernel
theorem dL_law_334 : decode cL_law 334 = .ok (.aload_n 0, 1) := by decide +kernel
theorem dL_law_335 : decode cL_law 335 = .ok (.iload_n 3, 1) := by decide +kernel
theorem dL_law_336 : decode cL_law 336 = .ok (.iconst 1, 1) := by decide +kernel
theorem dL_law_337 : decode cL_law 337 = .ok (.iadd, 1) := by decide +kernel
theorem dL_law_338 : decode cL_law 338 = .ok (.iaload, 1) := by decide +kernel
theorem dL_law_339 : decode cL_law 339 = .ok (.invokevirtual 36, 3) := by decide +kernel
theorem dL_law_342 : decode cL_law 342 = .ok (.aload_n 2, 1) := by decide +kernel
theorem dL_law_343 : decode cL_law 343 = .ok (.aload_n 0, 1) := by decide +kernel
theorem dL_law_344 : decode cL_law 344 = .ok (.iload_n 3, 1) := by decide +kernel
theorem dL_law_345 : decode cL_law 345 = .ok (.iconst 1, 1) := by decide +kernel
theorem dL_law_346 : decode cL_law 346 = .ok (.iadd, 1) := by decide +kernel
theorem dL_law_347 : decode cL_law 347 = .ok (.iaload, 1) := by decide +kernel
theorem dL_law_348 : decode cL_law 348 = .ok (.invokevirtual 39, 3) := by decide +kernel
theorem dL_law_351 : decode cL_law 351 = .ok (.if_icmp .eq 707, 3) := by decide +kernel
theorem dL_law_354 : decode cL_law 354 = .ok (.iconst 0, 1) := by decide +kernel
theorem dL_law_355 : decode cL_law 355 = .ok (.ireturn, 1) := by decide +kernel
theorem dL_law_356 : decode cL_law 356 = .ok (.aload_n 1, 1) := by decide +kernel
theorem dL_law_357 : decode cL_law 357 = .ok (.aload_n 0, 1) := by decide +kernel
theorem dL_law_358 : decode cL_law 358 = .ok (.iload_n 3, 1) := by decide +kernel
theorem dL_law_359 : decode cL_law 359 = .ok (.iconst 1, 1) := by decide +kernel
theorem dL_law_360 : decode cL_law 360 = .ok (.iadd, 1) := by decide +kernel
theorem dL_law_361 : decode cL_law 361 = .ok (.iaload, 1) := by decide +kernel
theorem dL_law_362 : decode cL_law 362 = .ok (.aload_n 0, 1) := by decide +kernel
theorem dL_law_363 : decode cL_law 363 = .ok (.iload_n 3, 1) := by decide +kernel
theorem dL_law_364 : decode cL_law 364 = .ok (.iconst 2, 1) := by decide +kernel
theorem dL_law_365 : decode cL_law 365 = .ok (.iadd, 1) := by decide +kernel
theorem dL_law_366 : decode cL_law 366 = .ok (.iaload, 1) := by decide +kernel
theorem dL_law_367 : decode cL_law 367 = .ok (.invokevirtual 40, 3) := by decide +kernel
theorem dL_law_370 : decode cL_law 370 = .ok (.aload_n 2, 1) := by decide +kernel
theorem dL_law_371 : decode cL_law 371 = .ok (.aload_n 0, 1) := by decide +kernel
theorem dL_law_372 : decode cL_law 372 = .ok (.iload_n 3, 1) := by decide +kernel
theorem dL_law_373 : decode cL_law 373 = .ok (.iconst 1, 1) := by decide +kernel
theorem dL_law_374 : decode cL_law 374 = .ok (.iadd, 1) := by decide +kernel
theorem dL_law_375 : decode cL_law 375 = .ok (.iaload, 1) := by decide +kernel
theorem dL_law_376 : decode cL_law 376 = .ok (.aload_n 0, 1) := by decide +kernel
theorem dL_law_377 : decode cL_law 377 = .ok (.iload_n 3, 1) := by decide +kernel
theorem dL_law_378 : decode cL_law 378 = .ok (.iconst 2, 1) := by decide +kernel
theorem dL_law_379 : decode cL_law 379 = .ok (.iadd, 1) := by decide +kernel
theorem dL_law_380 : decode cL_law 380 = .ok (.iaload, 1) := by decide +kernel
theorem dL_law_381 : decode cL_law 381 = .ok (.invokevirtual 44, 3) := by decide +kernel
theorem dL_law_384 : decode cL_law 384 = .ok (.if_icmp .eq 674, 3) := by decide +kernel
theorem dL_law_387 : decode cL_law 387 = .ok (.iconst 0, 1) := by decide +kernel
theorem dL_law_388 : decode cL_law 388 = .ok (.ireturn, 1) := by decide +kernel
theorem dL_law_389 : decode cL_law 389 = .ok (.aload_n 1, 1) := by decide +kernel
theorem dL_law_390 : decode cL_law 390 = .ok (.aload_n 0, 1) := by decide +kernel
theorem dL_law_391 : decode cL_law 391 = .ok (.iload_n 3, 1) := by decide +kernel
theorem dL_law_392 : decode cL_law 392 = .ok (.iconst 1, 1) := by decide +kernel
theorem dL_law_393 : decode cL_law 393 = .ok (.iadd, 1) := by decide +kernel
theorem dL_law_394 : decode cL_law 394 = .ok (.iaload, 1) := by decide +kernel
theorem dL_law_395 : decode cL_law 395 = .ok (.aload_n 0, 1) := by decide +kernel
theorem dL_law_396 : decode cL_law 396 = .ok (.iload_n 3, 1) := by decide +kernel
theorem dL_law_397 : decode cL_law 397 = .ok (.iconst 2, 1) := by decide +kernel
theorem dL_law_398 : decode cL_law 398 = .ok (.iadd, 1) := by decide +kernel
theorem dL_law_399 : decode cL_law 399 = .ok (.iaload, 1) := by decide +kernel
theorem dL_law_400 : decode cL_law 400 = .ok (.invokevirtual 45, 3) := by decide +kernel
theorem dL_law_403 : decode cL_law 403 = .ok (.aload_n 2, 1) := by decide +kernel
theorem dL_law_404 : decode cL_law 404 = .ok (.aload_n 0, 1) := by decide +kernel
theorem dL_law_405 : decode cL_law 405 = .ok (.iload_n 3, 1) := by decide +kernel
theorem dL_law_406 : decode cL_law 406 = .ok (.iconst 1, 1) := by decide +kernel
theorem dL_law_407 : decode cL_law 407 = .ok (.iadd, 1) := by decide +kernel
theorem dL_law_408 : decode cL_law 408 = .ok (.iaload, 1) := by decide +kernel
theorem dL_law_409 : decode cL_law 409 = .ok (.aload_n 0, 1) := by decide +kernel
theorem dL_law_410 : decode cL_law 410 = .ok (.iload_n 3, 1) := by decide +kernel
theorem dL_law_411 : decode cL_law 411 = .ok (.iconst 2, 1) := by decide +kernel
theorem dL_law_412 : decode cL_law 412 = .ok (.iadd, 1) := by decide +kernel
theorem dL_law_413 : decode cL_law 413 = .ok (.iaload, 1) := by decide +kernel
theorem dL_law_414 : decode cL_law 414 = .ok (.invokevirtual 48, 3) := by decide +kernel
theorem dL_law_417 : decode cL_law 417 = .ok (.if_icmp .eq 641, 3) := by decide +kernel
theorem dL_law_420 : decode cL_law 420 = .ok (.iconst 0, 1) := by decide +kernel
theorem dL_law_421 : decode cL_law 421 = .ok (.ireturn, 1) := by decide +kernel
theorem dL_law_422 : decode cL_law 422 = .ok (.aload_n 1, 1) := by decide +kernel
theorem dL_law_423 : decode cL_law 423 = .ok (.aload_n 0, 1) := by decide +kernel
theorem dL_law_424 : decode cL_law 424 = .ok (.iload_n 3, 1) := by decide +kernel
theorem dL_law_425 : decode cL_law 425 = .ok (.iconst 1, 1) := by decide +kernel
theorem dL_law_426 : decode cL_law 426 = .ok (.iadd, 1) := by decide +kernel
theorem dL_law_427 : decode cL_law 427 = .ok (.iaload, 1) := by decide +kernel
theorem dL_law_428 : decode cL_law 428 = .ok (.invokevirtual 49, 3) := by decide +kernel
theorem dL_law_431 : decode cL_law 431 = .ok (.aload_n 2, 1) := by decide +kernel
theorem dL_law_432 : decode cL_law 432 = .ok (.aload_n 0, 1) := by decide +kernel
theorem dL_law_433 : decode cL_law 433 = .ok (.iload_n 3, 1) := by decide +kernel
theorem dL_law_434 : decode cL_law 434 = .ok (.iconst 1, 1) := by decide +kernel
theorem dL_law_435 : decode cL_law 435 = .ok (.iadd, 1) := by decide +kernel
theorem dL_law_436 : decode cL_law 436 = .ok (.iaload, 1) := by decide +kernel
theorem dL_law_437 : decode cL_law 437 = .ok (.invokevirtual 52, 3) := by decide +kernel
theorem dL_law_440 : decode cL_law 440 = .ok (.if_icmp .eq 618, 3) := by decide +kernel
theorem dL_law_443 : decode cL_law 443 = .ok (.iconst 0, 1) := by decide +kernel
theorem dL_law_444 : decode cL_law 444 = .ok (.ireturn, 1) := by decide +kernel
theorem dL_law_445 : decode cL_law 445 = .ok (.aload_n 1, 1) := by decide +kernel
theorem dL_law_446 : decode cL_law 446 = .ok (.aload_n 0, 1) := by decide +kernel
theorem dL_law_447 : decode cL_law 447 = .ok (.iload_n 3, 1) := by decide +kernel
theorem dL_law_448 : decode cL_law 448 = .ok (.iconst 1, 1) := by decide +kernel
theorem dL_law_449 : decode cL_law 449 = .ok (.iadd, 1) := by decide +kernel
theorem dL_law_450 : decode cL_law 450 = .ok (.iaload, 1) := by decide +kernel
theorem dL_law_451 : decode cL_law 451 = .ok (.aload_n 0, 1) := by decide +kernel
theorem dL_law_452 : decode cL_law 452 = .ok (.iload_n 3, 1) := by decide +kernel
theorem dL_law_453 : decode cL_law 453 = .ok (.iconst 2, 1) := by decide +kernel
theorem dL_law_454 : decode cL_law 454 = .ok (.iadd, 1) := by decide +kernel
theorem dL_law_455 : decode cL_law 455 = .ok (.iaload, 1) := by decide +kernel
theorem dL_law_456 : decode cL_law 456 = .ok (.aload_n 0, 1) := by decide +kernel
theorem dL_law_457 : decode cL_law 457 = .ok (.iload_n 3, 1) := by decide +kernel
theorem dL_law_458 : decode cL_law 458 = .ok (.iconst 3, 1) := by decide +kernel
theorem dL_law_459 : decode cL_law 459 = .ok (.iadd, 1) := by decide +kernel
theorem dL_law_460 : decode cL_law 460 = .ok (.iaload, 1) := by decide +kernel
theorem dL_law_461 : decode cL_law 461 = .ok (.invokevirtual 53, 3) := by decide +kernel
theorem dL_law_464 : decode cL_law 464 = .ok (.aload_n 2, 1) := by decide +kernel
theorem dL_law_465 : decode cL_law 465 = .ok (.aload_n 0, 1) := by decide +kernel
theorem dL_law_466 : decode cL_law 466 = .ok (.iload_n 3, 1) := by decide +kernel
theorem dL_law_467 : decode cL_law 467 = .ok (.iconst 1, 1) := by decide +kernel
theorem dL_law_468 : decode cL_law 468 = .ok (.iadd, 1) := by decide +kernel
theorem dL_law_469 : decode cL_law 469 = .ok (.iaload, 1) := by decide +kernel
theorem dL_law_470 : decode cL_law 470 = .ok (.aload_n 0, 1) := by decide +kernel
theorem dL_law_471 : decode cL_law 471 = .ok (.iload_n 3, 1) := by decide +kernel
theorem dL_law_472 : decode cL_law 472 = .ok (.iconst 2, 1) := by decide +kernel
theorem dL_law_473 : decode cL_law 473 = .ok (.iadd, 1) := by decide +kernel
theorem dL_law_474 : decode cL_law 474 = .ok (.iaload, 1) := by decide +kernel
theorem dL_law_475 : decode cL_law 475 = .ok (.aload_n 0, 1) := by decide +kernel
theorem dL_law_476 : decode cL_law 476 = .ok (.iload_n 3, 1) := by decide +kernel
theorem dL_law_477 : decode cL_law 477 = .ok (.iconst 3, 1) := by decide +kernel
theorem dL_law_478 : decode cL_law 478 = .ok (.iadd, 1) := by decide +kernel
theorem dL_law_479 : decode cL_law 479 = .ok (.iaload, 1) := by decide +kernel
theorem dL_law_480 : decode cL_law 480 = .ok (.invokevirtual 57, 3) := by decide +kernel
theorem dL_law_483 : decode cL_law 483 = .ok (.if_icmp .eq 575, 3) := by decide +kernel
theorem dL_law_486 : decode cL_law 486 = .ok (.iconst 0, 1) := by decide +kernel
theorem dL_law_487 : decode cL_law 487 = .ok (.ireturn, 1) := by decide +kernel
theorem dL_law_488 : decode cL_law 488 = .ok (.aload_n 1, 1) := by decide +kernel
theorem dL_law_489 : decode cL_law 489 = .ok (.invokevirtual 58, 3) := by decide +kernel
theorem dL_law_492 : decode cL_law 492 = .ok (.aload_n 2, 1) := by decide +kernel
theorem dL_law_493 : decode cL_law 493 = .ok (.invokevirtual 62, 3) := by decide +kernel
theorem dL_law_496 : decode cL_law 496 = .ok (.if_icmp .eq 562, 3) := by decide +kernel
theorem dL_law_499 : decode cL_law 499 = .ok (.iconst 0, 1) := by decide +kernel
theorem dL_law_500 : decode cL_law 500 = .ok (.ireturn, 1) := by decide +kernel
theorem dL_law_501 : decode cL_law 501 = .ok (.aload_n 1, 1) := by decide +kernel
theorem dL_law_502 : decode cL_law 502 = .ok (.aload_n 0, 1) := by decide +kernel
theorem dL_law_503 : decode cL_law 503 = .ok (.iload_n 3, 1) := by decide +kernel
theorem dL_law_504 : decode cL_law 504 = .ok (.iconst 1, 1) := by decide +kernel
theorem dL_law_505 : decode cL_law 505 = .ok (.iadd, 1) := by decide +kernel
theorem dL_law_506 : decode cL_law 506 = .ok (.iaload, 1) := by decide +kernel
theorem dL_law_507 : decode cL_law 507 = .ok (.aload_n 0, 1) := by decide +kernel
theorem dL_law_508 : decode cL_law 508 = .ok (.iload_n 3, 1) := by decide +kernel
theorem dL_law_509 : decode cL_law 509 = .ok (.iconst 2, 1) := by decide +kernel
theorem dL_law_510 : decode cL_law 510 = .ok (.iadd, 1) := by decide +kernel
theorem dL_law_511 : decode cL_law 511 = .ok (.iaload, 1) := by decide +kernel
theorem dL_law_512 : decode cL_law 512 = .ok (.invokevirtual 63, 3) := by decide +kernel
theorem dL_law_515 : decode cL_law 515 = .ok (.aload_n 2, 1) := by decide +kernel
theorem dL_law_516 : decode cL_law 516 = .ok (.aload_n 0, 1) := by decide +kernel
theorem dL_law_517 : decode cL_law 517 = .ok (.iload_n 3, 1) := by decide +kernel
theorem dL_law_518 : decode cL_law 518 = .ok (.iconst 1, 1) := by decide +kernel
theorem dL_law_519 : decode cL_law 519 = .ok (.iadd, 1) := by decide +kernel
theorem dL_law_520 : decode cL_law 520 = .ok (.iaload, 1) := by decide +kernel
theorem dL_law_521 : decode cL_law 521 = .ok (.aload_n 0, 1) := by decide +kernel
theorem dL_law_522 : decode cL_law 522 = .ok (.iload_n 3, 1) := by decide +kernel
theorem dL_law_523 : decode cL_law 523 = .ok (.iconst 2, 1) := by decide +kernel
theorem dL_law_524 : decode cL_law 524 = .ok (.iadd, 1) := by decide +kernel
theorem dL_law_525 : decode cL_law 525 = .ok (.iaload, 1) := by decide +kernel
theorem dL_law_526 : decode cL_law 526 = .ok (.invokevirtual 66, 3) := by decide +kernel
theorem dL_law_529 : decode cL_law 529 = .ok (.if_icmp .eq 529, 3) := by decide +kernel
theorem dL_law_532 : decode cL_law 532 = .ok (.iconst 0, 1) := by decide +kernel
theorem dL_law_533 : decode cL_law 533 = .ok (.ireturn, 1) := by decide +kernel
theorem dL_law_534 : decode cL_law 534 = .ok (.aload_n 1, 1) := by decide +kernel
theorem dL_law_535 : decode cL_law 535 = .ok (.aload_n 0, 1) := by decide +kernel
theorem dL_law_536 : decode cL_law 536 = .ok (.iload_n 3, 1) := by decide +kernel
theorem dL_law_537 : decode cL_law 537 = .ok (.iconst 1, 1) := by decide +kernel
theorem dL_law_538 : decode cL_law 538 = .ok (.iadd, 1) := by decide +kernel
theorem dL_law_539 : decode cL_law 539 = .ok (.iaload, 1) := by decide +kernel
theorem dL_law_540 : decode cL_law 540 = .ok (.invokevirtual 67, 3) := by decide +kernel
theorem dL_law_543 : decode cL_law 543 = .ok (.aload_n 2, 1) := by decide +kernel
theorem dL_law_544 : decode cL_law 544 = .ok (.aload_n 0, 1) := by decide +kernel
theorem dL_law_545 : decode cL_law 545 = .ok (.iload_n 3, 1) := by decide +kernel
theorem dL_law_546 : decode cL_law 546 = .ok (.iconst 1, 1) := by decide +kernel
theorem dL_law_547 : decode cL_law 547 = .ok (.iadd, 1) := by decide +kernel
theorem dL_law_548 : decode cL_law 548 = .ok (.iaload, 1) := by decide +kernel
theorem dL_law_549 : decode cL_law 549 = .ok (.invokevirtual 70, 3) := by decide +kernel
theorem dL_law_552 : decode cL_law 552 = .ok (.if_icmp .eq 506, 3) := by decide +kernel
theorem dL_law_555 : decode cL_law 555 = .ok (.iconst 0, 1) := by decide +kernel
theorem dL_law_556 : decode cL_law 556 = .ok (.ireturn, 1) := by decide +kernel
theorem dL_law_557 : decode cL_law 557 = .ok (.aload_n 1, 1) := by decide +kernel
theorem dL_law_558 : decode cL_law 558 = .ok (.aload_n 0, 1) := by decide +kernel
theorem dL_law_559 : decode cL_law 559 = .ok (.iload_n 3, 1) := by decide +kernel
theorem dL_law_560 : decode cL_law 560 = .ok (.iconst 1, 1) := by decide +kernel
theorem dL_law_561 : decode cL_law 561 = .ok (.iadd, 1) := by decide +kernel
theorem dL_law_562 : decode cL_law 562 = .ok (.iaload, 1) := by decide +kernel
theorem dL_law_563 : decode cL_law 563 = .ok (.aload_n 0, 1) := by decide +kernel
theorem dL_law_564 : decode cL_law 564 = .ok (.iload_n 3, 1) := by decide +kernel
theorem dL_law_565 : decode cL_law 565 = .ok (.iconst 2, 1) := by decide +kernel
theorem dL_law_566 : decode cL_law 566 = .ok (.iadd, 1) := by decide +kernel
theorem dL_law_567 : decode cL_law 567 = .ok (.iaload, 1) := by decide +kernel
theorem dL_law_568 : decode cL_law 568 = .ok (.aload_n 0, 1) := by decide +kernel
theorem dL_law_569 : decode cL_law 569 = .ok (.iload_n 3, 1) := by decide +kernel
theorem dL_law_570 : decode cL_law 570 = .ok (.iconst 3, 1) := by decide +kernel
theorem dL_law_571 : decode cL_law 571 = .ok (.iadd, 1) := by decide +kernel
theorem dL_law_572 : decode cL_law 572 = .ok (.iaload, 1) := by decide +kernel
theorem dL_law_573 : decode cL_law 573 = .ok (.aload_n 0, 1) := by decide +kernel
theorem dL_law_574 : decode cL_law 574 = .ok (.iload_n 3, 1) := by decide +kernel
theorem dL_law_575 : decode cL_law 575 = .ok (.iconst 4, 1) := by decide +kernel
theorem dL_law_576 : decode cL_law 576 = .ok (.iadd, 1) := by decide +kernel
theorem dL_law_577 : decode cL_law 577 = .ok (.iaload, 1) := by decide +kernel
theorem dL_law_578 : decode cL_law 578 = .ok (.invokevirtual 71, 3) := by decide +kernel
theorem dL_law_581 : decode cL_law 581 = .ok (.aload_n 2, 1) := by decide +kernel
theorem dL_law_582 : decode cL_law 582 = .ok (.aload_n 0, 1) := by decide +kernel
theorem dL_law_583 : decode cL_law 583 = .ok (.iload_n 3, 1) := by decide +kernel
theorem dL_law_584 : decode cL_law 584 = .ok (.iconst 1, 1) := by decide +kernel
theorem dL_law_585 : decode cL_law 585 = .ok (.iadd, 1) := by decide +kernel
theorem dL_law_586 : decode cL_law 586 = .ok (.iaload, 1) := by decide +kernel
theorem dL_law_587 : decode cL_law 587 = .ok (.aload_n 0, 1) := by decide +kernel
theorem dL_law_588 : decode cL_law 588 = .ok (.iload_n 3, 1) := by decide +kernel
theorem dL_law_589 : decode cL_law 589 = .ok (.iconst 2, 1) := by decide +kernel
theorem dL_law_590 : decode cL_law 590 = .ok (.iadd, 1) := by decide +kernel
theorem dL_law_591 : decode cL_law 591 = .ok (.iaload, 1) := by decide +kernel
theorem dL_law_592 : decode cL_law 592 = .ok (.aload_n 0, 1) := by decide +kernel
theorem dL_law_593 : decode cL_law 593 = .ok (.iload_n 3, 1) := by decide +kernel
theorem dL_law_594 : decode cL_law 594 = .ok (.iconst 3, 1) := by decide +kernel
theorem dL_law_595 : decode cL_law 595 = .ok (.iadd, 1) := by decide +kernel
theorem dL_law_596 : decode cL_law 596 = .ok (.iaload, 1) := by decide +kernel
theorem dL_law_597 : decode cL_law 597 = .ok (.aload_n 0, 1) := by decide +kernel
theorem dL_law_598 : decode cL_law 598 = .ok (.iload_n 3, 1) := by decide +kernel
theorem dL_law_599 : decode cL_law 599 = .ok (.iconst 4, 1) := by decide +kernel
theorem dL_law_600 : decode cL_law 600 = .ok (.iadd, 1) := by decide +kernel
theorem dL_law_601 : decode cL_law 601 = .ok (.iaload, 1) := by decide +kernel
theorem dL_law_602 : decode cL_law 602 = .ok (.invokevirtual 75, 3) := by decide +kernel
theorem dL_law_605 : decode cL_law 605 = .ok (.if_icmp .eq 453, 3) := by decide +kernel
theorem dL_law_608 : decode cL_law 608 = .ok (.iconst 0, 1) := by decide +kernel
theorem dL_law_609 : decode cL_law 609 = .ok (.ireturn, 1) := by decide +kernel
theorem dL_law_610 : decode cL_law 610 = .ok (.aload_n 1, 1) := by decide +kernel
theorem dL_law_611 : decode cL_law 611 = .ok (.aload_n 0, 1) := by decide +kernel
theorem dL_law_612 : decode cL_law 612 = .ok (.iload_n 3, 1) := by decide +kernel
theorem dL_law_613 : decode cL_law 613 = .ok (.iconst 1, 1) := by decide +kernel
theorem dL_law_614 : decode cL_law 614 = .ok (.iadd, 1) := by decide +kernel
theorem dL_law_615 : decode cL_law 615 = .ok (.iaload, 1) := by decide +kernel
theorem dL_law_616 : decode cL_law 616 = .ok (.aload_n 0, 1) := by decide +kernel
theorem dL_law_617 : decode cL_law 617 = .ok (.iload_n 3, 1) := by decide +kernel
theorem dL_law_618 : decode cL_law 618 = .ok (.iconst 2, 1) := by decide +kernel
theorem dL_law_619 : decode cL_law 619 = .ok (.iadd, 1) := by decide +kernel
theorem dL_law_620 : decode cL_law 620 = .ok (.iaload, 1) := by decide +kernel
theorem dL_law_621 : decode cL_law 621 = .ok (.aload_n 0, 1) := by decide +kernel
theorem dL_law_622 : decode cL_law 622 = .ok (.iload_n 3, 1) := by decide +kernel
theorem dL_law_623 : decode cL_law 623 = .ok (.iconst 3, 1) := by decide +kernel
theorem dL_law_624 : decode cL_law 624 = .ok (.iadd, 1) := by decide +kernel
theorem dL_law_625 : decode cL_law 625 = .ok (.iaload, 1) := by decide +kernel
theorem dL_law_626 : decode cL_law 626 = .ok (.invokevirtual 76, 3) := by decide +kernel
theorem dL_law_629 : decode cL_law 629 = .ok (.aload_n 2, 1) := by decide +kernel
theorem dL_law_630 : decode cL_law 630 = .ok (.aload_n 0, 1) := by decide +kernel
theorem dL_law_631 : decode cL_law 631 = .ok (.iload_n 3, 1) := by decide +kernel
theorem dL_law_632 : decode cL_law 632 = .ok (.iconst 1, 1) := by decide +kernel
theorem dL_law_633 : decode cL_law 633 = .ok (.iadd, 1) := by decide +kernel
theorem dL_law_634 : decode cL_law 634 = .ok (.iaload, 1) := by decide +kernel
theorem dL_law_635 : decode cL_law 635 = .ok (.aload_n 0, 1) := by decide +kernel
theorem dL_law_636 : decode cL_law 636 = .ok (.iload_n 3, 1) := by decide +kernel
theorem dL_law_637 : decode cL_law 637 = .ok (.iconst 2, 1) := by decide +kernel
theorem dL_law_638 : decode cL_law 638 = .ok (.iadd, 1) := by decide +kernel
theorem dL_law_639 : decode cL_law 639 = .ok (.iaload, 1) := by decide +kernel
theorem dL_law_640 : decode cL_law 640 = .ok (.aload_n 0, 1) := by decide +kernel
theorem dL_law_641 : decode cL_law 641 = .ok (.iload_n 3, 1) := by decide +kernel
theorem dL_law_642 : decode cL_law 642 = .ok (.iconst 3, 1) := by decide +kernel
theorem dL_law_643 : decode cL_law 643 = .ok (.iadd, 1) := by decide +kernel
theorem dL_law_644 : decode cL_law 644 = .ok (.iaload, 1) := by decide +kernel
theorem dL_law_645 : decode cL_law 645 = .ok (.invokevirtual 79, 3) := by decide +kernel
theorem dL_law_648 : decode cL_law 648 = .ok (.if_icmp .eq 410, 3) := by decide +kernel
theorem dL_law_651 : decode cL_law 651 = .ok (.iconst 0, 1) := by decide +kernel
theorem dL_law_652 : decode cL_law 652 = .ok (.ireturn, 1) := by decide +kernel
theorem dL_law_653 : decode cL_law 653 = .ok (.aload_n 1, 1) := by decide +kernel
theorem dL_law_654 : decode cL_law 654 = .ok (.aload_n 0, 1) := by decide +kernel
theorem dL_law_655 : decode cL_law 655 = .ok (.iload_n 3, 1) := by decide +kernel
theorem dL_law_656 : decode cL_law 656 = .ok (.iconst 1, 1) := by decide +kernel
theorem dL_law_657 : decode cL_law 657 = .ok (.iadd, 1) := by decide +kernel
theorem dL_law_658 : decode cL_law 658 = .ok (.iaload, 1) := by decide +kernel
theorem dL_law_659 : decode cL_law 659 = .ok (.aload_n 0, 1) := by decide +kernel
theorem dL_law_660 : decode cL_law 660 = .ok (.iload_n 3, 1) := by decide +kernel
theorem dL_law_661 : decode cL_law 661 = .ok (.iconst 2, 1) := by decide +kernel
theorem dL_law_662 : decode cL_law 662 = .ok (.iadd, 1) := by decide +kernel
