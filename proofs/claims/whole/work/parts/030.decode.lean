theorem dX0_init_0 : decode cX0_init 0 = .ok (.aload_n 0, 1) := by decide +kernel
theorem dX0_init_1 : decode cX0_init 1 = .ok (.invokespecial 3, 3) := by decide +kernel
theorem dX0_init_4 : decode cX0_init 4 = .ok (.aload_n 0, 1) := by decide +kernel
theorem dX0_init_5 : decode cX0_init 5 = .ok (.sipush 144, 3) := by decide +kernel
theorem dX0_init_8 : decode cX0_init 8 = .ok (.newarray .int, 2) := by decide +kernel
theorem dX0_init_10 : decode cX0_init 10 = .ok (.putfield 9, 3) := by decide +kernel
theorem dX0_init_13 : decode cX0_init 13 = .ok (.aload_n 0, 1) := by decide +kernel
theorem dX0_init_14 : decode cX0_init 14 = .ok (.sipush 144, 3) := by decide +kernel
theorem dX0_init_17 : decode cX0_init 17 = .ok (.newarray .int, 2) := by decide +kernel
theorem dX0_init_19 : decode cX0_init 19 = .ok (.putfield 15, 3) := by decide +kernel
theorem dX0_init_22 : decode cX0_init 22 = .ok (.aload_n 0, 1) := by decide +kernel
theorem dX0_init_23 : decode cX0_init 23 = .ok (.sipush 144, 3) := by decide +kernel
theorem dX0_init_26 : decode cX0_init 26 = .ok (.newarray .int, 2) := by decide +kernel
theorem dX0_init_28 : decode cX0_init 28 = .ok (.putfield 18, 3) := by decide +kernel
theorem dX0_init_31 : decode cX0_init 31 = .ok (.aload_n 0, 1) := by decide +kernel
theorem dX0_init_32 : decode cX0_init 32 = .ok (.sipush 200, 3) := by decide +kernel
theorem dX0_init_35 : decode cX0_init 35 = .ok (.newarray .int, 2) := by decide +kernel
theorem dX0_init_37 : decode cX0_init 37 = .ok (.putfield 21, 3) := by decide +kernel
theorem dX0_init_40 : decode cX0_init 40 = .ok (.aload_n 0, 1) := by decide +kernel
theorem dX0_init_41 : decode cX0_init 41 = .ok (.iconst 0, 1) := by decide +kernel
theorem dX0_init_42 : decode cX0_init 42 = .ok (.putfield 24, 3) := by decide +kernel
theorem dX0_init_45 : decode cX0_init 45 = .ok (.aload_n 0, 1) := by decide +kernel
theorem dX0_init_46 : decode cX0_init 46 = .ok (.iconst 0, 1) := by decide +kernel
theorem dX0_init_47 : decode cX0_init 47 = .ok (.putfield 28, 3) := by decide +kernel
theorem dX0_init_50 : decode cX0_init 50 = .ok (.aload_n 0, 1) := by decide +kernel
theorem dX0_init_51 : decode cX0_init 51 = .ok (.iconst 0, 1) := by decide +kernel
theorem dX0_init_52 : decode cX0_init 52 = .ok (.putfield 31, 3) := by decide +kernel
theorem dX0_init_55 : decode cX0_init 55 = .ok (.aload_n 0, 1) := by decide +kernel
theorem dX0_init_56 : decode cX0_init 56 = .ok (.iconst 0, 1) := by decide +kernel
theorem dX0_init_57 : decode cX0_init 57 = .ok (.putfield 34, 3) := by decide +kernel
theorem dX0_init_60 : decode cX0_init 60 = .ok (.aload_n 0, 1) := by decide +kernel
theorem dX0_init_61 : decode cX0_init 61 = .ok (.iconst 1, 1) := by decide +kernel
theorem dX0_init_62 : decode cX0_init 62 = .ok (.putfield 37, 3) := by decide +kernel
theorem dX0_init_65 : decode cX0_init 65 = .ok (.aload_n 0, 1) := by decide +kernel
theorem dX0_init_66 : decode cX0_init 66 = .ok (.getfield 9, 3) := by decide +kernel
theorem dX0_init_69 : decode cX0_init 69 = .ok (.iconst (-1), 1) := by decide +kernel
theorem dX0_init_70 : decode cX0_init 70 = .ok (.invokestatic 42, 3) := by decide +kernel
theorem dX0_init_73 : decode cX0_init 73 = .ok (.aload_n 0, 1) := by decide +kernel
theorem dX0_init_74 : decode cX0_init 74 = .ok (.getfield 18, 3) := by decide +kernel
theorem dX0_init_77 : decode cX0_init 77 = .ok (.iconst (-1), 1) := by decide +kernel
theorem dX0_init_78 : decode cX0_init 78 = .ok (.invokestatic 42, 3) := by decide +kernel
theorem dX0_init_81 : decode cX0_init 81 = .ok (.return_, 1) := by decide +kernel
theorem dX0_copyFrom_0 : decode cX0_copyFrom 0 = .ok (.aload_n 1, 1) := by decide +kernel
theorem dX0_copyFrom_1 : decode cX0_copyFrom 1 = .ok (.getfield 9, 3) := by decide +kernel
theorem dX0_copyFrom_4 : decode cX0_copyFrom 4 = .ok (.iconst 0, 1) := by decide +kernel
theorem dX0_copyFrom_5 : decode cX0_copyFrom 5 = .ok (.aload_n 0, 1) := by decide +kernel
theorem dX0_copyFrom_6 : decode cX0_copyFrom 6 = .ok (.getfield 9, 3) := by decide +kernel
theorem dX0_copyFrom_9 : decode cX0_copyFrom 9 = .ok (.iconst 0, 1) := by decide +kernel
theorem dX0_copyFrom_10 : decode cX0_copyFrom 10 = .ok (.sipush 144, 3) := by decide +kernel
theorem dX0_copyFrom_13 : decode cX0_copyFrom 13 = .ok (.invokestatic 48, 3) := by decide +kernel
theorem dX0_copyFrom_16 : decode cX0_copyFrom 16 = .ok (.aload_n 1, 1) := by decide +kernel
theorem dX0_copyFrom_17 : decode cX0_copyFrom 17 = .ok (.getfield 15, 3) := by decide +kernel
theorem dX0_copyFrom_20 : decode cX0_copyFrom 20 = .ok (.iconst 0, 1) := by decide +kernel
theorem dX0_copyFrom_21 : decode cX0_copyFrom 21 = .ok (.aload_n 0, 1) := by decide +kernel
theorem dX0_copyFrom_22 : decode cX0_copyFrom 22 = .ok (.getfield 15, 3) := by decide +kernel
theorem dX0_copyFrom_25 : decode cX0_copyFrom 25 = .ok (.iconst 0, 1) := by decide +kernel
theorem dX0_copyFrom_26 : decode cX0_copyFrom 26 = .ok (.sipush 144, 3) := by decide +kernel
theorem dX0_copyFrom_29 : decode cX0_copyFrom 29 = .ok (.invokestatic 48, 3) := by decide +kernel
theorem dX0_copyFrom_32 : decode cX0_copyFrom 32 = .ok (.aload_n 1, 1) := by decide +kernel
theorem dX0_copyFrom_33 : decode cX0_copyFrom 33 = .ok (.getfield 18, 3) := by decide +kernel
theorem dX0_copyFrom_36 : decode cX0_copyFrom 36 = .ok (.iconst 0, 1) := by decide +kernel
theorem dX0_copyFrom_37 : decode cX0_copyFrom 37 = .ok (.aload_n 0, 1) := by decide +kernel
theorem dX0_copyFrom_38 : decode cX0_copyFrom 38 = .ok (.getfield 18, 3) := by decide +kernel
theorem dX0_copyFrom_41 : decode cX0_copyFrom 41 = .ok (.iconst 0, 1) := by decide +kernel
theorem dX0_copyFrom_42 : decode cX0_copyFrom 42 = .ok (.sipush 144, 3) := by decide +kernel
theorem dX0_copyFrom_45 : decode cX0_copyFrom 45 = .ok (.invokestatic 48, 3) := by decide +kernel
theorem dX0_copyFrom_48 : decode cX0_copyFrom 48 = .ok (.aload_n 1, 1) := by decide +kernel
theorem dX0_copyFrom_49 : decode cX0_copyFrom 49 = .ok (.getfield 21, 3) := by decide +kernel
theorem dX0_copyFrom_52 : decode cX0_copyFrom 52 = .ok (.iconst 0, 1) := by decide +kernel
theorem dX0_copyFrom_53 : decode cX0_copyFrom 53 = .ok (.aload_n 0, 1) := by decide +kernel
theorem dX0_copyFrom_54 : decode cX0_copyFrom 54 = .ok (.getfield 21, 3) := by decide +kernel
theorem dX0_copyFrom_57 : decode cX0_copyFrom 57 = .ok (.iconst 0, 1) := by decide +kernel
theorem dX0_copyFrom_58 : decode cX0_copyFrom 58 = .ok (.sipush 200, 3) := by decide +kernel
theorem dX0_copyFrom_61 : decode cX0_copyFrom 61 = .ok (.invokestatic 48, 3) := by decide +kernel
theorem dX0_copyFrom_64 : decode cX0_copyFrom 64 = .ok (.aload_n 0, 1) := by decide +kernel
theorem dX0_copyFrom_65 : decode cX0_copyFrom 65 = .ok (.aload_n 1, 1) := by decide +kernel
theorem dX0_copyFrom_66 : decode cX0_copyFrom 66 = .ok (.getfield 24, 3) := by decide +kernel
theorem dX0_copyFrom_69 : decode cX0_copyFrom 69 = .ok (.putfield 24, 3) := by decide +kernel
theorem dX0_copyFrom_72 : decode cX0_copyFrom 72 = .ok (.aload_n 0, 1) := by decide +kernel
theorem dX0_copyFrom_73 : decode cX0_copyFrom 73 = .ok (.aload_n 1, 1) := by decide +kernel
theorem dX0_copyFrom_74 : decode cX0_copyFrom 74 = .ok (.getfield 28, 3) := by decide +kernel
theorem dX0_copyFrom_77 : decode cX0_copyFrom 77 = .ok (.putfield 28, 3) := by decide +kernel
theorem dX0_copyFrom_80 : decode cX0_copyFrom 80 = .ok (.aload_n 0, 1) := by decide +kernel
theorem dX0_copyFrom_81 : decode cX0_copyFrom 81 = .ok (.aload_n 1, 1) := by decide +kernel
theorem dX0_copyFrom_82 : decode cX0_copyFrom 82 = .ok (.getfield 31, 3) := by decide +kernel
theorem dX0_copyFrom_85 : decode cX0_copyFrom 85 = .ok (.putfield 31, 3) := by decide +kernel
theorem dX0_copyFrom_88 : decode cX0_copyFrom 88 = .ok (.aload_n 0, 1) := by decide +kernel
theorem dX0_copyFrom_89 : decode cX0_copyFrom 89 = .ok (.aload_n 1, 1) := by decide +kernel
theorem dX0_copyFrom_90 : decode cX0_copyFrom 90 = .ok (.getfield 34, 3) := by decide +kernel
theorem dX0_copyFrom_93 : decode cX0_copyFrom 93 = .ok (.putfield 34, 3) := by decide +kernel
theorem dX0_copyFrom_96 : decode cX0_copyFrom 96 = .ok (.aload_n 0, 1) := by decide +kernel
theorem dX0_copyFrom_97 : decode cX0_copyFrom 97 = .ok (.aload_n 1, 1) := by decide +kernel
theorem dX0_copyFrom_98 : decode cX0_copyFrom 98 = .ok (.getfield 37, 3) := by decide +kernel
theorem dX0_copyFrom_101 : decode cX0_copyFrom 101 = .ok (.putfield 37, 3) := by decide +kernel
theorem dX0_copyFrom_104 : decode cX0_copyFrom 104 = .ok (.return_, 1) := by decide +kernel
theorem dX0_draw_0 : decode cX0_draw 0 = .ok (.aload_n 0, 1) := by decide +kernel
theorem dX0_draw_1 : decode cX0_draw 1 = .ok (.sipush 25173, 3) := by decide +kernel
theorem dX0_draw_4 : decode cX0_draw 4 = .ok (.aload_n 0, 1) := by decide +kernel
theorem dX0_draw_5 : decode cX0_draw 5 = .ok (.getfield 37, 3) := by decide +kernel
theorem dX0_draw_8 : decode cX0_draw 8 = .ok (.imul, 1) := by decide +kernel
theorem dX0_draw_9 : decode cX0_draw 9 = .ok (.sipush 13849, 3) := by decide +kernel
theorem dX0_draw_12 : decode cX0_draw 12 = .ok (.iadd, 1) := by decide +kernel
theorem dX0_draw_13 : decode cX0_draw 13 = .ok (.ldc 54, 2) := by decide +kernel
theorem dX0_draw_15 : decode cX0_draw 15 = .ok (.irem, 1) := by decide +kernel
theorem dX0_draw_16 : decode cX0_draw 16 = .ok (.putfield 37, 3) := by decide +kernel
theorem dX0_draw_19 : decode cX0_draw 19 = .ok (.aload_n 0, 1) := by decide +kernel
theorem dX0_draw_20 : decode cX0_draw 20 = .ok (.getfield 37, 3) := by decide +kernel
theorem dX0_draw_23 : decode cX0_draw 23 = .ok (.bipush 10, 2) := by decide +kernel
theorem dX0_draw_25 : decode cX0_draw 25 = .ok (.irem, 1) := by decide +kernel
theorem dX0_draw_26 : decode cX0_draw 26 = .ok (.ireturn, 1) := by decide +kernel
theorem dX0_guestOn_0 : decode cX0_guestOn 0 = .ok (.iload_n 1, 1) := by decide +kernel
theorem dX0_guestOn_1 : decode cX0_guestOn 1 = .ok (.ifCond .lt 19, 3) := by decide +kernel
theorem dX0_guestOn_4 : decode cX0_guestOn 4 = .ok (.iload_n 1, 1) := by decide +kernel
theorem dX0_guestOn_5 : decode cX0_guestOn 5 = .ok (.sipush 144, 3) := by decide +kernel
theorem dX0_guestOn_8 : decode cX0_guestOn 8 = .ok (.if_icmp .ge 12, 3) := by decide +kernel
theorem dX0_guestOn_11 : decode cX0_guestOn 11 = .ok (.aload_n 0, 1) := by decide +kernel
theorem dX0_guestOn_12 : decode cX0_guestOn 12 = .ok (.getfield 9, 3) := by decide +kernel
theorem dX0_guestOn_15 : decode cX0_guestOn 15 = .ok (.iload_n 1, 1) := by decide +kernel
theorem dX0_guestOn_16 : decode cX0_guestOn 16 = .ok (.iaload, 1) := by decide +kernel
theorem dX0_guestOn_17 : decode cX0_guestOn 17 = .ok (.goto 4, 3) := by decide +kernel
theorem dX0_guestOn_20 : decode cX0_guestOn 20 = .ok (.iconst (-1), 1) := by decide +kernel
theorem dX0_guestOn_21 : decode cX0_guestOn 21 = .ok (.ireturn, 1) := by decide +kernel
theorem dX0_coatOn_0 : decode cX0_coatOn 0 = .ok (.iload_n 1, 1) := by decide +kernel
theorem dX0_coatOn_1 : decode cX0_coatOn 1 = .ok (.ifCond .lt 19, 3) := by decide +kernel
theorem dX0_coatOn_4 : decode cX0_coatOn 4 = .ok (.iload_n 1, 1) := by decide +kernel
theorem dX0_coatOn_5 : decode cX0_coatOn 5 = .ok (.sipush 144, 3) := by decide +kernel
theorem dX0_coatOn_8 : decode cX0_coatOn 8 = .ok (.if_icmp .ge 12, 3) := by decide +kernel
theorem dX0_coatOn_11 : decode cX0_coatOn 11 = .ok (.aload_n 0, 1) := by decide +kernel
theorem dX0_coatOn_12 : decode cX0_coatOn 12 = .ok (.getfield 18, 3) := by decide +kernel
theorem dX0_coatOn_15 : decode cX0_coatOn 15 = .ok (.iload_n 1, 1) := by decide +kernel
theorem dX0_coatOn_16 : decode cX0_coatOn 16 = .ok (.iaload, 1) := by decide +kernel
theorem dX0_coatOn_17 : decode cX0_coatOn 17 = .ok (.goto 4, 3) := by decide +kernel
theorem dX0_coatOn_20 : decode cX0_coatOn 20 = .ok (.iconst (-1), 1) := by decide +kernel
theorem dX0_coatOn_21 : decode cX0_coatOn 21 = .ok (.ireturn, 1) := by decide +kernel
theorem dX0_isTaken_0 : decode cX0_isTaken 0 = .ok (.aload_n 0, 1) := by decide +kernel
theorem dX0_isTaken_1 : decode cX0_isTaken 1 = .ok (.iload_n 1, 1) := by decide +kernel
theorem dX0_isTaken_2 : decode cX0_isTaken 2 = .ok (.invokevirtual 55, 3) := by decide +kernel
theorem dX0_isTaken_5 : decode cX0_isTaken 5 = .ok (.iconst (-1), 1) := by decide +kernel
theorem dX0_isTaken_6 : decode cX0_isTaken 6 = .ok (.if_icmp .eq 7, 3) := by decide +kernel
theorem dX0_isTaken_9 : decode cX0_isTaken 9 = .ok (.iconst 1, 1) := by decide +kernel
theorem dX0_isTaken_10 : decode cX0_isTaken 10 = .ok (.goto 4, 3) := by decide +kernel
theorem dX0_isTaken_13 : decode cX0_isTaken 13 = .ok (.iconst 0, 1) := by decide +kernel
theorem dX0_isTaken_14 : decode cX0_isTaken 14 = .ok (.ireturn, 1) := by decide +kernel
theorem dX0_isTakenBy_0 : decode cX0_isTakenBy 0 = .ok (.aload_n 0, 1) := by decide +kernel
theorem dX0_isTakenBy_1 : decode cX0_isTakenBy 1 = .ok (.iload_n 1, 1) := by decide +kernel
theorem dX0_isTakenBy_2 : decode cX0_isTakenBy 2 = .ok (.invokevirtual 55, 3) := by decide +kernel
theorem dX0_isTakenBy_5 : decode cX0_isTakenBy 5 = .ok (.istore_n 3, 1) := by decide +kernel
theorem dX0_isTakenBy_6 : decode cX0_isTakenBy 6 = .ok (.iload_n 3, 1) := by decide +kernel
theorem dX0_isTakenBy_7 : decode cX0_isTakenBy 7 = .ok (.iconst (-1), 1) := by decide +kernel
theorem dX0_isTakenBy_8 : decode cX0_isTakenBy 8 = .ok (.if_icmp .eq 15, 3) := by decide +kernel
theorem dX0_isTakenBy_11 : decode cX0_isTakenBy 11 = .ok (.iload_n 3, 1) := by decide +kernel
theorem dX0_isTakenBy_12 : decode cX0_isTakenBy 12 = .ok (.invokestatic 59, 3) := by decide +kernel
theorem dX0_isTakenBy_15 : decode cX0_isTakenBy 15 = .ok (.iload_n 2, 1) := by decide +kernel
theorem dX0_isTakenBy_16 : decode cX0_isTakenBy 16 = .ok (.if_icmp .ne 7, 3) := by decide +kernel
theorem dX0_isTakenBy_19 : decode cX0_isTakenBy 19 = .ok (.iconst 1, 1) := by decide +kernel
theorem dX0_isTakenBy_20 : decode cX0_isTakenBy 20 = .ok (.goto 4, 3) := by decide +kernel
theorem dX0_isTakenBy_23 : decode cX0_isTakenBy 23 = .ok (.iconst 0, 1) := by decide +kernel
theorem dX0_isTakenBy_24 : decode cX0_isTakenBy 24 = .ok (.ireturn, 1) := by decide +kernel
theorem dX0_isFreeFor_0 : decode cX0_isFreeFor 0 = .ok (.aload_n 0, 1) := by decide +kernel
theorem dX0_isFreeFor_1 : decode cX0_isFreeFor 1 = .ok (.iload_n 1, 1) := by decide +kernel
theorem dX0_isFreeFor_2 : decode cX0_isFreeFor 2 = .ok (.invokevirtual 62, 3) := by decide +kernel
theorem dX0_isFreeFor_5 : decode cX0_isFreeFor 5 = .ok (.istore_n 3, 1) := by decide +kernel
theorem dX0_isFreeFor_6 : decode cX0_isFreeFor 6 = .ok (.aload_n 0, 1) := by decide +kernel
theorem dX0_isFreeFor_7 : decode cX0_isFreeFor 7 = .ok (.iload_n 1, 1) := by decide +kernel
theorem dX0_isFreeFor_8 : decode cX0_isFreeFor 8 = .ok (.invokevirtual 55, 3) := by decide +kernel
theorem dX0_isFreeFor_11 : decode cX0_isFreeFor 11 = .ok (.iconst (-1), 1) := by decide +kernel
theorem dX0_isFreeFor_12 : decode cX0_isFreeFor 12 = .ok (.if_icmp .ne 17, 3) := by decide +kernel
theorem dX0_isFreeFor_15 : decode cX0_isFreeFor 15 = .ok (.iload_n 3, 1) := by decide +kernel
theorem dX0_isFreeFor_16 : decode cX0_isFreeFor 16 = .ok (.iconst (-1), 1) := by decide +kernel
theorem dX0_isFreeFor_17 : decode cX0_isFreeFor 17 = .ok (.if_icmp .eq 8, 3) := by decide +kernel
theorem dX0_isFreeFor_20 : decode cX0_isFreeFor 20 = .ok (.iload_n 3, 1) := by decide +kernel
theorem dX0_isFreeFor_21 : decode cX0_isFreeFor 21 = .ok (.iload_n 2, 1) := by decide +kernel
theorem dX0_isFreeFor_22 : decode cX0_isFreeFor 22 = .ok (.if_icmp .ne 7, 3) := by decide +kernel
theorem dX0_isFreeFor_25 : decode cX0_isFreeFor 25 = .ok (.iconst 1, 1) := by decide +kernel
theorem dX0_isFreeFor_26 : decode cX0_isFreeFor 26 = .ok (.goto 4, 3) := by decide +kernel
theorem dX0_isFreeFor_29 : decode cX0_isFreeFor 29 = .ok (.iconst 0, 1) := by decide +kernel
theorem dX0_isFreeFor_30 : decode cX0_isFreeFor 30 = .ok (.ireturn, 1) := by decide +kernel
theorem dX0_nearestToAisle_0 : decode cX0_nearestToAisle 0 = .ok (.iconst 0, 1) := by decide +kernel
theorem dX0_nearestToAisle_1 : decode cX0_nearestToAisle 1 = .ok (.istore_n 3, 1) := by decide +kernel
theorem dX0_nearestToAisle_2 : decode cX0_nearestToAisle 2 = .ok (.iload_n 3, 1) := by decide +kernel
theorem dX0_nearestToAisle_3 : decode cX0_nearestToAisle 3 = .ok (.bipush 9, 2) := by decide +kernel
theorem dX0_nearestToAisle_5 : decode cX0_nearestToAisle 5 = .ok (.if_icmp .ge 30, 3) := by decide +kernel
theorem dX0_nearestToAisle_8 : decode cX0_nearestToAisle 8 = .ok (.aload_n 0, 1) := by decide +kernel
theorem dX0_nearestToAisle_9 : decode cX0_nearestToAisle 9 = .ok (.iload_n 1, 1) := by decide +kernel
theorem dX0_nearestToAisle_10 : decode cX0_nearestToAisle 10 = .ok (.bipush 9, 2) := by decide +kernel
theorem dX0_nearestToAisle_12 : decode cX0_nearestToAisle 12 = .ok (.imul, 1) := by decide +kernel
theorem dX0_nearestToAisle_13 : decode cX0_nearestToAisle 13 = .ok (.iload_n 3, 1) := by decide +kernel
theorem dX0_nearestToAisle_14 : decode cX0_nearestToAisle 14 = .ok (.iadd, 1) := by decide +kernel
theorem dX0_nearestToAisle_15 : decode cX0_nearestToAisle 15 = .ok (.iload_n 2, 1) := by decide +kernel
theorem dX0_nearestToAisle_16 : decode cX0_nearestToAisle 16 = .ok (.invokevirtual 65, 3) := by decide +kernel
theorem dX0_nearestToAisle_19 : decode cX0_nearestToAisle 19 = .ok (.ifCond .eq 10, 3) := by decide +kernel
theorem dX0_nearestToAisle_22 : decode cX0_nearestToAisle 22 = .ok (.iload_n 1, 1) := by decide +kernel
theorem dX0_nearestToAisle_23 : decode cX0_nearestToAisle 23 = .ok (.bipush 9, 2) := by decide +kernel
theorem dX0_nearestToAisle_25 : decode cX0_nearestToAisle 25 = .ok (.imul, 1) := by decide +kernel
theorem dX0_nearestToAisle_26 : decode cX0_nearestToAisle 26 = .ok (.iload_n 3, 1) := by decide +kernel
theorem dX0_nearestToAisle_27 : decode cX0_nearestToAisle 27 = .ok (.iadd, 1) := by decide +kernel
theorem dX0_nearestToAisle_28 : decode cX0_nearestToAisle 28 = .ok (.ireturn, 1) := by decide +kernel
theorem dX0_nearestToAisle_29 : decode cX0_nearestToAisle 29 = .ok (.iinc 3 1, 3) := by decide +kernel
theorem dX0_nearestToAisle_32 : decode cX0_nearestToAisle 32 = .ok (.goto (-30), 3) := by decide +kernel
theorem dX0_nearestToAisle_35 : decode cX0_nearestToAisle 35 = .ok (.iconst (-1), 1) := by decide +kernel
theorem dX0_nearestToAisle_36 : decode cX0_nearestToAisle 36 = .ok (.ireturn, 1) := by decide +kernel
theorem dX0_nearestToWall_0 : decode cX0_nearestToWall 0 = .ok (.bipush 8, 2) := by decide +kernel
theorem dX0_nearestToWall_2 : decode cX0_nearestToWall 2 = .ok (.istore_n 3, 1) := by decide +kernel
theorem dX0_nearestToWall_3 : decode cX0_nearestToWall 3 = .ok (.iload_n 3, 1) := by decide +kernel
theorem dX0_nearestToWall_4 : decode cX0_nearestToWall 4 = .ok (.ifCond .lt 30, 3) := by decide +kernel
theorem dX0_nearestToWall_7 : decode cX0_nearestToWall 7 = .ok (.aload_n 0, 1) := by decide +kernel
theorem dX0_nearestToWall_8 : decode cX0_nearestToWall 8 = .ok (.iload_n 1, 1) := by decide +kernel
theorem dX0_nearestToWall_9 : decode cX0_nearestToWall 9 = .ok (.bipush 9, 2) := by decide +kernel
theorem dX0_nearestToWall_11 : decode cX0_nearestToWall 11 = .ok (.imul, 1) := by decide +kernel
theorem dX0_nearestToWall_12 : decode cX0_nearestToWall 12 = .ok (.iload_n 3, 1) := by decide +kernel
theorem dX0_nearestToWall_13 : decode cX0_nearestToWall 13 = .ok (.iadd, 1) := by decide +kernel
theorem dX0_nearestToWall_14 : decode cX0_nearestToWall 14 = .ok (.iload_n 2, 1) := by decide +kernel
theorem dX0_nearestToWall_15 : decode cX0_nearestToWall 15 = .ok (.invokevirtual 65, 3) := by decide +kernel
theorem dX0_nearestToWall_18 : decode cX0_nearestToWall 18 = .ok (.ifCond .eq 10, 3) := by decide +kernel
theorem dX0_nearestToWall_21 : decode cX0_nearestToWall 21 = .ok (.iload_n 1, 1) := by decide +kernel
theorem dX0_nearestToWall_22 : decode cX0_nearestToWall 22 = .ok (.bipush 9, 2) := by decide +kernel
theorem dX0_nearestToWall_24 : decode cX0_nearestToWall 24 = .ok (.imul, 1) := by decide +kernel
theorem dX0_nearestToWall_25 : decode cX0_nearestToWall 25 = .ok (.iload_n 3, 1) := by decide +kernel
theorem dX0_nearestToWall_26 : decode cX0_nearestToWall 26 = .ok (.iadd, 1) := by decide +kernel
theorem dX0_nearestToWall_27 : decode cX0_nearestToWall 27 = .ok (.ireturn, 1) := by decide +kernel
theorem dX0_nearestToWall_28 : decode cX0_nearestToWall 28 = .ok (.iinc 3 (-1), 3) := by decide +kernel
theorem dX0_nearestToWall_31 : decode cX0_nearestToWall 31 = .ok (.goto (-28), 3) := by decide +kernel
theorem dX0_nearestToWall_34 : decode cX0_nearestToWall 34 = .ok (.iconst (-1), 1) := by decide +kernel
theorem dX0_nearestToWall_35 : decode cX0_nearestToWall 35 = .ok (.ireturn, 1) := by decide +kernel
theorem dX0_sittingFrom_0 : decode cX0_sittingFrom 0 = .ok (.iconst 0, 1) := by decide +kernel
theorem dX0_sittingFrom_1 : decode cX0_sittingFrom 1 = .ok (.istore_n 3, 1) := by decide +kernel
theorem dX0_sittingFrom_2 : decode cX0_sittingFrom 2 = .ok (.iconst 0, 1) := by decide +kernel
theorem dX0_sittingFrom_3 : decode cX0_sittingFrom 3 = .ok (.iload_n 1, 1) := by decide +kernel
theorem dX0_sittingFrom_4 : decode cX0_sittingFrom 4 = .ok (.invokestatic 69, 3) := by decide +kernel
theorem dX0_sittingFrom_7 : decode cX0_sittingFrom 7 = .ok (.istore 4, 2) := by decide +kernel
theorem dX0_sittingFrom_9 : decode cX0_sittingFrom 9 = .ok (.iload 4, 2) := by decide +kernel
theorem dX0_sittingFrom_11 : decode cX0_sittingFrom 11 = .ok (.iload_n 2, 1) := by decide +kernel
theorem dX0_sittingFrom_12 : decode cX0_sittingFrom 12 = .ok (.if_icmp .ge 31, 3) := by decide +kernel
theorem dX0_sittingFrom_15 : decode cX0_sittingFrom 15 = .ok (.iload 4, 2) := by decide +kernel
theorem dX0_sittingFrom_17 : decode cX0_sittingFrom 17 = .ok (.sipush 144, 3) := by decide +kernel
theorem dX0_sittingFrom_20 : decode cX0_sittingFrom 20 = .ok (.if_icmp .ge 23, 3) := by decide +kernel
theorem dX0_sittingFrom_23 : decode cX0_sittingFrom 23 = .ok (.aload_n 0, 1) := by decide +kernel
theorem dX0_sittingFrom_24 : decode cX0_sittingFrom 24 = .ok (.getfield 9, 3) := by decide +kernel
theorem dX0_sittingFrom_27 : decode cX0_sittingFrom 27 = .ok (.iload 4, 2) := by decide +kernel
theorem dX0_sittingFrom_29 : decode cX0_sittingFrom 29 = .ok (.iaload, 1) := by decide +kernel
theorem dX0_sittingFrom_30 : decode cX0_sittingFrom 30 = .ok (.iconst (-1), 1) := by decide +kernel
theorem dX0_sittingFrom_31 : decode cX0_sittingFrom 31 = .ok (.if_icmp .eq 6, 3) := by decide +kernel
theorem dX0_sittingFrom_34 : decode cX0_sittingFrom 34 = .ok (.iinc 3 1, 3) := by decide +kernel
theorem dX0_sittingFrom_37 : decode cX0_sittingFrom 37 = .ok (.iinc 4 1, 3) := by decide +kernel
theorem dX0_sittingFrom_40 : decode cX0_sittingFrom 40 = .ok (.goto (-31), 3) := by decide +kernel
theorem dX0_sittingFrom_43 : decode cX0_sittingFrom 43 = .ok (.iload_n 3, 1) := by decide +kernel
theorem dX0_sittingFrom_44 : decode cX0_sittingFrom 44 = .ok (.ireturn, 1) := by decide +kernel
theorem dX0_sittingIn_0 : decode cX0_sittingIn 0 = .ok (.aload_n 0, 1) := by decide +kernel
theorem dX0_sittingIn_1 : decode cX0_sittingIn 1 = .ok (.iload_n 1, 1) := by decide +kernel
theorem dX0_sittingIn_2 : decode cX0_sittingIn 2 = .ok (.bipush 9, 2) := by decide +kernel
theorem dX0_sittingIn_4 : decode cX0_sittingIn 4 = .ok (.imul, 1) := by decide +kernel
theorem dX0_sittingIn_5 : decode cX0_sittingIn 5 = .ok (.iload_n 1, 1) := by decide +kernel
theorem dX0_sittingIn_6 : decode cX0_sittingIn 6 = .ok (.bipush 9, 2) := by decide +kernel
theorem dX0_sittingIn_8 : decode cX0_sittingIn 8 = .ok (.imul, 1) := by decide +kernel
theorem dX0_sittingIn_9 : decode cX0_sittingIn 9 = .ok (.bipush 9, 2) := by decide +kernel
theorem dX0_sittingIn_11 : decode cX0_sittingIn 11 = .ok (.iadd, 1) := by decide +kernel
theorem dX0_sittingIn_12 : decode cX0_sittingIn 12 = .ok (.invokevirtual 75, 3) := by decide +kernel
theorem dX0_sittingIn_15 : decode cX0_sittingIn 15 = .ok (.ireturn, 1) := by decide +kernel
theorem dX0_sittingOn_0 : decode cX0_sittingOn 0 = .ok (.aload_n 0, 1) := by decide +kernel
theorem dX0_sittingOn_1 : decode cX0_sittingOn 1 = .ok (.iload_n 1, 1) := by decide +kernel
theorem dX0_sittingOn_2 : decode cX0_sittingOn 2 = .ok (.bipush 72, 2) := by decide +kernel
theorem dX0_sittingOn_4 : decode cX0_sittingOn 4 = .ok (.imul, 1) := by decide +kernel
theorem dX0_sittingOn_5 : decode cX0_sittingOn 5 = .ok (.iload_n 1, 1) := by decide +kernel
theorem dX0_sittingOn_6 : decode cX0_sittingOn 6 = .ok (.bipush 72, 2) := by decide +kernel
theorem dX0_sittingOn_8 : decode cX0_sittingOn 8 = .ok (.imul, 1) := by decide +kernel
theorem dX0_sittingOn_9 : decode cX0_sittingOn 9 = .ok (.bipush 72, 2) := by decide +kernel
theorem dX0_sittingOn_11 : decode cX0_sittingOn 11 = .ok (.iadd, 1) := by decide +kernel
theorem dX0_sittingOn_12 : decode cX0_sittingOn 12 = .ok (.invokevirtual 75, 3) := by decide +kernel
theorem dX0_sittingOn_15 : decode cX0_sittingOn 15 = .ok (.ireturn, 1) := by decide +kernel
theorem dX0_sittingAisleward_0 : decode cX0_sittingAisleward 0 = .ok (.aload_n 0, 1) := by decide +kernel
theorem dX0_sittingAisleward_1 : decode cX0_sittingAisleward 1 = .ok (.iload_n 1, 1) := by decide +kernel
theorem dX0_sittingAisleward_2 : decode cX0_sittingAisleward 2 = .ok (.iload_n 1, 1) := by decide +kernel
theorem dX0_sittingAisleward_3 : decode cX0_sittingAisleward 3 = .ok (.bipush 9, 2) := by decide +kernel
theorem dX0_sittingAisleward_5 : decode cX0_sittingAisleward 5 = .ok (.irem, 1) := by decide +kernel
theorem dX0_sittingAisleward_6 : decode cX0_sittingAisleward 6 = .ok (.isub, 1) := by decide +kernel
theorem dX0_sittingAisleward_7 : decode cX0_sittingAisleward 7 = .ok (.iload_n 1, 1) := by decide +kernel
theorem dX0_sittingAisleward_8 : decode cX0_sittingAisleward 8 = .ok (.invokevirtual 75, 3) := by decide +kernel
theorem dX0_sittingAisleward_11 : decode cX0_sittingAisleward 11 = .ok (.ireturn, 1) := by decide +kernel
theorem dX0_moreOnHers_0 : decode cX0_moreOnHers 0 = .ok (.aload_n 0, 1) := by decide +kernel
theorem dX0_moreOnHers_1 : decode cX0_moreOnHers 1 = .ok (.iconst 0, 1) := by decide +kernel
theorem dX0_moreOnHers_2 : decode cX0_moreOnHers 2 = .ok (.invokevirtual 78, 3) := by decide +kernel
theorem dX0_moreOnHers_5 : decode cX0_moreOnHers 5 = .ok (.aload_n 0, 1) := by decide +kernel
theorem dX0_moreOnHers_6 : decode cX0_moreOnHers 6 = .ok (.iconst 1, 1) := by decide +kernel
theorem dX0_moreOnHers_7 : decode cX0_moreOnHers 7 = .ok (.invokevirtual 78, 3) := by decide +kernel
theorem dX0_moreOnHers_10 : decode cX0_moreOnHers 10 = .ok (.isub, 1) := by decide +kernel
theorem dX0_moreOnHers_11 : decode cX0_moreOnHers 11 = .ok (.ireturn, 1) := by decide +kernel
theorem dX0_sittingOfIn_0 : decode cX0_sittingOfIn 0 = .ok (.iconst 0, 1) := by decide +kernel
theorem dX0_sittingOfIn_1 : decode cX0_sittingOfIn 1 = .ok (.istore_n 3, 1) := by decide +kernel
theorem dX0_sittingOfIn_2 : decode cX0_sittingOfIn 2 = .ok (.iconst 0, 1) := by decide +kernel
theorem dX0_sittingOfIn_3 : decode cX0_sittingOfIn 3 = .ok (.istore 4, 2) := by decide +kernel
theorem dX0_sittingOfIn_5 : decode cX0_sittingOfIn 5 = .ok (.iload 4, 2) := by decide +kernel
theorem dX0_sittingOfIn_7 : decode cX0_sittingOfIn 7 = .ok (.bipush 9, 2) := by decide +kernel
theorem dX0_sittingOfIn_9 : decode cX0_sittingOfIn 9 = .ok (.if_icmp .ge 27, 3) := by decide +kernel
theorem dX0_sittingOfIn_12 : decode cX0_sittingOfIn 12 = .ok (.aload_n 0, 1) := by decide +kernel
theorem dX0_sittingOfIn_13 : decode cX0_sittingOfIn 13 = .ok (.iload_n 2, 1) := by decide +kernel
theorem dX0_sittingOfIn_14 : decode cX0_sittingOfIn 14 = .ok (.bipush 9, 2) := by decide +kernel
theorem dX0_sittingOfIn_16 : decode cX0_sittingOfIn 16 = .ok (.imul, 1) := by decide +kernel
theorem dX0_sittingOfIn_17 : decode cX0_sittingOfIn 17 = .ok (.iload 4, 2) := by decide +kernel
theorem dX0_sittingOfIn_19 : decode cX0_sittingOfIn 19 = .ok (.iadd, 1) := by decide +kernel
theorem dX0_sittingOfIn_20 : decode cX0_sittingOfIn 20 = .ok (.iload_n 1, 1) := by decide +kernel
theorem dX0_sittingOfIn_21 : decode cX0_sittingOfIn 21 = .ok (.invokevirtual 81, 3) := by decide +kernel
theorem dX0_sittingOfIn_24 : decode cX0_sittingOfIn 24 = .ok (.ifCond .eq 6, 3) := by decide +kernel
theorem dX0_sittingOfIn_27 : decode cX0_sittingOfIn 27 = .ok (.iinc 3 1, 3) := by decide +kernel
theorem dX0_sittingOfIn_30 : decode cX0_sittingOfIn 30 = .ok (.iinc 4 1, 3) := by decide +kernel
theorem dX0_sittingOfIn_33 : decode cX0_sittingOfIn 33 = .ok (.goto (-28), 3) := by decide +kernel
theorem dX0_sittingOfIn_36 : decode cX0_sittingOfIn 36 = .ok (.iload_n 3, 1) := by decide +kernel
theorem dX0_sittingOfIn_37 : decode cX0_sittingOfIn 37 = .ok (.ireturn, 1) := by decide +kernel
theorem dX0_sittingOf_0 : decode cX0_sittingOf 0 = .ok (.iconst 0, 1) := by decide +kernel
theorem dX0_sittingOf_1 : decode cX0_sittingOf 1 = .ok (.istore_n 2, 1) := by decide +kernel
theorem dX0_sittingOf_2 : decode cX0_sittingOf 2 = .ok (.iconst 0, 1) := by decide +kernel
theorem dX0_sittingOf_3 : decode cX0_sittingOf 3 = .ok (.istore_n 3, 1) := by decide +kernel
theorem dX0_sittingOf_4 : decode cX0_sittingOf 4 = .ok (.iload_n 3, 1) := by decide +kernel
theorem dX0_sittingOf_5 : decode cX0_sittingOf 5 = .ok (.bipush 16, 2) := by decide +kernel
theorem dX0_sittingOf_7 : decode cX0_sittingOf 7 = .ok (.if_icmp .ge 18, 3) := by decide +kernel
theorem dX0_sittingOf_10 : decode cX0_sittingOf 10 = .ok (.iload_n 2, 1) := by decide +kernel
theorem dX0_sittingOf_11 : decode cX0_sittingOf 11 = .ok (.aload_n 0, 1) := by decide +kernel
theorem dX0_sittingOf_12 : decode cX0_sittingOf 12 = .ok (.iload_n 1, 1) := by decide +kernel
theorem dX0_sittingOf_13 : decode cX0_sittingOf 13 = .ok (.iload_n 3, 1) := by decide +kernel
theorem dX0_sittingOf_14 : decode cX0_sittingOf 14 = .ok (.invokevirtual 84, 3) := by decide +kernel
theorem dX0_sittingOf_17 : decode cX0_sittingOf 17 = .ok (.iadd, 1) := by decide +kernel
theorem dX0_sittingOf_18 : decode cX0_sittingOf 18 = .ok (.istore_n 2, 1) := by decide +kernel
theorem dX0_sittingOf_19 : decode cX0_sittingOf 19 = .ok (.iinc 3 1, 3) := by decide +kernel
theorem dX0_sittingOf_22 : decode cX0_sittingOf 22 = .ok (.goto (-18), 3) := by decide +kernel
theorem dX0_sittingOf_25 : decode cX0_sittingOf 25 = .ok (.iload_n 2, 1) := by decide +kernel
theorem dX0_sittingOf_26 : decode cX0_sittingOf 26 = .ok (.ireturn, 1) := by decide +kernel
theorem dX0_keptFor_0 : decode cX0_keptFor 0 = .ok (.iconst 0, 1) := by decide +kernel
theorem dX0_keptFor_1 : decode cX0_keptFor 1 = .ok (.istore_n 3, 1) := by decide +kernel
theorem dX0_keptFor_2 : decode cX0_keptFor 2 = .ok (.iconst 0, 1) := by decide +kernel
theorem dX0_keptFor_3 : decode cX0_keptFor 3 = .ok (.istore 4, 2) := by decide +kernel
theorem dX0_keptFor_5 : decode cX0_keptFor 5 = .ok (.iload 4, 2) := by decide +kernel
theorem dX0_keptFor_7 : decode cX0_keptFor 7 = .ok (.bipush 9, 2) := by decide +kernel
theorem dX0_keptFor_9 : decode cX0_keptFor 9 = .ok (.if_icmp .ge 41, 3) := by decide +kernel
theorem dX0_keptFor_12 : decode cX0_keptFor 12 = .ok (.iload_n 2, 1) := by decide +kernel
theorem dX0_keptFor_13 : decode cX0_keptFor 13 = .ok (.bipush 9, 2) := by decide +kernel
theorem dX0_keptFor_15 : decode cX0_keptFor 15 = .ok (.imul, 1) := by decide +kernel
theorem dX0_keptFor_16 : decode cX0_keptFor 16 = .ok (.iload 4, 2) := by decide +kernel
theorem dX0_keptFor_18 : decode cX0_keptFor 18 = .ok (.iadd, 1) := by decide +kernel
theorem dX0_keptFor_19 : decode cX0_keptFor 19 = .ok (.istore 5, 2) := by decide +kernel
theorem dX0_keptFor_21 : decode cX0_keptFor 21 = .ok (.aload_n 0, 1) := by decide +kernel
theorem dX0_keptFor_22 : decode cX0_keptFor 22 = .ok (.iload 5, 2) := by decide +kernel
theorem dX0_keptFor_24 : decode cX0_keptFor 24 = .ok (.invokevirtual 55, 3) := by decide +kernel
theorem dX0_keptFor_27 : decode cX0_keptFor 27 = .ok (.iconst (-1), 1) := by decide +kernel
theorem dX0_keptFor_28 : decode cX0_keptFor 28 = .ok (.if_icmp .ne 16, 3) := by decide +kernel
theorem dX0_keptFor_31 : decode cX0_keptFor 31 = .ok (.aload_n 0, 1) := by decide +kernel
theorem dX0_keptFor_32 : decode cX0_keptFor 32 = .ok (.iload 5, 2) := by decide +kernel
theorem dX0_keptFor_34 : decode cX0_keptFor 34 = .ok (.invokevirtual 62, 3) := by decide +kernel
theorem dX0_keptFor_37 : decode cX0_keptFor 37 = .ok (.iload_n 1, 1) := by decide +kernel
theorem dX0_keptFor_38 : decode cX0_keptFor 38 = .ok (.if_icmp .ne 6, 3) := by decide +kernel
theorem dX0_keptFor_41 : decode cX0_keptFor 41 = .ok (.iinc 3 1, 3) := by decide +kernel
theorem dX0_keptFor_44 : decode cX0_keptFor 44 = .ok (.iinc 4 1, 3) := by decide +kernel
theorem dX0_keptFor_47 : decode cX0_keptFor 47 = .ok (.goto (-42), 3) := by decide +kernel
theorem dX0_keptFor_50 : decode cX0_keptFor 50 = .ok (.iload_n 3, 1) := by decide +kernel
theorem dX0_keptFor_51 : decode cX0_keptFor 51 = .ok (.ireturn, 1) := by decide +kernel
theorem dX0_sitDown_0 : decode cX0_sitDown 0 = .ok (.iload_n 1, 1) := by decide +kernel
theorem dX0_sitDown_1 : decode cX0_sitDown 1 = .ok (.invokestatic 87, 3) := by decide +kernel
theorem dX0_sitDown_4 : decode cX0_sitDown 4 = .ok (.ifCond .eq 34, 3) := by decide +kernel
theorem dX0_sitDown_7 : decode cX0_sitDown 7 = .ok (.aload_n 0, 1) := by decide +kernel
theorem dX0_sitDown_8 : decode cX0_sitDown 8 = .ok (.dup, 1) := by decide +kernel
theorem dX0_sitDown_9 : decode cX0_sitDown 9 = .ok (.getfield 34, 3) := by decide +kernel
theorem dX0_sitDown_12 : decode cX0_sitDown 12 = .ok (.aload_n 0, 1) := by decide +kernel
theorem dX0_sitDown_13 : decode cX0_sitDown 13 = .ok (.iload_n 1, 1) := by decide +kernel
theorem dX0_sitDown_14 : decode cX0_sitDown 14 = .ok (.invokevirtual 91, 3) := by decide +kernel
theorem dX0_sitDown_17 : decode cX0_sitDown 17 = .ok (.iadd, 1) := by decide +kernel
theorem dX0_sitDown_18 : decode cX0_sitDown 18 = .ok (.putfield 34, 3) := by decide +kernel
theorem dX0_sitDown_21 : decode cX0_sitDown 21 = .ok (.aload_n 0, 1) := by decide +kernel
theorem dX0_sitDown_22 : decode cX0_sitDown 22 = .ok (.getfield 9, 3) := by decide +kernel
theorem dX0_sitDown_25 : decode cX0_sitDown 25 = .ok (.iload_n 1, 1) := by decide +kernel
theorem dX0_sitDown_26 : decode cX0_sitDown 26 = .ok (.iload_n 2, 1) := by decide +kernel
theorem dX0_sitDown_27 : decode cX0_sitDown 27 = .ok (.iastore, 1) := by decide +kernel
theorem dX0_sitDown_28 : decode cX0_sitDown 28 = .ok (.aload_n 0, 1) := by decide +kernel
theorem dX0_sitDown_29 : decode cX0_sitDown 29 = .ok (.getfield 15, 3) := by decide +kernel
theorem dX0_sitDown_32 : decode cX0_sitDown 32 = .ok (.iload_n 1, 1) := by decide +kernel
theorem dX0_sitDown_33 : decode cX0_sitDown 33 = .ok (.aload_n 0, 1) := by decide +kernel
theorem dX0_sitDown_34 : decode cX0_sitDown 34 = .ok (.getfield 28, 3) := by decide +kernel
theorem dX0_sitDown_37 : decode cX0_sitDown 37 = .ok (.iastore, 1) := by decide +kernel
theorem dX0_sitDown_38 : decode cX0_sitDown 38 = .ok (.return_, 1) := by decide +kernel
theorem dX0_exchange_0 : decode cX0_exchange 0 = .ok (.iload_n 1, 1) := by decide +kernel
theorem dX0_exchange_1 : decode cX0_exchange 1 = .ok (.invokestatic 87, 3) := by decide +kernel
theorem dX0_exchange_4 : decode cX0_exchange 4 = .ok (.ifCond .eq 64, 3) := by decide +kernel
theorem dX0_exchange_7 : decode cX0_exchange 7 = .ok (.iload_n 2, 1) := by decide +kernel
theorem dX0_exchange_8 : decode cX0_exchange 8 = .ok (.invokestatic 87, 3) := by decide +kernel
theorem dX0_exchange_11 : decode cX0_exchange 11 = .ok (.ifCond .eq 57, 3) := by decide +kernel
theorem dX0_exchange_14 : decode cX0_exchange 14 = .ok (.aload_n 0, 1) := by decide +kernel
theorem dX0_exchange_15 : decode cX0_exchange 15 = .ok (.getfield 9, 3) := by decide +kernel
theorem dX0_exchange_18 : decode cX0_exchange 18 = .ok (.iload_n 1, 1) := by decide +kernel
theorem dX0_exchange_19 : decode cX0_exchange 19 = .ok (.iaload, 1) := by decide +kernel
theorem dX0_exchange_20 : decode cX0_exchange 20 = .ok (.istore_n 3, 1) := by decide +kernel
theorem dX0_exchange_21 : decode cX0_exchange 21 = .ok (.aload_n 0, 1) := by decide +kernel
theorem dX0_exchange_22 : decode cX0_exchange 22 = .ok (.getfield 15, 3) := by decide +kernel
theorem dX0_exchange_25 : decode cX0_exchange 25 = .ok (.iload_n 1, 1) := by decide +kernel
theorem dX0_exchange_26 : decode cX0_exchange 26 = .ok (.iaload, 1) := by decide +kernel
theorem dX0_exchange_27 : decode cX0_exchange 27 = .ok (.istore 4, 2) := by decide +kernel
theorem dX0_exchange_29 : decode cX0_exchange 29 = .ok (.aload_n 0, 1) := by decide +kernel
theorem dX0_exchange_30 : decode cX0_exchange 30 = .ok (.getfield 9, 3) := by decide +kernel
theorem dX0_exchange_33 : decode cX0_exchange 33 = .ok (.iload_n 1, 1) := by decide +kernel
theorem dX0_exchange_34 : decode cX0_exchange 34 = .ok (.aload_n 0, 1) := by decide +kernel
theorem dX0_exchange_35 : decode cX0_exchange 35 = .ok (.getfield 9, 3) := by decide +kernel
theorem dX0_exchange_38 : decode cX0_exchange 38 = .ok (.iload_n 2, 1) := by decide +kernel
theorem dX0_exchange_39 : decode cX0_exchange 39 = .ok (.iaload, 1) := by decide +kernel
theorem dX0_exchange_40 : decode cX0_exchange 40 = .ok (.iastore, 1) := by decide +kernel
theorem dX0_exchange_41 : decode cX0_exchange 41 = .ok (.aload_n 0, 1) := by decide +kernel
theorem dX0_exchange_42 : decode cX0_exchange 42 = .ok (.getfield 15, 3) := by decide +kernel
theorem dX0_exchange_45 : decode cX0_exchange 45 = .ok (.iload_n 1, 1) := by decide +kernel
theorem dX0_exchange_46 : decode cX0_exchange 46 = .ok (.aload_n 0, 1) := by decide +kernel
theorem dX0_exchange_47 : decode cX0_exchange 47 = .ok (.getfield 15, 3) := by decide +kernel
theorem dX0_exchange_50 : decode cX0_exchange 50 = .ok (.iload_n 2, 1) := by decide +kernel
theorem dX0_exchange_51 : decode cX0_exchange 51 = .ok (.iaload, 1) := by decide +kernel
theorem dX0_exchange_52 : decode cX0_exchange 52 = .ok (.iastore, 1) := by decide +kernel
theorem dX0_exchange_53 : decode cX0_exchange 53 = .ok (.aload_n 0, 1) := by decide +kernel
theorem dX0_exchange_54 : decode cX0_exchange 54 = .ok (.getfield 9, 3) := by decide +kernel
theorem dX0_exchange_57 : decode cX0_exchange 57 = .ok (.iload_n 2, 1) := by decide +kernel
theorem dX0_exchange_58 : decode cX0_exchange 58 = .ok (.iload_n 3, 1) := by decide +kernel
theorem dX0_exchange_59 : decode cX0_exchange 59 = .ok (.iastore, 1) := by decide +kernel
theorem dX0_exchange_60 : decode cX0_exchange 60 = .ok (.aload_n 0, 1) := by decide +kernel
theorem dX0_exchange_61 : decode cX0_exchange 61 = .ok (.getfield 15, 3) := by decide +kernel
theorem dX0_exchange_64 : decode cX0_exchange 64 = .ok (.iload_n 2, 1) := by decide +kernel
theorem dX0_exchange_65 : decode cX0_exchange 65 = .ok (.iload 4, 2) := by decide +kernel
theorem dX0_exchange_67 : decode cX0_exchange 67 = .ok (.iastore, 1) := by decide +kernel
theorem dX0_exchange_68 : decode cX0_exchange 68 = .ok (.return_, 1) := by decide +kernel
theorem dX0_sendBack_0 : decode cX0_sendBack 0 = .ok (.iload_n 1, 1) := by decide +kernel
theorem dX0_sendBack_1 : decode cX0_sendBack 1 = .ok (.invokestatic 87, 3) := by decide +kernel
theorem dX0_sendBack_4 : decode cX0_sendBack 4 = .ok (.ifCond .eq 20, 3) := by decide +kernel
theorem dX0_sendBack_7 : decode cX0_sendBack 7 = .ok (.aload_n 0, 1) := by decide +kernel
theorem dX0_sendBack_8 : decode cX0_sendBack 8 = .ok (.getfield 9, 3) := by decide +kernel
theorem dX0_sendBack_11 : decode cX0_sendBack 11 = .ok (.iload_n 1, 1) := by decide +kernel
theorem dX0_sendBack_12 : decode cX0_sendBack 12 = .ok (.iconst (-1), 1) := by decide +kernel
theorem dX0_sendBack_13 : decode cX0_sendBack 13 = .ok (.iastore, 1) := by decide +kernel
theorem dX0_sendBack_14 : decode cX0_sendBack 14 = .ok (.aload_n 0, 1) := by decide +kernel
theorem dX0_sendBack_15 : decode cX0_sendBack 15 = .ok (.dup, 1) := by decide +kernel
theorem dX0_sendBack_16 : decode cX0_sendBack 16 = .ok (.getfield 31, 3) := by decide +kernel
theorem dX0_sendBack_19 : decode cX0_sendBack 19 = .ok (.iconst 1, 1) := by decide +kernel
theorem dX0_sendBack_20 : decode cX0_sendBack 20 = .ok (.iadd, 1) := by decide +kernel
theorem dX0_sendBack_21 : decode cX0_sendBack 21 = .ok (.putfield 31, 3) := by decide +kernel
theorem dX0_sendBack_24 : decode cX0_sendBack 24 = .ok (.return_, 1) := by decide +kernel
theorem dX0_leaveLine_0 : decode cX0_leaveLine 0 = .ok (.iload_n 1, 1) := by decide +kernel
theorem dX0_leaveLine_1 : decode cX0_leaveLine 1 = .ok (.ifCond .le 48, 3) := by decide +kernel
theorem dX0_leaveLine_4 : decode cX0_leaveLine 4 = .ok (.iload_n 1, 1) := by decide +kernel
theorem dX0_leaveLine_5 : decode cX0_leaveLine 5 = .ok (.aload_n 0, 1) := by decide +kernel
theorem dX0_leaveLine_6 : decode cX0_leaveLine 6 = .ok (.getfield 24, 3) := by decide +kernel
theorem dX0_leaveLine_9 : decode cX0_leaveLine 9 = .ok (.if_icmp .gt 40, 3) := by decide +kernel
theorem dX0_leaveLine_12 : decode cX0_leaveLine 12 = .ok (.aload_n 0, 1) := by decide +kernel
theorem dX0_leaveLine_13 : decode cX0_leaveLine 13 = .ok (.getfield 24, 3) := by decide +kernel
theorem dX0_leaveLine_16 : decode cX0_leaveLine 16 = .ok (.sipush 200, 3) := by decide +kernel
theorem dX0_leaveLine_19 : decode cX0_leaveLine 19 = .ok (.if_icmp .gt 30, 3) := by decide +kernel
theorem dX0_leaveLine_22 : decode cX0_leaveLine 22 = .ok (.aload_n 0, 1) := by decide +kernel
theorem dX0_leaveLine_23 : decode cX0_leaveLine 23 = .ok (.dup, 1) := by decide +kernel
theorem dX0_leaveLine_24 : decode cX0_leaveLine 24 = .ok (.getfield 24, 3) := by decide +kernel
theorem dX0_leaveLine_27 : decode cX0_leaveLine 27 = .ok (.iload_n 1, 1) := by decide +kernel
theorem dX0_leaveLine_28 : decode cX0_leaveLine 28 = .ok (.isub, 1) := by decide +kernel
theorem dX0_leaveLine_29 : decode cX0_leaveLine 29 = .ok (.putfield 24, 3) := by decide +kernel
theorem dX0_leaveLine_32 : decode cX0_leaveLine 32 = .ok (.aload_n 0, 1) := by decide +kernel
theorem dX0_leaveLine_33 : decode cX0_leaveLine 33 = .ok (.getfield 21, 3) := by decide +kernel
theorem dX0_leaveLine_36 : decode cX0_leaveLine 36 = .ok (.iload_n 1, 1) := by decide +kernel
theorem dX0_leaveLine_37 : decode cX0_leaveLine 37 = .ok (.aload_n 0, 1) := by decide +kernel
theorem dX0_leaveLine_38 : decode cX0_leaveLine 38 = .ok (.getfield 21, 3) := by decide +kernel
theorem dX0_leaveLine_41 : decode cX0_leaveLine 41 = .ok (.iconst 0, 1) := by decide +kernel
theorem dX0_leaveLine_42 : decode cX0_leaveLine 42 = .ok (.aload_n 0, 1) := by decide +kernel
theorem dX0_leaveLine_43 : decode cX0_leaveLine 43 = .ok (.getfield 24, 3) := by decide +kernel
theorem dX0_leaveLine_46 : decode cX0_leaveLine 46 = .ok (.invokestatic 48, 3) := by decide +kernel
theorem dX0_leaveLine_49 : decode cX0_leaveLine 49 = .ok (.return_, 1) := by decide +kernel
theorem dX1_of_0 : decode cX1_of 0 = .ok (.iload_n 0, 1) := by decide +kernel
theorem dX1_of_1 : decode cX1_of 1 = .ok (.iload_n 1, 1) := by decide +kernel
theorem dX1_of_2 : decode cX1_of 2 = .ok (.iconst 2, 1) := by decide +kernel
theorem dX1_of_3 : decode cX1_of 3 = .ok (.ishl, 1) := by decide +kernel
theorem dX1_of_4 : decode cX1_of 4 = .ok (.ior, 1) := by decide +kernel
theorem dX1_of_5 : decode cX1_of 5 = .ok (.iload_n 2, 1) := by decide +kernel
theorem dX1_of_6 : decode cX1_of 6 = .ok (.bipush 6, 2) := by decide +kernel
theorem dX1_of_8 : decode cX1_of 8 = .ok (.ishl, 1) := by decide +kernel
theorem dX1_of_9 : decode cX1_of 9 = .ok (.ior, 1) := by decide +kernel
theorem dX1_of_10 : decode cX1_of 10 = .ok (.iload_n 3, 1) := by decide +kernel
theorem dX1_of_11 : decode cX1_of 11 = .ok (.bipush 10, 2) := by decide +kernel
theorem dX1_of_13 : decode cX1_of 13 = .ok (.ishl, 1) := by decide +kernel
theorem dX1_of_14 : decode cX1_of 14 = .ok (.ior, 1) := by decide +kernel
theorem dX1_of_15 : decode cX1_of 15 = .ok (.iload 4, 2) := by decide +kernel
theorem dX1_of_17 : decode cX1_of 17 = .ok (.bipush 11, 2) := by decide +kernel
theorem dX1_of_19 : decode cX1_of 19 = .ok (.ishl, 1) := by decide +kernel
theorem dX1_of_20 : decode cX1_of 20 = .ok (.ior, 1) := by decide +kernel
theorem dX1_of_21 : decode cX1_of 21 = .ok (.ireturn, 1) := by decide +kernel
theorem dX1_sideOf_0 : decode cX1_sideOf 0 = .ok (.iload_n 0, 1) := by decide +kernel
theorem dX1_sideOf_1 : decode cX1_sideOf 1 = .ok (.iconst 3, 1) := by decide +kernel
theorem dX1_sideOf_2 : decode cX1_sideOf 2 = .ok (.iand, 1) := by decide +kernel
theorem dX1_sideOf_3 : decode cX1_sideOf 3 = .ok (.ireturn, 1) := by decide +kernel
theorem dX1_familyOf_0 : decode cX1_familyOf 0 = .ok (.iload_n 0, 1) := by decide +kernel
theorem dX1_familyOf_1 : decode cX1_familyOf 1 = .ok (.iconst 2, 1) := by decide +kernel
theorem dX1_familyOf_2 : decode cX1_familyOf 2 = .ok (.ishr, 1) := by decide +kernel
theorem dX1_familyOf_3 : decode cX1_familyOf 3 = .ok (.bipush 15, 2) := by decide +kernel
theorem dX1_familyOf_5 : decode cX1_familyOf 5 = .ok (.iand, 1) := by decide +kernel
theorem dX1_familyOf_6 : decode cX1_familyOf 6 = .ok (.ireturn, 1) := by decide +kernel
theorem dX1_heightOf_0 : decode cX1_heightOf 0 = .ok (.iload_n 0, 1) := by decide +kernel
theorem dX1_heightOf_1 : decode cX1_heightOf 1 = .ok (.bipush 6, 2) := by decide +kernel
theorem dX1_heightOf_3 : decode cX1_heightOf 3 = .ok (.ishr, 1) := by decide +kernel
theorem dX1_heightOf_4 : decode cX1_heightOf 4 = .ok (.bipush 15, 2) := by decide +kernel
theorem dX1_heightOf_6 : decode cX1_heightOf 6 = .ok (.iand, 1) := by decide +kernel
theorem dX1_heightOf_7 : decode cX1_heightOf 7 = .ok (.ireturn, 1) := by decide +kernel
theorem dX1_childOf_0 : decode cX1_childOf 0 = .ok (.iload_n 0, 1) := by decide +kernel
theorem dX1_childOf_1 : decode cX1_childOf 1 = .ok (.bipush 10, 2) := by decide +kernel
theorem dX1_childOf_3 : decode cX1_childOf 3 = .ok (.ishr, 1) := by decide +kernel
theorem dX1_childOf_4 : decode cX1_childOf 4 = .ok (.iconst 1, 1) := by decide +kernel
theorem dX1_childOf_5 : decode cX1_childOf 5 = .ok (.iand, 1) := by decide +kernel
theorem dX1_childOf_6 : decode cX1_childOf 6 = .ok (.ireturn, 1) := by decide +kernel
theorem dX1_singerOf_0 : decode cX1_singerOf 0 = .ok (.iload_n 0, 1) := by decide +kernel
theorem dX1_singerOf_1 : decode cX1_singerOf 1 = .ok (.bipush 11, 2) := by decide +kernel
theorem dX1_singerOf_3 : decode cX1_singerOf 3 = .ok (.ishr, 1) := by decide +kernel
theorem dX1_singerOf_4 : decode cX1_singerOf 4 = .ok (.iconst 1, 1) := by decide +kernel
theorem dX1_singerOf_5 : decode cX1_singerOf 5 = .ok (.iand, 1) := by decide +kernel
theorem dX1_singerOf_6 : decode cX1_singerOf 6 = .ok (.ireturn, 1) := by decide +kernel
theorem dX2_init_0 : decode cX2_init 0 = .ok (.aload_n 0, 1) := by decide +kernel
theorem dX2_init_1 : decode cX2_init 1 = .ok (.invokespecial 5, 3) := by decide +kernel
theorem dX2_init_4 : decode cX2_init 4 = .ok (.aload_n 0, 1) := by decide +kernel
theorem dX2_init_5 : decode cX2_init 5 = .ok (.sipush 240, 3) := by decide +kernel
theorem dX2_init_8 : decode cX2_init 8 = .ok (.newarray .int, 2) := by decide +kernel
theorem dX2_init_10 : decode cX2_init 10 = .ok (.putfield 13, 3) := by decide +kernel
theorem dX2_init_13 : decode cX2_init 13 = .ok (.aload_n 0, 1) := by decide +kernel
theorem dX2_init_14 : decode cX2_init 14 = .ok (.sipush 240, 3) := by decide +kernel
theorem dX2_init_17 : decode cX2_init 17 = .ok (.newarray .int, 2) := by decide +kernel
theorem dX2_init_19 : decode cX2_init 19 = .ok (.putfield 17, 3) := by decide +kernel
theorem dX2_init_22 : decode cX2_init 22 = .ok (.aload_n 0, 1) := by decide +kernel
theorem dX2_init_23 : decode cX2_init 23 = .ok (.bipush 16, 2) := by decide +kernel
theorem dX2_init_25 : decode cX2_init 25 = .ok (.newarray .int, 2) := by decide +kernel
theorem dX2_init_27 : decode cX2_init 27 = .ok (.putfield 20, 3) := by decide +kernel
theorem dX2_init_30 : decode cX2_init 30 = .ok (.aload_n 0, 1) := by decide +kernel
theorem dX2_init_31 : decode cX2_init 31 = .ok (.bipush 16, 2) := by decide +kernel
theorem dX2_init_33 : decode cX2_init 33 = .ok (.newarray .int, 2) := by decide +kernel
theorem dX2_init_35 : decode cX2_init 35 = .ok (.putfield 23, 3) := by decide +kernel
theorem dX2_init_38 : decode cX2_init 38 = .ok (.aload_n 0, 1) := by decide +kernel
theorem dX2_init_39 : decode cX2_init 39 = .ok (.bipush 16, 2) := by decide +kernel
theorem dX2_init_41 : decode cX2_init 41 = .ok (.newarray .int, 2) := by decide +kernel
theorem dX2_init_43 : decode cX2_init 43 = .ok (.putfield 26, 3) := by decide +kernel
theorem dX2_init_46 : decode cX2_init 46 = .ok (.aload_n 0, 1) := by decide +kernel
theorem dX2_init_47 : decode cX2_init 47 = .ok (.bipush 16, 2) := by decide +kernel
theorem dX2_init_49 : decode cX2_init 49 = .ok (.newarray .int, 2) := by decide +kernel
theorem dX2_init_51 : decode cX2_init 51 = .ok (.putfield 29, 3) := by decide +kernel
theorem dX2_init_54 : decode cX2_init 54 = .ok (.aload_n 0, 1) := by decide +kernel
theorem dX2_init_55 : decode cX2_init 55 = .ok (.bipush 32, 2) := by decide +kernel
theorem dX2_init_57 : decode cX2_init 57 = .ok (.newarray .int, 2) := by decide +kernel
theorem dX2_init_59 : decode cX2_init 59 = .ok (.putfield 32, 3) := by decide +kernel
theorem dX2_init_62 : decode cX2_init 62 = .ok (.aload_n 0, 1) := by decide +kernel
theorem dX2_init_63 : decode cX2_init 63 = .ok (.iconst 0, 1) := by decide +kernel
theorem dX2_init_64 : decode cX2_init 64 = .ok (.putfield 35, 3) := by decide +kernel
theorem dX2_init_67 : decode cX2_init 67 = .ok (.aload_n 0, 1) := by decide +kernel
theorem dX2_init_68 : decode cX2_init 68 = .ok (.iconst 0, 1) := by decide +kernel
theorem dX2_init_69 : decode cX2_init 69 = .ok (.putfield 39, 3) := by decide +kernel
theorem dX2_init_72 : decode cX2_init 72 = .ok (.return_, 1) := by decide +kernel
theorem dX2_clear_0 : decode cX2_clear 0 = .ok (.aload_n 0, 1) := by decide +kernel
theorem dX2_clear_1 : decode cX2_clear 1 = .ok (.iconst 0, 1) := by decide +kernel
theorem dX2_clear_2 : decode cX2_clear 2 = .ok (.putfield 35, 3) := by decide +kernel
theorem dX2_clear_5 : decode cX2_clear 5 = .ok (.aload_n 0, 1) := by decide +kernel
theorem dX2_clear_6 : decode cX2_clear 6 = .ok (.iconst 0, 1) := by decide +kernel
theorem dX2_clear_7 : decode cX2_clear 7 = .ok (.putfield 39, 3) := by decide +kernel
theorem dX2_clear_10 : decode cX2_clear 10 = .ok (.return_, 1) := by decide +kernel
theorem dX2_isFull_0 : decode cX2_isFull 0 = .ok (.aload_n 0, 1) := by decide +kernel
theorem dX2_isFull_1 : decode cX2_isFull 1 = .ok (.getfield 39, 3) := by decide +kernel
theorem dX2_isFull_4 : decode cX2_isFull 4 = .ok (.bipush 16, 2) := by decide +kernel
theorem dX2_isFull_6 : decode cX2_isFull 6 = .ok (.if_icmp .lt 7, 3) := by decide +kernel
theorem dX2_isFull_9 : decode cX2_isFull 9 = .ok (.iconst 1, 1) := by decide +kernel
theorem dX2_isFull_10 : decode cX2_isFull 10 = .ok (.goto 4, 3) := by decide +kernel
theorem dX2_isFull_13 : decode cX2_isFull 13 = .ok (.iconst 0, 1) := by decide +kernel
theorem dX2_isFull_14 : decode cX2_isFull 14 = .ok (.ireturn, 1) := by decide +kernel
theorem dX2_openRule_0 : decode cX2_openRule 0 = .ok (.aload_n 0, 1) := by decide +kernel
theorem dX2_openRule_1 : decode cX2_openRule 1 = .ok (.invokevirtual 42, 3) := by decide +kernel
theorem dX2_openRule_4 : decode cX2_openRule 4 = .ok (.ifCond .ne 26, 3) := by decide +kernel
theorem dX2_openRule_7 : decode cX2_openRule 7 = .ok (.aload_n 0, 1) := by decide +kernel
theorem dX2_openRule_8 : decode cX2_openRule 8 = .ok (.getfield 20, 3) := by decide +kernel
theorem dX2_openRule_11 : decode cX2_openRule 11 = .ok (.aload_n 0, 1) := by decide +kernel
theorem dX2_openRule_12 : decode cX2_openRule 12 = .ok (.getfield 39, 3) := by decide +kernel
theorem dX2_openRule_15 : decode cX2_openRule 15 = .ok (.iload_n 1, 1) := by decide +kernel
theorem dX2_openRule_16 : decode cX2_openRule 16 = .ok (.iastore, 1) := by decide +kernel
theorem dX2_openRule_17 : decode cX2_openRule 17 = .ok (.aload_n 0, 1) := by decide +kernel
theorem dX2_openRule_18 : decode cX2_openRule 18 = .ok (.getfield 23, 3) := by decide +kernel
theorem dX2_openRule_21 : decode cX2_openRule 21 = .ok (.aload_n 0, 1) := by decide +kernel
theorem dX2_openRule_22 : decode cX2_openRule 22 = .ok (.getfield 39, 3) := by decide +kernel
theorem dX2_openRule_25 : decode cX2_openRule 25 = .ok (.aload_n 0, 1) := by decide +kernel
theorem dX2_openRule_26 : decode cX2_openRule 26 = .ok (.getfield 35, 3) := by decide +kernel
theorem dX2_openRule_29 : decode cX2_openRule 29 = .ok (.iastore, 1) := by decide +kernel
theorem dX2_openRule_30 : decode cX2_openRule 30 = .ok (.return_, 1) := by decide +kernel
theorem dX2_openTest_0 : decode cX2_openTest 0 = .ok (.aload_n 0, 1) := by decide +kernel
theorem dX2_openTest_1 : decode cX2_openTest 1 = .ok (.invokevirtual 42, 3) := by decide +kernel
theorem dX2_openTest_4 : decode cX2_openTest 4 = .ok (.ifCond .ne 16, 3) := by decide +kernel
theorem dX2_openTest_7 : decode cX2_openTest 7 = .ok (.aload_n 0, 1) := by decide +kernel
theorem dX2_openTest_8 : decode cX2_openTest 8 = .ok (.getfield 26, 3) := by decide +kernel
theorem dX2_openTest_11 : decode cX2_openTest 11 = .ok (.aload_n 0, 1) := by decide +kernel
theorem dX2_openTest_12 : decode cX2_openTest 12 = .ok (.getfield 39, 3) := by decide +kernel
theorem dX2_openTest_15 : decode cX2_openTest 15 = .ok (.aload_n 0, 1) := by decide +kernel
theorem dX2_openTest_16 : decode cX2_openTest 16 = .ok (.getfield 35, 3) := by decide +kernel
theorem dX2_openTest_19 : decode cX2_openTest 19 = .ok (.iastore, 1) := by decide +kernel
theorem dX2_openTest_20 : decode cX2_openTest 20 = .ok (.return_, 1) := by decide +kernel
theorem dX2_closeRule_0 : decode cX2_closeRule 0 = .ok (.aload_n 0, 1) := by decide +kernel
theorem dX2_closeRule_1 : decode cX2_closeRule 1 = .ok (.invokevirtual 42, 3) := by decide +kernel
theorem dX2_closeRule_4 : decode cX2_closeRule 4 = .ok (.ifCond .ne 26, 3) := by decide +kernel
theorem dX2_closeRule_7 : decode cX2_closeRule 7 = .ok (.aload_n 0, 1) := by decide +kernel
theorem dX2_closeRule_8 : decode cX2_closeRule 8 = .ok (.getfield 29, 3) := by decide +kernel
theorem dX2_closeRule_11 : decode cX2_closeRule 11 = .ok (.aload_n 0, 1) := by decide +kernel
theorem dX2_closeRule_12 : decode cX2_closeRule 12 = .ok (.getfield 39, 3) := by decide +kernel
theorem dX2_closeRule_15 : decode cX2_closeRule 15 = .ok (.aload_n 0, 1) := by decide +kernel
theorem dX2_closeRule_16 : decode cX2_closeRule 16 = .ok (.getfield 35, 3) := by decide +kernel
theorem dX2_closeRule_19 : decode cX2_closeRule 19 = .ok (.iastore, 1) := by decide +kernel
theorem dX2_closeRule_20 : decode cX2_closeRule 20 = .ok (.aload_n 0, 1) := by decide +kernel
theorem dX2_closeRule_21 : decode cX2_closeRule 21 = .ok (.dup, 1) := by decide +kernel
theorem dX2_closeRule_22 : decode cX2_closeRule 22 = .ok (.getfield 39, 3) := by decide +kernel
theorem dX2_closeRule_25 : decode cX2_closeRule 25 = .ok (.iconst 1, 1) := by decide +kernel
theorem dX2_closeRule_26 : decode cX2_closeRule 26 = .ok (.iadd, 1) := by decide +kernel
theorem dX2_closeRule_27 : decode cX2_closeRule 27 = .ok (.putfield 39, 3) := by decide +kernel
theorem dX2_closeRule_30 : decode cX2_closeRule 30 = .ok (.return_, 1) := by decide +kernel
theorem dX2_add_0 : decode cX2_add 0 = .ok (.aload_n 0, 1) := by decide +kernel
theorem dX2_add_1 : decode cX2_add 1 = .ok (.getfield 35, 3) := by decide +kernel
theorem dX2_add_4 : decode cX2_add 4 = .ok (.sipush 240, 3) := by decide +kernel
theorem dX2_add_7 : decode cX2_add 7 = .ok (.if_icmp .lt 5, 3) := by decide +kernel
theorem dX2_add_10 : decode cX2_add 10 = .ok (.iconst (-1), 1) := by decide +kernel
theorem dX2_add_11 : decode cX2_add 11 = .ok (.ireturn, 1) := by decide +kernel
theorem dX2_add_12 : decode cX2_add 12 = .ok (.aload_n 0, 1) := by decide +kernel
theorem dX2_add_13 : decode cX2_add 13 = .ok (.getfield 13, 3) := by decide +kernel
theorem dX2_add_16 : decode cX2_add 16 = .ok (.aload_n 0, 1) := by decide +kernel
theorem dX2_add_17 : decode cX2_add 17 = .ok (.getfield 35, 3) := by decide +kernel
theorem dX2_add_20 : decode cX2_add 20 = .ok (.iload_n 1, 1) := by decide +kernel
theorem dX2_add_21 : decode cX2_add 21 = .ok (.iastore, 1) := by decide +kernel
theorem dX2_add_22 : decode cX2_add 22 = .ok (.aload_n 0, 1) := by decide +kernel
theorem dX2_add_23 : decode cX2_add 23 = .ok (.getfield 17, 3) := by decide +kernel
theorem dX2_add_26 : decode cX2_add 26 = .ok (.aload_n 0, 1) := by decide +kernel
theorem dX2_add_27 : decode cX2_add 27 = .ok (.getfield 35, 3) := by decide +kernel
theorem dX2_add_30 : decode cX2_add 30 = .ok (.iload_n 2, 1) := by decide +kernel
theorem dX2_add_31 : decode cX2_add 31 = .ok (.iastore, 1) := by decide +kernel
theorem dX2_add_32 : decode cX2_add 32 = .ok (.aload_n 0, 1) := by decide +kernel
theorem dX2_add_33 : decode cX2_add 33 = .ok (.dup, 1) := by decide +kernel
theorem dX2_add_34 : decode cX2_add 34 = .ok (.getfield 35, 3) := by decide +kernel
theorem dX2_add_37 : decode cX2_add 37 = .ok (.iconst 1, 1) := by decide +kernel
theorem dX2_add_38 : decode cX2_add 38 = .ok (.iadd, 1) := by decide +kernel
theorem dX2_add_39 : decode cX2_add 39 = .ok (.putfield 35, 3) := by decide +kernel
theorem dX2_add_42 : decode cX2_add 42 = .ok (.aload_n 0, 1) := by decide +kernel
theorem dX2_add_43 : decode cX2_add 43 = .ok (.getfield 35, 3) := by decide +kernel
theorem dX2_add_46 : decode cX2_add 46 = .ok (.iconst 1, 1) := by decide +kernel
theorem dX2_add_47 : decode cX2_add 47 = .ok (.isub, 1) := by decide +kernel
theorem dX2_add_48 : decode cX2_add 48 = .ok (.ireturn, 1) := by decide +kernel
theorem dX2_landHere_0 : decode cX2_landHere 0 = .ok (.iload_n 1, 1) := by decide +kernel
theorem dX2_landHere_1 : decode cX2_landHere 1 = .ok (.ifCond .lt 21, 3) := by decide +kernel
theorem dX2_landHere_4 : decode cX2_landHere 4 = .ok (.iload_n 1, 1) := by decide +kernel
theorem dX2_landHere_5 : decode cX2_landHere 5 = .ok (.aload_n 0, 1) := by decide +kernel
theorem dX2_landHere_6 : decode cX2_landHere 6 = .ok (.getfield 35, 3) := by decide +kernel
theorem dX2_landHere_9 : decode cX2_landHere 9 = .ok (.if_icmp .ge 13, 3) := by decide +kernel
theorem dX2_landHere_12 : decode cX2_landHere 12 = .ok (.aload_n 0, 1) := by decide +kernel
theorem dX2_landHere_13 : decode cX2_landHere 13 = .ok (.getfield 17, 3) := by decide +kernel
theorem dX2_landHere_16 : decode cX2_landHere 16 = .ok (.iload_n 1, 1) := by decide +kernel
theorem dX2_landHere_17 : decode cX2_landHere 17 = .ok (.aload_n 0, 1) := by decide +kernel
theorem dX2_landHere_18 : decode cX2_landHere 18 = .ok (.getfield 35, 3) := by decide +kernel
theorem dX2_landHere_21 : decode cX2_landHere 21 = .ok (.iastore, 1) := by decide +kernel
theorem dX2_landHere_22 : decode cX2_landHere 22 = .ok (.return_, 1) := by decide +kernel
theorem dX2_worth_0 : decode cX2_worth 0 = .ok (.iconst 0, 1) := by decide +kernel
theorem dX2_worth_1 : decode cX2_worth 1 = .ok (.istore 4, 2) := by decide +kernel
theorem dX2_worth_3 : decode cX2_worth 3 = .ok (.iload 4, 2) := by decide +kernel
theorem dX2_worth_5 : decode cX2_worth 5 = .ok (.aload_n 0, 1) := by decide +kernel
theorem dX2_worth_6 : decode cX2_worth 6 = .ok (.getfield 39, 3) := by decide +kernel
theorem dX2_worth_9 : decode cX2_worth 9 = .ok (.if_icmp .ge 74, 3) := by decide +kernel
theorem dX2_worth_12 : decode cX2_worth 12 = .ok (.aload_n 0, 1) := by decide +kernel
theorem dX2_worth_13 : decode cX2_worth 13 = .ok (.getfield 20, 3) := by decide +kernel
theorem dX2_worth_16 : decode cX2_worth 16 = .ok (.iload 4, 2) := by decide +kernel
theorem dX2_worth_18 : decode cX2_worth 18 = .ok (.iaload, 1) := by decide +kernel
theorem dX2_worth_19 : decode cX2_worth 19 = .ok (.iload_n 1, 1) := by decide +kernel
theorem dX2_worth_20 : decode cX2_worth 20 = .ok (.if_icmp .ne 57, 3) := by decide +kernel
theorem dX2_worth_23 : decode cX2_worth 23 = .ok (.aload_n 0, 1) := by decide +kernel
theorem dX2_worth_24 : decode cX2_worth 24 = .ok (.aload_n 0, 1) := by decide +kernel
theorem dX2_worth_25 : decode cX2_worth 25 = .ok (.getfield 26, 3) := by decide +kernel
theorem dX2_worth_28 : decode cX2_worth 28 = .ok (.iload 4, 2) := by decide +kernel
theorem dX2_worth_30 : decode cX2_worth 30 = .ok (.iaload, 1) := by decide +kernel
theorem dX2_worth_31 : decode cX2_worth 31 = .ok (.aload_n 0, 1) := by decide +kernel
theorem dX2_worth_32 : decode cX2_worth 32 = .ok (.getfield 29, 3) := by decide +kernel
theorem dX2_worth_35 : decode cX2_worth 35 = .ok (.iload 4, 2) := by decide +kernel
theorem dX2_worth_37 : decode cX2_worth 37 = .ok (.iaload, 1) := by decide +kernel
theorem dX2_worth_38 : decode cX2_worth 38 = .ok (.aload_n 2, 1) := by decide +kernel
theorem dX2_worth_39 : decode cX2_worth 39 = .ok (.invokevirtual 46, 3) := by decide +kernel
theorem dX2_worth_42 : decode cX2_worth 42 = .ok (.ifCond .eq 35, 3) := by decide +kernel
theorem dX2_worth_45 : decode cX2_worth 45 = .ok (.aload_n 0, 1) := by decide +kernel
theorem dX2_worth_46 : decode cX2_worth 46 = .ok (.aload_n 0, 1) := by decide +kernel
theorem dX2_worth_47 : decode cX2_worth 47 = .ok (.getfield 23, 3) := by decide +kernel
theorem dX2_worth_50 : decode cX2_worth 50 = .ok (.iload 4, 2) := by decide +kernel
theorem dX2_worth_52 : decode cX2_worth 52 = .ok (.iaload, 1) := by decide +kernel
theorem dX2_worth_53 : decode cX2_worth 53 = .ok (.aload_n 0, 1) := by decide +kernel
theorem dX2_worth_54 : decode cX2_worth 54 = .ok (.getfield 26, 3) := by decide +kernel
theorem dX2_worth_57 : decode cX2_worth 57 = .ok (.iload 4, 2) := by decide +kernel
theorem dX2_worth_59 : decode cX2_worth 59 = .ok (.iaload, 1) := by decide +kernel
theorem dX2_worth_60 : decode cX2_worth 60 = .ok (.aload_n 2, 1) := by decide +kernel
theorem dX2_worth_61 : decode cX2_worth 61 = .ok (.invokevirtual 46, 3) := by decide +kernel
theorem dX2_worth_64 : decode cX2_worth 64 = .ok (.istore 5, 2) := by decide +kernel
theorem dX2_worth_66 : decode cX2_worth 66 = .ok (.iconst 0, 1) := by decide +kernel
theorem dX2_worth_67 : decode cX2_worth 67 = .ok (.iload_n 3, 1) := by decide +kernel
theorem dX2_worth_68 : decode cX2_worth 68 = .ok (.iload 5, 2) := by decide +kernel
theorem dX2_worth_70 : decode cX2_worth 70 = .ok (.invokestatic 50, 3) := by decide +kernel
theorem dX2_worth_73 : decode cX2_worth 73 = .ok (.invokestatic 56, 3) := by decide +kernel
theorem dX2_worth_76 : decode cX2_worth 76 = .ok (.ireturn, 1) := by decide +kernel
theorem dX2_worth_77 : decode cX2_worth 77 = .ok (.iinc 4 1, 3) := by decide +kernel
theorem dX2_worth_80 : decode cX2_worth 80 = .ok (.goto (-77), 3) := by decide +kernel
theorem dX2_worth_83 : decode cX2_worth 83 = .ok (.iconst 0, 1) := by decide +kernel
theorem dX2_worth_84 : decode cX2_worth 84 = .ok (.ireturn, 1) := by decide +kernel
theorem dX2_anyHolds_0 : decode cX2_anyHolds 0 = .ok (.iconst 0, 1) := by decide +kernel
theorem dX2_anyHolds_1 : decode cX2_anyHolds 1 = .ok (.istore_n 3, 1) := by decide +kernel
theorem dX2_anyHolds_2 : decode cX2_anyHolds 2 = .ok (.iload_n 3, 1) := by decide +kernel
theorem dX2_anyHolds_3 : decode cX2_anyHolds 3 = .ok (.aload_n 0, 1) := by decide +kernel
theorem dX2_anyHolds_4 : decode cX2_anyHolds 4 = .ok (.getfield 39, 3) := by decide +kernel
theorem dX2_anyHolds_7 : decode cX2_anyHolds 7 = .ok (.if_icmp .ge 41, 3) := by decide +kernel
theorem dX2_anyHolds_10 : decode cX2_anyHolds 10 = .ok (.aload_n 0, 1) := by decide +kernel
theorem dX2_anyHolds_11 : decode cX2_anyHolds 11 = .ok (.getfield 20, 3) := by decide +kernel
theorem dX2_anyHolds_14 : decode cX2_anyHolds 14 = .ok (.iload_n 3, 1) := by decide +kernel
theorem dX2_anyHolds_15 : decode cX2_anyHolds 15 = .ok (.iaload, 1) := by decide +kernel
theorem dX2_anyHolds_16 : decode cX2_anyHolds 16 = .ok (.iload_n 1, 1) := by decide +kernel
theorem dX2_anyHolds_17 : decode cX2_anyHolds 17 = .ok (.if_icmp .ne 25, 3) := by decide +kernel
theorem dX2_anyHolds_20 : decode cX2_anyHolds 20 = .ok (.aload_n 0, 1) := by decide +kernel
theorem dX2_anyHolds_21 : decode cX2_anyHolds 21 = .ok (.aload_n 0, 1) := by decide +kernel
theorem dX2_anyHolds_22 : decode cX2_anyHolds 22 = .ok (.getfield 26, 3) := by decide +kernel
theorem dX2_anyHolds_25 : decode cX2_anyHolds 25 = .ok (.iload_n 3, 1) := by decide +kernel
theorem dX2_anyHolds_26 : decode cX2_anyHolds 26 = .ok (.iaload, 1) := by decide +kernel
theorem dX2_anyHolds_27 : decode cX2_anyHolds 27 = .ok (.aload_n 0, 1) := by decide +kernel
theorem dX2_anyHolds_28 : decode cX2_anyHolds 28 = .ok (.getfield 29, 3) := by decide +kernel
theorem dX2_anyHolds_31 : decode cX2_anyHolds 31 = .ok (.iload_n 3, 1) := by decide +kernel
theorem dX2_anyHolds_32 : decode cX2_anyHolds 32 = .ok (.iaload, 1) := by decide +kernel
theorem dX2_anyHolds_33 : decode cX2_anyHolds 33 = .ok (.aload_n 2, 1) := by decide +kernel
theorem dX2_anyHolds_34 : decode cX2_anyHolds 34 = .ok (.invokevirtual 46, 3) := by decide +kernel
theorem dX2_anyHolds_37 : decode cX2_anyHolds 37 = .ok (.ifCond .eq 5, 3) := by decide +kernel
theorem dX2_anyHolds_40 : decode cX2_anyHolds 40 = .ok (.iconst 1, 1) := by decide +kernel
theorem dX2_anyHolds_41 : decode cX2_anyHolds 41 = .ok (.ireturn, 1) := by decide +kernel
theorem dX2_anyHolds_42 : decode cX2_anyHolds 42 = .ok (.iinc 3 1, 3) := by decide +kernel
theorem dX2_anyHolds_45 : decode cX2_anyHolds 45 = .ok (.goto (-43), 3) := by decide +kernel
theorem dX2_anyHolds_48 : decode cX2_anyHolds 48 = .ok (.iconst 0, 1) := by decide +kernel
theorem dX2_anyHolds_49 : decode cX2_anyHolds 49 = .ok (.ireturn, 1) := by decide +kernel
theorem dX2_reckon_0 : decode cX2_reckon 0 = .ok (.iconst 0, 1) := by decide +kernel
theorem dX2_reckon_1 : decode cX2_reckon 1 = .ok (.istore 4, 2) := by decide +kernel
theorem dX2_reckon_3 : decode cX2_reckon 3 = .ok (.iload_n 1, 1) := by decide +kernel
theorem dX2_reckon_4 : decode cX2_reckon 4 = .ok (.istore 5, 2) := by decide +kernel
theorem dX2_reckon_6 : decode cX2_reckon 6 = .ok (.iconst 0, 1) := by decide +kernel
theorem dX2_reckon_7 : decode cX2_reckon 7 = .ok (.istore 6, 2) := by decide +kernel
theorem dX2_reckon_9 : decode cX2_reckon 9 = .ok (.iload 6, 2) := by decide +kernel
theorem dX2_reckon_11 : decode cX2_reckon 11 = .ok (.sipush 240, 3) := by decide +kernel
theorem dX2_reckon_14 : decode cX2_reckon 14 = .ok (.if_icmp .ge 265, 3) := by decide +kernel
theorem dX2_reckon_17 : decode cX2_reckon 17 = .ok (.iload 5, 2) := by decide +kernel
theorem dX2_reckon_19 : decode cX2_reckon 19 = .ok (.iload_n 2, 1) := by decide +kernel
theorem dX2_reckon_20 : decode cX2_reckon 20 = .ok (.if_icmp .ge 259, 3) := by decide +kernel
theorem dX2_reckon_23 : decode cX2_reckon 23 = .ok (.iload 5, 2) := by decide +kernel
theorem dX2_reckon_25 : decode cX2_reckon 25 = .ok (.sipush 240, 3) := by decide +kernel
theorem dX2_reckon_28 : decode cX2_reckon 28 = .ok (.if_icmp .ge 251, 3) := by decide +kernel
theorem dX2_reckon_31 : decode cX2_reckon 31 = .ok (.aload_n 0, 1) := by decide +kernel
theorem dX2_reckon_32 : decode cX2_reckon 32 = .ok (.getfield 13, 3) := by decide +kernel
theorem dX2_reckon_35 : decode cX2_reckon 35 = .ok (.iload 5, 2) := by decide +kernel
theorem dX2_reckon_37 : decode cX2_reckon 37 = .ok (.iaload, 1) := by decide +kernel
theorem dX2_reckon_38 : decode cX2_reckon 38 = .ok (.istore 7, 2) := by decide +kernel
theorem dX2_reckon_40 : decode cX2_reckon 40 = .ok (.aload_n 0, 1) := by decide +kernel
theorem dX2_reckon_41 : decode cX2_reckon 41 = .ok (.getfield 17, 3) := by decide +kernel
theorem dX2_reckon_44 : decode cX2_reckon 44 = .ok (.iload 5, 2) := by decide +kernel
theorem dX2_reckon_46 : decode cX2_reckon 46 = .ok (.iaload, 1) := by decide +kernel
theorem dX2_reckon_47 : decode cX2_reckon 47 = .ok (.istore 8, 2) := by decide +kernel
theorem dX2_reckon_49 : decode cX2_reckon 49 = .ok (.iinc 5 1, 3) := by decide +kernel
theorem dX2_reckon_52 : decode cX2_reckon 52 = .ok (.iload 7, 2) := by decide +kernel
theorem dX2_reckon_54 : decode cX2_reckon 54 = .ok (.ifCond .eq 9, 3) := by decide +kernel
theorem dX2_reckon_57 : decode cX2_reckon 57 = .ok (.iload 7, 2) := by decide +kernel
theorem dX2_reckon_59 : decode cX2_reckon 59 = .ok (.iconst 1, 1) := by decide +kernel
theorem dX2_reckon_60 : decode cX2_reckon 60 = .ok (.if_icmp .ne 59, 3) := by decide +kernel
theorem dX2_reckon_63 : decode cX2_reckon 63 = .ok (.iload 4, 2) := by decide +kernel
theorem dX2_reckon_65 : decode cX2_reckon 65 = .ok (.bipush 32, 2) := by decide +kernel
theorem dX2_reckon_67 : decode cX2_reckon 67 = .ok (.if_icmp .ge 22, 3) := by decide +kernel
theorem dX2_reckon_70 : decode cX2_reckon 70 = .ok (.iload 7, 2) := by decide +kernel
theorem dX2_reckon_72 : decode cX2_reckon 72 = .ok (.iconst 1, 1) := by decide +kernel
theorem dX2_reckon_73 : decode cX2_reckon 73 = .ok (.if_icmp .ne 18, 3) := by decide +kernel
theorem dX2_reckon_76 : decode cX2_reckon 76 = .ok (.iload 8, 2) := by decide +kernel
theorem dX2_reckon_78 : decode cX2_reckon 78 = .ok (.iconst 0, 1) := by decide +kernel
theorem dX2_reckon_79 : decode cX2_reckon 79 = .ok (.aload_n 3, 1) := by decide +kernel
theorem dX2_reckon_80 : decode cX2_reckon 80 = .ok (.arraylength, 1) := by decide +kernel
theorem dX2_reckon_81 : decode cX2_reckon 81 = .ok (.iconst 1, 1) := by decide +kernel
theorem dX2_reckon_82 : decode cX2_reckon 82 = .ok (.isub, 1) := by decide +kernel
theorem dX2_reckon_83 : decode cX2_reckon 83 = .ok (.invokestatic 59, 3) := by decide +kernel
theorem dX2_reckon_86 : decode cX2_reckon 86 = .ok (.ifCond .ne 5, 3) := by decide +kernel
theorem dX2_reckon_89 : decode cX2_reckon 89 = .ok (.iconst 0, 1) := by decide +kernel
theorem dX2_reckon_90 : decode cX2_reckon 90 = .ok (.ireturn, 1) := by decide +kernel
theorem dX2_reckon_91 : decode cX2_reckon 91 = .ok (.aload_n 0, 1) := by decide +kernel
theorem dX2_reckon_92 : decode cX2_reckon 92 = .ok (.getfield 32, 3) := by decide +kernel
theorem dX2_reckon_95 : decode cX2_reckon 95 = .ok (.iload 4, 2) := by decide +kernel
theorem dX2_reckon_97 : decode cX2_reckon 97 = .ok (.iload 7, 2) := by decide +kernel
theorem dX2_reckon_99 : decode cX2_reckon 99 = .ok (.iconst 1, 1) := by decide +kernel
theorem dX2_reckon_100 : decode cX2_reckon 100 = .ok (.if_icmp .ne 10, 3) := by decide +kernel
theorem dX2_reckon_103 : decode cX2_reckon 103 = .ok (.aload_n 3, 1) := by decide +kernel
theorem dX2_reckon_104 : decode cX2_reckon 104 = .ok (.iload 8, 2) := by decide +kernel
theorem dX2_reckon_106 : decode cX2_reckon 106 = .ok (.iaload, 1) := by decide +kernel
theorem dX2_reckon_107 : decode cX2_reckon 107 = .ok (.goto 5, 3) := by decide +kernel
theorem dX2_reckon_110 : decode cX2_reckon 110 = .ok (.iload 8, 2) := by decide +kernel
theorem dX2_reckon_112 : decode cX2_reckon 112 = .ok (.iastore, 1) := by decide +kernel
theorem dX2_reckon_113 : decode cX2_reckon 113 = .ok (.iinc 4 1, 3) := by decide +kernel
theorem dX2_reckon_116 : decode cX2_reckon 116 = .ok (.goto 157, 3) := by decide +kernel
theorem dX2_reckon_119 : decode cX2_reckon 119 = .ok (.iload 7, 2) := by decide +kernel
theorem dX2_reckon_121 : decode cX2_reckon 121 = .ok (.iconst 5, 1) := by decide +kernel
theorem dX2_reckon_122 : decode cX2_reckon 122 = .ok (.if_icmp .lt 73, 3) := by decide +kernel
theorem dX2_reckon_125 : decode cX2_reckon 125 = .ok (.iload 4, 2) := by decide +kernel
theorem dX2_reckon_127 : decode cX2_reckon 127 = .ok (.iconst 2, 1) := by decide +kernel
theorem dX2_reckon_128 : decode cX2_reckon 128 = .ok (.if_icmp .lt 29, 3) := by decide +kernel
theorem dX2_reckon_131 : decode cX2_reckon 131 = .ok (.aload_n 0, 1) := by decide +kernel
theorem dX2_reckon_132 : decode cX2_reckon 132 = .ok (.getfield 32, 3) := by decide +kernel
theorem dX2_reckon_135 : decode cX2_reckon 135 = .ok (.iload 4, 2) := by decide +kernel
theorem dX2_reckon_137 : decode cX2_reckon 137 = .ok (.iconst 1, 1) := by decide +kernel
theorem dX2_reckon_138 : decode cX2_reckon 138 = .ok (.isub, 1) := by decide +kernel
theorem dX2_reckon_139 : decode cX2_reckon 139 = .ok (.iaload, 1) := by decide +kernel
theorem dX2_reckon_140 : decode cX2_reckon 140 = .ok (.ifCond .ne 19, 3) := by decide +kernel
theorem dX2_reckon_143 : decode cX2_reckon 143 = .ok (.iload 7, 2) := by decide +kernel
theorem dX2_reckon_145 : decode cX2_reckon 145 = .ok (.bipush 8, 2) := by decide +kernel
theorem dX2_reckon_147 : decode cX2_reckon 147 = .ok (.if_icmp .eq 10, 3) := by decide +kernel
theorem dX2_reckon_150 : decode cX2_reckon 150 = .ok (.iload 7, 2) := by decide +kernel
theorem dX2_reckon_152 : decode cX2_reckon 152 = .ok (.bipush 9, 2) := by decide +kernel
theorem dX2_reckon_154 : decode cX2_reckon 154 = .ok (.if_icmp .ne 5, 3) := by decide +kernel
theorem dX2_reckon_157 : decode cX2_reckon 157 = .ok (.iconst 0, 1) := by decide +kernel
theorem dX2_reckon_158 : decode cX2_reckon 158 = .ok (.ireturn, 1) := by decide +kernel
theorem dX2_reckon_159 : decode cX2_reckon 159 = .ok (.iinc 4 (-1), 3) := by decide +kernel
theorem dX2_reckon_162 : decode cX2_reckon 162 = .ok (.aload_n 0, 1) := by decide +kernel
theorem dX2_reckon_163 : decode cX2_reckon 163 = .ok (.getfield 32, 3) := by decide +kernel
theorem dX2_reckon_166 : decode cX2_reckon 166 = .ok (.iload 4, 2) := by decide +kernel
theorem dX2_reckon_168 : decode cX2_reckon 168 = .ok (.iconst 1, 1) := by decide +kernel
theorem dX2_reckon_169 : decode cX2_reckon 169 = .ok (.isub, 1) := by decide +kernel
theorem dX2_reckon_170 : decode cX2_reckon 170 = .ok (.iload 7, 2) := by decide +kernel
theorem dX2_reckon_172 : decode cX2_reckon 172 = .ok (.aload_n 0, 1) := by decide +kernel
theorem dX2_reckon_173 : decode cX2_reckon 173 = .ok (.getfield 32, 3) := by decide +kernel
theorem dX2_reckon_176 : decode cX2_reckon 176 = .ok (.iload 4, 2) := by decide +kernel
theorem dX2_reckon_178 : decode cX2_reckon 178 = .ok (.iconst 1, 1) := by decide +kernel
theorem dX2_reckon_179 : decode cX2_reckon 179 = .ok (.isub, 1) := by decide +kernel
theorem dX2_reckon_180 : decode cX2_reckon 180 = .ok (.iaload, 1) := by decide +kernel
theorem dX2_reckon_181 : decode cX2_reckon 181 = .ok (.aload_n 0, 1) := by decide +kernel
theorem dX2_reckon_182 : decode cX2_reckon 182 = .ok (.getfield 32, 3) := by decide +kernel
theorem dX2_reckon_185 : decode cX2_reckon 185 = .ok (.iload 4, 2) := by decide +kernel
theorem dX2_reckon_187 : decode cX2_reckon 187 = .ok (.iaload, 1) := by decide +kernel
theorem dX2_reckon_188 : decode cX2_reckon 188 = .ok (.invokestatic 63, 3) := by decide +kernel
theorem dX2_reckon_191 : decode cX2_reckon 191 = .ok (.iastore, 1) := by decide +kernel
theorem dX2_reckon_192 : decode cX2_reckon 192 = .ok (.goto 81, 3) := by decide +kernel
theorem dX2_reckon_195 : decode cX2_reckon 195 = .ok (.iload 4, 2) := by decide +kernel
theorem dX2_reckon_197 : decode cX2_reckon 197 = .ok (.iconst 1, 1) := by decide +kernel
theorem dX2_reckon_198 : decode cX2_reckon 198 = .ok (.if_icmp .ge 5, 3) := by decide +kernel
theorem dX2_reckon_201 : decode cX2_reckon 201 = .ok (.iconst 0, 1) := by decide +kernel
theorem dX2_reckon_202 : decode cX2_reckon 202 = .ok (.ireturn, 1) := by decide +kernel
theorem dX2_reckon_203 : decode cX2_reckon 203 = .ok (.iload 7, 2) := by decide +kernel
theorem dX2_reckon_205 : decode cX2_reckon 205 = .ok (.iconst 2, 1) := by decide +kernel
theorem dX2_reckon_206 : decode cX2_reckon 206 = .ok (.if_icmp .ne 26, 3) := by decide +kernel
theorem dX2_reckon_209 : decode cX2_reckon 209 = .ok (.aload_n 0, 1) := by decide +kernel
theorem dX2_reckon_210 : decode cX2_reckon 210 = .ok (.getfield 32, 3) := by decide +kernel
theorem dX2_reckon_213 : decode cX2_reckon 213 = .ok (.iload 4, 2) := by decide +kernel
theorem dX2_reckon_215 : decode cX2_reckon 215 = .ok (.iconst 1, 1) := by decide +kernel
theorem dX2_reckon_216 : decode cX2_reckon 216 = .ok (.isub, 1) := by decide +kernel
theorem dX2_reckon_217 : decode cX2_reckon 217 = .ok (.iconst 1, 1) := by decide +kernel
theorem dX2_reckon_218 : decode cX2_reckon 218 = .ok (.aload_n 0, 1) := by decide +kernel
theorem dX2_reckon_219 : decode cX2_reckon 219 = .ok (.getfield 32, 3) := by decide +kernel
theorem dX2_reckon_222 : decode cX2_reckon 222 = .ok (.iload 4, 2) := by decide +kernel
theorem dX2_reckon_224 : decode cX2_reckon 224 = .ok (.iconst 1, 1) := by decide +kernel
theorem dX2_reckon_225 : decode cX2_reckon 225 = .ok (.isub, 1) := by decide +kernel
theorem dX2_reckon_226 : decode cX2_reckon 226 = .ok (.iaload, 1) := by decide +kernel
theorem dX2_reckon_227 : decode cX2_reckon 227 = .ok (.isub, 1) := by decide +kernel
theorem dX2_reckon_228 : decode cX2_reckon 228 = .ok (.iastore, 1) := by decide +kernel
theorem dX2_reckon_229 : decode cX2_reckon 229 = .ok (.goto 44, 3) := by decide +kernel
theorem dX2_reckon_232 : decode cX2_reckon 232 = .ok (.aload_n 0, 1) := by decide +kernel
theorem dX2_reckon_233 : decode cX2_reckon 233 = .ok (.getfield 32, 3) := by decide +kernel
theorem dX2_reckon_236 : decode cX2_reckon 236 = .ok (.iload 4, 2) := by decide +kernel
theorem dX2_reckon_238 : decode cX2_reckon 238 = .ok (.iconst 1, 1) := by decide +kernel
theorem dX2_reckon_239 : decode cX2_reckon 239 = .ok (.isub, 1) := by decide +kernel
theorem dX2_reckon_240 : decode cX2_reckon 240 = .ok (.iaload, 1) := by decide +kernel
theorem dX2_reckon_241 : decode cX2_reckon 241 = .ok (.ifCond .eq 7, 3) := by decide +kernel
theorem dX2_reckon_244 : decode cX2_reckon 244 = .ok (.iconst 1, 1) := by decide +kernel
theorem dX2_reckon_245 : decode cX2_reckon 245 = .ok (.goto 4, 3) := by decide +kernel
theorem dX2_reckon_248 : decode cX2_reckon 248 = .ok (.iconst 0, 1) := by decide +kernel
theorem dX2_reckon_249 : decode cX2_reckon 249 = .ok (.iload 7, 2) := by decide +kernel
theorem dX2_reckon_251 : decode cX2_reckon 251 = .ok (.iconst 4, 1) := by decide +kernel
theorem dX2_reckon_252 : decode cX2_reckon 252 = .ok (.if_icmp .ne 7, 3) := by decide +kernel
theorem dX2_reckon_255 : decode cX2_reckon 255 = .ok (.iconst 1, 1) := by decide +kernel
theorem dX2_reckon_256 : decode cX2_reckon 256 = .ok (.goto 4, 3) := by decide +kernel
theorem dX2_reckon_259 : decode cX2_reckon 259 = .ok (.iconst 0, 1) := by decide +kernel
theorem dX2_reckon_260 : decode cX2_reckon 260 = .ok (.if_icmp .ne 10, 3) := by decide +kernel
theorem dX2_reckon_263 : decode cX2_reckon 263 = .ok (.iload 8, 2) := by decide +kernel
theorem dX2_reckon_265 : decode cX2_reckon 265 = .ok (.istore 5, 2) := by decide +kernel
theorem dX2_reckon_267 : decode cX2_reckon 267 = .ok (.goto 6, 3) := by decide +kernel
theorem dX2_reckon_270 : decode cX2_reckon 270 = .ok (.iinc 4 (-1), 3) := by decide +kernel
theorem dX2_reckon_273 : decode cX2_reckon 273 = .ok (.iinc 6 1, 3) := by decide +kernel
theorem dX2_reckon_276 : decode cX2_reckon 276 = .ok (.goto (-267), 3) := by decide +kernel
theorem dX2_reckon_279 : decode cX2_reckon 279 = .ok (.iload 4, 2) := by decide +kernel
theorem dX2_reckon_281 : decode cX2_reckon 281 = .ok (.ifCond .le 15, 3) := by decide +kernel
theorem dX2_reckon_284 : decode cX2_reckon 284 = .ok (.aload_n 0, 1) := by decide +kernel
theorem dX2_reckon_285 : decode cX2_reckon 285 = .ok (.getfield 32, 3) := by decide +kernel
theorem dX2_reckon_288 : decode cX2_reckon 288 = .ok (.iload 4, 2) := by decide +kernel
theorem dX2_reckon_290 : decode cX2_reckon 290 = .ok (.iconst 1, 1) := by decide +kernel
theorem dX2_reckon_291 : decode cX2_reckon 291 = .ok (.isub, 1) := by decide +kernel
theorem dX2_reckon_292 : decode cX2_reckon 292 = .ok (.iaload, 1) := by decide +kernel
theorem dX2_reckon_293 : decode cX2_reckon 293 = .ok (.goto 4, 3) := by decide +kernel
theorem dX2_reckon_296 : decode cX2_reckon 296 = .ok (.iconst 0, 1) := by decide +kernel
theorem dX2_reckon_297 : decode cX2_reckon 297 = .ok (.ireturn, 1) := by decide +kernel
theorem dX2_ofTwo_0 : decode cX2_ofTwo 0 = .ok (.iload_n 0, 1) := by decide +kernel
theorem dX2_ofTwo_1 : decode cX2_ofTwo 1 = .ok (.tableswitch 101 5 11 #[43, 47, 51, 55, 67, 79, 90], 43) := by decide +kernel
theorem dX2_ofTwo_44 : decode cX2_ofTwo 44 = .ok (.iload_n 1, 1) := by decide +kernel
theorem dX2_ofTwo_45 : decode cX2_ofTwo 45 = .ok (.iload_n 2, 1) := by decide +kernel
theorem dX2_ofTwo_46 : decode cX2_ofTwo 46 = .ok (.iadd, 1) := by decide +kernel
theorem dX2_ofTwo_47 : decode cX2_ofTwo 47 = .ok (.ireturn, 1) := by decide +kernel
theorem dX2_ofTwo_48 : decode cX2_ofTwo 48 = .ok (.iload_n 1, 1) := by decide +kernel
theorem dX2_ofTwo_49 : decode cX2_ofTwo 49 = .ok (.iload_n 2, 1) := by decide +kernel
theorem dX2_ofTwo_50 : decode cX2_ofTwo 50 = .ok (.isub, 1) := by decide +kernel
theorem dX2_ofTwo_51 : decode cX2_ofTwo 51 = .ok (.ireturn, 1) := by decide +kernel
theorem dX2_ofTwo_52 : decode cX2_ofTwo 52 = .ok (.iload_n 1, 1) := by decide +kernel
theorem dX2_ofTwo_53 : decode cX2_ofTwo 53 = .ok (.iload_n 2, 1) := by decide +kernel
theorem dX2_ofTwo_54 : decode cX2_ofTwo 54 = .ok (.imul, 1) := by decide +kernel
theorem dX2_ofTwo_55 : decode cX2_ofTwo 55 = .ok (.ireturn, 1) := by decide +kernel
theorem dX2_ofTwo_56 : decode cX2_ofTwo 56 = .ok (.iload_n 2, 1) := by decide +kernel
theorem dX2_ofTwo_57 : decode cX2_ofTwo 57 = .ok (.ifCond .ne 7, 3) := by decide +kernel
theorem dX2_ofTwo_60 : decode cX2_ofTwo 60 = .ok (.iconst 0, 1) := by decide +kernel
theorem dX2_ofTwo_61 : decode cX2_ofTwo 61 = .ok (.goto 6, 3) := by decide +kernel
theorem dX2_ofTwo_64 : decode cX2_ofTwo 64 = .ok (.iload_n 1, 1) := by decide +kernel
theorem dX2_ofTwo_65 : decode cX2_ofTwo 65 = .ok (.iload_n 2, 1) := by decide +kernel
theorem dX2_ofTwo_66 : decode cX2_ofTwo 66 = .ok (.idiv, 1) := by decide +kernel
theorem dX2_ofTwo_67 : decode cX2_ofTwo 67 = .ok (.ireturn, 1) := by decide +kernel
theorem dX2_ofTwo_68 : decode cX2_ofTwo 68 = .ok (.iload_n 2, 1) := by decide +kernel
theorem dX2_ofTwo_69 : decode cX2_ofTwo 69 = .ok (.ifCond .ne 7, 3) := by decide +kernel
theorem dX2_ofTwo_72 : decode cX2_ofTwo 72 = .ok (.iconst 0, 1) := by decide +kernel
theorem dX2_ofTwo_73 : decode cX2_ofTwo 73 = .ok (.goto 6, 3) := by decide +kernel
theorem dX2_ofTwo_76 : decode cX2_ofTwo 76 = .ok (.iload_n 1, 1) := by decide +kernel
theorem dX2_ofTwo_77 : decode cX2_ofTwo 77 = .ok (.iload_n 2, 1) := by decide +kernel
theorem dX2_ofTwo_78 : decode cX2_ofTwo 78 = .ok (.irem, 1) := by decide +kernel
theorem dX2_ofTwo_79 : decode cX2_ofTwo 79 = .ok (.ireturn, 1) := by decide +kernel
theorem dX2_ofTwo_80 : decode cX2_ofTwo 80 = .ok (.iload_n 1, 1) := by decide +kernel
theorem dX2_ofTwo_81 : decode cX2_ofTwo 81 = .ok (.iload_n 2, 1) := by decide +kernel
theorem dX2_ofTwo_82 : decode cX2_ofTwo 82 = .ok (.if_icmp .ge 7, 3) := by decide +kernel
theorem dX2_ofTwo_85 : decode cX2_ofTwo 85 = .ok (.iconst 1, 1) := by decide +kernel
theorem dX2_ofTwo_86 : decode cX2_ofTwo 86 = .ok (.goto 4, 3) := by decide +kernel
theorem dX2_ofTwo_89 : decode cX2_ofTwo 89 = .ok (.iconst 0, 1) := by decide +kernel
theorem dX2_ofTwo_90 : decode cX2_ofTwo 90 = .ok (.ireturn, 1) := by decide +kernel
theorem dX2_ofTwo_91 : decode cX2_ofTwo 91 = .ok (.iload_n 1, 1) := by decide +kernel
theorem dX2_ofTwo_92 : decode cX2_ofTwo 92 = .ok (.iload_n 2, 1) := by decide +kernel
theorem dX2_ofTwo_93 : decode cX2_ofTwo 93 = .ok (.if_icmp .le 7, 3) := by decide +kernel
theorem dX2_ofTwo_96 : decode cX2_ofTwo 96 = .ok (.iconst 1, 1) := by decide +kernel
theorem dX2_ofTwo_97 : decode cX2_ofTwo 97 = .ok (.goto 4, 3) := by decide +kernel
theorem dX2_ofTwo_100 : decode cX2_ofTwo 100 = .ok (.iconst 0, 1) := by decide +kernel
theorem dX2_ofTwo_101 : decode cX2_ofTwo 101 = .ok (.ireturn, 1) := by decide +kernel
theorem dX2_ofTwo_102 : decode cX2_ofTwo 102 = .ok (.iload_n 1, 1) := by decide +kernel
theorem dX2_ofTwo_103 : decode cX2_ofTwo 103 = .ok (.iload_n 2, 1) := by decide +kernel
theorem dX2_ofTwo_104 : decode cX2_ofTwo 104 = .ok (.if_icmp .ne 7, 3) := by decide +kernel
theorem dX2_ofTwo_107 : decode cX2_ofTwo 107 = .ok (.iconst 1, 1) := by decide +kernel
theorem dX2_ofTwo_108 : decode cX2_ofTwo 108 = .ok (.goto 4, 3) := by decide +kernel
theorem dX2_ofTwo_111 : decode cX2_ofTwo 111 = .ok (.iconst 0, 1) := by decide +kernel
theorem dX2_ofTwo_112 : decode cX2_ofTwo 112 = .ok (.ireturn, 1) := by decide +kernel
theorem dX3_init_0 : decode cX3_init 0 = .ok (.aload_n 0, 1) := by decide +kernel
theorem dX3_init_1 : decode cX3_init 1 = .ok (.invokespecial 3, 3) := by decide +kernel
theorem dX3_init_4 : decode cX3_init 4 = .ok (.aload_n 0, 1) := by decide +kernel
theorem dX3_init_5 : decode cX3_init 5 = .ok (.aload_n 1, 1) := by decide +kernel
theorem dX3_init_6 : decode cX3_init 6 = .ok (.putfield 9, 3) := by decide +kernel
theorem dX3_init_9 : decode cX3_init 9 = .ok (.return_, 1) := by decide +kernel
theorem dX3_readInto_0 : decode cX3_readInto 0 = .ok (.aload_n 1, 1) := by decide +kernel
theorem dX3_readInto_1 : decode cX3_readInto 1 = .ok (.invokevirtual 15, 3) := by decide +kernel
theorem dX3_readInto_4 : decode cX3_readInto 4 = .ok (.aload_n 0, 1) := by decide +kernel
theorem dX3_readInto_5 : decode cX3_readInto 5 = .ok (.aload_n 1, 1) := by decide +kernel
theorem dX3_readInto_6 : decode cX3_readInto 6 = .ok (.invokevirtual 20, 3) := by decide +kernel
theorem dX3_readInto_9 : decode cX3_readInto 9 = .ok (.iconst 0, 1) := by decide +kernel
theorem dX3_readInto_10 : decode cX3_readInto 10 = .ok (.istore_n 2, 1) := by decide +kernel
theorem dX3_readInto_11 : decode cX3_readInto 11 = .ok (.iload_n 2, 1) := by decide +kernel
theorem dX3_readInto_12 : decode cX3_readInto 12 = .ok (.sipush 240, 3) := by decide +kernel
theorem dX3_readInto_15 : decode cX3_readInto 15 = .ok (.if_icmp .ge 26, 3) := by decide +kernel
theorem dX3_readInto_18 : decode cX3_readInto 18 = .ok (.aload_n 0, 1) := by decide +kernel
theorem dX3_readInto_19 : decode cX3_readInto 19 = .ok (.getfield 9, 3) := by decide +kernel
theorem dX3_readInto_22 : decode cX3_readInto 22 = .ok (.bipush 59, 2) := by decide +kernel
theorem dX3_readInto_24 : decode cX3_readInto 24 = .ok (.invokevirtual 26, 3) := by decide +kernel
theorem dX3_readInto_27 : decode cX3_readInto 27 = .ok (.ifCond .eq 14, 3) := by decide +kernel
theorem dX3_readInto_30 : decode cX3_readInto 30 = .ok (.aload_n 0, 1) := by decide +kernel
theorem dX3_readInto_31 : decode cX3_readInto 31 = .ok (.aload_n 1, 1) := by decide +kernel
theorem dX3_readInto_32 : decode cX3_readInto 32 = .ok (.invokevirtual 20, 3) := by decide +kernel
theorem dX3_readInto_35 : decode cX3_readInto 35 = .ok (.iinc 2 1, 3) := by decide +kernel
theorem dX3_readInto_38 : decode cX3_readInto 38 = .ok (.goto (-27), 3) := by decide +kernel
theorem dX3_readInto_41 : decode cX3_readInto 41 = .ok (.aload_n 0, 1) := by decide +kernel
theorem dX3_readInto_42 : decode cX3_readInto 42 = .ok (.getfield 9, 3) := by decide +kernel
theorem dX3_readInto_45 : decode cX3_readInto 45 = .ok (.invokevirtual 30, 3) := by decide +kernel
theorem dX3_readInto_48 : decode cX3_readInto 48 = .ok (.return_, 1) := by decide +kernel
theorem dX3_readRule_0 : decode cX3_readRule 0 = .ok (.aload_n 1, 1) := by decide +kernel
theorem dX3_readRule_1 : decode cX3_readRule 1 = .ok (.invokevirtual 33, 3) := by decide +kernel
theorem dX3_readRule_4 : decode cX3_readRule 4 = .ok (.ifCond .eq 31, 3) := by decide +kernel
theorem dX3_readRule_7 : decode cX3_readRule 7 = .ok (.aload_n 0, 1) := by decide +kernel
theorem dX3_readRule_8 : decode cX3_readRule 8 = .ok (.getfield 9, 3) := by decide +kernel
theorem dX3_readRule_11 : decode cX3_readRule 11 = .ok (.ldc 37, 2) := by decide +kernel
theorem dX3_readRule_13 : decode cX3_readRule 13 = .ok (.invokevirtual 39, 3) := by decide +kernel
theorem dX3_readRule_16 : decode cX3_readRule 16 = .ok (.iconst (-1), 1) := by decide +kernel
theorem dX3_readRule_17 : decode cX3_readRule 17 = .ok (.if_icmp .eq 18, 3) := by decide +kernel
theorem dX3_readRule_20 : decode cX3_readRule 20 = .ok (.aload_n 0, 1) := by decide +kernel
theorem dX3_readRule_21 : decode cX3_readRule 21 = .ok (.getfield 9, 3) := by decide +kernel
theorem dX3_readRule_24 : decode cX3_readRule 24 = .ok (.iconst 4, 1) := by decide +kernel
theorem dX3_readRule_25 : decode cX3_readRule 25 = .ok (.aload_n 0, 1) := by decide +kernel
theorem dX3_readRule_26 : decode cX3_readRule 26 = .ok (.getfield 9, 3) := by decide +kernel
theorem dX3_readRule_29 : decode cX3_readRule 29 = .ok (.getfield 43, 3) := by decide +kernel
theorem dX3_readRule_32 : decode cX3_readRule 32 = .ok (.invokevirtual 47, 3) := by decide +kernel
theorem dX3_readRule_35 : decode cX3_readRule 35 = .ok (.aload_n 0, 1) := by decide +kernel
theorem dX3_readRule_36 : decode cX3_readRule 36 = .ok (.getfield 9, 3) := by decide +kernel
theorem dX3_readRule_39 : decode cX3_readRule 39 = .ok (.ldc 37, 2) := by decide +kernel
theorem dX3_readRule_41 : decode cX3_readRule 41 = .ok (.invokevirtual 51, 3) := by decide +kernel
theorem dX3_readRule_44 : decode cX3_readRule 44 = .ok (.istore_n 2, 1) := by decide +kernel
theorem dX3_readRule_45 : decode cX3_readRule 45 = .ok (.aload_n 1, 1) := by decide +kernel
theorem dX3_readRule_46 : decode cX3_readRule 46 = .ok (.iload_n 2, 1) := by decide +kernel
theorem dX3_readRule_47 : decode cX3_readRule 47 = .ok (.invokevirtual 54, 3) := by decide +kernel
theorem dX3_readRule_50 : decode cX3_readRule 50 = .ok (.iload_n 2, 1) := by decide +kernel
theorem dX3_readRule_51 : decode cX3_readRule 51 = .ok (.iconst 2, 1) := by decide +kernel
theorem dX3_readRule_52 : decode cX3_readRule 52 = .ok (.if_icmp .eq 9, 3) := by decide +kernel
theorem dX3_readRule_55 : decode cX3_readRule 55 = .ok (.aload_n 0, 1) := by decide +kernel
theorem dX3_readRule_56 : decode cX3_readRule 56 = .ok (.aload_n 1, 1) := by decide +kernel
theorem dX3_readRule_57 : decode cX3_readRule 57 = .ok (.iconst 0, 1) := by decide +kernel
theorem dX3_readRule_58 : decode cX3_readRule 58 = .ok (.invokevirtual 58, 3) := by decide +kernel
theorem dX3_readRule_61 : decode cX3_readRule 61 = .ok (.aload_n 1, 1) := by decide +kernel
theorem dX3_readRule_62 : decode cX3_readRule 62 = .ok (.invokevirtual 62, 3) := by decide +kernel
theorem dX3_readRule_65 : decode cX3_readRule 65 = .ok (.aload_n 0, 1) := by decide +kernel
theorem dX3_readRule_66 : decode cX3_readRule 66 = .ok (.getfield 9, 3) := by decide +kernel
theorem dX3_readRule_69 : decode cX3_readRule 69 = .ok (.bipush 40, 2) := by decide +kernel
theorem dX3_readRule_71 : decode cX3_readRule 71 = .ok (.invokevirtual 65, 3) := by decide +kernel
theorem dX3_readRule_74 : decode cX3_readRule 74 = .ok (.ifCond .eq 19, 3) := by decide +kernel
theorem dX3_readRule_77 : decode cX3_readRule 77 = .ok (.aload_n 0, 1) := by decide +kernel
theorem dX3_readRule_78 : decode cX3_readRule 78 = .ok (.aload_n 1, 1) := by decide +kernel
theorem dX3_readRule_79 : decode cX3_readRule 79 = .ok (.iconst 1, 1) := by decide +kernel
theorem dX3_readRule_80 : decode cX3_readRule 80 = .ok (.invokevirtual 68, 3) := by decide +kernel
theorem dX3_readRule_83 : decode cX3_readRule 83 = .ok (.aload_n 0, 1) := by decide +kernel
theorem dX3_readRule_84 : decode cX3_readRule 84 = .ok (.getfield 9, 3) := by decide +kernel
theorem dX3_readRule_87 : decode cX3_readRule 87 = .ok (.bipush 41, 2) := by decide +kernel
theorem dX3_readRule_89 : decode cX3_readRule 89 = .ok (.invokevirtual 65, 3) := by decide +kernel
theorem dX3_readRule_92 : decode cX3_readRule 92 = .ok (.pop, 1) := by decide +kernel
theorem dX3_readRule_93 : decode cX3_readRule 93 = .ok (.aload_n 1, 1) := by decide +kernel
theorem dX3_readRule_94 : decode cX3_readRule 94 = .ok (.invokevirtual 71, 3) := by decide +kernel
theorem dX3_readRule_97 : decode cX3_readRule 97 = .ok (.return_, 1) := by decide +kernel
theorem dX3_readAnyOf_0 : decode cX3_readAnyOf 0 = .ok (.aload_n 0, 1) := by decide +kernel
theorem dX3_readAnyOf_1 : decode cX3_readAnyOf 1 = .ok (.aload_n 1, 1) := by decide +kernel
theorem dX3_readAnyOf_2 : decode cX3_readAnyOf 2 = .ok (.iload_n 2, 1) := by decide +kernel
theorem dX3_readAnyOf_3 : decode cX3_readAnyOf 3 = .ok (.invokevirtual 74, 3) := by decide +kernel
theorem dX3_readAnyOf_6 : decode cX3_readAnyOf 6 = .ok (.iconst 0, 1) := by decide +kernel
theorem dX3_readAnyOf_7 : decode cX3_readAnyOf 7 = .ok (.istore_n 3, 1) := by decide +kernel
theorem dX3_readAnyOf_8 : decode cX3_readAnyOf 8 = .ok (.iload_n 3, 1) := by decide +kernel
theorem dX3_readAnyOf_9 : decode cX3_readAnyOf 9 = .ok (.sipush 240, 3) := by decide +kernel
theorem dX3_readAnyOf_12 : decode cX3_readAnyOf 12 = .ok (.if_icmp .ge 41, 3) := by decide +kernel
theorem dX3_readAnyOf_15 : decode cX3_readAnyOf 15 = .ok (.aload_n 0, 1) := by decide +kernel
theorem dX3_readAnyOf_16 : decode cX3_readAnyOf 16 = .ok (.getfield 9, 3) := by decide +kernel
theorem dX3_readAnyOf_19 : decode cX3_readAnyOf 19 = .ok (.bipush 124, 2) := by decide +kernel
theorem dX3_readAnyOf_21 : decode cX3_readAnyOf 21 = .ok (.invokevirtual 26, 3) := by decide +kernel
theorem dX3_readAnyOf_24 : decode cX3_readAnyOf 24 = .ok (.ifCond .eq 29, 3) := by decide +kernel
theorem dX3_readAnyOf_27 : decode cX3_readAnyOf 27 = .ok (.aload_n 1, 1) := by decide +kernel
theorem dX3_readAnyOf_28 : decode cX3_readAnyOf 28 = .ok (.iconst 4, 1) := by decide +kernel
theorem dX3_readAnyOf_29 : decode cX3_readAnyOf 29 = .ok (.iconst 0, 1) := by decide +kernel
theorem dX3_readAnyOf_30 : decode cX3_readAnyOf 30 = .ok (.invokevirtual 77, 3) := by decide +kernel
theorem dX3_readAnyOf_33 : decode cX3_readAnyOf 33 = .ok (.istore 4, 2) := by decide +kernel
theorem dX3_readAnyOf_35 : decode cX3_readAnyOf 35 = .ok (.aload_n 0, 1) := by decide +kernel
theorem dX3_readAnyOf_36 : decode cX3_readAnyOf 36 = .ok (.aload_n 1, 1) := by decide +kernel
theorem dX3_readAnyOf_37 : decode cX3_readAnyOf 37 = .ok (.iload_n 2, 1) := by decide +kernel
theorem dX3_readAnyOf_38 : decode cX3_readAnyOf 38 = .ok (.invokevirtual 74, 3) := by decide +kernel
theorem dX3_readAnyOf_41 : decode cX3_readAnyOf 41 = .ok (.aload_n 1, 1) := by decide +kernel
theorem dX3_readAnyOf_42 : decode cX3_readAnyOf 42 = .ok (.iload 4, 2) := by decide +kernel
theorem dX3_readAnyOf_44 : decode cX3_readAnyOf 44 = .ok (.invokevirtual 81, 3) := by decide +kernel
theorem dX3_readAnyOf_47 : decode cX3_readAnyOf 47 = .ok (.iinc 3 1, 3) := by decide +kernel
theorem dX3_readAnyOf_50 : decode cX3_readAnyOf 50 = .ok (.goto (-42), 3) := by decide +kernel
theorem dX3_readAnyOf_53 : decode cX3_readAnyOf 53 = .ok (.return_, 1) := by decide +kernel
theorem dX3_readAllOf_0 : decode cX3_readAllOf 0 = .ok (.aload_n 0, 1) := by decide +kernel
theorem dX3_readAllOf_1 : decode cX3_readAllOf 1 = .ok (.aload_n 1, 1) := by decide +kernel
theorem dX3_readAllOf_2 : decode cX3_readAllOf 2 = .ok (.iload_n 2, 1) := by decide +kernel
theorem dX3_readAllOf_3 : decode cX3_readAllOf 3 = .ok (.invokevirtual 84, 3) := by decide +kernel
theorem dX3_readAllOf_6 : decode cX3_readAllOf 6 = .ok (.iconst 0, 1) := by decide +kernel
theorem dX3_readAllOf_7 : decode cX3_readAllOf 7 = .ok (.istore_n 3, 1) := by decide +kernel
theorem dX3_readAllOf_8 : decode cX3_readAllOf 8 = .ok (.iload_n 3, 1) := by decide +kernel
theorem dX3_readAllOf_9 : decode cX3_readAllOf 9 = .ok (.sipush 240, 3) := by decide +kernel
theorem dX3_readAllOf_12 : decode cX3_readAllOf 12 = .ok (.if_icmp .ge 41, 3) := by decide +kernel
theorem dX3_readAllOf_15 : decode cX3_readAllOf 15 = .ok (.aload_n 0, 1) := by decide +kernel
theorem dX3_readAllOf_16 : decode cX3_readAllOf 16 = .ok (.getfield 9, 3) := by decide +kernel
theorem dX3_readAllOf_19 : decode cX3_readAllOf 19 = .ok (.bipush 38, 2) := by decide +kernel
theorem dX3_readAllOf_21 : decode cX3_readAllOf 21 = .ok (.invokevirtual 26, 3) := by decide +kernel
theorem dX3_readAllOf_24 : decode cX3_readAllOf 24 = .ok (.ifCond .eq 29, 3) := by decide +kernel
theorem dX3_readAllOf_27 : decode cX3_readAllOf 27 = .ok (.aload_n 1, 1) := by decide +kernel
theorem dX3_readAllOf_28 : decode cX3_readAllOf 28 = .ok (.iconst 3, 1) := by decide +kernel
theorem dX3_readAllOf_29 : decode cX3_readAllOf 29 = .ok (.iconst 0, 1) := by decide +kernel
theorem dX3_readAllOf_30 : decode cX3_readAllOf 30 = .ok (.invokevirtual 77, 3) := by decide +kernel
theorem dX3_readAllOf_33 : decode cX3_readAllOf 33 = .ok (.istore 4, 2) := by decide +kernel
theorem dX3_readAllOf_35 : decode cX3_readAllOf 35 = .ok (.aload_n 0, 1) := by decide +kernel
theorem dX3_readAllOf_36 : decode cX3_readAllOf 36 = .ok (.aload_n 1, 1) := by decide +kernel
theorem dX3_readAllOf_37 : decode cX3_readAllOf 37 = .ok (.iload_n 2, 1) := by decide +kernel
theorem dX3_readAllOf_38 : decode cX3_readAllOf 38 = .ok (.invokevirtual 84, 3) := by decide +kernel
theorem dX3_readAllOf_41 : decode cX3_readAllOf 41 = .ok (.aload_n 1, 1) := by decide +kernel
theorem dX3_readAllOf_42 : decode cX3_readAllOf 42 = .ok (.iload 4, 2) := by decide +kernel
theorem dX3_readAllOf_44 : decode cX3_readAllOf 44 = .ok (.invokevirtual 81, 3) := by decide +kernel
theorem dX3_readAllOf_47 : decode cX3_readAllOf 47 = .ok (.iinc 3 1, 3) := by decide +kernel
theorem dX3_readAllOf_50 : decode cX3_readAllOf 50 = .ok (.goto (-42), 3) := by decide +kernel
theorem dX3_readAllOf_53 : decode cX3_readAllOf 53 = .ok (.return_, 1) := by decide +kernel
theorem dX3_readTest_0 : decode cX3_readTest 0 = .ok (.aload_n 0, 1) := by decide +kernel
theorem dX3_readTest_1 : decode cX3_readTest 1 = .ok (.getfield 9, 3) := by decide +kernel
theorem dX3_readTest_4 : decode cX3_readTest 4 = .ok (.getfield 87, 3) := by decide +kernel
theorem dX3_readTest_7 : decode cX3_readTest 7 = .ok (.bipush 33, 2) := by decide +kernel
theorem dX3_readTest_9 : decode cX3_readTest 9 = .ok (.if_icmp .ne 29, 3) := by decide +kernel
theorem dX3_readTest_12 : decode cX3_readTest 12 = .ok (.aload_n 0, 1) := by decide +kernel
theorem dX3_readTest_13 : decode cX3_readTest 13 = .ok (.iload_n 2, 1) := by decide +kernel
theorem dX3_readTest_14 : decode cX3_readTest 14 = .ok (.invokevirtual 90, 3) := by decide +kernel
theorem dX3_readTest_17 : decode cX3_readTest 17 = .ok (.ifCond .eq 94, 3) := by decide +kernel
theorem dX3_readTest_20 : decode cX3_readTest 20 = .ok (.aload_n 0, 1) := by decide +kernel
theorem dX3_readTest_21 : decode cX3_readTest 21 = .ok (.aload_n 1, 1) := by decide +kernel
theorem dX3_readTest_22 : decode cX3_readTest 22 = .ok (.iload_n 2, 1) := by decide +kernel
theorem dX3_readTest_23 : decode cX3_readTest 23 = .ok (.iconst 1, 1) := by decide +kernel
theorem dX3_readTest_24 : decode cX3_readTest 24 = .ok (.iadd, 1) := by decide +kernel
theorem dX3_readTest_25 : decode cX3_readTest 25 = .ok (.invokevirtual 84, 3) := by decide +kernel
theorem dX3_readTest_28 : decode cX3_readTest 28 = .ok (.aload_n 1, 1) := by decide +kernel
theorem dX3_readTest_29 : decode cX3_readTest 29 = .ok (.iconst 2, 1) := by decide +kernel
theorem dX3_readTest_30 : decode cX3_readTest 30 = .ok (.iconst 0, 1) := by decide +kernel
theorem dX3_readTest_31 : decode cX3_readTest 31 = .ok (.invokevirtual 77, 3) := by decide +kernel
theorem dX3_readTest_34 : decode cX3_readTest 34 = .ok (.pop, 1) := by decide +kernel
theorem dX3_readTest_35 : decode cX3_readTest 35 = .ok (.goto 76, 3) := by decide +kernel
theorem dX3_readTest_38 : decode cX3_readTest 38 = .ok (.aload_n 0, 1) := by decide +kernel
theorem dX3_readTest_39 : decode cX3_readTest 39 = .ok (.getfield 9, 3) := by decide +kernel
theorem dX3_readTest_42 : decode cX3_readTest 42 = .ok (.getfield 87, 3) := by decide +kernel
theorem dX3_readTest_45 : decode cX3_readTest 45 = .ok (.bipush 40, 2) := by decide +kernel
theorem dX3_readTest_47 : decode cX3_readTest 47 = .ok (.if_icmp .ne 32, 3) := by decide +kernel
theorem dX3_readTest_50 : decode cX3_readTest 50 = .ok (.aload_n 0, 1) := by decide +kernel
theorem dX3_readTest_51 : decode cX3_readTest 51 = .ok (.iload_n 2, 1) := by decide +kernel
theorem dX3_readTest_52 : decode cX3_readTest 52 = .ok (.invokevirtual 90, 3) := by decide +kernel
theorem dX3_readTest_55 : decode cX3_readTest 55 = .ok (.ifCond .eq 56, 3) := by decide +kernel
theorem dX3_readTest_58 : decode cX3_readTest 58 = .ok (.aload_n 0, 1) := by decide +kernel
theorem dX3_readTest_59 : decode cX3_readTest 59 = .ok (.aload_n 1, 1) := by decide +kernel
theorem dX3_readTest_60 : decode cX3_readTest 60 = .ok (.iload_n 2, 1) := by decide +kernel
theorem dX3_readTest_61 : decode cX3_readTest 61 = .ok (.iconst 1, 1) := by decide +kernel
theorem dX3_readTest_62 : decode cX3_readTest 62 = .ok (.iadd, 1) := by decide +kernel
theorem dX3_readTest_63 : decode cX3_readTest 63 = .ok (.invokevirtual 68, 3) := by decide +kernel
theorem dX3_readTest_66 : decode cX3_readTest 66 = .ok (.aload_n 0, 1) := by decide +kernel
theorem dX3_readTest_67 : decode cX3_readTest 67 = .ok (.getfield 9, 3) := by decide +kernel
theorem dX3_readTest_70 : decode cX3_readTest 70 = .ok (.bipush 41, 2) := by decide +kernel
theorem dX3_readTest_72 : decode cX3_readTest 72 = .ok (.invokevirtual 65, 3) := by decide +kernel
theorem dX3_readTest_75 : decode cX3_readTest 75 = .ok (.pop, 1) := by decide +kernel
theorem dX3_readTest_76 : decode cX3_readTest 76 = .ok (.goto 35, 3) := by decide +kernel
theorem dX3_readTest_79 : decode cX3_readTest 79 = .ok (.aload_n 0, 1) := by decide +kernel
theorem dX3_readTest_80 : decode cX3_readTest 80 = .ok (.aload_n 1, 1) := by decide +kernel
theorem dX3_readTest_81 : decode cX3_readTest 81 = .ok (.iload_n 2, 1) := by decide +kernel
theorem dX3_readTest_82 : decode cX3_readTest 82 = .ok (.invokevirtual 58, 3) := by decide +kernel
theorem dX3_readTest_85 : decode cX3_readTest 85 = .ok (.aload_n 0, 1) := by decide +kernel
theorem dX3_readTest_86 : decode cX3_readTest 86 = .ok (.getfield 9, 3) := by decide +kernel
theorem dX3_readTest_89 : decode cX3_readTest 89 = .ok (.ldc 94, 2) := by decide +kernel
theorem dX3_readTest_91 : decode cX3_readTest 91 = .ok (.invokevirtual 51, 3) := by decide +kernel
theorem dX3_readTest_94 : decode cX3_readTest 94 = .ok (.istore_n 3, 1) := by decide +kernel
theorem dX3_readTest_95 : decode cX3_readTest 95 = .ok (.aload_n 0, 1) := by decide +kernel
theorem dX3_readTest_96 : decode cX3_readTest 96 = .ok (.aload_n 1, 1) := by decide +kernel
theorem dX3_readTest_97 : decode cX3_readTest 97 = .ok (.iload_n 2, 1) := by decide +kernel
theorem dX3_readTest_98 : decode cX3_readTest 98 = .ok (.invokevirtual 58, 3) := by decide +kernel
theorem dX3_readTest_101 : decode cX3_readTest 101 = .ok (.aload_n 1, 1) := by decide +kernel
theorem dX3_readTest_102 : decode cX3_readTest 102 = .ok (.bipush 10, 2) := by decide +kernel
theorem dX3_readTest_104 : decode cX3_readTest 104 = .ok (.iload_n 3, 1) := by decide +kernel
theorem dX3_readTest_105 : decode cX3_readTest 105 = .ok (.iadd, 1) := by decide +kernel
theorem dX3_readTest_106 : decode cX3_readTest 106 = .ok (.iconst 0, 1) := by decide +kernel
theorem dX3_readTest_107 : decode cX3_readTest 107 = .ok (.invokevirtual 77, 3) := by decide +kernel
theorem dX3_readTest_110 : decode cX3_readTest 110 = .ok (.pop, 1) := by decide +kernel
theorem dX3_readTest_111 : decode cX3_readTest 111 = .ok (.return_, 1) := by decide +kernel
theorem dX3_readSum_0 : decode cX3_readSum 0 = .ok (.aload_n 0, 1) := by decide +kernel
theorem dX3_readSum_1 : decode cX3_readSum 1 = .ok (.aload_n 1, 1) := by decide +kernel
theorem dX3_readSum_2 : decode cX3_readSum 2 = .ok (.iload_n 2, 1) := by decide +kernel
theorem dX3_readSum_3 : decode cX3_readSum 3 = .ok (.invokevirtual 96, 3) := by decide +kernel
theorem dX3_readSum_6 : decode cX3_readSum 6 = .ok (.iconst 0, 1) := by decide +kernel
theorem dX3_readSum_7 : decode cX3_readSum 7 = .ok (.istore_n 3, 1) := by decide +kernel
theorem dX3_readSum_8 : decode cX3_readSum 8 = .ok (.iload_n 3, 1) := by decide +kernel
theorem dX3_readSum_9 : decode cX3_readSum 9 = .ok (.sipush 240, 3) := by decide +kernel
theorem dX3_readSum_12 : decode cX3_readSum 12 = .ok (.if_icmp .ge 49, 3) := by decide +kernel
theorem dX3_readSum_15 : decode cX3_readSum 15 = .ok (.aload_n 0, 1) := by decide +kernel
theorem dX3_readSum_16 : decode cX3_readSum 16 = .ok (.getfield 9, 3) := by decide +kernel
theorem dX3_readSum_19 : decode cX3_readSum 19 = .ok (.ldc 99, 2) := by decide +kernel
theorem dX3_readSum_21 : decode cX3_readSum 21 = .ok (.invokevirtual 39, 3) := by decide +kernel
theorem dX3_readSum_24 : decode cX3_readSum 24 = .ok (.iconst (-1), 1) := by decide +kernel
theorem dX3_readSum_25 : decode cX3_readSum 25 = .ok (.if_icmp .eq 36, 3) := by decide +kernel
theorem dX3_readSum_28 : decode cX3_readSum 28 = .ok (.aload_n 0, 1) := by decide +kernel
theorem dX3_readSum_29 : decode cX3_readSum 29 = .ok (.getfield 9, 3) := by decide +kernel
theorem dX3_readSum_32 : decode cX3_readSum 32 = .ok (.ldc 99, 2) := by decide +kernel
theorem dX3_readSum_34 : decode cX3_readSum 34 = .ok (.invokevirtual 51, 3) := by decide +kernel
theorem dX3_readSum_37 : decode cX3_readSum 37 = .ok (.istore 4, 2) := by decide +kernel
theorem dX3_readSum_39 : decode cX3_readSum 39 = .ok (.aload_n 0, 1) := by decide +kernel
theorem dX3_readSum_40 : decode cX3_readSum 40 = .ok (.aload_n 1, 1) := by decide +kernel
theorem dX3_readSum_41 : decode cX3_readSum 41 = .ok (.iload_n 2, 1) := by decide +kernel
theorem dX3_readSum_42 : decode cX3_readSum 42 = .ok (.invokevirtual 96, 3) := by decide +kernel
theorem dX3_readSum_45 : decode cX3_readSum 45 = .ok (.aload_n 1, 1) := by decide +kernel
theorem dX3_readSum_46 : decode cX3_readSum 46 = .ok (.iconst 5, 1) := by decide +kernel
theorem dX3_readSum_47 : decode cX3_readSum 47 = .ok (.iload 4, 2) := by decide +kernel
theorem dX3_readSum_49 : decode cX3_readSum 49 = .ok (.iadd, 1) := by decide +kernel
theorem dX3_readSum_50 : decode cX3_readSum 50 = .ok (.iconst 0, 1) := by decide +kernel
theorem dX3_readSum_51 : decode cX3_readSum 51 = .ok (.invokevirtual 77, 3) := by decide +kernel
theorem dX3_readSum_54 : decode cX3_readSum 54 = .ok (.pop, 1) := by decide +kernel
theorem dX3_readSum_55 : decode cX3_readSum 55 = .ok (.iinc 3 1, 3) := by decide +kernel
theorem dX3_readSum_58 : decode cX3_readSum 58 = .ok (.goto (-50), 3) := by decide +kernel
theorem dX3_readSum_61 : decode cX3_readSum 61 = .ok (.return_, 1) := by decide +kernel
theorem dX3_readProduct_0 : decode cX3_readProduct 0 = .ok (.aload_n 0, 1) := by decide +kernel
theorem dX3_readProduct_1 : decode cX3_readProduct 1 = .ok (.aload_n 1, 1) := by decide +kernel
theorem dX3_readProduct_2 : decode cX3_readProduct 2 = .ok (.iload_n 2, 1) := by decide +kernel
theorem dX3_readProduct_3 : decode cX3_readProduct 3 = .ok (.invokevirtual 101, 3) := by decide +kernel
theorem dX3_readProduct_6 : decode cX3_readProduct 6 = .ok (.iconst 0, 1) := by decide +kernel
theorem dX3_readProduct_7 : decode cX3_readProduct 7 = .ok (.istore_n 3, 1) := by decide +kernel
theorem dX3_readProduct_8 : decode cX3_readProduct 8 = .ok (.iload_n 3, 1) := by decide +kernel
theorem dX3_readProduct_9 : decode cX3_readProduct 9 = .ok (.sipush 240, 3) := by decide +kernel
theorem dX3_readProduct_12 : decode cX3_readProduct 12 = .ok (.if_icmp .ge 50, 3) := by decide +kernel
theorem dX3_readProduct_15 : decode cX3_readProduct 15 = .ok (.aload_n 0, 1) := by decide +kernel
theorem dX3_readProduct_16 : decode cX3_readProduct 16 = .ok (.getfield 9, 3) := by decide +kernel
theorem dX3_readProduct_19 : decode cX3_readProduct 19 = .ok (.ldc 104, 2) := by decide +kernel
theorem dX3_readProduct_21 : decode cX3_readProduct 21 = .ok (.invokevirtual 39, 3) := by decide +kernel
theorem dX3_readProduct_24 : decode cX3_readProduct 24 = .ok (.iconst (-1), 1) := by decide +kernel
theorem dX3_readProduct_25 : decode cX3_readProduct 25 = .ok (.if_icmp .eq 37, 3) := by decide +kernel
theorem dX3_readProduct_28 : decode cX3_readProduct 28 = .ok (.aload_n 0, 1) := by decide +kernel
theorem dX3_readProduct_29 : decode cX3_readProduct 29 = .ok (.getfield 9, 3) := by decide +kernel
theorem dX3_readProduct_32 : decode cX3_readProduct 32 = .ok (.ldc 104, 2) := by decide +kernel
theorem dX3_readProduct_34 : decode cX3_readProduct 34 = .ok (.invokevirtual 51, 3) := by decide +kernel
theorem dX3_readProduct_37 : decode cX3_readProduct 37 = .ok (.istore 4, 2) := by decide +kernel
theorem dX3_readProduct_39 : decode cX3_readProduct 39 = .ok (.aload_n 0, 1) := by decide +kernel
theorem dX3_readProduct_40 : decode cX3_readProduct 40 = .ok (.aload_n 1, 1) := by decide +kernel
theorem dX3_readProduct_41 : decode cX3_readProduct 41 = .ok (.iload_n 2, 1) := by decide +kernel
theorem dX3_readProduct_42 : decode cX3_readProduct 42 = .ok (.invokevirtual 101, 3) := by decide +kernel
theorem dX3_readProduct_45 : decode cX3_readProduct 45 = .ok (.aload_n 1, 1) := by decide +kernel
theorem dX3_readProduct_46 : decode cX3_readProduct 46 = .ok (.bipush 7, 2) := by decide +kernel
theorem dX3_readProduct_48 : decode cX3_readProduct 48 = .ok (.iload 4, 2) := by decide +kernel
theorem dX3_readProduct_50 : decode cX3_readProduct 50 = .ok (.iadd, 1) := by decide +kernel
theorem dX3_readProduct_51 : decode cX3_readProduct 51 = .ok (.iconst 0, 1) := by decide +kernel
theorem dX3_readProduct_52 : decode cX3_readProduct 52 = .ok (.invokevirtual 77, 3) := by decide +kernel
theorem dX3_readProduct_55 : decode cX3_readProduct 55 = .ok (.pop, 1) := by decide +kernel
theorem dX3_readProduct_56 : decode cX3_readProduct 56 = .ok (.iinc 3 1, 3) := by decide +kernel
theorem dX3_readProduct_59 : decode cX3_readProduct 59 = .ok (.goto (-51), 3) := by decide +kernel
theorem dX3_readProduct_62 : decode cX3_readProduct 62 = .ok (.return_, 1) := by decide +kernel
theorem dX3_readFactor_0 : decode cX3_readFactor 0 = .ok (.aload_n 0, 1) := by decide +kernel
theorem dX3_readFactor_1 : decode cX3_readFactor 1 = .ok (.getfield 9, 3) := by decide +kernel
theorem dX3_readFactor_4 : decode cX3_readFactor 4 = .ok (.getfield 87, 3) := by decide +kernel
theorem dX3_readFactor_7 : decode cX3_readFactor 7 = .ok (.bipush 91, 2) := by decide +kernel
theorem dX3_readFactor_9 : decode cX3_readFactor 9 = .ok (.if_icmp .ne 32, 3) := by decide +kernel
theorem dX3_readFactor_12 : decode cX3_readFactor 12 = .ok (.aload_n 0, 1) := by decide +kernel
theorem dX3_readFactor_13 : decode cX3_readFactor 13 = .ok (.iload_n 2, 1) := by decide +kernel
theorem dX3_readFactor_14 : decode cX3_readFactor 14 = .ok (.invokevirtual 90, 3) := by decide +kernel
theorem dX3_readFactor_17 : decode cX3_readFactor 17 = .ok (.ifCond .eq 66, 3) := by decide +kernel
theorem dX3_readFactor_20 : decode cX3_readFactor 20 = .ok (.aload_n 0, 1) := by decide +kernel
theorem dX3_readFactor_21 : decode cX3_readFactor 21 = .ok (.aload_n 1, 1) := by decide +kernel
theorem dX3_readFactor_22 : decode cX3_readFactor 22 = .ok (.iload_n 2, 1) := by decide +kernel
theorem dX3_readFactor_23 : decode cX3_readFactor 23 = .ok (.iconst 1, 1) := by decide +kernel
theorem dX3_readFactor_24 : decode cX3_readFactor 24 = .ok (.iadd, 1) := by decide +kernel
theorem dX3_readFactor_25 : decode cX3_readFactor 25 = .ok (.invokevirtual 58, 3) := by decide +kernel
theorem dX3_readFactor_28 : decode cX3_readFactor 28 = .ok (.aload_n 0, 1) := by decide +kernel
theorem dX3_readFactor_29 : decode cX3_readFactor 29 = .ok (.getfield 9, 3) := by decide +kernel
theorem dX3_readFactor_32 : decode cX3_readFactor 32 = .ok (.bipush 93, 2) := by decide +kernel
theorem dX3_readFactor_34 : decode cX3_readFactor 34 = .ok (.invokevirtual 65, 3) := by decide +kernel
theorem dX3_readFactor_37 : decode cX3_readFactor 37 = .ok (.pop, 1) := by decide +kernel
theorem dX3_readFactor_38 : decode cX3_readFactor 38 = .ok (.goto 45, 3) := by decide +kernel
theorem dX3_readFactor_41 : decode cX3_readFactor 41 = .ok (.aload_n 0, 1) := by decide +kernel
theorem dX3_readFactor_42 : decode cX3_readFactor 42 = .ok (.getfield 9, 3) := by decide +kernel
theorem dX3_readFactor_45 : decode cX3_readFactor 45 = .ok (.invokevirtual 106, 3) := by decide +kernel
theorem dX3_readFactor_48 : decode cX3_readFactor 48 = .ok (.ifCond .eq 20, 3) := by decide +kernel
theorem dX3_readFactor_51 : decode cX3_readFactor 51 = .ok (.aload_n 1, 1) := by decide +kernel
theorem dX3_readFactor_52 : decode cX3_readFactor 52 = .ok (.iconst 0, 1) := by decide +kernel
theorem dX3_readFactor_53 : decode cX3_readFactor 53 = .ok (.aload_n 0, 1) := by decide +kernel
theorem dX3_readFactor_54 : decode cX3_readFactor 54 = .ok (.getfield 9, 3) := by decide +kernel
theorem dX3_readFactor_57 : decode cX3_readFactor 57 = .ok (.iconst 5, 1) := by decide +kernel
theorem dX3_readFactor_58 : decode cX3_readFactor 58 = .ok (.invokevirtual 109, 3) := by decide +kernel
theorem dX3_readFactor_61 : decode cX3_readFactor 61 = .ok (.invokevirtual 77, 3) := by decide +kernel
theorem dX3_readFactor_64 : decode cX3_readFactor 64 = .ok (.pop, 1) := by decide +kernel
theorem dX3_readFactor_65 : decode cX3_readFactor 65 = .ok (.goto 18, 3) := by decide +kernel
theorem dX3_readFactor_68 : decode cX3_readFactor 68 = .ok (.aload_n 1, 1) := by decide +kernel
theorem dX3_readFactor_69 : decode cX3_readFactor 69 = .ok (.iconst 1, 1) := by decide +kernel
theorem dX3_readFactor_70 : decode cX3_readFactor 70 = .ok (.aload_n 0, 1) := by decide +kernel
theorem dX3_readFactor_71 : decode cX3_readFactor 71 = .ok (.getfield 9, 3) := by decide +kernel
theorem dX3_readFactor_74 : decode cX3_readFactor 74 = .ok (.ldc 115, 2) := by decide +kernel
theorem dX3_readFactor_76 : decode cX3_readFactor 76 = .ok (.invokevirtual 51, 3) := by decide +kernel
theorem dX3_readFactor_79 : decode cX3_readFactor 79 = .ok (.invokevirtual 77, 3) := by decide +kernel
theorem dX3_readFactor_82 : decode cX3_readFactor 82 = .ok (.pop, 1) := by decide +kernel
theorem dX3_readFactor_83 : decode cX3_readFactor 83 = .ok (.return_, 1) := by decide +kernel
theorem dX3_opens_0 : decode cX3_opens 0 = .ok (.iload_n 1, 1) := by decide +kernel
theorem dX3_opens_1 : decode cX3_opens 1 = .ok (.bipush 6, 2) := by decide +kernel
theorem dX3_opens_3 : decode cX3_opens 3 = .ok (.if_icmp .lt 18, 3) := by decide +kernel
theorem dX3_opens_6 : decode cX3_opens 6 = .ok (.aload_n 0, 1) := by decide +kernel
theorem dX3_opens_7 : decode cX3_opens 7 = .ok (.getfield 9, 3) := by decide +kernel
theorem dX3_opens_10 : decode cX3_opens 10 = .ok (.iconst 5, 1) := by decide +kernel
theorem dX3_opens_11 : decode cX3_opens 11 = .ok (.aload_n 0, 1) := by decide +kernel
theorem dX3_opens_12 : decode cX3_opens 12 = .ok (.getfield 9, 3) := by decide +kernel
theorem dX3_opens_15 : decode cX3_opens 15 = .ok (.getfield 43, 3) := by decide +kernel
theorem dX3_opens_18 : decode cX3_opens 18 = .ok (.invokevirtual 47, 3) := by decide +kernel
theorem dX3_opens_21 : decode cX3_opens 21 = .ok (.aload_n 0, 1) := by decide +kernel
theorem dX3_opens_22 : decode cX3_opens 22 = .ok (.getfield 9, 3) := by decide +kernel
theorem dX3_opens_25 : decode cX3_opens 25 = .ok (.invokevirtual 117, 3) := by decide +kernel
theorem dX3_opens_28 : decode cX3_opens 28 = .ok (.ifCond .eq 5, 3) := by decide +kernel
theorem dX3_opens_31 : decode cX3_opens 31 = .ok (.iconst 0, 1) := by decide +kernel
theorem dX3_opens_32 : decode cX3_opens 32 = .ok (.ireturn, 1) := by decide +kernel
theorem dX3_opens_33 : decode cX3_opens 33 = .ok (.aload_n 0, 1) := by decide +kernel
theorem dX3_opens_34 : decode cX3_opens 34 = .ok (.getfield 9, 3) := by decide +kernel
theorem dX3_opens_37 : decode cX3_opens 37 = .ok (.invokevirtual 120, 3) := by decide +kernel
theorem dX3_opens_40 : decode cX3_opens 40 = .ok (.iconst 1, 1) := by decide +kernel
theorem dX3_opens_41 : decode cX3_opens 41 = .ok (.ireturn, 1) := by decide +kernel
theorem dX4_init_0 : decode cX4_init 0 = .ok (.aload_n 0, 1) := by decide +kernel
theorem dX4_init_1 : decode cX4_init 1 = .ok (.invokespecial 3, 3) := by decide +kernel
theorem dX4_init_4 : decode cX4_init 4 = .ok (.aload_n 0, 1) := by decide +kernel
theorem dX4_init_5 : decode cX4_init 5 = .ok (.iconst 0, 1) := by decide +kernel
theorem dX4_init_6 : decode cX4_init 6 = .ok (.putfield 9, 3) := by decide +kernel
theorem dX4_init_9 : decode cX4_init 9 = .ok (.aload_n 0, 1) := by decide +kernel
theorem dX4_init_10 : decode cX4_init 10 = .ok (.aload_n 1, 1) := by decide +kernel
theorem dX4_init_11 : decode cX4_init 11 = .ok (.putfield 15, 3) := by decide +kernel
theorem dX4_init_14 : decode cX4_init 14 = .ok (.return_, 1) := by decide +kernel
theorem dX4_readBehindLine_0 : decode cX4_readBehindLine 0 = .ok (.aload_n 0, 1) := by decide +kernel
theorem dX4_readBehindLine_1 : decode cX4_readBehindLine 1 = .ok (.iconst 0, 1) := by decide +kernel
theorem dX4_readBehindLine_2 : decode cX4_readBehindLine 2 = .ok (.putfield 9, 3) := by decide +kernel
theorem dX4_readBehindLine_5 : decode cX4_readBehindLine 5 = .ok (.aload_n 0, 1) := by decide +kernel
theorem dX4_readBehindLine_6 : decode cX4_readBehindLine 6 = .ok (.aload_n 1, 1) := by decide +kernel
theorem dX4_readBehindLine_7 : decode cX4_readBehindLine 7 = .ok (.invokevirtual 19, 3) := by decide +kernel
theorem dX4_readBehindLine_10 : decode cX4_readBehindLine 10 = .ok (.iconst 0, 1) := by decide +kernel
theorem dX4_readBehindLine_11 : decode cX4_readBehindLine 11 = .ok (.istore_n 2, 1) := by decide +kernel
theorem dX4_readBehindLine_12 : decode cX4_readBehindLine 12 = .ok (.iload_n 2, 1) := by decide +kernel
theorem dX4_readBehindLine_13 : decode cX4_readBehindLine 13 = .ok (.sipush 240, 3) := by decide +kernel
theorem dX4_readBehindLine_16 : decode cX4_readBehindLine 16 = .ok (.if_icmp .ge 26, 3) := by decide +kernel
theorem dX4_readBehindLine_19 : decode cX4_readBehindLine 19 = .ok (.aload_n 0, 1) := by decide +kernel
theorem dX4_readBehindLine_20 : decode cX4_readBehindLine 20 = .ok (.getfield 15, 3) := by decide +kernel
theorem dX4_readBehindLine_23 : decode cX4_readBehindLine 23 = .ok (.bipush 44, 2) := by decide +kernel
theorem dX4_readBehindLine_25 : decode cX4_readBehindLine 25 = .ok (.invokevirtual 25, 3) := by decide +kernel
theorem dX4_readBehindLine_28 : decode cX4_readBehindLine 28 = .ok (.ifCond .eq 14, 3) := by decide +kernel
theorem dX4_readBehindLine_31 : decode cX4_readBehindLine 31 = .ok (.aload_n 0, 1) := by decide +kernel
theorem dX4_readBehindLine_32 : decode cX4_readBehindLine 32 = .ok (.aload_n 1, 1) := by decide +kernel
theorem dX4_readBehindLine_33 : decode cX4_readBehindLine 33 = .ok (.invokevirtual 19, 3) := by decide +kernel
theorem dX4_readBehindLine_36 : decode cX4_readBehindLine 36 = .ok (.iinc 2 1, 3) := by decide +kernel
theorem dX4_readBehindLine_39 : decode cX4_readBehindLine 39 = .ok (.goto (-27), 3) := by decide +kernel
theorem dX4_readBehindLine_42 : decode cX4_readBehindLine 42 = .ok (.aload_n 0, 1) := by decide +kernel
theorem dX4_readBehindLine_43 : decode cX4_readBehindLine 43 = .ok (.getfield 15, 3) := by decide +kernel
theorem dX4_readBehindLine_46 : decode cX4_readBehindLine 46 = .ok (.invokevirtual 29, 3) := by decide +kernel
theorem dX4_readBehindLine_49 : decode cX4_readBehindLine 49 = .ok (.aload_n 0, 1) := by decide +kernel
theorem dX4_readBehindLine_50 : decode cX4_readBehindLine 50 = .ok (.getfield 9, 3) := by decide +kernel
theorem dX4_readBehindLine_53 : decode cX4_readBehindLine 53 = .ok (.ireturn, 1) := by decide +kernel
theorem dX4_readPart_0 : decode cX4_readPart 0 = .ok (.aload_n 0, 1) := by decide +kernel
theorem dX4_readPart_1 : decode cX4_readPart 1 = .ok (.getfield 15, 3) := by decide +kernel
theorem dX4_readPart_4 : decode cX4_readPart 4 = .ok (.getfield 32, 3) := by decide +kernel
theorem dX4_readPart_7 : decode cX4_readPart 7 = .ok (.istore_n 2, 1) := by decide +kernel
theorem dX4_readPart_8 : decode cX4_readPart 8 = .ok (.aload_n 0, 1) := by decide +kernel
theorem dX4_readPart_9 : decode cX4_readPart 9 = .ok (.getfield 15, 3) := by decide +kernel
theorem dX4_readPart_12 : decode cX4_readPart 12 = .ok (.ldc 35, 2) := by decide +kernel
theorem dX4_readPart_14 : decode cX4_readPart 14 = .ok (.invokevirtual 37, 3) := by decide +kernel
theorem dX4_readPart_17 : decode cX4_readPart 17 = .ok (.iconst (-1), 1) := by decide +kernel
theorem dX4_readPart_18 : decode cX4_readPart 18 = .ok (.if_icmp .ne 7, 3) := by decide +kernel
theorem dX4_readPart_21 : decode cX4_readPart 21 = .ok (.iconst 1, 1) := by decide +kernel
theorem dX4_readPart_22 : decode cX4_readPart 22 = .ok (.goto 14, 3) := by decide +kernel
theorem dX4_readPart_25 : decode cX4_readPart 25 = .ok (.iconst 2, 1) := by decide +kernel
theorem dX4_readPart_26 : decode cX4_readPart 26 = .ok (.aload_n 0, 1) := by decide +kernel
theorem dX4_readPart_27 : decode cX4_readPart 27 = .ok (.getfield 15, 3) := by decide +kernel
theorem dX4_readPart_30 : decode cX4_readPart 30 = .ok (.ldc 35, 2) := by decide +kernel
theorem dX4_readPart_32 : decode cX4_readPart 32 = .ok (.invokevirtual 41, 3) := by decide +kernel
theorem dX4_readPart_35 : decode cX4_readPart 35 = .ok (.iadd, 1) := by decide +kernel
theorem dX4_readPart_36 : decode cX4_readPart 36 = .ok (.istore_n 3, 1) := by decide +kernel
theorem dX4_readPart_37 : decode cX4_readPart 37 = .ok (.aload_n 0, 1) := by decide +kernel
theorem dX4_readPart_38 : decode cX4_readPart 38 = .ok (.getfield 15, 3) := by decide +kernel
theorem dX4_readPart_41 : decode cX4_readPart 41 = .ok (.ldc 44, 2) := by decide +kernel
theorem dX4_readPart_43 : decode cX4_readPart 43 = .ok (.invokevirtual 41, 3) := by decide +kernel
theorem dX4_readPart_46 : decode cX4_readPart 46 = .ok (.istore 4, 2) := by decide +kernel
theorem dX4_readPart_48 : decode cX4_readPart 48 = .ok (.aload_n 0, 1) := by decide +kernel
theorem dX4_readPart_49 : decode cX4_readPart 49 = .ok (.getfield 15, 3) := by decide +kernel
theorem dX4_readPart_52 : decode cX4_readPart 52 = .ok (.ldc 46, 2) := by decide +kernel
theorem dX4_readPart_54 : decode cX4_readPart 54 = .ok (.invokevirtual 41, 3) := by decide +kernel
theorem dX4_readPart_57 : decode cX4_readPart 57 = .ok (.istore 5, 2) := by decide +kernel
theorem dX4_readPart_59 : decode cX4_readPart 59 = .ok (.aload_n 0, 1) := by decide +kernel
theorem dX4_readPart_60 : decode cX4_readPart 60 = .ok (.getfield 15, 3) := by decide +kernel
theorem dX4_readPart_63 : decode cX4_readPart 63 = .ok (.ldc 48, 2) := by decide +kernel
theorem dX4_readPart_65 : decode cX4_readPart 65 = .ok (.invokevirtual 41, 3) := by decide +kernel
theorem dX4_readPart_68 : decode cX4_readPart 68 = .ok (.istore 6, 2) := by decide +kernel
theorem dX4_readPart_70 : decode cX4_readPart 70 = .ok (.aload_n 0, 1) := by decide +kernel
theorem dX4_readPart_71 : decode cX4_readPart 71 = .ok (.getfield 15, 3) := by decide +kernel
theorem dX4_readPart_74 : decode cX4_readPart 74 = .ok (.bipush 99, 2) := by decide +kernel
theorem dX4_readPart_76 : decode cX4_readPart 76 = .ok (.invokevirtual 25, 3) := by decide +kernel
theorem dX4_readPart_79 : decode cX4_readPart 79 = .ok (.ifCond .eq 7, 3) := by decide +kernel
theorem dX4_readPart_82 : decode cX4_readPart 82 = .ok (.iconst 1, 1) := by decide +kernel
theorem dX4_readPart_83 : decode cX4_readPart 83 = .ok (.goto 4, 3) := by decide +kernel
theorem dX4_readPart_86 : decode cX4_readPart 86 = .ok (.iconst 0, 1) := by decide +kernel
theorem dX4_readPart_87 : decode cX4_readPart 87 = .ok (.istore 7, 2) := by decide +kernel
theorem dX4_readPart_89 : decode cX4_readPart 89 = .ok (.aload_n 0, 1) := by decide +kernel
theorem dX4_readPart_90 : decode cX4_readPart 90 = .ok (.getfield 15, 3) := by decide +kernel
theorem dX4_readPart_93 : decode cX4_readPart 93 = .ok (.bipush 115, 2) := by decide +kernel
theorem dX4_readPart_95 : decode cX4_readPart 95 = .ok (.invokevirtual 25, 3) := by decide +kernel
theorem dX4_readPart_98 : decode cX4_readPart 98 = .ok (.ifCond .eq 7, 3) := by decide +kernel
theorem dX4_readPart_101 : decode cX4_readPart 101 = .ok (.iconst 1, 1) := by decide +kernel
theorem dX4_readPart_102 : decode cX4_readPart 102 = .ok (.goto 4, 3) := by decide +kernel
theorem dX4_readPart_105 : decode cX4_readPart 105 = .ok (.iconst 0, 1) := by decide +kernel
theorem dX4_readPart_106 : decode cX4_readPart 106 = .ok (.istore 8, 2) := by decide +kernel
theorem dX4_readPart_108 : decode cX4_readPart 108 = .ok (.aload_n 1, 1) := by decide +kernel
theorem dX4_readPart_109 : decode cX4_readPart 109 = .ok (.getfield 50, 3) := by decide +kernel
theorem dX4_readPart_112 : decode cX4_readPart 112 = .ok (.aload_n 0, 1) := by decide +kernel
theorem dX4_readPart_113 : decode cX4_readPart 113 = .ok (.getfield 9, 3) := by decide +kernel
theorem dX4_readPart_116 : decode cX4_readPart 116 = .ok (.iadd, 1) := by decide +kernel
theorem dX4_readPart_117 : decode cX4_readPart 117 = .ok (.iload_n 3, 1) := by decide +kernel
theorem dX4_readPart_118 : decode cX4_readPart 118 = .ok (.iadd, 1) := by decide +kernel
theorem dX4_readPart_119 : decode cX4_readPart 119 = .ok (.sipush 200, 3) := by decide +kernel
theorem dX4_readPart_122 : decode cX4_readPart 122 = .ok (.if_icmp .le 12, 3) := by decide +kernel
theorem dX4_readPart_125 : decode cX4_readPart 125 = .ok (.aload_n 0, 1) := by decide +kernel
theorem dX4_readPart_126 : decode cX4_readPart 126 = .ok (.getfield 15, 3) := by decide +kernel
theorem dX4_readPart_129 : decode cX4_readPart 129 = .ok (.iconst 4, 1) := by decide +kernel
theorem dX4_readPart_130 : decode cX4_readPart 130 = .ok (.iload_n 2, 1) := by decide +kernel
theorem dX4_readPart_131 : decode cX4_readPart 131 = .ok (.invokevirtual 55, 3) := by decide +kernel
theorem dX4_readPart_134 : decode cX4_readPart 134 = .ok (.aload_n 0, 1) := by decide +kernel
theorem dX4_readPart_135 : decode cX4_readPart 135 = .ok (.getfield 15, 3) := by decide +kernel
theorem dX4_readPart_138 : decode cX4_readPart 138 = .ok (.invokevirtual 59, 3) := by decide +kernel
theorem dX4_readPart_141 : decode cX4_readPart 141 = .ok (.ifCond .eq 4, 3) := by decide +kernel
theorem dX4_readPart_144 : decode cX4_readPart 144 = .ok (.return_, 1) := by decide +kernel
theorem dX4_readPart_145 : decode cX4_readPart 145 = .ok (.iload 4, 2) := by decide +kernel
theorem dX4_readPart_147 : decode cX4_readPart 147 = .ok (.iload 5, 2) := by decide +kernel
theorem dX4_readPart_149 : decode cX4_readPart 149 = .ok (.iload 6, 2) := by decide +kernel
theorem dX4_readPart_151 : decode cX4_readPart 151 = .ok (.iload 7, 2) := by decide +kernel
theorem dX4_readPart_153 : decode cX4_readPart 153 = .ok (.iload 8, 2) := by decide +kernel
theorem dX4_readPart_155 : decode cX4_readPart 155 = .ok (.invokestatic 63, 3) := by decide +kernel
theorem dX4_readPart_158 : decode cX4_readPart 158 = .ok (.istore 9, 2) := by decide +kernel
theorem dX4_readPart_160 : decode cX4_readPart 160 = .ok (.iconst 0, 1) := by decide +kernel
theorem dX4_readPart_161 : decode cX4_readPart 161 = .ok (.istore 10, 2) := by decide +kernel
theorem dX4_readPart_163 : decode cX4_readPart 163 = .ok (.iload 10, 2) := by decide +kernel
theorem dX4_readPart_165 : decode cX4_readPart 165 = .ok (.iload_n 3, 1) := by decide +kernel
theorem dX4_readPart_166 : decode cX4_readPart 166 = .ok (.if_icmp .ge 35, 3) := by decide +kernel
theorem dX4_readPart_169 : decode cX4_readPart 169 = .ok (.aload_n 1, 1) := by decide +kernel
theorem dX4_readPart_170 : decode cX4_readPart 170 = .ok (.getfield 69, 3) := by decide +kernel
theorem dX4_readPart_173 : decode cX4_readPart 173 = .ok (.aload_n 1, 1) := by decide +kernel
theorem dX4_readPart_174 : decode cX4_readPart 174 = .ok (.getfield 50, 3) := by decide +kernel
theorem dX4_readPart_177 : decode cX4_readPart 177 = .ok (.aload_n 0, 1) := by decide +kernel
theorem dX4_readPart_178 : decode cX4_readPart 178 = .ok (.getfield 9, 3) := by decide +kernel
theorem dX4_readPart_181 : decode cX4_readPart 181 = .ok (.iadd, 1) := by decide +kernel
theorem dX4_readPart_182 : decode cX4_readPart 182 = .ok (.iload 9, 2) := by decide +kernel
theorem dX4_readPart_184 : decode cX4_readPart 184 = .ok (.iastore, 1) := by decide +kernel
theorem dX4_readPart_185 : decode cX4_readPart 185 = .ok (.aload_n 0, 1) := by decide +kernel
theorem dX4_readPart_186 : decode cX4_readPart 186 = .ok (.dup, 1) := by decide +kernel
theorem dX4_readPart_187 : decode cX4_readPart 187 = .ok (.getfield 9, 3) := by decide +kernel
theorem dX4_readPart_190 : decode cX4_readPart 190 = .ok (.iconst 1, 1) := by decide +kernel
theorem dX4_readPart_191 : decode cX4_readPart 191 = .ok (.iadd, 1) := by decide +kernel
theorem dX4_readPart_192 : decode cX4_readPart 192 = .ok (.putfield 9, 3) := by decide +kernel
theorem dX4_readPart_195 : decode cX4_readPart 195 = .ok (.iinc 10 1, 3) := by decide +kernel
theorem dX4_readPart_198 : decode cX4_readPart 198 = .ok (.goto (-35), 3) := by decide +kernel
theorem dX4_readPart_201 : decode cX4_readPart 201 = .ok (.return_, 1) := by decide +kernel
theorem dX5_init_0 : decode cX5_init 0 = .ok (.aload_n 0, 1) := by decide +kernel
theorem dX5_init_1 : decode cX5_init 1 = .ok (.invokespecial 3, 3) := by decide +kernel
theorem dX5_init_4 : decode cX5_init 4 = .ok (.aload_n 0, 1) := by decide +kernel
theorem dX5_init_5 : decode cX5_init 5 = .ok (.bipush 8, 2) := by decide +kernel
theorem dX5_init_7 : decode cX5_init 7 = .ok (.newarray .int, 2) := by decide +kernel
theorem dX5_init_9 : decode cX5_init 9 = .ok (.putfield 9, 3) := by decide +kernel
theorem dX5_init_12 : decode cX5_init 12 = .ok (.aload_n 0, 1) := by decide +kernel
theorem dX5_init_13 : decode cX5_init 13 = .ok (.sipush 512, 3) := by decide +kernel
theorem dX5_init_16 : decode cX5_init 16 = .ok (.newarray .int, 2) := by decide +kernel
theorem dX5_init_18 : decode cX5_init 18 = .ok (.putfield 15, 3) := by decide +kernel
theorem dX5_init_21 : decode cX5_init 21 = .ok (.aload_n 0, 1) := by decide +kernel
theorem dX5_init_22 : decode cX5_init 22 = .ok (.sipush 512, 3) := by decide +kernel
theorem dX5_init_25 : decode cX5_init 25 = .ok (.newarray .int, 2) := by decide +kernel
theorem dX5_init_27 : decode cX5_init 27 = .ok (.putfield 18, 3) := by decide +kernel
theorem dX5_init_30 : decode cX5_init 30 = .ok (.return_, 1) := by decide +kernel
theorem dX5_view_0 : decode cX5_view 0 = .ok (.aload_n 1, 1) := by decide +kernel
theorem dX5_view_1 : decode cX5_view 1 = .ok (.iload_n 2, 1) := by decide +kernel
theorem dX5_view_2 : decode cX5_view 2 = .ok (.invokevirtual 21, 3) := by decide +kernel
theorem dX5_view_5 : decode cX5_view 5 = .ok (.invokestatic 27, 3) := by decide +kernel
theorem dX5_view_8 : decode cX5_view 8 = .ok (.istore_n 3, 1) := by decide +kernel
theorem dX5_view_9 : decode cX5_view 9 = .ok (.iload_n 2, 1) := by decide +kernel
theorem dX5_view_10 : decode cX5_view 10 = .ok (.bipush 9, 2) := by decide +kernel
theorem dX5_view_12 : decode cX5_view 12 = .ok (.idiv, 1) := by decide +kernel
theorem dX5_view_13 : decode cX5_view 13 = .ok (.bipush 8, 2) := by decide +kernel
theorem dX5_view_15 : decode cX5_view 15 = .ok (.irem, 1) := by decide +kernel
theorem dX5_view_16 : decode cX5_view 16 = .ok (.istore 4, 2) := by decide +kernel
theorem dX5_view_18 : decode cX5_view 18 = .ok (.iconst 1, 1) := by decide +kernel
theorem dX5_view_19 : decode cX5_view 19 = .ok (.istore 5, 2) := by decide +kernel
theorem dX5_view_21 : decode cX5_view 21 = .ok (.iload 5, 2) := by decide +kernel
theorem dX5_view_23 : decode cX5_view 23 = .ok (.iload 4, 2) := by decide +kernel
theorem dX5_view_25 : decode cX5_view 25 = .ok (.if_icmp .gt 43, 3) := by decide +kernel
theorem dX5_view_28 : decode cX5_view 28 = .ok (.iload_n 2, 1) := by decide +kernel
theorem dX5_view_29 : decode cX5_view 29 = .ok (.iload 5, 2) := by decide +kernel
theorem dX5_view_31 : decode cX5_view 31 = .ok (.bipush 9, 2) := by decide +kernel
theorem dX5_view_33 : decode cX5_view 33 = .ok (.imul, 1) := by decide +kernel
theorem dX5_view_34 : decode cX5_view 34 = .ok (.isub, 1) := by decide +kernel
theorem dX5_view_35 : decode cX5_view 35 = .ok (.istore 6, 2) := by decide +kernel
theorem dX5_view_37 : decode cX5_view 37 = .ok (.aload_n 1, 1) := by decide +kernel
theorem dX5_view_38 : decode cX5_view 38 = .ok (.iload 6, 2) := by decide +kernel
theorem dX5_view_40 : decode cX5_view 40 = .ok (.invokevirtual 32, 3) := by decide +kernel
theorem dX5_view_43 : decode cX5_view 43 = .ok (.ifCond .eq 19, 3) := by decide +kernel
theorem dX5_view_46 : decode cX5_view 46 = .ok (.aload_n 1, 1) := by decide +kernel
theorem dX5_view_47 : decode cX5_view 47 = .ok (.iload 6, 2) := by decide +kernel
theorem dX5_view_49 : decode cX5_view 49 = .ok (.invokevirtual 21, 3) := by decide +kernel
theorem dX5_view_52 : decode cX5_view 52 = .ok (.invokestatic 27, 3) := by decide +kernel
theorem dX5_view_55 : decode cX5_view 55 = .ok (.iload_n 3, 1) := by decide +kernel
theorem dX5_view_56 : decode cX5_view 56 = .ok (.if_icmp .lt 6, 3) := by decide +kernel
theorem dX5_view_59 : decode cX5_view 59 = .ok (.iload 5, 2) := by decide +kernel
theorem dX5_view_61 : decode cX5_view 61 = .ok (.ireturn, 1) := by decide +kernel
theorem dX5_view_62 : decode cX5_view 62 = .ok (.iinc 5 1, 3) := by decide +kernel
theorem dX5_view_65 : decode cX5_view 65 = .ok (.goto (-44), 3) := by decide +kernel
theorem dX5_view_68 : decode cX5_view 68 = .ok (.iconst 0, 1) := by decide +kernel
theorem dX5_view_69 : decode cX5_view 69 = .ok (.ireturn, 1) := by decide +kernel
theorem dX5_familiesIn_0 : decode cX5_familiesIn 0 = .ok (.iconst 0, 1) := by decide +kernel
theorem dX5_familiesIn_1 : decode cX5_familiesIn 1 = .ok (.istore_n 3, 1) := by decide +kernel
theorem dX5_familiesIn_2 : decode cX5_familiesIn 2 = .ok (.iconst 0, 1) := by decide +kernel
theorem dX5_familiesIn_3 : decode cX5_familiesIn 3 = .ok (.istore 4, 2) := by decide +kernel
theorem dX5_familiesIn_5 : decode cX5_familiesIn 5 = .ok (.iload 4, 2) := by decide +kernel
theorem dX5_familiesIn_7 : decode cX5_familiesIn 7 = .ok (.bipush 9, 2) := by decide +kernel
theorem dX5_familiesIn_9 : decode cX5_familiesIn 9 = .ok (.if_icmp .ge 38, 3) := by decide +kernel
theorem dX5_familiesIn_12 : decode cX5_familiesIn 12 = .ok (.aload_n 1, 1) := by decide +kernel
theorem dX5_familiesIn_13 : decode cX5_familiesIn 13 = .ok (.iload_n 2, 1) := by decide +kernel
theorem dX5_familiesIn_14 : decode cX5_familiesIn 14 = .ok (.bipush 9, 2) := by decide +kernel
theorem dX5_familiesIn_16 : decode cX5_familiesIn 16 = .ok (.imul, 1) := by decide +kernel
theorem dX5_familiesIn_17 : decode cX5_familiesIn 17 = .ok (.iload 4, 2) := by decide +kernel
theorem dX5_familiesIn_19 : decode cX5_familiesIn 19 = .ok (.iadd, 1) := by decide +kernel
theorem dX5_familiesIn_20 : decode cX5_familiesIn 20 = .ok (.invokevirtual 21, 3) := by decide +kernel
theorem dX5_familiesIn_23 : decode cX5_familiesIn 23 = .ok (.istore 5, 2) := by decide +kernel
theorem dX5_familiesIn_25 : decode cX5_familiesIn 25 = .ok (.iload 5, 2) := by decide +kernel
theorem dX5_familiesIn_27 : decode cX5_familiesIn 27 = .ok (.iconst (-1), 1) := by decide +kernel
theorem dX5_familiesIn_28 : decode cX5_familiesIn 28 = .ok (.if_icmp .eq 13, 3) := by decide +kernel
theorem dX5_familiesIn_31 : decode cX5_familiesIn 31 = .ok (.iload_n 3, 1) := by decide +kernel
theorem dX5_familiesIn_32 : decode cX5_familiesIn 32 = .ok (.iconst 1, 1) := by decide +kernel
theorem dX5_familiesIn_33 : decode cX5_familiesIn 33 = .ok (.iload 5, 2) := by decide +kernel
theorem dX5_familiesIn_35 : decode cX5_familiesIn 35 = .ok (.invokestatic 36, 3) := by decide +kernel
theorem dX5_familiesIn_38 : decode cX5_familiesIn 38 = .ok (.ishl, 1) := by decide +kernel
theorem dX5_familiesIn_39 : decode cX5_familiesIn 39 = .ok (.ior, 1) := by decide +kernel
theorem dX5_familiesIn_40 : decode cX5_familiesIn 40 = .ok (.istore_n 3, 1) := by decide +kernel
theorem dX5_familiesIn_41 : decode cX5_familiesIn 41 = .ok (.iinc 4 1, 3) := by decide +kernel
theorem dX5_familiesIn_44 : decode cX5_familiesIn 44 = .ok (.goto (-39), 3) := by decide +kernel
theorem dX5_familiesIn_47 : decode cX5_familiesIn 47 = .ok (.iload_n 3, 1) := by decide +kernel
theorem dX5_familiesIn_48 : decode cX5_familiesIn 48 = .ok (.ireturn, 1) := by decide +kernel
theorem dX5_longestTaken_0 : decode cX5_longestTaken 0 = .ok (.iconst 0, 1) := by decide +kernel
theorem dX5_longestTaken_1 : decode cX5_longestTaken 1 = .ok (.istore_n 3, 1) := by decide +kernel
theorem dX5_longestTaken_2 : decode cX5_longestTaken 2 = .ok (.iconst 0, 1) := by decide +kernel
theorem dX5_longestTaken_3 : decode cX5_longestTaken 3 = .ok (.istore 4, 2) := by decide +kernel
theorem dX5_longestTaken_5 : decode cX5_longestTaken 5 = .ok (.iconst 0, 1) := by decide +kernel
theorem dX5_longestTaken_6 : decode cX5_longestTaken 6 = .ok (.istore 5, 2) := by decide +kernel
theorem dX5_longestTaken_8 : decode cX5_longestTaken 8 = .ok (.iload 5, 2) := by decide +kernel
theorem dX5_longestTaken_10 : decode cX5_longestTaken 10 = .ok (.bipush 9, 2) := by decide +kernel
theorem dX5_longestTaken_12 : decode cX5_longestTaken 12 = .ok (.if_icmp .ge 40, 3) := by decide +kernel
theorem dX5_longestTaken_15 : decode cX5_longestTaken 15 = .ok (.aload_n 1, 1) := by decide +kernel
theorem dX5_longestTaken_16 : decode cX5_longestTaken 16 = .ok (.iload_n 2, 1) := by decide +kernel
theorem dX5_longestTaken_17 : decode cX5_longestTaken 17 = .ok (.bipush 9, 2) := by decide +kernel
theorem dX5_longestTaken_19 : decode cX5_longestTaken 19 = .ok (.imul, 1) := by decide +kernel
theorem dX5_longestTaken_20 : decode cX5_longestTaken 20 = .ok (.iload 5, 2) := by decide +kernel
theorem dX5_longestTaken_22 : decode cX5_longestTaken 22 = .ok (.iadd, 1) := by decide +kernel
theorem dX5_longestTaken_23 : decode cX5_longestTaken 23 = .ok (.invokevirtual 32, 3) := by decide +kernel
theorem dX5_longestTaken_26 : decode cX5_longestTaken 26 = .ok (.ifCond .eq 10, 3) := by decide +kernel
theorem dX5_longestTaken_29 : decode cX5_longestTaken 29 = .ok (.iload 4, 2) := by decide +kernel
theorem dX5_longestTaken_31 : decode cX5_longestTaken 31 = .ok (.iconst 1, 1) := by decide +kernel
theorem dX5_longestTaken_32 : decode cX5_longestTaken 32 = .ok (.iadd, 1) := by decide +kernel
theorem dX5_longestTaken_33 : decode cX5_longestTaken 33 = .ok (.goto 4, 3) := by decide +kernel
theorem dX5_longestTaken_36 : decode cX5_longestTaken 36 = .ok (.iconst 0, 1) := by decide +kernel
theorem dX5_longestTaken_37 : decode cX5_longestTaken 37 = .ok (.istore 4, 2) := by decide +kernel
theorem dX5_longestTaken_39 : decode cX5_longestTaken 39 = .ok (.iload_n 3, 1) := by decide +kernel
theorem dX5_longestTaken_40 : decode cX5_longestTaken 40 = .ok (.iload 4, 2) := by decide +kernel
theorem dX5_longestTaken_42 : decode cX5_longestTaken 42 = .ok (.invokestatic 39, 3) := by decide +kernel
theorem dX5_longestTaken_45 : decode cX5_longestTaken 45 = .ok (.istore_n 3, 1) := by decide +kernel
theorem dX5_longestTaken_46 : decode cX5_longestTaken 46 = .ok (.iinc 5 1, 3) := by decide +kernel
theorem dX5_longestTaken_49 : decode cX5_longestTaken 49 = .ok (.goto (-41), 3) := by decide +kernel
theorem dX5_longestTaken_52 : decode cX5_longestTaken 52 = .ok (.iload_n 3, 1) := by decide +kernel
theorem dX5_longestTaken_53 : decode cX5_longestTaken 53 = .ok (.ireturn, 1) := by decide +kernel
theorem dX5_longestOfOneFamily_0 : decode cX5_longestOfOneFamily 0 = .ok (.iconst 0, 1) := by decide +kernel
theorem dX5_longestOfOneFamily_1 : decode cX5_longestOfOneFamily 1 = .ok (.istore_n 3, 1) := by decide +kernel
theorem dX5_longestOfOneFamily_2 : decode cX5_longestOfOneFamily 2 = .ok (.iconst 0, 1) := by decide +kernel
theorem dX5_longestOfOneFamily_3 : decode cX5_longestOfOneFamily 3 = .ok (.istore 4, 2) := by decide +kernel
theorem dX5_longestOfOneFamily_5 : decode cX5_longestOfOneFamily 5 = .ok (.iload 4, 2) := by decide +kernel
theorem dX5_longestOfOneFamily_7 : decode cX5_longestOfOneFamily 7 = .ok (.bipush 16, 2) := by decide +kernel
theorem dX5_longestOfOneFamily_9 : decode cX5_longestOfOneFamily 9 = .ok (.if_icmp .ge 61, 3) := by decide +kernel
theorem dX5_longestOfOneFamily_12 : decode cX5_longestOfOneFamily 12 = .ok (.iconst 0, 1) := by decide +kernel
theorem dX5_longestOfOneFamily_13 : decode cX5_longestOfOneFamily 13 = .ok (.istore 5, 2) := by decide +kernel
theorem dX5_longestOfOneFamily_15 : decode cX5_longestOfOneFamily 15 = .ok (.iconst 0, 1) := by decide +kernel
theorem dX5_longestOfOneFamily_16 : decode cX5_longestOfOneFamily 16 = .ok (.istore 6, 2) := by decide +kernel
theorem dX5_longestOfOneFamily_18 : decode cX5_longestOfOneFamily 18 = .ok (.iload 6, 2) := by decide +kernel
theorem dX5_longestOfOneFamily_20 : decode cX5_longestOfOneFamily 20 = .ok (.bipush 9, 2) := by decide +kernel
theorem dX5_longestOfOneFamily_22 : decode cX5_longestOfOneFamily 22 = .ok (.if_icmp .ge 42, 3) := by decide +kernel
theorem dX5_longestOfOneFamily_25 : decode cX5_longestOfOneFamily 25 = .ok (.aload_n 1, 1) := by decide +kernel
theorem dX5_longestOfOneFamily_26 : decode cX5_longestOfOneFamily 26 = .ok (.iload_n 2, 1) := by decide +kernel
theorem dX5_longestOfOneFamily_27 : decode cX5_longestOfOneFamily 27 = .ok (.bipush 9, 2) := by decide +kernel
theorem dX5_longestOfOneFamily_29 : decode cX5_longestOfOneFamily 29 = .ok (.imul, 1) := by decide +kernel
theorem dX5_longestOfOneFamily_30 : decode cX5_longestOfOneFamily 30 = .ok (.iload 6, 2) := by decide +kernel
theorem dX5_longestOfOneFamily_32 : decode cX5_longestOfOneFamily 32 = .ok (.iadd, 1) := by decide +kernel
theorem dX5_longestOfOneFamily_33 : decode cX5_longestOfOneFamily 33 = .ok (.iload 4, 2) := by decide +kernel
theorem dX5_longestOfOneFamily_35 : decode cX5_longestOfOneFamily 35 = .ok (.invokevirtual 45, 3) := by decide +kernel
theorem dX5_longestOfOneFamily_38 : decode cX5_longestOfOneFamily 38 = .ok (.ifCond .eq 10, 3) := by decide +kernel
theorem dX5_longestOfOneFamily_41 : decode cX5_longestOfOneFamily 41 = .ok (.iload 5, 2) := by decide +kernel
theorem dX5_longestOfOneFamily_43 : decode cX5_longestOfOneFamily 43 = .ok (.iconst 1, 1) := by decide +kernel
theorem dX5_longestOfOneFamily_44 : decode cX5_longestOfOneFamily 44 = .ok (.iadd, 1) := by decide +kernel
theorem dX5_longestOfOneFamily_45 : decode cX5_longestOfOneFamily 45 = .ok (.goto 4, 3) := by decide +kernel
theorem dX5_longestOfOneFamily_48 : decode cX5_longestOfOneFamily 48 = .ok (.iconst 0, 1) := by decide +kernel
theorem dX5_longestOfOneFamily_49 : decode cX5_longestOfOneFamily 49 = .ok (.istore 5, 2) := by decide +kernel
theorem dX5_longestOfOneFamily_51 : decode cX5_longestOfOneFamily 51 = .ok (.iload_n 3, 1) := by decide +kernel
theorem dX5_longestOfOneFamily_52 : decode cX5_longestOfOneFamily 52 = .ok (.iload 5, 2) := by decide +kernel
theorem dX5_longestOfOneFamily_54 : decode cX5_longestOfOneFamily 54 = .ok (.invokestatic 39, 3) := by decide +kernel
theorem dX5_longestOfOneFamily_57 : decode cX5_longestOfOneFamily 57 = .ok (.istore_n 3, 1) := by decide +kernel
theorem dX5_longestOfOneFamily_58 : decode cX5_longestOfOneFamily 58 = .ok (.iinc 6 1, 3) := by decide +kernel
theorem dX5_longestOfOneFamily_61 : decode cX5_longestOfOneFamily 61 = .ok (.goto (-43), 3) := by decide +kernel
theorem dX5_longestOfOneFamily_64 : decode cX5_longestOfOneFamily 64 = .ok (.iinc 4 1, 3) := by decide +kernel
theorem dX5_longestOfOneFamily_67 : decode cX5_longestOfOneFamily 67 = .ok (.goto (-62), 3) := by decide +kernel
theorem dX5_longestOfOneFamily_70 : decode cX5_longestOfOneFamily 70 = .ok (.iload_n 3, 1) := by decide +kernel
theorem dX5_longestOfOneFamily_71 : decode cX5_longestOfOneFamily 71 = .ok (.ireturn, 1) := by decide +kernel
theorem dX5_coatsLeftIn_0 : decode cX5_coatsLeftIn 0 = .ok (.iconst 0, 1) := by decide +kernel
theorem dX5_coatsLeftIn_1 : decode cX5_coatsLeftIn 1 = .ok (.istore_n 3, 1) := by decide +kernel
theorem dX5_coatsLeftIn_2 : decode cX5_coatsLeftIn 2 = .ok (.iconst 0, 1) := by decide +kernel
theorem dX5_coatsLeftIn_3 : decode cX5_coatsLeftIn 3 = .ok (.istore 4, 2) := by decide +kernel
theorem dX5_coatsLeftIn_5 : decode cX5_coatsLeftIn 5 = .ok (.iload 4, 2) := by decide +kernel
theorem dX5_coatsLeftIn_7 : decode cX5_coatsLeftIn 7 = .ok (.bipush 9, 2) := by decide +kernel
theorem dX5_coatsLeftIn_9 : decode cX5_coatsLeftIn 9 = .ok (.if_icmp .ge 40, 3) := by decide +kernel
theorem dX5_coatsLeftIn_12 : decode cX5_coatsLeftIn 12 = .ok (.iload_n 2, 1) := by decide +kernel
theorem dX5_coatsLeftIn_13 : decode cX5_coatsLeftIn 13 = .ok (.bipush 9, 2) := by decide +kernel
theorem dX5_coatsLeftIn_15 : decode cX5_coatsLeftIn 15 = .ok (.imul, 1) := by decide +kernel
theorem dX5_coatsLeftIn_16 : decode cX5_coatsLeftIn 16 = .ok (.iload 4, 2) := by decide +kernel
theorem dX5_coatsLeftIn_18 : decode cX5_coatsLeftIn 18 = .ok (.iadd, 1) := by decide +kernel
theorem dX5_coatsLeftIn_19 : decode cX5_coatsLeftIn 19 = .ok (.istore 5, 2) := by decide +kernel
theorem dX5_coatsLeftIn_21 : decode cX5_coatsLeftIn 21 = .ok (.aload_n 1, 1) := by decide +kernel
theorem dX5_coatsLeftIn_22 : decode cX5_coatsLeftIn 22 = .ok (.iload 5, 2) := by decide +kernel
theorem dX5_coatsLeftIn_24 : decode cX5_coatsLeftIn 24 = .ok (.invokevirtual 32, 3) := by decide +kernel
theorem dX5_coatsLeftIn_27 : decode cX5_coatsLeftIn 27 = .ok (.ifCond .ne 16, 3) := by decide +kernel
theorem dX5_coatsLeftIn_30 : decode cX5_coatsLeftIn 30 = .ok (.aload_n 1, 1) := by decide +kernel
theorem dX5_coatsLeftIn_31 : decode cX5_coatsLeftIn 31 = .ok (.iload 5, 2) := by decide +kernel
theorem dX5_coatsLeftIn_33 : decode cX5_coatsLeftIn 33 = .ok (.invokevirtual 49, 3) := by decide +kernel
theorem dX5_coatsLeftIn_36 : decode cX5_coatsLeftIn 36 = .ok (.iconst (-1), 1) := by decide +kernel
theorem dX5_coatsLeftIn_37 : decode cX5_coatsLeftIn 37 = .ok (.if_icmp .eq 6, 3) := by decide +kernel
theorem dX5_coatsLeftIn_40 : decode cX5_coatsLeftIn 40 = .ok (.iinc 3 1, 3) := by decide +kernel
theorem dX5_coatsLeftIn_43 : decode cX5_coatsLeftIn 43 = .ok (.iinc 4 1, 3) := by decide +kernel
theorem dX5_coatsLeftIn_46 : decode cX5_coatsLeftIn 46 = .ok (.goto (-41), 3) := by decide +kernel
theorem dX5_coatsLeftIn_49 : decode cX5_coatsLeftIn 49 = .ok (.iload_n 3, 1) := by decide +kernel
theorem dX5_coatsLeftIn_50 : decode cX5_coatsLeftIn 50 = .ok (.ireturn, 1) := by decide +kernel
theorem dX5_tornFamilies_0 : decode cX5_tornFamilies 0 = .ok (.iconst 0, 1) := by decide +kernel
theorem dX5_tornFamilies_1 : decode cX5_tornFamilies 1 = .ok (.istore_n 2, 1) := by decide +kernel
theorem dX5_tornFamilies_2 : decode cX5_tornFamilies 2 = .ok (.iconst 0, 1) := by decide +kernel
theorem dX5_tornFamilies_3 : decode cX5_tornFamilies 3 = .ok (.istore_n 3, 1) := by decide +kernel
theorem dX5_tornFamilies_4 : decode cX5_tornFamilies 4 = .ok (.iconst 0, 1) := by decide +kernel
theorem dX5_tornFamilies_5 : decode cX5_tornFamilies 5 = .ok (.istore 4, 2) := by decide +kernel
theorem dX5_tornFamilies_7 : decode cX5_tornFamilies 7 = .ok (.iload 4, 2) := by decide +kernel
theorem dX5_tornFamilies_9 : decode cX5_tornFamilies 9 = .ok (.bipush 16, 2) := by decide +kernel
theorem dX5_tornFamilies_11 : decode cX5_tornFamilies 11 = .ok (.if_icmp .ge 30, 3) := by decide +kernel
theorem dX5_tornFamilies_14 : decode cX5_tornFamilies 14 = .ok (.aload_n 0, 1) := by decide +kernel
theorem dX5_tornFamilies_15 : decode cX5_tornFamilies 15 = .ok (.aload_n 1, 1) := by decide +kernel
theorem dX5_tornFamilies_16 : decode cX5_tornFamilies 16 = .ok (.iload 4, 2) := by decide +kernel
theorem dX5_tornFamilies_18 : decode cX5_tornFamilies 18 = .ok (.invokevirtual 52, 3) := by decide +kernel
theorem dX5_tornFamilies_21 : decode cX5_tornFamilies 21 = .ok (.istore 5, 2) := by decide +kernel
theorem dX5_tornFamilies_23 : decode cX5_tornFamilies 23 = .ok (.iload_n 3, 1) := by decide +kernel
theorem dX5_tornFamilies_24 : decode cX5_tornFamilies 24 = .ok (.iload_n 2, 1) := by decide +kernel
theorem dX5_tornFamilies_25 : decode cX5_tornFamilies 25 = .ok (.iload 5, 2) := by decide +kernel
theorem dX5_tornFamilies_27 : decode cX5_tornFamilies 27 = .ok (.iand, 1) := by decide +kernel
theorem dX5_tornFamilies_28 : decode cX5_tornFamilies 28 = .ok (.ior, 1) := by decide +kernel
theorem dX5_tornFamilies_29 : decode cX5_tornFamilies 29 = .ok (.istore_n 3, 1) := by decide +kernel
theorem dX5_tornFamilies_30 : decode cX5_tornFamilies 30 = .ok (.iload_n 2, 1) := by decide +kernel
theorem dX5_tornFamilies_31 : decode cX5_tornFamilies 31 = .ok (.iload 5, 2) := by decide +kernel
theorem dX5_tornFamilies_33 : decode cX5_tornFamilies 33 = .ok (.ior, 1) := by decide +kernel
theorem dX5_tornFamilies_34 : decode cX5_tornFamilies 34 = .ok (.istore_n 2, 1) := by decide +kernel
theorem dX5_tornFamilies_35 : decode cX5_tornFamilies 35 = .ok (.iinc 4 1, 3) := by decide +kernel
theorem dX5_tornFamilies_38 : decode cX5_tornFamilies 38 = .ok (.goto (-31), 3) := by decide +kernel
theorem dX5_tornFamilies_41 : decode cX5_tornFamilies 41 = .ok (.iload_n 3, 1) := by decide +kernel
theorem dX5_tornFamilies_42 : decode cX5_tornFamilies 42 = .ok (.ireturn, 1) := by decide +kernel
theorem dX5_gather_0 : decode cX5_gather 0 = .ok (.aload_n 1, 1) := by decide +kernel
theorem dX5_gather_1 : decode cX5_gather 1 = .ok (.iload_n 2, 1) := by decide +kernel
theorem dX5_gather_2 : decode cX5_gather 2 = .ok (.invokevirtual 56, 3) := by decide +kernel
theorem dX5_gather_5 : decode cX5_gather 5 = .ok (.istore 4, 2) := by decide +kernel
theorem dX5_gather_7 : decode cX5_gather 7 = .ok (.iload 4, 2) := by decide +kernel
theorem dX5_gather_9 : decode cX5_gather 9 = .ok (.ifCond .ne 6, 3) := by decide +kernel
theorem dX5_gather_12 : decode cX5_gather 12 = .ok (.bipush (-3), 2) := by decide +kernel
theorem dX5_gather_14 : decode cX5_gather 14 = .ok (.ireturn, 1) := by decide +kernel
theorem dX5_gather_15 : decode cX5_gather 15 = .ok (.iload 4, 2) := by decide +kernel
theorem dX5_gather_17 : decode cX5_gather 17 = .ok (.iconst 1, 1) := by decide +kernel
theorem dX5_gather_18 : decode cX5_gather 18 = .ok (.iadd, 1) := by decide +kernel
theorem dX5_gather_19 : decode cX5_gather 19 = .ok (.istore 5, 2) := by decide +kernel
theorem dX5_gather_21 : decode cX5_gather 21 = .ok (.bipush (-2), 2) := by decide +kernel
theorem dX5_gather_23 : decode cX5_gather 23 = .ok (.istore 6, 2) := by decide +kernel
theorem dX5_gather_25 : decode cX5_gather 25 = .ok (.iconst 0, 1) := by decide +kernel
theorem dX5_gather_26 : decode cX5_gather 26 = .ok (.istore 7, 2) := by decide +kernel
theorem dX5_gather_28 : decode cX5_gather 28 = .ok (.iload 7, 2) := by decide +kernel
theorem dX5_gather_30 : decode cX5_gather 30 = .ok (.bipush 16, 2) := by decide +kernel
theorem dX5_gather_32 : decode cX5_gather 32 = .ok (.if_icmp .ge 50, 3) := by decide +kernel
theorem dX5_gather_35 : decode cX5_gather 35 = .ok (.iload 4, 2) := by decide +kernel
theorem dX5_gather_37 : decode cX5_gather 37 = .ok (.aload_n 1, 1) := by decide +kernel
theorem dX5_gather_38 : decode cX5_gather 38 = .ok (.iload_n 2, 1) := by decide +kernel
theorem dX5_gather_39 : decode cX5_gather 39 = .ok (.iload 7, 2) := by decide +kernel
theorem dX5_gather_41 : decode cX5_gather 41 = .ok (.invokevirtual 59, 3) := by decide +kernel
theorem dX5_gather_44 : decode cX5_gather 44 = .ok (.isub, 1) := by decide +kernel
theorem dX5_gather_45 : decode cX5_gather 45 = .ok (.istore 8, 2) := by decide +kernel
theorem dX5_gather_47 : decode cX5_gather 47 = .ok (.iload 8, 2) := by decide +kernel
theorem dX5_gather_49 : decode cX5_gather 49 = .ok (.bipush 9, 2) := by decide +kernel
theorem dX5_gather_51 : decode cX5_gather 51 = .ok (.aload_n 1, 1) := by decide +kernel
theorem dX5_gather_52 : decode cX5_gather 52 = .ok (.iload 7, 2) := by decide +kernel
theorem dX5_gather_54 : decode cX5_gather 54 = .ok (.invokevirtual 62, 3) := by decide +kernel
theorem dX5_gather_57 : decode cX5_gather 57 = .ok (.isub, 1) := by decide +kernel
theorem dX5_gather_58 : decode cX5_gather 58 = .ok (.if_icmp .gt 18, 3) := by decide +kernel
theorem dX5_gather_61 : decode cX5_gather 61 = .ok (.iload 8, 2) := by decide +kernel
theorem dX5_gather_63 : decode cX5_gather 63 = .ok (.iload 5, 2) := by decide +kernel
theorem dX5_gather_65 : decode cX5_gather 65 = .ok (.if_icmp .ge 11, 3) := by decide +kernel
theorem dX5_gather_68 : decode cX5_gather 68 = .ok (.iload 8, 2) := by decide +kernel
theorem dX5_gather_70 : decode cX5_gather 70 = .ok (.istore 5, 2) := by decide +kernel
theorem dX5_gather_72 : decode cX5_gather 72 = .ok (.iload 7, 2) := by decide +kernel
theorem dX5_gather_74 : decode cX5_gather 74 = .ok (.istore 6, 2) := by decide +kernel
theorem dX5_gather_76 : decode cX5_gather 76 = .ok (.iinc 7 1, 3) := by decide +kernel
theorem dX5_gather_79 : decode cX5_gather 79 = .ok (.goto (-51), 3) := by decide +kernel
theorem dX5_gather_82 : decode cX5_gather 82 = .ok (.iload 6, 2) := by decide +kernel
theorem dX5_gather_84 : decode cX5_gather 84 = .ok (.bipush (-2), 2) := by decide +kernel
theorem dX5_gather_86 : decode cX5_gather 86 = .ok (.if_icmp .eq 8, 3) := by decide +kernel
theorem dX5_gather_89 : decode cX5_gather 89 = .ok (.iload_n 3, 1) := by decide +kernel
theorem dX5_gather_90 : decode cX5_gather 90 = .ok (.iconst 1, 1) := by decide +kernel
theorem dX5_gather_91 : decode cX5_gather 91 = .ok (.if_icmp .ne 8, 3) := by decide +kernel
theorem dX5_gather_94 : decode cX5_gather 94 = .ok (.iload 6, 2) := by decide +kernel
theorem dX5_gather_96 : decode cX5_gather 96 = .ok (.goto 5, 3) := by decide +kernel
theorem dX5_gather_99 : decode cX5_gather 99 = .ok (.iload 5, 2) := by decide +kernel
theorem dX5_gather_101 : decode cX5_gather 101 = .ok (.ireturn, 1) := by decide +kernel
theorem dX5_blind_0 : decode cX5_blind 0 = .ok (.iconst 0, 1) := by decide +kernel
theorem dX5_blind_1 : decode cX5_blind 1 = .ok (.istore_n 3, 1) := by decide +kernel
theorem dX5_blind_2 : decode cX5_blind 2 = .ok (.bipush (-2), 2) := by decide +kernel
theorem dX5_blind_4 : decode cX5_blind 4 = .ok (.istore 4, 2) := by decide +kernel
theorem dX5_blind_6 : decode cX5_blind 6 = .ok (.iconst 0, 1) := by decide +kernel
theorem dX5_blind_7 : decode cX5_blind 7 = .ok (.istore 5, 2) := by decide +kernel
theorem dX5_blind_9 : decode cX5_blind 9 = .ok (.iload 5, 2) := by decide +kernel
theorem dX5_blind_11 : decode cX5_blind 11 = .ok (.sipush 144, 3) := by decide +kernel
theorem dX5_blind_14 : decode cX5_blind 14 = .ok (.if_icmp .ge 38, 3) := by decide +kernel
theorem dX5_blind_17 : decode cX5_blind 17 = .ok (.aload_n 0, 1) := by decide +kernel
theorem dX5_blind_18 : decode cX5_blind 18 = .ok (.aload_n 1, 1) := by decide +kernel
theorem dX5_blind_19 : decode cX5_blind 19 = .ok (.iload 5, 2) := by decide +kernel
theorem dX5_blind_21 : decode cX5_blind 21 = .ok (.invokevirtual 65, 3) := by decide +kernel
theorem dX5_blind_24 : decode cX5_blind 24 = .ok (.ifCond .eq 22, 3) := by decide +kernel
theorem dX5_blind_27 : decode cX5_blind 27 = .ok (.iinc 3 1, 3) := by decide +kernel
theorem dX5_blind_30 : decode cX5_blind 30 = .ok (.iload 4, 2) := by decide +kernel
theorem dX5_blind_32 : decode cX5_blind 32 = .ok (.bipush (-2), 2) := by decide +kernel
theorem dX5_blind_34 : decode cX5_blind 34 = .ok (.if_icmp .ne 8, 3) := by decide +kernel
theorem dX5_blind_37 : decode cX5_blind 37 = .ok (.iload 5, 2) := by decide +kernel
theorem dX5_blind_39 : decode cX5_blind 39 = .ok (.goto 5, 3) := by decide +kernel
theorem dX5_blind_42 : decode cX5_blind 42 = .ok (.iload 4, 2) := by decide +kernel
theorem dX5_blind_44 : decode cX5_blind 44 = .ok (.istore 4, 2) := by decide +kernel
theorem dX5_blind_46 : decode cX5_blind 46 = .ok (.iinc 5 1, 3) := by decide +kernel
theorem dX5_blind_49 : decode cX5_blind 49 = .ok (.goto (-40), 3) := by decide +kernel
theorem dX5_blind_52 : decode cX5_blind 52 = .ok (.iload_n 2, 1) := by decide +kernel
theorem dX5_blind_53 : decode cX5_blind 53 = .ok (.ifCond .ne 7, 3) := by decide +kernel
theorem dX5_blind_56 : decode cX5_blind 56 = .ok (.iload_n 3, 1) := by decide +kernel
theorem dX5_blind_57 : decode cX5_blind 57 = .ok (.goto 5, 3) := by decide +kernel
theorem dX5_blind_60 : decode cX5_blind 60 = .ok (.iload 4, 2) := by decide +kernel
theorem dX5_blind_62 : decode cX5_blind 62 = .ok (.ireturn, 1) := by decide +kernel
theorem dX5_isBlind_0 : decode cX5_isBlind 0 = .ok (.iload_n 2, 1) := by decide +kernel
theorem dX5_isBlind_1 : decode cX5_isBlind 1 = .ok (.bipush 9, 2) := by decide +kernel
theorem dX5_isBlind_3 : decode cX5_isBlind 3 = .ok (.isub, 1) := by decide +kernel
theorem dX5_isBlind_4 : decode cX5_isBlind 4 = .ok (.istore_n 3, 1) := by decide +kernel
theorem dX5_isBlind_5 : decode cX5_isBlind 5 = .ok (.iload_n 2, 1) := by decide +kernel
theorem dX5_isBlind_6 : decode cX5_isBlind 6 = .ok (.bipush 72, 2) := by decide +kernel
theorem dX5_isBlind_8 : decode cX5_isBlind 8 = .ok (.irem, 1) := by decide +kernel
theorem dX5_isBlind_9 : decode cX5_isBlind 9 = .ok (.bipush 9, 2) := by decide +kernel
theorem dX5_isBlind_11 : decode cX5_isBlind 11 = .ok (.if_icmp .lt 42, 3) := by decide +kernel
theorem dX5_isBlind_14 : decode cX5_isBlind 14 = .ok (.aload_n 1, 1) := by decide +kernel
theorem dX5_isBlind_15 : decode cX5_isBlind 15 = .ok (.iload_n 2, 1) := by decide +kernel
theorem dX5_isBlind_16 : decode cX5_isBlind 16 = .ok (.invokevirtual 32, 3) := by decide +kernel
theorem dX5_isBlind_19 : decode cX5_isBlind 19 = .ok (.ifCond .eq 34, 3) := by decide +kernel
theorem dX5_isBlind_22 : decode cX5_isBlind 22 = .ok (.aload_n 1, 1) := by decide +kernel
theorem dX5_isBlind_23 : decode cX5_isBlind 23 = .ok (.iload_n 3, 1) := by decide +kernel
theorem dX5_isBlind_24 : decode cX5_isBlind 24 = .ok (.invokevirtual 32, 3) := by decide +kernel
theorem dX5_isBlind_27 : decode cX5_isBlind 27 = .ok (.ifCond .eq 26, 3) := by decide +kernel
theorem dX5_isBlind_30 : decode cX5_isBlind 30 = .ok (.aload_n 1, 1) := by decide +kernel
theorem dX5_isBlind_31 : decode cX5_isBlind 31 = .ok (.iload_n 3, 1) := by decide +kernel
theorem dX5_isBlind_32 : decode cX5_isBlind 32 = .ok (.invokevirtual 21, 3) := by decide +kernel
theorem dX5_isBlind_35 : decode cX5_isBlind 35 = .ok (.invokestatic 27, 3) := by decide +kernel
theorem dX5_isBlind_38 : decode cX5_isBlind 38 = .ok (.aload_n 1, 1) := by decide +kernel
theorem dX5_isBlind_39 : decode cX5_isBlind 39 = .ok (.iload_n 2, 1) := by decide +kernel
theorem dX5_isBlind_40 : decode cX5_isBlind 40 = .ok (.invokevirtual 21, 3) := by decide +kernel
theorem dX5_isBlind_43 : decode cX5_isBlind 43 = .ok (.invokestatic 27, 3) := by decide +kernel
theorem dX5_isBlind_46 : decode cX5_isBlind 46 = .ok (.if_icmp .le 7, 3) := by decide +kernel
theorem dX5_isBlind_49 : decode cX5_isBlind 49 = .ok (.iconst 1, 1) := by decide +kernel
theorem dX5_isBlind_50 : decode cX5_isBlind 50 = .ok (.goto 4, 3) := by decide +kernel
theorem dX5_isBlind_53 : decode cX5_isBlind 53 = .ok (.iconst 0, 1) := by decide +kernel
theorem dX5_isBlind_54 : decode cX5_isBlind 54 = .ok (.ireturn, 1) := by decide +kernel
theorem dX5_climbsAnew_0 : decode cX5_climbsAnew 0 = .ok (.iconst 0, 1) := by decide +kernel
theorem dX5_climbsAnew_1 : decode cX5_climbsAnew 1 = .ok (.istore 4, 2) := by decide +kernel
theorem dX5_climbsAnew_3 : decode cX5_climbsAnew 3 = .ok (.iconst 0, 1) := by decide +kernel
theorem dX5_climbsAnew_4 : decode cX5_climbsAnew 4 = .ok (.istore 5, 2) := by decide +kernel
theorem dX5_climbsAnew_6 : decode cX5_climbsAnew 6 = .ok (.iload 5, 2) := by decide +kernel
theorem dX5_climbsAnew_8 : decode cX5_climbsAnew 8 = .ok (.bipush 9, 2) := by decide +kernel
theorem dX5_climbsAnew_10 : decode cX5_climbsAnew 10 = .ok (.if_icmp .ge 85, 3) := by decide +kernel
theorem dX5_climbsAnew_13 : decode cX5_climbsAnew 13 = .ok (.iconst 0, 1) := by decide +kernel
theorem dX5_climbsAnew_14 : decode cX5_climbsAnew 14 = .ok (.istore 6, 2) := by decide +kernel
theorem dX5_climbsAnew_16 : decode cX5_climbsAnew 16 = .ok (.iload 6, 2) := by decide +kernel
theorem dX5_climbsAnew_18 : decode cX5_climbsAnew 18 = .ok (.iload 5, 2) := by decide +kernel
theorem dX5_climbsAnew_20 : decode cX5_climbsAnew 20 = .ok (.if_icmp .ge 69, 3) := by decide +kernel
theorem dX5_climbsAnew_23 : decode cX5_climbsAnew 23 = .ok (.iload_n 2, 1) := by decide +kernel
theorem dX5_climbsAnew_24 : decode cX5_climbsAnew 24 = .ok (.bipush 9, 2) := by decide +kernel
theorem dX5_climbsAnew_26 : decode cX5_climbsAnew 26 = .ok (.imul, 1) := by decide +kernel
theorem dX5_climbsAnew_27 : decode cX5_climbsAnew 27 = .ok (.iload 5, 2) := by decide +kernel
theorem dX5_climbsAnew_29 : decode cX5_climbsAnew 29 = .ok (.iadd, 1) := by decide +kernel
theorem dX5_climbsAnew_30 : decode cX5_climbsAnew 30 = .ok (.istore 7, 2) := by decide +kernel
theorem dX5_climbsAnew_32 : decode cX5_climbsAnew 32 = .ok (.iload_n 2, 1) := by decide +kernel
theorem dX5_climbsAnew_33 : decode cX5_climbsAnew 33 = .ok (.bipush 9, 2) := by decide +kernel
theorem dX5_climbsAnew_35 : decode cX5_climbsAnew 35 = .ok (.imul, 1) := by decide +kernel
theorem dX5_climbsAnew_36 : decode cX5_climbsAnew 36 = .ok (.iload 6, 2) := by decide +kernel
theorem dX5_climbsAnew_38 : decode cX5_climbsAnew 38 = .ok (.iadd, 1) := by decide +kernel
theorem dX5_climbsAnew_39 : decode cX5_climbsAnew 39 = .ok (.istore 8, 2) := by decide +kernel
theorem dX5_climbsAnew_41 : decode cX5_climbsAnew 41 = .ok (.aload_n 1, 1) := by decide +kernel
theorem dX5_climbsAnew_42 : decode cX5_climbsAnew 42 = .ok (.iload 7, 2) := by decide +kernel
theorem dX5_climbsAnew_44 : decode cX5_climbsAnew 44 = .ok (.invokevirtual 32, 3) := by decide +kernel
theorem dX5_climbsAnew_47 : decode cX5_climbsAnew 47 = .ok (.ifCond .eq 36, 3) := by decide +kernel
theorem dX5_climbsAnew_50 : decode cX5_climbsAnew 50 = .ok (.aload_n 1, 1) := by decide +kernel
theorem dX5_climbsAnew_51 : decode cX5_climbsAnew 51 = .ok (.iload 8, 2) := by decide +kernel
theorem dX5_climbsAnew_53 : decode cX5_climbsAnew 53 = .ok (.invokevirtual 32, 3) := by decide +kernel
theorem dX5_climbsAnew_56 : decode cX5_climbsAnew 56 = .ok (.ifCond .eq 27, 3) := by decide +kernel
theorem dX5_climbsAnew_59 : decode cX5_climbsAnew 59 = .ok (.iload_n 3, 1) := by decide +kernel
theorem dX5_climbsAnew_60 : decode cX5_climbsAnew 60 = .ok (.ifCond .eq 20, 3) := by decide +kernel
theorem dX5_climbsAnew_63 : decode cX5_climbsAnew 63 = .ok (.aload_n 1, 1) := by decide +kernel
theorem dX5_climbsAnew_64 : decode cX5_climbsAnew 64 = .ok (.getfield 69, 3) := by decide +kernel
theorem dX5_climbsAnew_67 : decode cX5_climbsAnew 67 = .ok (.iload 8, 2) := by decide +kernel
theorem dX5_climbsAnew_69 : decode cX5_climbsAnew 69 = .ok (.iaload, 1) := by decide +kernel
theorem dX5_climbsAnew_70 : decode cX5_climbsAnew 70 = .ok (.aload_n 1, 1) := by decide +kernel
theorem dX5_climbsAnew_71 : decode cX5_climbsAnew 71 = .ok (.getfield 69, 3) := by decide +kernel
theorem dX5_climbsAnew_74 : decode cX5_climbsAnew 74 = .ok (.iload 7, 2) := by decide +kernel
theorem dX5_climbsAnew_76 : decode cX5_climbsAnew 76 = .ok (.iaload, 1) := by decide +kernel
theorem dX5_climbsAnew_77 : decode cX5_climbsAnew 77 = .ok (.if_icmp .ge 6, 3) := by decide +kernel
theorem dX5_climbsAnew_80 : decode cX5_climbsAnew 80 = .ok (.iinc 4 1, 3) := by decide +kernel
theorem dX5_climbsAnew_83 : decode cX5_climbsAnew 83 = .ok (.iinc 6 1, 3) := by decide +kernel
theorem dX5_climbsAnew_86 : decode cX5_climbsAnew 86 = .ok (.goto (-70), 3) := by decide +kernel
theorem dX5_climbsAnew_89 : decode cX5_climbsAnew 89 = .ok (.iinc 5 1, 3) := by decide +kernel
theorem dX5_climbsAnew_92 : decode cX5_climbsAnew 92 = .ok (.goto (-86), 3) := by decide +kernel
theorem dX5_climbsAnew_95 : decode cX5_climbsAnew 95 = .ok (.iload 4, 2) := by decide +kernel
theorem dX5_climbsAnew_97 : decode cX5_climbsAnew 97 = .ok (.ireturn, 1) := by decide +kernel
theorem dX5_seatTwo_0 : decode cX5_seatTwo 0 = .ok (.iconst 0, 1) := by decide +kernel
theorem dX5_seatTwo_1 : decode cX5_seatTwo 1 = .ok (.istore 5, 2) := by decide +kernel
theorem dX5_seatTwo_3 : decode cX5_seatTwo 3 = .ok (.bipush (-2), 2) := by decide +kernel
theorem dX5_seatTwo_5 : decode cX5_seatTwo 5 = .ok (.istore 6, 2) := by decide +kernel
theorem dX5_seatTwo_7 : decode cX5_seatTwo 7 = .ok (.bipush (-2), 2) := by decide +kernel
theorem dX5_seatTwo_9 : decode cX5_seatTwo 9 = .ok (.istore 7, 2) := by decide +kernel
theorem dX5_seatTwo_11 : decode cX5_seatTwo 11 = .ok (.iload_n 2, 1) := by decide +kernel
theorem dX5_seatTwo_12 : decode cX5_seatTwo 12 = .ok (.bipush 72, 2) := by decide +kernel
theorem dX5_seatTwo_14 : decode cX5_seatTwo 14 = .ok (.imul, 1) := by decide +kernel
theorem dX5_seatTwo_15 : decode cX5_seatTwo 15 = .ok (.bipush 72, 2) := by decide +kernel
theorem dX5_seatTwo_17 : decode cX5_seatTwo 17 = .ok (.iadd, 1) := by decide +kernel
theorem dX5_seatTwo_18 : decode cX5_seatTwo 18 = .ok (.istore 8, 2) := by decide +kernel
theorem dX5_seatTwo_20 : decode cX5_seatTwo 20 = .ok (.iload 8, 2) := by decide +kernel
theorem dX5_seatTwo_22 : decode cX5_seatTwo 22 = .ok (.bipush 72, 2) := by decide +kernel
theorem dX5_seatTwo_24 : decode cX5_seatTwo 24 = .ok (.isub, 1) := by decide +kernel
theorem dX5_seatTwo_25 : decode cX5_seatTwo 25 = .ok (.istore 9, 2) := by decide +kernel
theorem dX5_seatTwo_27 : decode cX5_seatTwo 27 = .ok (.iload 9, 2) := by decide +kernel
theorem dX5_seatTwo_29 : decode cX5_seatTwo 29 = .ok (.iload 8, 2) := by decide +kernel
theorem dX5_seatTwo_31 : decode cX5_seatTwo 31 = .ok (.if_icmp .ge 92, 3) := by decide +kernel
theorem dX5_seatTwo_34 : decode cX5_seatTwo 34 = .ok (.iload 9, 2) := by decide +kernel
theorem dX5_seatTwo_36 : decode cX5_seatTwo 36 = .ok (.iconst 1, 1) := by decide +kernel
theorem dX5_seatTwo_37 : decode cX5_seatTwo 37 = .ok (.iadd, 1) := by decide +kernel
theorem dX5_seatTwo_38 : decode cX5_seatTwo 38 = .ok (.istore 10, 2) := by decide +kernel
theorem dX5_seatTwo_40 : decode cX5_seatTwo 40 = .ok (.iload 10, 2) := by decide +kernel
theorem dX5_seatTwo_42 : decode cX5_seatTwo 42 = .ok (.iload 8, 2) := by decide +kernel
theorem dX5_seatTwo_44 : decode cX5_seatTwo 44 = .ok (.if_icmp .ge 73, 3) := by decide +kernel
theorem dX5_seatTwo_47 : decode cX5_seatTwo 47 = .ok (.aload_n 1, 1) := by decide +kernel
theorem dX5_seatTwo_48 : decode cX5_seatTwo 48 = .ok (.iload 9, 2) := by decide +kernel
theorem dX5_seatTwo_50 : decode cX5_seatTwo 50 = .ok (.invokevirtual 32, 3) := by decide +kernel
theorem dX5_seatTwo_53 : decode cX5_seatTwo 53 = .ok (.ifCond .ne 64, 3) := by decide +kernel
theorem dX5_seatTwo_56 : decode cX5_seatTwo 56 = .ok (.aload_n 1, 1) := by decide +kernel
theorem dX5_seatTwo_57 : decode cX5_seatTwo 57 = .ok (.iload 10, 2) := by decide +kernel
theorem dX5_seatTwo_59 : decode cX5_seatTwo 59 = .ok (.invokevirtual 32, 3) := by decide +kernel
theorem dX5_seatTwo_62 : decode cX5_seatTwo 62 = .ok (.ifCond .ne 49, 3) := by decide +kernel
theorem dX5_seatTwo_65 : decode cX5_seatTwo 65 = .ok (.iload 10, 2) := by decide +kernel
theorem dX5_seatTwo_67 : decode cX5_seatTwo 67 = .ok (.bipush 9, 2) := by decide +kernel
theorem dX5_seatTwo_69 : decode cX5_seatTwo 69 = .ok (.idiv, 1) := by decide +kernel
theorem dX5_seatTwo_70 : decode cX5_seatTwo 70 = .ok (.iload 9, 2) := by decide +kernel
theorem dX5_seatTwo_72 : decode cX5_seatTwo 72 = .ok (.bipush 9, 2) := by decide +kernel
theorem dX5_seatTwo_74 : decode cX5_seatTwo 74 = .ok (.idiv, 1) := by decide +kernel
theorem dX5_seatTwo_75 : decode cX5_seatTwo 75 = .ok (.isub, 1) := by decide +kernel
theorem dX5_seatTwo_76 : decode cX5_seatTwo 76 = .ok (.iload_n 3, 1) := by decide +kernel
theorem dX5_seatTwo_77 : decode cX5_seatTwo 77 = .ok (.if_icmp .lt 34, 3) := by decide +kernel
theorem dX5_seatTwo_80 : decode cX5_seatTwo 80 = .ok (.iload 5, 2) := by decide +kernel
theorem dX5_seatTwo_82 : decode cX5_seatTwo 82 = .ok (.ifCond .ne 8, 3) := by decide +kernel
theorem dX5_seatTwo_85 : decode cX5_seatTwo 85 = .ok (.iload 9, 2) := by decide +kernel
theorem dX5_seatTwo_87 : decode cX5_seatTwo 87 = .ok (.goto 5, 3) := by decide +kernel
theorem dX5_seatTwo_90 : decode cX5_seatTwo 90 = .ok (.iload 6, 2) := by decide +kernel
theorem dX5_seatTwo_92 : decode cX5_seatTwo 92 = .ok (.istore 6, 2) := by decide +kernel
theorem dX5_seatTwo_94 : decode cX5_seatTwo 94 = .ok (.iload 5, 2) := by decide +kernel
theorem dX5_seatTwo_96 : decode cX5_seatTwo 96 = .ok (.ifCond .ne 8, 3) := by decide +kernel
theorem dX5_seatTwo_99 : decode cX5_seatTwo 99 = .ok (.iload 10, 2) := by decide +kernel
theorem dX5_seatTwo_101 : decode cX5_seatTwo 101 = .ok (.goto 5, 3) := by decide +kernel
theorem dX5_seatTwo_104 : decode cX5_seatTwo 104 = .ok (.iload 7, 2) := by decide +kernel
theorem dX5_seatTwo_106 : decode cX5_seatTwo 106 = .ok (.istore 7, 2) := by decide +kernel
theorem dX5_seatTwo_108 : decode cX5_seatTwo 108 = .ok (.iinc 5 1, 3) := by decide +kernel
theorem dX5_seatTwo_111 : decode cX5_seatTwo 111 = .ok (.iinc 10 1, 3) := by decide +kernel
theorem dX5_seatTwo_114 : decode cX5_seatTwo 114 = .ok (.goto (-74), 3) := by decide +kernel
theorem dX5_seatTwo_117 : decode cX5_seatTwo 117 = .ok (.iinc 9 1, 3) := by decide +kernel
theorem dX5_seatTwo_120 : decode cX5_seatTwo 120 = .ok (.goto (-93), 3) := by decide +kernel
theorem dX5_seatTwo_123 : decode cX5_seatTwo 123 = .ok (.iload 4, 2) := by decide +kernel
theorem dX5_seatTwo_125 : decode cX5_seatTwo 125 = .ok (.ifCond .ne 6, 3) := by decide +kernel
theorem dX5_seatTwo_128 : decode cX5_seatTwo 128 = .ok (.iload 5, 2) := by decide +kernel
theorem dX5_seatTwo_130 : decode cX5_seatTwo 130 = .ok (.ireturn, 1) := by decide +kernel
theorem dX5_seatTwo_131 : decode cX5_seatTwo 131 = .ok (.iload 4, 2) := by decide +kernel
theorem dX5_seatTwo_133 : decode cX5_seatTwo 133 = .ok (.iconst 1, 1) := by decide +kernel
theorem dX5_seatTwo_134 : decode cX5_seatTwo 134 = .ok (.if_icmp .ne 8, 3) := by decide +kernel
theorem dX5_seatTwo_137 : decode cX5_seatTwo 137 = .ok (.iload 6, 2) := by decide +kernel
theorem dX5_seatTwo_139 : decode cX5_seatTwo 139 = .ok (.goto 5, 3) := by decide +kernel
theorem dX5_seatTwo_142 : decode cX5_seatTwo 142 = .ok (.iload 7, 2) := by decide +kernel
theorem dX5_seatTwo_144 : decode cX5_seatTwo 144 = .ok (.ireturn, 1) := by decide +kernel
theorem dX5_choir_0 : decode cX5_choir 0 = .ok (.aload_n 0, 1) := by decide +kernel
theorem dX5_choir_1 : decode cX5_choir 1 = .ok (.aload_n 1, 1) := by decide +kernel
theorem dX5_choir_2 : decode cX5_choir 2 = .ok (.invokevirtual 72, 3) := by decide +kernel
theorem dX5_choir_5 : decode cX5_choir 5 = .ok (.istore_n 3, 1) := by decide +kernel
theorem dX5_choir_6 : decode cX5_choir 6 = .ok (.iload_n 2, 1) := by decide +kernel
theorem dX5_choir_7 : decode cX5_choir 7 = .ok (.ifCond .eq 7, 3) := by decide +kernel
theorem dX5_choir_10 : decode cX5_choir 10 = .ok (.iload_n 3, 1) := by decide +kernel
theorem dX5_choir_11 : decode cX5_choir 11 = .ok (.ifCond .ne 14, 3) := by decide +kernel
theorem dX5_choir_14 : decode cX5_choir 14 = .ok (.iload_n 2, 1) := by decide +kernel
theorem dX5_choir_15 : decode cX5_choir 15 = .ok (.ifCond .ne 7, 3) := by decide +kernel
theorem dX5_choir_18 : decode cX5_choir 18 = .ok (.iload_n 3, 1) := by decide +kernel
theorem dX5_choir_19 : decode cX5_choir 19 = .ok (.goto 5, 3) := by decide +kernel
theorem dX5_choir_22 : decode cX5_choir 22 = .ok (.bipush (-2), 2) := by decide +kernel
theorem dX5_choir_24 : decode cX5_choir 24 = .ok (.ireturn, 1) := by decide +kernel
theorem dX5_choir_25 : decode cX5_choir 25 = .ok (.aload_n 0, 1) := by decide +kernel
theorem dX5_choir_26 : decode cX5_choir 26 = .ok (.iload_n 3, 1) := by decide +kernel
theorem dX5_choir_27 : decode cX5_choir 27 = .ok (.invokevirtual 76, 3) := by decide +kernel
theorem dX5_choir_30 : decode cX5_choir 30 = .ok (.istore 4, 2) := by decide +kernel
theorem dX5_choir_32 : decode cX5_choir 32 = .ok (.iload_n 2, 1) := by decide +kernel
theorem dX5_choir_33 : decode cX5_choir 33 = .ok (.iconst 1, 1) := by decide +kernel
theorem dX5_choir_34 : decode cX5_choir 34 = .ok (.if_icmp .ne 6, 3) := by decide +kernel
theorem dX5_choir_37 : decode cX5_choir 37 = .ok (.iload 4, 2) := by decide +kernel
theorem dX5_choir_39 : decode cX5_choir 39 = .ok (.ireturn, 1) := by decide +kernel
theorem dX5_choir_40 : decode cX5_choir 40 = .ok (.iconst 0, 1) := by decide +kernel
theorem dX5_choir_41 : decode cX5_choir 41 = .ok (.istore 5, 2) := by decide +kernel
theorem dX5_choir_43 : decode cX5_choir 43 = .ok (.iconst 0, 1) := by decide +kernel
theorem dX5_choir_44 : decode cX5_choir 44 = .ok (.istore 6, 2) := by decide +kernel
theorem dX5_choir_46 : decode cX5_choir 46 = .ok (.iload 6, 2) := by decide +kernel
theorem dX5_choir_48 : decode cX5_choir 48 = .ok (.bipush 8, 2) := by decide +kernel
theorem dX5_choir_50 : decode cX5_choir 50 = .ok (.if_icmp .ge 30, 3) := by decide +kernel
theorem dX5_choir_53 : decode cX5_choir 53 = .ok (.iload 5, 2) := by decide +kernel
theorem dX5_choir_55 : decode cX5_choir 55 = .ok (.aload_n 0, 1) := by decide +kernel
theorem dX5_choir_56 : decode cX5_choir 56 = .ok (.getfield 9, 3) := by decide +kernel
theorem dX5_choir_59 : decode cX5_choir 59 = .ok (.iload 6, 2) := by decide +kernel
theorem dX5_choir_61 : decode cX5_choir 61 = .ok (.iaload, 1) := by decide +kernel
theorem dX5_choir_62 : decode cX5_choir 62 = .ok (.iload 6, 2) := by decide +kernel
theorem dX5_choir_64 : decode cX5_choir 64 = .ok (.iload 4, 2) := by decide +kernel
theorem dX5_choir_66 : decode cX5_choir 66 = .ok (.isub, 1) := by decide +kernel
theorem dX5_choir_67 : decode cX5_choir 67 = .ok (.invokestatic 79, 3) := by decide +kernel
theorem dX5_choir_70 : decode cX5_choir 70 = .ok (.imul, 1) := by decide +kernel
theorem dX5_choir_71 : decode cX5_choir 71 = .ok (.iadd, 1) := by decide +kernel
theorem dX5_choir_72 : decode cX5_choir 72 = .ok (.istore 5, 2) := by decide +kernel
theorem dX5_choir_74 : decode cX5_choir 74 = .ok (.iinc 6 1, 3) := by decide +kernel
theorem dX5_choir_77 : decode cX5_choir 77 = .ok (.goto (-31), 3) := by decide +kernel
theorem dX5_choir_80 : decode cX5_choir 80 = .ok (.iload 5, 2) := by decide +kernel
theorem dX5_choir_82 : decode cX5_choir 82 = .ok (.ireturn, 1) := by decide +kernel
theorem dX5_fillSingersByRow_0 : decode cX5_fillSingersByRow 0 = .ok (.iconst 0, 1) := by decide +kernel
theorem dX5_fillSingersByRow_1 : decode cX5_fillSingersByRow 1 = .ok (.istore_n 2, 1) := by decide +kernel
theorem dX5_fillSingersByRow_2 : decode cX5_fillSingersByRow 2 = .ok (.aload_n 0, 1) := by decide +kernel
theorem dX5_fillSingersByRow_3 : decode cX5_fillSingersByRow 3 = .ok (.getfield 9, 3) := by decide +kernel
theorem dX5_fillSingersByRow_6 : decode cX5_fillSingersByRow 6 = .ok (.iconst 0, 1) := by decide +kernel
theorem dX5_fillSingersByRow_7 : decode cX5_fillSingersByRow 7 = .ok (.invokestatic 82, 3) := by decide +kernel
theorem dX5_fillSingersByRow_10 : decode cX5_fillSingersByRow 10 = .ok (.iconst 0, 1) := by decide +kernel
theorem dX5_fillSingersByRow_11 : decode cX5_fillSingersByRow 11 = .ok (.istore_n 3, 1) := by decide +kernel
theorem dX5_fillSingersByRow_12 : decode cX5_fillSingersByRow 12 = .ok (.iload_n 3, 1) := by decide +kernel
theorem dX5_fillSingersByRow_13 : decode cX5_fillSingersByRow 13 = .ok (.sipush 144, 3) := by decide +kernel
theorem dX5_fillSingersByRow_16 : decode cX5_fillSingersByRow 16 = .ok (.if_icmp .ge 48, 3) := by decide +kernel
theorem dX5_fillSingersByRow_19 : decode cX5_fillSingersByRow 19 = .ok (.aload_n 1, 1) := by decide +kernel
theorem dX5_fillSingersByRow_20 : decode cX5_fillSingersByRow 20 = .ok (.iload_n 3, 1) := by decide +kernel
theorem dX5_fillSingersByRow_21 : decode cX5_fillSingersByRow 21 = .ok (.invokevirtual 32, 3) := by decide +kernel
theorem dX5_fillSingersByRow_24 : decode cX5_fillSingersByRow 24 = .ok (.ifCond .eq 34, 3) := by decide +kernel
theorem dX5_fillSingersByRow_27 : decode cX5_fillSingersByRow 27 = .ok (.aload_n 1, 1) := by decide +kernel
theorem dX5_fillSingersByRow_28 : decode cX5_fillSingersByRow 28 = .ok (.iload_n 3, 1) := by decide +kernel
theorem dX5_fillSingersByRow_29 : decode cX5_fillSingersByRow 29 = .ok (.invokevirtual 21, 3) := by decide +kernel
theorem dX5_fillSingersByRow_32 : decode cX5_fillSingersByRow 32 = .ok (.invokestatic 88, 3) := by decide +kernel
theorem dX5_fillSingersByRow_35 : decode cX5_fillSingersByRow 35 = .ok (.iconst 1, 1) := by decide +kernel
theorem dX5_fillSingersByRow_36 : decode cX5_fillSingersByRow 36 = .ok (.if_icmp .ne 22, 3) := by decide +kernel
theorem dX5_fillSingersByRow_39 : decode cX5_fillSingersByRow 39 = .ok (.aload_n 0, 1) := by decide +kernel
theorem dX5_fillSingersByRow_40 : decode cX5_fillSingersByRow 40 = .ok (.getfield 9, 3) := by decide +kernel
theorem dX5_fillSingersByRow_43 : decode cX5_fillSingersByRow 43 = .ok (.iload_n 3, 1) := by decide +kernel
theorem dX5_fillSingersByRow_44 : decode cX5_fillSingersByRow 44 = .ok (.bipush 9, 2) := by decide +kernel
theorem dX5_fillSingersByRow_46 : decode cX5_fillSingersByRow 46 = .ok (.idiv, 1) := by decide +kernel
theorem dX5_fillSingersByRow_47 : decode cX5_fillSingersByRow 47 = .ok (.bipush 8, 2) := by decide +kernel
theorem dX5_fillSingersByRow_49 : decode cX5_fillSingersByRow 49 = .ok (.irem, 1) := by decide +kernel
theorem dX5_fillSingersByRow_50 : decode cX5_fillSingersByRow 50 = .ok (.dup2, 1) := by decide +kernel
theorem dX5_fillSingersByRow_51 : decode cX5_fillSingersByRow 51 = .ok (.iaload, 1) := by decide +kernel
theorem dX5_fillSingersByRow_52 : decode cX5_fillSingersByRow 52 = .ok (.iconst 1, 1) := by decide +kernel
theorem dX5_fillSingersByRow_53 : decode cX5_fillSingersByRow 53 = .ok (.iadd, 1) := by decide +kernel
theorem dX5_fillSingersByRow_54 : decode cX5_fillSingersByRow 54 = .ok (.iastore, 1) := by decide +kernel
theorem dX5_fillSingersByRow_55 : decode cX5_fillSingersByRow 55 = .ok (.iinc 2 1, 3) := by decide +kernel
theorem dX5_fillSingersByRow_58 : decode cX5_fillSingersByRow 58 = .ok (.iinc 3 1, 3) := by decide +kernel
theorem dX5_fillSingersByRow_61 : decode cX5_fillSingersByRow 61 = .ok (.goto (-49), 3) := by decide +kernel
theorem dX5_fillSingersByRow_64 : decode cX5_fillSingersByRow 64 = .ok (.iload_n 2, 1) := by decide +kernel
theorem dX5_fillSingersByRow_65 : decode cX5_fillSingersByRow 65 = .ok (.ireturn, 1) := by decide +kernel
theorem dX5_middleRow_0 : decode cX5_middleRow 0 = .ok (.iconst 0, 1) := by decide +kernel
theorem dX5_middleRow_1 : decode cX5_middleRow 1 = .ok (.istore_n 2, 1) := by decide +kernel
theorem dX5_middleRow_2 : decode cX5_middleRow 2 = .ok (.iconst 0, 1) := by decide +kernel
theorem dX5_middleRow_3 : decode cX5_middleRow 3 = .ok (.istore_n 3, 1) := by decide +kernel
theorem dX5_middleRow_4 : decode cX5_middleRow 4 = .ok (.iload_n 3, 1) := by decide +kernel
theorem dX5_middleRow_5 : decode cX5_middleRow 5 = .ok (.bipush 8, 2) := by decide +kernel
theorem dX5_middleRow_7 : decode cX5_middleRow 7 = .ok (.if_icmp .ge 27, 3) := by decide +kernel
theorem dX5_middleRow_10 : decode cX5_middleRow 10 = .ok (.iload_n 2, 1) := by decide +kernel
theorem dX5_middleRow_11 : decode cX5_middleRow 11 = .ok (.aload_n 0, 1) := by decide +kernel
theorem dX5_middleRow_12 : decode cX5_middleRow 12 = .ok (.getfield 9, 3) := by decide +kernel
theorem dX5_middleRow_15 : decode cX5_middleRow 15 = .ok (.iload_n 3, 1) := by decide +kernel
theorem dX5_middleRow_16 : decode cX5_middleRow 16 = .ok (.iaload, 1) := by decide +kernel
theorem dX5_middleRow_17 : decode cX5_middleRow 17 = .ok (.iadd, 1) := by decide +kernel
theorem dX5_middleRow_18 : decode cX5_middleRow 18 = .ok (.istore_n 2, 1) := by decide +kernel
theorem dX5_middleRow_19 : decode cX5_middleRow 19 = .ok (.iconst 2, 1) := by decide +kernel
theorem dX5_middleRow_20 : decode cX5_middleRow 20 = .ok (.iload_n 2, 1) := by decide +kernel
theorem dX5_middleRow_21 : decode cX5_middleRow 21 = .ok (.imul, 1) := by decide +kernel
theorem dX5_middleRow_22 : decode cX5_middleRow 22 = .ok (.iload_n 1, 1) := by decide +kernel
theorem dX5_middleRow_23 : decode cX5_middleRow 23 = .ok (.if_icmp .lt 5, 3) := by decide +kernel
theorem dX5_middleRow_26 : decode cX5_middleRow 26 = .ok (.iload_n 3, 1) := by decide +kernel
theorem dX5_middleRow_27 : decode cX5_middleRow 27 = .ok (.ireturn, 1) := by decide +kernel
theorem dX5_middleRow_28 : decode cX5_middleRow 28 = .ok (.iinc 3 1, 3) := by decide +kernel
theorem dX5_middleRow_31 : decode cX5_middleRow 31 = .ok (.goto (-27), 3) := by decide +kernel
theorem dX5_middleRow_34 : decode cX5_middleRow 34 = .ok (.bipush 7, 2) := by decide +kernel
theorem dX5_middleRow_36 : decode cX5_middleRow 36 = .ok (.ireturn, 1) := by decide +kernel
theorem dX5_lonely_0 : decode cX5_lonely 0 = .ok (.iconst 0, 1) := by decide +kernel
theorem dX5_lonely_1 : decode cX5_lonely 1 = .ok (.istore_n 3, 1) := by decide +kernel
theorem dX5_lonely_2 : decode cX5_lonely 2 = .ok (.bipush (-2), 2) := by decide +kernel
theorem dX5_lonely_4 : decode cX5_lonely 4 = .ok (.istore 4, 2) := by decide +kernel
theorem dX5_lonely_6 : decode cX5_lonely 6 = .ok (.iconst 0, 1) := by decide +kernel
theorem dX5_lonely_7 : decode cX5_lonely 7 = .ok (.istore 5, 2) := by decide +kernel
theorem dX5_lonely_9 : decode cX5_lonely 9 = .ok (.iload 5, 2) := by decide +kernel
theorem dX5_lonely_11 : decode cX5_lonely 11 = .ok (.sipush 144, 3) := by decide +kernel
theorem dX5_lonely_14 : decode cX5_lonely 14 = .ok (.if_icmp .ge 47, 3) := by decide +kernel
theorem dX5_lonely_17 : decode cX5_lonely 17 = .ok (.aload_n 1, 1) := by decide +kernel
theorem dX5_lonely_18 : decode cX5_lonely 18 = .ok (.iload 5, 2) := by decide +kernel
theorem dX5_lonely_20 : decode cX5_lonely 20 = .ok (.invokevirtual 32, 3) := by decide +kernel
theorem dX5_lonely_23 : decode cX5_lonely 23 = .ok (.ifCond .eq 32, 3) := by decide +kernel
theorem dX5_lonely_26 : decode cX5_lonely 26 = .ok (.aload_n 0, 1) := by decide +kernel
theorem dX5_lonely_27 : decode cX5_lonely 27 = .ok (.aload_n 1, 1) := by decide +kernel
theorem dX5_lonely_28 : decode cX5_lonely 28 = .ok (.iload 5, 2) := by decide +kernel
theorem dX5_lonely_30 : decode cX5_lonely 30 = .ok (.invokevirtual 91, 3) := by decide +kernel
theorem dX5_lonely_33 : decode cX5_lonely 33 = .ok (.ifCond .eq 22, 3) := by decide +kernel
theorem dX5_lonely_36 : decode cX5_lonely 36 = .ok (.iinc 3 1, 3) := by decide +kernel
theorem dX5_lonely_39 : decode cX5_lonely 39 = .ok (.iload 4, 2) := by decide +kernel
theorem dX5_lonely_41 : decode cX5_lonely 41 = .ok (.bipush (-2), 2) := by decide +kernel
theorem dX5_lonely_43 : decode cX5_lonely 43 = .ok (.if_icmp .ne 8, 3) := by decide +kernel
theorem dX5_lonely_46 : decode cX5_lonely 46 = .ok (.iload 5, 2) := by decide +kernel
theorem dX5_lonely_48 : decode cX5_lonely 48 = .ok (.goto 5, 3) := by decide +kernel
theorem dX5_lonely_51 : decode cX5_lonely 51 = .ok (.iload 4, 2) := by decide +kernel
theorem dX5_lonely_53 : decode cX5_lonely 53 = .ok (.istore 4, 2) := by decide +kernel
theorem dX5_lonely_55 : decode cX5_lonely 55 = .ok (.iinc 5 1, 3) := by decide +kernel
theorem dX5_lonely_58 : decode cX5_lonely 58 = .ok (.goto (-49), 3) := by decide +kernel
theorem dX5_lonely_61 : decode cX5_lonely 61 = .ok (.iload_n 2, 1) := by decide +kernel
theorem dX5_lonely_62 : decode cX5_lonely 62 = .ok (.ifCond .ne 7, 3) := by decide +kernel
theorem dX5_lonely_65 : decode cX5_lonely 65 = .ok (.iload_n 3, 1) := by decide +kernel
theorem dX5_lonely_66 : decode cX5_lonely 66 = .ok (.goto 5, 3) := by decide +kernel
theorem dX5_lonely_69 : decode cX5_lonely 69 = .ok (.iload 4, 2) := by decide +kernel
theorem dX5_lonely_71 : decode cX5_lonely 71 = .ok (.ireturn, 1) := by decide +kernel
theorem dX5_isLonely_0 : decode cX5_isLonely 0 = .ok (.aload_n 1, 1) := by decide +kernel
theorem dX5_isLonely_1 : decode cX5_isLonely 1 = .ok (.iload_n 2, 1) := by decide +kernel
theorem dX5_isLonely_2 : decode cX5_isLonely 2 = .ok (.invokevirtual 21, 3) := by decide +kernel
theorem dX5_isLonely_5 : decode cX5_isLonely 5 = .ok (.invokestatic 36, 3) := by decide +kernel
theorem dX5_isLonely_8 : decode cX5_isLonely 8 = .ok (.istore_n 3, 1) := by decide +kernel
theorem dX5_isLonely_9 : decode cX5_isLonely 9 = .ok (.iload_n 2, 1) := by decide +kernel
theorem dX5_isLonely_10 : decode cX5_isLonely 10 = .ok (.bipush 9, 2) := by decide +kernel
theorem dX5_isLonely_12 : decode cX5_isLonely 12 = .ok (.irem, 1) := by decide +kernel
theorem dX5_isLonely_13 : decode cX5_isLonely 13 = .ok (.ifCond .le 17, 3) := by decide +kernel
theorem dX5_isLonely_16 : decode cX5_isLonely 16 = .ok (.aload_n 1, 1) := by decide +kernel
theorem dX5_isLonely_17 : decode cX5_isLonely 17 = .ok (.iload_n 2, 1) := by decide +kernel
theorem dX5_isLonely_18 : decode cX5_isLonely 18 = .ok (.iconst 1, 1) := by decide +kernel
theorem dX5_isLonely_19 : decode cX5_isLonely 19 = .ok (.isub, 1) := by decide +kernel
theorem dX5_isLonely_20 : decode cX5_isLonely 20 = .ok (.invokevirtual 32, 3) := by decide +kernel
theorem dX5_isLonely_23 : decode cX5_isLonely 23 = .ok (.ifCond .eq 7, 3) := by decide +kernel
theorem dX5_isLonely_26 : decode cX5_isLonely 26 = .ok (.iconst 1, 1) := by decide +kernel
theorem dX5_isLonely_27 : decode cX5_isLonely 27 = .ok (.goto 4, 3) := by decide +kernel
theorem dX5_isLonely_30 : decode cX5_isLonely 30 = .ok (.iconst 0, 1) := by decide +kernel
theorem dX5_isLonely_31 : decode cX5_isLonely 31 = .ok (.istore 4, 2) := by decide +kernel
theorem dX5_isLonely_33 : decode cX5_isLonely 33 = .ok (.iload_n 2, 1) := by decide +kernel
theorem dX5_isLonely_34 : decode cX5_isLonely 34 = .ok (.bipush 9, 2) := by decide +kernel
theorem dX5_isLonely_36 : decode cX5_isLonely 36 = .ok (.irem, 1) := by decide +kernel
theorem dX5_isLonely_37 : decode cX5_isLonely 37 = .ok (.bipush 8, 2) := by decide +kernel
theorem dX5_isLonely_39 : decode cX5_isLonely 39 = .ok (.if_icmp .ge 17, 3) := by decide +kernel
theorem dX5_isLonely_42 : decode cX5_isLonely 42 = .ok (.aload_n 1, 1) := by decide +kernel
theorem dX5_isLonely_43 : decode cX5_isLonely 43 = .ok (.iload_n 2, 1) := by decide +kernel
theorem dX5_isLonely_44 : decode cX5_isLonely 44 = .ok (.iconst 1, 1) := by decide +kernel
theorem dX5_isLonely_45 : decode cX5_isLonely 45 = .ok (.iadd, 1) := by decide +kernel
theorem dX5_isLonely_46 : decode cX5_isLonely 46 = .ok (.invokevirtual 32, 3) := by decide +kernel
theorem dX5_isLonely_49 : decode cX5_isLonely 49 = .ok (.ifCond .eq 7, 3) := by decide +kernel
theorem dX5_isLonely_52 : decode cX5_isLonely 52 = .ok (.iconst 1, 1) := by decide +kernel
theorem dX5_isLonely_53 : decode cX5_isLonely 53 = .ok (.goto 4, 3) := by decide +kernel
theorem dX5_isLonely_56 : decode cX5_isLonely 56 = .ok (.iconst 0, 1) := by decide +kernel
theorem dX5_isLonely_57 : decode cX5_isLonely 57 = .ok (.istore 5, 2) := by decide +kernel
theorem dX5_isLonely_59 : decode cX5_isLonely 59 = .ok (.iload 4, 2) := by decide +kernel
theorem dX5_isLonely_61 : decode cX5_isLonely 61 = .ok (.ifCond .eq 14, 3) := by decide +kernel
theorem dX5_isLonely_64 : decode cX5_isLonely 64 = .ok (.aload_n 1, 1) := by decide +kernel
theorem dX5_isLonely_65 : decode cX5_isLonely 65 = .ok (.iload_n 2, 1) := by decide +kernel
theorem dX5_isLonely_66 : decode cX5_isLonely 66 = .ok (.iconst 1, 1) := by decide +kernel
theorem dX5_isLonely_67 : decode cX5_isLonely 67 = .ok (.isub, 1) := by decide +kernel
theorem dX5_isLonely_68 : decode cX5_isLonely 68 = .ok (.iload_n 3, 1) := by decide +kernel
theorem dX5_isLonely_69 : decode cX5_isLonely 69 = .ok (.invokevirtual 45, 3) := by decide +kernel
theorem dX5_isLonely_72 : decode cX5_isLonely 72 = .ok (.ifCond .ne 19, 3) := by decide +kernel
theorem dX5_isLonely_75 : decode cX5_isLonely 75 = .ok (.iload 5, 2) := by decide +kernel
theorem dX5_isLonely_77 : decode cX5_isLonely 77 = .ok (.ifCond .eq 18, 3) := by decide +kernel
theorem dX5_isLonely_80 : decode cX5_isLonely 80 = .ok (.aload_n 1, 1) := by decide +kernel
theorem dX5_isLonely_81 : decode cX5_isLonely 81 = .ok (.iload_n 2, 1) := by decide +kernel
theorem dX5_isLonely_82 : decode cX5_isLonely 82 = .ok (.iconst 1, 1) := by decide +kernel
theorem dX5_isLonely_83 : decode cX5_isLonely 83 = .ok (.iadd, 1) := by decide +kernel
theorem dX5_isLonely_84 : decode cX5_isLonely 84 = .ok (.iload_n 3, 1) := by decide +kernel
theorem dX5_isLonely_85 : decode cX5_isLonely 85 = .ok (.invokevirtual 45, 3) := by decide +kernel
theorem dX5_isLonely_88 : decode cX5_isLonely 88 = .ok (.ifCond .eq 7, 3) := by decide +kernel
theorem dX5_isLonely_91 : decode cX5_isLonely 91 = .ok (.iconst 1, 1) := by decide +kernel
theorem dX5_isLonely_92 : decode cX5_isLonely 92 = .ok (.goto 4, 3) := by decide +kernel
theorem dX5_isLonely_95 : decode cX5_isLonely 95 = .ok (.iconst 0, 1) := by decide +kernel
theorem dX5_isLonely_96 : decode cX5_isLonely 96 = .ok (.istore 6, 2) := by decide +kernel
theorem dX5_isLonely_98 : decode cX5_isLonely 98 = .ok (.iload 4, 2) := by decide +kernel
theorem dX5_isLonely_100 : decode cX5_isLonely 100 = .ok (.ifCond .ne 8, 3) := by decide +kernel
theorem dX5_isLonely_103 : decode cX5_isLonely 103 = .ok (.iload 5, 2) := by decide +kernel
theorem dX5_isLonely_105 : decode cX5_isLonely 105 = .ok (.ifCond .eq 12, 3) := by decide +kernel
theorem dX5_isLonely_108 : decode cX5_isLonely 108 = .ok (.iload 6, 2) := by decide +kernel
theorem dX5_isLonely_110 : decode cX5_isLonely 110 = .ok (.ifCond .ne 7, 3) := by decide +kernel
theorem dX5_isLonely_113 : decode cX5_isLonely 113 = .ok (.iconst 1, 1) := by decide +kernel
theorem dX5_isLonely_114 : decode cX5_isLonely 114 = .ok (.goto 4, 3) := by decide +kernel
theorem dX5_isLonely_117 : decode cX5_isLonely 117 = .ok (.iconst 0, 1) := by decide +kernel
theorem dX5_isLonely_118 : decode cX5_isLonely 118 = .ok (.ireturn, 1) := by decide +kernel
theorem dX5_familiesWaiting_0 : decode cX5_familiesWaiting 0 = .ok (.iconst 0, 1) := by decide +kernel
theorem dX5_familiesWaiting_1 : decode cX5_familiesWaiting 1 = .ok (.istore_n 2, 1) := by decide +kernel
theorem dX5_familiesWaiting_2 : decode cX5_familiesWaiting 2 = .ok (.iconst 0, 1) := by decide +kernel
theorem dX5_familiesWaiting_3 : decode cX5_familiesWaiting 3 = .ok (.istore_n 3, 1) := by decide +kernel
theorem dX5_familiesWaiting_4 : decode cX5_familiesWaiting 4 = .ok (.iload_n 3, 1) := by decide +kernel
theorem dX5_familiesWaiting_5 : decode cX5_familiesWaiting 5 = .ok (.aload_n 1, 1) := by decide +kernel
theorem dX5_familiesWaiting_6 : decode cX5_familiesWaiting 6 = .ok (.getfield 94, 3) := by decide +kernel
theorem dX5_familiesWaiting_9 : decode cX5_familiesWaiting 9 = .ok (.if_icmp .ge 30, 3) := by decide +kernel
theorem dX5_familiesWaiting_12 : decode cX5_familiesWaiting 12 = .ok (.iload_n 3, 1) := by decide +kernel
theorem dX5_familiesWaiting_13 : decode cX5_familiesWaiting 13 = .ok (.sipush 200, 3) := by decide +kernel
theorem dX5_familiesWaiting_16 : decode cX5_familiesWaiting 16 = .ok (.if_icmp .ge 23, 3) := by decide +kernel
theorem dX5_familiesWaiting_19 : decode cX5_familiesWaiting 19 = .ok (.iload_n 2, 1) := by decide +kernel
theorem dX5_familiesWaiting_20 : decode cX5_familiesWaiting 20 = .ok (.iconst 1, 1) := by decide +kernel
theorem dX5_familiesWaiting_21 : decode cX5_familiesWaiting 21 = .ok (.aload_n 1, 1) := by decide +kernel
theorem dX5_familiesWaiting_22 : decode cX5_familiesWaiting 22 = .ok (.getfield 98, 3) := by decide +kernel
theorem dX5_familiesWaiting_25 : decode cX5_familiesWaiting 25 = .ok (.iload_n 3, 1) := by decide +kernel
theorem dX5_familiesWaiting_26 : decode cX5_familiesWaiting 26 = .ok (.iaload, 1) := by decide +kernel
theorem dX5_familiesWaiting_27 : decode cX5_familiesWaiting 27 = .ok (.invokestatic 36, 3) := by decide +kernel
theorem dX5_familiesWaiting_30 : decode cX5_familiesWaiting 30 = .ok (.ishl, 1) := by decide +kernel
theorem dX5_familiesWaiting_31 : decode cX5_familiesWaiting 31 = .ok (.ior, 1) := by decide +kernel
theorem dX5_familiesWaiting_32 : decode cX5_familiesWaiting 32 = .ok (.istore_n 2, 1) := by decide +kernel
theorem dX5_familiesWaiting_33 : decode cX5_familiesWaiting 33 = .ok (.iinc 3 1, 3) := by decide +kernel
theorem dX5_familiesWaiting_36 : decode cX5_familiesWaiting 36 = .ok (.goto (-32), 3) := by decide +kernel
theorem dX5_familiesWaiting_39 : decode cX5_familiesWaiting 39 = .ok (.iload_n 2, 1) := by decide +kernel
theorem dX5_familiesWaiting_40 : decode cX5_familiesWaiting 40 = .ok (.ireturn, 1) := by decide +kernel
theorem dX5_waitingLike_0 : decode cX5_waitingLike 0 = .ok (.iconst 0, 1) := by decide +kernel
theorem dX5_waitingLike_1 : decode cX5_waitingLike 1 = .ok (.istore_n 3, 1) := by decide +kernel
theorem dX5_waitingLike_2 : decode cX5_waitingLike 2 = .ok (.iconst 0, 1) := by decide +kernel
theorem dX5_waitingLike_3 : decode cX5_waitingLike 3 = .ok (.istore 4, 2) := by decide +kernel
theorem dX5_waitingLike_5 : decode cX5_waitingLike 5 = .ok (.iload 4, 2) := by decide +kernel
theorem dX5_waitingLike_7 : decode cX5_waitingLike 7 = .ok (.aload_n 1, 1) := by decide +kernel
theorem dX5_waitingLike_8 : decode cX5_waitingLike 8 = .ok (.getfield 94, 3) := by decide +kernel
theorem dX5_waitingLike_11 : decode cX5_waitingLike 11 = .ok (.if_icmp .ge 34, 3) := by decide +kernel
theorem dX5_waitingLike_14 : decode cX5_waitingLike 14 = .ok (.iload 4, 2) := by decide +kernel
theorem dX5_waitingLike_16 : decode cX5_waitingLike 16 = .ok (.sipush 200, 3) := by decide +kernel
theorem dX5_waitingLike_19 : decode cX5_waitingLike 19 = .ok (.if_icmp .ge 26, 3) := by decide +kernel
theorem dX5_waitingLike_22 : decode cX5_waitingLike 22 = .ok (.aload_n 1, 1) := by decide +kernel
theorem dX5_waitingLike_23 : decode cX5_waitingLike 23 = .ok (.getfield 98, 3) := by decide +kernel
theorem dX5_waitingLike_26 : decode cX5_waitingLike 26 = .ok (.iload 4, 2) := by decide +kernel
theorem dX5_waitingLike_28 : decode cX5_waitingLike 28 = .ok (.iaload, 1) := by decide +kernel
theorem dX5_waitingLike_29 : decode cX5_waitingLike 29 = .ok (.iload_n 2, 1) := by decide +kernel
theorem dX5_waitingLike_30 : decode cX5_waitingLike 30 = .ok (.invokestatic 101, 3) := by decide +kernel
theorem dX5_waitingLike_33 : decode cX5_waitingLike 33 = .ok (.ifCond .eq 6, 3) := by decide +kernel
theorem dX5_waitingLike_36 : decode cX5_waitingLike 36 = .ok (.iinc 3 1, 3) := by decide +kernel
theorem dX5_waitingLike_39 : decode cX5_waitingLike 39 = .ok (.iinc 4 1, 3) := by decide +kernel
theorem dX5_waitingLike_42 : decode cX5_waitingLike 42 = .ok (.goto (-37), 3) := by decide +kernel
theorem dX5_waitingLike_45 : decode cX5_waitingLike 45 = .ok (.iload_n 3, 1) := by decide +kernel
theorem dX5_waitingLike_46 : decode cX5_waitingLike 46 = .ok (.ireturn, 1) := by decide +kernel
theorem dX5_isLike_0 : decode cX5_isLike 0 = .ok (.iload_n 1, 1) := by decide +kernel
theorem dX5_isLike_1 : decode cX5_isLike 1 = .ok (.iconst 3, 1) := by decide +kernel
theorem dX5_isLike_2 : decode cX5_isLike 2 = .ok (.if_icmp .ne 17, 3) := by decide +kernel
theorem dX5_isLike_5 : decode cX5_isLike 5 = .ok (.iload_n 0, 1) := by decide +kernel
theorem dX5_isLike_6 : decode cX5_isLike 6 = .ok (.invokestatic 104, 3) := by decide +kernel
theorem dX5_isLike_9 : decode cX5_isLike 9 = .ok (.iconst 1, 1) := by decide +kernel
theorem dX5_isLike_10 : decode cX5_isLike 10 = .ok (.if_icmp .ne 7, 3) := by decide +kernel
theorem dX5_isLike_13 : decode cX5_isLike 13 = .ok (.iconst 1, 1) := by decide +kernel
theorem dX5_isLike_14 : decode cX5_isLike 14 = .ok (.goto 4, 3) := by decide +kernel
theorem dX5_isLike_17 : decode cX5_isLike 17 = .ok (.iconst 0, 1) := by decide +kernel
theorem dX5_isLike_18 : decode cX5_isLike 18 = .ok (.ireturn, 1) := by decide +kernel
theorem dX5_isLike_19 : decode cX5_isLike 19 = .ok (.iload_n 1, 1) := by decide +kernel
theorem dX5_isLike_20 : decode cX5_isLike 20 = .ok (.iconst 4, 1) := by decide +kernel
theorem dX5_isLike_21 : decode cX5_isLike 21 = .ok (.if_icmp .ne 19, 3) := by decide +kernel
theorem dX5_isLike_24 : decode cX5_isLike 24 = .ok (.iload_n 0, 1) := by decide +kernel
theorem dX5_isLike_25 : decode cX5_isLike 25 = .ok (.invokestatic 88, 3) := by decide +kernel
theorem dX5_isLike_28 : decode cX5_isLike 28 = .ok (.iconst 1, 1) := by decide +kernel
theorem dX5_isLike_29 : decode cX5_isLike 29 = .ok (.if_icmp .ne 7, 3) := by decide +kernel
theorem dX5_isLike_32 : decode cX5_isLike 32 = .ok (.iconst 1, 1) := by decide +kernel
theorem dX5_isLike_33 : decode cX5_isLike 33 = .ok (.goto 20, 3) := by decide +kernel
theorem dX5_isLike_36 : decode cX5_isLike 36 = .ok (.iconst 0, 1) := by decide +kernel
theorem dX5_isLike_37 : decode cX5_isLike 37 = .ok (.goto 16, 3) := by decide +kernel
theorem dX5_isLike_40 : decode cX5_isLike 40 = .ok (.iload_n 0, 1) := by decide +kernel
theorem dX5_isLike_41 : decode cX5_isLike 41 = .ok (.invokestatic 107, 3) := by decide +kernel
theorem dX5_isLike_44 : decode cX5_isLike 44 = .ok (.iload_n 1, 1) := by decide +kernel
theorem dX5_isLike_45 : decode cX5_isLike 45 = .ok (.if_icmp .ne 7, 3) := by decide +kernel
theorem dX5_isLike_48 : decode cX5_isLike 48 = .ok (.iconst 1, 1) := by decide +kernel
theorem dX5_isLike_49 : decode cX5_isLike 49 = .ok (.goto 4, 3) := by decide +kernel
theorem dX5_isLike_52 : decode cX5_isLike 52 = .ok (.iconst 0, 1) := by decide +kernel
theorem dX5_isLike_53 : decode cX5_isLike 53 = .ok (.ireturn, 1) := by decide +kernel
theorem dX5_children_0 : decode cX5_children 0 = .ok (.iconst 0, 1) := by decide +kernel
theorem dX5_children_1 : decode cX5_children 1 = .ok (.istore_n 3, 1) := by decide +kernel
theorem dX5_children_2 : decode cX5_children 2 = .ok (.iconst 0, 1) := by decide +kernel
theorem dX5_children_3 : decode cX5_children 3 = .ok (.istore 4, 2) := by decide +kernel
theorem dX5_children_5 : decode cX5_children 5 = .ok (.iload 4, 2) := by decide +kernel
theorem dX5_children_7 : decode cX5_children 7 = .ok (.sipush 144, 3) := by decide +kernel
theorem dX5_children_10 : decode cX5_children 10 = .ok (.if_icmp .ge 52, 3) := by decide +kernel
theorem dX5_children_13 : decode cX5_children 13 = .ok (.aload_n 1, 1) := by decide +kernel
theorem dX5_children_14 : decode cX5_children 14 = .ok (.iload 4, 2) := by decide +kernel
theorem dX5_children_16 : decode cX5_children 16 = .ok (.invokevirtual 32, 3) := by decide +kernel
theorem dX5_children_19 : decode cX5_children 19 = .ok (.ifCond .eq 37, 3) := by decide +kernel
theorem dX5_children_22 : decode cX5_children 22 = .ok (.aload_n 1, 1) := by decide +kernel
theorem dX5_children_23 : decode cX5_children 23 = .ok (.iload 4, 2) := by decide +kernel
theorem dX5_children_25 : decode cX5_children 25 = .ok (.invokevirtual 21, 3) := by decide +kernel
theorem dX5_children_28 : decode cX5_children 28 = .ok (.invokestatic 104, 3) := by decide +kernel
theorem dX5_children_31 : decode cX5_children 31 = .ok (.iconst 1, 1) := by decide +kernel
theorem dX5_children_32 : decode cX5_children 32 = .ok (.if_icmp .ne 24, 3) := by decide +kernel
theorem dX5_children_35 : decode cX5_children 35 = .ok (.aload_n 1, 1) := by decide +kernel
theorem dX5_children_36 : decode cX5_children 36 = .ok (.iload 4, 2) := by decide +kernel
theorem dX5_children_38 : decode cX5_children 38 = .ok (.invokevirtual 110, 3) := by decide +kernel
theorem dX5_children_41 : decode cX5_children 41 = .ok (.ifCond .ne 7, 3) := by decide +kernel
theorem dX5_children_44 : decode cX5_children 44 = .ok (.iconst 1, 1) := by decide +kernel
theorem dX5_children_45 : decode cX5_children 45 = .ok (.goto 4, 3) := by decide +kernel
theorem dX5_children_48 : decode cX5_children 48 = .ok (.iconst 0, 1) := by decide +kernel
theorem dX5_children_49 : decode cX5_children 49 = .ok (.iload_n 2, 1) := by decide +kernel
theorem dX5_children_50 : decode cX5_children 50 = .ok (.if_icmp .ne 6, 3) := by decide +kernel
theorem dX5_children_53 : decode cX5_children 53 = .ok (.iinc 3 1, 3) := by decide +kernel
theorem dX5_children_56 : decode cX5_children 56 = .ok (.iinc 4 1, 3) := by decide +kernel
theorem dX5_children_59 : decode cX5_children 59 = .ok (.goto (-54), 3) := by decide +kernel
theorem dX5_children_62 : decode cX5_children 62 = .ok (.iload_n 3, 1) := by decide +kernel
theorem dX5_children_63 : decode cX5_children 63 = .ok (.ireturn, 1) := by decide +kernel
theorem dX5_mostApart_0 : decode cX5_mostApart 0 = .ok (.aload_n 0, 1) := by decide +kernel
theorem dX5_mostApart_1 : decode cX5_mostApart 1 = .ok (.getfield 15, 3) := by decide +kernel
theorem dX5_mostApart_4 : decode cX5_mostApart 4 = .ok (.iconst 0, 1) := by decide +kernel
theorem dX5_mostApart_5 : decode cX5_mostApart 5 = .ok (.invokestatic 82, 3) := by decide +kernel
theorem dX5_mostApart_8 : decode cX5_mostApart 8 = .ok (.iconst 0, 1) := by decide +kernel
theorem dX5_mostApart_9 : decode cX5_mostApart 9 = .ok (.istore_n 3, 1) := by decide +kernel
theorem dX5_mostApart_10 : decode cX5_mostApart 10 = .ok (.iload_n 3, 1) := by decide +kernel
theorem dX5_mostApart_11 : decode cX5_mostApart 11 = .ok (.bipush 8, 2) := by decide +kernel
theorem dX5_mostApart_13 : decode cX5_mostApart 13 = .ok (.if_icmp .ge 117, 3) := by decide +kernel
theorem dX5_mostApart_16 : decode cX5_mostApart 16 = .ok (.aload_n 0, 1) := by decide +kernel
theorem dX5_mostApart_17 : decode cX5_mostApart 17 = .ok (.getfield 15, 3) := by decide +kernel
theorem dX5_mostApart_20 : decode cX5_mostApart 20 = .ok (.iconst 0, 1) := by decide +kernel
theorem dX5_mostApart_21 : decode cX5_mostApart 21 = .ok (.aload_n 0, 1) := by decide +kernel
theorem dX5_mostApart_22 : decode cX5_mostApart 22 = .ok (.getfield 18, 3) := by decide +kernel
theorem dX5_mostApart_25 : decode cX5_mostApart 25 = .ok (.iconst 0, 1) := by decide +kernel
theorem dX5_mostApart_26 : decode cX5_mostApart 26 = .ok (.sipush 512, 3) := by decide +kernel
theorem dX5_mostApart_29 : decode cX5_mostApart 29 = .ok (.invokestatic 113, 3) := by decide +kernel
theorem dX5_mostApart_32 : decode cX5_mostApart 32 = .ok (.aload_n 1, 1) := by decide +kernel
theorem dX5_mostApart_33 : decode cX5_mostApart 33 = .ok (.iload_n 2, 1) := by decide +kernel
theorem dX5_mostApart_34 : decode cX5_mostApart 34 = .ok (.iload_n 3, 1) := by decide +kernel
theorem dX5_mostApart_35 : decode cX5_mostApart 35 = .ok (.invokestatic 119, 3) := by decide +kernel
theorem dX5_mostApart_38 : decode cX5_mostApart 38 = .ok (.invokestatic 122, 3) := by decide +kernel
theorem dX5_mostApart_41 : decode cX5_mostApart 41 = .ok (.istore 4, 2) := by decide +kernel
theorem dX5_mostApart_43 : decode cX5_mostApart 43 = .ok (.iconst 0, 1) := by decide +kernel
theorem dX5_mostApart_44 : decode cX5_mostApart 44 = .ok (.istore 5, 2) := by decide +kernel
theorem dX5_mostApart_46 : decode cX5_mostApart 46 = .ok (.iload 5, 2) := by decide +kernel
theorem dX5_mostApart_48 : decode cX5_mostApart 48 = .ok (.sipush 512, 3) := by decide +kernel
theorem dX5_mostApart_51 : decode cX5_mostApart 51 = .ok (.if_icmp .ge 69, 3) := by decide +kernel
theorem dX5_mostApart_54 : decode cX5_mostApart 54 = .ok (.iload 5, 2) := by decide +kernel
theorem dX5_mostApart_56 : decode cX5_mostApart 56 = .ok (.iload 4, 2) := by decide +kernel
theorem dX5_mostApart_58 : decode cX5_mostApart 58 = .ok (.iconst (-1), 1) := by decide +kernel
theorem dX5_mostApart_59 : decode cX5_mostApart 59 = .ok (.ixor, 1) := by decide +kernel
theorem dX5_mostApart_60 : decode cX5_mostApart 60 = .ok (.iand, 1) := by decide +kernel
theorem dX5_mostApart_61 : decode cX5_mostApart 61 = .ok (.ifCond .ne 17, 3) := by decide +kernel
theorem dX5_mostApart_64 : decode cX5_mostApart 64 = .ok (.iload 5, 2) := by decide +kernel
theorem dX5_mostApart_66 : decode cX5_mostApart 66 = .ok (.iload 5, 2) := by decide +kernel
theorem dX5_mostApart_68 : decode cX5_mostApart 68 = .ok (.iconst 1, 1) := by decide +kernel
theorem dX5_mostApart_69 : decode cX5_mostApart 69 = .ok (.ishl, 1) := by decide +kernel
theorem dX5_mostApart_70 : decode cX5_mostApart 70 = .ok (.iand, 1) := by decide +kernel
theorem dX5_mostApart_71 : decode cX5_mostApart 71 = .ok (.ifCond .ne 7, 3) := by decide +kernel
theorem dX5_mostApart_74 : decode cX5_mostApart 74 = .ok (.iconst 1, 1) := by decide +kernel
theorem dX5_mostApart_75 : decode cX5_mostApart 75 = .ok (.goto 4, 3) := by decide +kernel
theorem dX5_mostApart_78 : decode cX5_mostApart 78 = .ok (.iconst 0, 1) := by decide +kernel
theorem dX5_mostApart_79 : decode cX5_mostApart 79 = .ok (.istore 6, 2) := by decide +kernel
theorem dX5_mostApart_81 : decode cX5_mostApart 81 = .ok (.aload_n 0, 1) := by decide +kernel
theorem dX5_mostApart_82 : decode cX5_mostApart 82 = .ok (.getfield 15, 3) := by decide +kernel
theorem dX5_mostApart_85 : decode cX5_mostApart 85 = .ok (.iload 5, 2) := by decide +kernel
theorem dX5_mostApart_87 : decode cX5_mostApart 87 = .ok (.iload 6, 2) := by decide +kernel
theorem dX5_mostApart_89 : decode cX5_mostApart 89 = .ok (.ifCond .eq 23, 3) := by decide +kernel
theorem dX5_mostApart_92 : decode cX5_mostApart 92 = .ok (.iload 5, 2) := by decide +kernel
theorem dX5_mostApart_94 : decode cX5_mostApart 94 = .ok (.invokestatic 125, 3) := by decide +kernel
theorem dX5_mostApart_97 : decode cX5_mostApart 97 = .ok (.aload_n 0, 1) := by decide +kernel
theorem dX5_mostApart_98 : decode cX5_mostApart 98 = .ok (.getfield 18, 3) := by decide +kernel
theorem dX5_mostApart_101 : decode cX5_mostApart 101 = .ok (.sipush 511, 3) := by decide +kernel
theorem dX5_mostApart_104 : decode cX5_mostApart 104 = .ok (.iload 5, 2) := by decide +kernel
theorem dX5_mostApart_106 : decode cX5_mostApart 106 = .ok (.isub, 1) := by decide +kernel
theorem dX5_mostApart_107 : decode cX5_mostApart 107 = .ok (.iaload, 1) := by decide +kernel
theorem dX5_mostApart_108 : decode cX5_mostApart 108 = .ok (.iadd, 1) := by decide +kernel
theorem dX5_mostApart_109 : decode cX5_mostApart 109 = .ok (.goto 4, 3) := by decide +kernel
theorem dX5_mostApart_112 : decode cX5_mostApart 112 = .ok (.iconst 0, 1) := by decide +kernel
theorem dX5_mostApart_113 : decode cX5_mostApart 113 = .ok (.iastore, 1) := by decide +kernel
theorem dX5_mostApart_114 : decode cX5_mostApart 114 = .ok (.iinc 5 1, 3) := by decide +kernel
theorem dX5_mostApart_117 : decode cX5_mostApart 117 = .ok (.goto (-71), 3) := by decide +kernel
theorem dX5_mostApart_120 : decode cX5_mostApart 120 = .ok (.aload_n 0, 1) := by decide +kernel
theorem dX5_mostApart_121 : decode cX5_mostApart 121 = .ok (.invokevirtual 130, 3) := by decide +kernel
theorem dX5_mostApart_124 : decode cX5_mostApart 124 = .ok (.iinc 3 1, 3) := by decide +kernel
theorem dX5_mostApart_127 : decode cX5_mostApart 127 = .ok (.goto (-117), 3) := by decide +kernel
theorem dX5_mostApart_130 : decode cX5_mostApart 130 = .ok (.aload_n 0, 1) := by decide +kernel
theorem dX5_mostApart_131 : decode cX5_mostApart 131 = .ok (.getfield 15, 3) := by decide +kernel
theorem dX5_mostApart_134 : decode cX5_mostApart 134 = .ok (.sipush 511, 3) := by decide +kernel
theorem dX5_mostApart_137 : decode cX5_mostApart 137 = .ok (.iaload, 1) := by decide +kernel
theorem dX5_mostApart_138 : decode cX5_mostApart 138 = .ok (.ireturn, 1) := by decide +kernel
theorem dX5_takenPlaces_0 : decode cX5_takenPlaces 0 = .ok (.iconst 0, 1) := by decide +kernel
theorem dX5_takenPlaces_1 : decode cX5_takenPlaces 1 = .ok (.istore_n 2, 1) := by decide +kernel
theorem dX5_takenPlaces_2 : decode cX5_takenPlaces 2 = .ok (.iconst 0, 1) := by decide +kernel
theorem dX5_takenPlaces_3 : decode cX5_takenPlaces 3 = .ok (.istore_n 3, 1) := by decide +kernel
theorem dX5_takenPlaces_4 : decode cX5_takenPlaces 4 = .ok (.iload_n 3, 1) := by decide +kernel
theorem dX5_takenPlaces_5 : decode cX5_takenPlaces 5 = .ok (.bipush 9, 2) := by decide +kernel
theorem dX5_takenPlaces_7 : decode cX5_takenPlaces 7 = .ok (.if_icmp .ge 28, 3) := by decide +kernel
theorem dX5_takenPlaces_10 : decode cX5_takenPlaces 10 = .ok (.aload_n 0, 1) := by decide +kernel
theorem dX5_takenPlaces_11 : decode cX5_takenPlaces 11 = .ok (.iload_n 1, 1) := by decide +kernel
theorem dX5_takenPlaces_12 : decode cX5_takenPlaces 12 = .ok (.bipush 9, 2) := by decide +kernel
theorem dX5_takenPlaces_14 : decode cX5_takenPlaces 14 = .ok (.imul, 1) := by decide +kernel
theorem dX5_takenPlaces_15 : decode cX5_takenPlaces 15 = .ok (.iload_n 3, 1) := by decide +kernel
theorem dX5_takenPlaces_16 : decode cX5_takenPlaces 16 = .ok (.iadd, 1) := by decide +kernel
theorem dX5_takenPlaces_17 : decode cX5_takenPlaces 17 = .ok (.invokevirtual 32, 3) := by decide +kernel
theorem dX5_takenPlaces_20 : decode cX5_takenPlaces 20 = .ok (.ifCond .eq 9, 3) := by decide +kernel
theorem dX5_takenPlaces_23 : decode cX5_takenPlaces 23 = .ok (.iload_n 2, 1) := by decide +kernel
theorem dX5_takenPlaces_24 : decode cX5_takenPlaces 24 = .ok (.iconst 1, 1) := by decide +kernel
theorem dX5_takenPlaces_25 : decode cX5_takenPlaces 25 = .ok (.iload_n 3, 1) := by decide +kernel
theorem dX5_takenPlaces_26 : decode cX5_takenPlaces 26 = .ok (.ishl, 1) := by decide +kernel
theorem dX5_takenPlaces_27 : decode cX5_takenPlaces 27 = .ok (.ior, 1) := by decide +kernel
theorem dX5_takenPlaces_28 : decode cX5_takenPlaces 28 = .ok (.istore_n 2, 1) := by decide +kernel
theorem dX5_takenPlaces_29 : decode cX5_takenPlaces 29 = .ok (.iinc 3 1, 3) := by decide +kernel
theorem dX5_takenPlaces_32 : decode cX5_takenPlaces 32 = .ok (.goto (-28), 3) := by decide +kernel
theorem dX5_takenPlaces_35 : decode cX5_takenPlaces 35 = .ok (.iload_n 2, 1) := by decide +kernel
theorem dX5_takenPlaces_36 : decode cX5_takenPlaces 36 = .ok (.ireturn, 1) := by decide +kernel
theorem dX5_raiseToSubsets_0 : decode cX5_raiseToSubsets 0 = .ok (.iconst 1, 1) := by decide +kernel
theorem dX5_raiseToSubsets_1 : decode cX5_raiseToSubsets 1 = .ok (.istore_n 1, 1) := by decide +kernel
theorem dX5_raiseToSubsets_2 : decode cX5_raiseToSubsets 2 = .ok (.iload_n 1, 1) := by decide +kernel
theorem dX5_raiseToSubsets_3 : decode cX5_raiseToSubsets 3 = .ok (.sipush 512, 3) := by decide +kernel
theorem dX5_raiseToSubsets_6 : decode cX5_raiseToSubsets 6 = .ok (.if_icmp .ge 54, 3) := by decide +kernel
theorem dX5_raiseToSubsets_9 : decode cX5_raiseToSubsets 9 = .ok (.iconst 0, 1) := by decide +kernel
theorem dX5_raiseToSubsets_10 : decode cX5_raiseToSubsets 10 = .ok (.istore_n 2, 1) := by decide +kernel
theorem dX5_raiseToSubsets_11 : decode cX5_raiseToSubsets 11 = .ok (.iload_n 2, 1) := by decide +kernel
theorem dX5_raiseToSubsets_12 : decode cX5_raiseToSubsets 12 = .ok (.sipush 512, 3) := by decide +kernel
theorem dX5_raiseToSubsets_15 : decode cX5_raiseToSubsets 15 = .ok (.if_icmp .ge 38, 3) := by decide +kernel
theorem dX5_raiseToSubsets_18 : decode cX5_raiseToSubsets 18 = .ok (.iload_n 2, 1) := by decide +kernel
theorem dX5_raiseToSubsets_19 : decode cX5_raiseToSubsets 19 = .ok (.iload_n 1, 1) := by decide +kernel
theorem dX5_raiseToSubsets_20 : decode cX5_raiseToSubsets 20 = .ok (.iand, 1) := by decide +kernel
theorem dX5_raiseToSubsets_21 : decode cX5_raiseToSubsets 21 = .ok (.ifCond .eq 26, 3) := by decide +kernel
theorem dX5_raiseToSubsets_24 : decode cX5_raiseToSubsets 24 = .ok (.aload_n 0, 1) := by decide +kernel
theorem dX5_raiseToSubsets_25 : decode cX5_raiseToSubsets 25 = .ok (.getfield 15, 3) := by decide +kernel
theorem dX5_raiseToSubsets_28 : decode cX5_raiseToSubsets 28 = .ok (.iload_n 2, 1) := by decide +kernel
theorem dX5_raiseToSubsets_29 : decode cX5_raiseToSubsets 29 = .ok (.aload_n 0, 1) := by decide +kernel
theorem dX5_raiseToSubsets_30 : decode cX5_raiseToSubsets 30 = .ok (.getfield 15, 3) := by decide +kernel
theorem dX5_raiseToSubsets_33 : decode cX5_raiseToSubsets 33 = .ok (.iload_n 2, 1) := by decide +kernel
theorem dX5_raiseToSubsets_34 : decode cX5_raiseToSubsets 34 = .ok (.iaload, 1) := by decide +kernel
theorem dX5_raiseToSubsets_35 : decode cX5_raiseToSubsets 35 = .ok (.aload_n 0, 1) := by decide +kernel
theorem dX5_raiseToSubsets_36 : decode cX5_raiseToSubsets 36 = .ok (.getfield 15, 3) := by decide +kernel
theorem dX5_raiseToSubsets_39 : decode cX5_raiseToSubsets 39 = .ok (.iload_n 2, 1) := by decide +kernel
theorem dX5_raiseToSubsets_40 : decode cX5_raiseToSubsets 40 = .ok (.iload_n 1, 1) := by decide +kernel
theorem dX5_raiseToSubsets_41 : decode cX5_raiseToSubsets 41 = .ok (.isub, 1) := by decide +kernel
theorem dX5_raiseToSubsets_42 : decode cX5_raiseToSubsets 42 = .ok (.iaload, 1) := by decide +kernel
theorem dX5_raiseToSubsets_43 : decode cX5_raiseToSubsets 43 = .ok (.invokestatic 39, 3) := by decide +kernel
theorem dX5_raiseToSubsets_46 : decode cX5_raiseToSubsets 46 = .ok (.iastore, 1) := by decide +kernel
theorem dX5_raiseToSubsets_47 : decode cX5_raiseToSubsets 47 = .ok (.iinc 2 1, 3) := by decide +kernel
theorem dX5_raiseToSubsets_50 : decode cX5_raiseToSubsets 50 = .ok (.goto (-39), 3) := by decide +kernel
theorem dX5_raiseToSubsets_53 : decode cX5_raiseToSubsets 53 = .ok (.iload_n 1, 1) := by decide +kernel
theorem dX5_raiseToSubsets_54 : decode cX5_raiseToSubsets 54 = .ok (.iconst 1, 1) := by decide +kernel
theorem dX5_raiseToSubsets_55 : decode cX5_raiseToSubsets 55 = .ok (.ishl, 1) := by decide +kernel
theorem dX5_raiseToSubsets_56 : decode cX5_raiseToSubsets 56 = .ok (.istore_n 1, 1) := by decide +kernel
theorem dX5_raiseToSubsets_57 : decode cX5_raiseToSubsets 57 = .ok (.goto (-55), 3) := by decide +kernel
theorem dX5_raiseToSubsets_60 : decode cX5_raiseToSubsets 60 = .ok (.return_, 1) := by decide +kernel
theorem dX6_init_0 : decode cX6_init 0 = .ok (.aload_n 0, 1) := by decide +kernel
theorem dX6_init_1 : decode cX6_init 1 = .ok (.invokespecial 3, 3) := by decide +kernel
theorem dX6_init_4 : decode cX6_init 4 = .ok (.aload_n 0, 1) := by decide +kernel
theorem dX6_init_5 : decode cX6_init 5 = .ok (.iconst 0, 1) := by decide +kernel
theorem dX6_init_6 : decode cX6_init 6 = .ok (.putfield 9, 3) := by decide +kernel
theorem dX6_init_9 : decode cX6_init 9 = .ok (.aload_n 0, 1) := by decide +kernel
theorem dX6_init_10 : decode cX6_init 10 = .ok (.aload_n 1, 1) := by decide +kernel
theorem dX6_init_11 : decode cX6_init 11 = .ok (.putfield 15, 3) := by decide +kernel
theorem dX6_init_14 : decode cX6_init 14 = .ok (.return_, 1) := by decide +kernel
theorem dX6_readAndMove_0 : decode cX6_readAndMove 0 = .ok (.aload_n 0, 1) := by decide +kernel
theorem dX6_readAndMove_1 : decode cX6_readAndMove 1 = .ok (.iconst 0, 1) := by decide +kernel
theorem dX6_readAndMove_2 : decode cX6_readAndMove 2 = .ok (.putfield 9, 3) := by decide +kernel
theorem dX6_readAndMove_5 : decode cX6_readAndMove 5 = .ok (.aload_n 0, 1) := by decide +kernel
theorem dX6_readAndMove_6 : decode cX6_readAndMove 6 = .ok (.aload_n 1, 1) := by decide +kernel
theorem dX6_readAndMove_7 : decode cX6_readAndMove 7 = .ok (.invokevirtual 19, 3) := by decide +kernel
theorem dX6_readAndMove_10 : decode cX6_readAndMove 10 = .ok (.iconst 0, 1) := by decide +kernel
theorem dX6_readAndMove_11 : decode cX6_readAndMove 11 = .ok (.istore_n 2, 1) := by decide +kernel
theorem dX6_readAndMove_12 : decode cX6_readAndMove 12 = .ok (.iload_n 2, 1) := by decide +kernel
theorem dX6_readAndMove_13 : decode cX6_readAndMove 13 = .ok (.sipush 240, 3) := by decide +kernel
theorem dX6_readAndMove_16 : decode cX6_readAndMove 16 = .ok (.if_icmp .ge 26, 3) := by decide +kernel
theorem dX6_readAndMove_19 : decode cX6_readAndMove 19 = .ok (.aload_n 0, 1) := by decide +kernel
theorem dX6_readAndMove_20 : decode cX6_readAndMove 20 = .ok (.getfield 15, 3) := by decide +kernel
theorem dX6_readAndMove_23 : decode cX6_readAndMove 23 = .ok (.bipush 59, 2) := by decide +kernel
theorem dX6_readAndMove_25 : decode cX6_readAndMove 25 = .ok (.invokevirtual 25, 3) := by decide +kernel
theorem dX6_readAndMove_28 : decode cX6_readAndMove 28 = .ok (.ifCond .eq 14, 3) := by decide +kernel
theorem dX6_readAndMove_31 : decode cX6_readAndMove 31 = .ok (.aload_n 0, 1) := by decide +kernel
theorem dX6_readAndMove_32 : decode cX6_readAndMove 32 = .ok (.aload_n 1, 1) := by decide +kernel
theorem dX6_readAndMove_33 : decode cX6_readAndMove 33 = .ok (.invokevirtual 19, 3) := by decide +kernel
theorem dX6_readAndMove_36 : decode cX6_readAndMove 36 = .ok (.iinc 2 1, 3) := by decide +kernel
theorem dX6_readAndMove_39 : decode cX6_readAndMove 39 = .ok (.goto (-27), 3) := by decide +kernel
theorem dX6_readAndMove_42 : decode cX6_readAndMove 42 = .ok (.aload_n 0, 1) := by decide +kernel
theorem dX6_readAndMove_43 : decode cX6_readAndMove 43 = .ok (.getfield 15, 3) := by decide +kernel
theorem dX6_readAndMove_46 : decode cX6_readAndMove 46 = .ok (.invokevirtual 29, 3) := by decide +kernel
theorem dX6_readAndMove_49 : decode cX6_readAndMove 49 = .ok (.aload_n 0, 1) := by decide +kernel
theorem dX6_readAndMove_50 : decode cX6_readAndMove 50 = .ok (.getfield 9, 3) := by decide +kernel
theorem dX6_readAndMove_53 : decode cX6_readAndMove 53 = .ok (.ireturn, 1) := by decide +kernel
theorem dX6_readLine_0 : decode cX6_readLine 0 = .ok (.aload_n 0, 1) := by decide +kernel
theorem dX6_readLine_1 : decode cX6_readLine 1 = .ok (.getfield 9, 3) := by decide +kernel
theorem dX6_readLine_4 : decode cX6_readLine 4 = .ok (.bipush 20, 2) := by decide +kernel
theorem dX6_readLine_6 : decode cX6_readLine 6 = .ok (.if_icmp .lt 28, 3) := by decide +kernel
theorem dX6_readLine_9 : decode cX6_readLine 9 = .ok (.aload_n 0, 1) := by decide +kernel
theorem dX6_readLine_10 : decode cX6_readLine 10 = .ok (.getfield 15, 3) := by decide +kernel
theorem dX6_readLine_13 : decode cX6_readLine 13 = .ok (.invokevirtual 32, 3) := by decide +kernel
theorem dX6_readLine_16 : decode cX6_readLine 16 = .ok (.ifCond .eq 18, 3) := by decide +kernel
theorem dX6_readLine_19 : decode cX6_readLine 19 = .ok (.aload_n 0, 1) := by decide +kernel
theorem dX6_readLine_20 : decode cX6_readLine 20 = .ok (.getfield 15, 3) := by decide +kernel
theorem dX6_readLine_23 : decode cX6_readLine 23 = .ok (.iconst 4, 1) := by decide +kernel
theorem dX6_readLine_24 : decode cX6_readLine 24 = .ok (.aload_n 0, 1) := by decide +kernel
theorem dX6_readLine_25 : decode cX6_readLine 25 = .ok (.getfield 15, 3) := by decide +kernel
theorem dX6_readLine_28 : decode cX6_readLine 28 = .ok (.getfield 36, 3) := by decide +kernel
theorem dX6_readLine_31 : decode cX6_readLine 31 = .ok (.invokevirtual 39, 3) := by decide +kernel
theorem dX6_readLine_34 : decode cX6_readLine 34 = .ok (.aload_n 0, 1) := by decide +kernel
theorem dX6_readLine_35 : decode cX6_readLine 35 = .ok (.aload_n 1, 1) := by decide +kernel
theorem dX6_readLine_36 : decode cX6_readLine 36 = .ok (.iconst 1, 1) := by decide +kernel
theorem dX6_readLine_37 : decode cX6_readLine 37 = .ok (.invokevirtual 43, 3) := by decide +kernel
theorem dX6_readLine_40 : decode cX6_readLine 40 = .ok (.istore_n 2, 1) := by decide +kernel
theorem dX6_readLine_41 : decode cX6_readLine 41 = .ok (.aload_n 0, 1) := by decide +kernel
theorem dX6_readLine_42 : decode cX6_readLine 42 = .ok (.getfield 15, 3) := by decide +kernel
theorem dX6_readLine_45 : decode cX6_readLine 45 = .ok (.ldc 47, 2) := by decide +kernel
theorem dX6_readLine_47 : decode cX6_readLine 47 = .ok (.invokevirtual 49, 3) := by decide +kernel
theorem dX6_readLine_50 : decode cX6_readLine 50 = .ok (.istore_n 3, 1) := by decide +kernel
theorem dX6_readLine_51 : decode cX6_readLine 51 = .ok (.iload_n 3, 1) := by decide +kernel
theorem dX6_readLine_52 : decode cX6_readLine 52 = .ok (.iconst 2, 1) := by decide +kernel
theorem dX6_readLine_53 : decode cX6_readLine 53 = .ok (.if_icmp .ne 11, 3) := by decide +kernel
theorem dX6_readLine_56 : decode cX6_readLine 56 = .ok (.aload_n 1, 1) := by decide +kernel
theorem dX6_readLine_57 : decode cX6_readLine 57 = .ok (.iload_n 2, 1) := by decide +kernel
theorem dX6_readLine_58 : decode cX6_readLine 58 = .ok (.invokevirtual 53, 3) := by decide +kernel
theorem dX6_readLine_61 : decode cX6_readLine 61 = .ok (.goto 37, 3) := by decide +kernel
theorem dX6_readLine_64 : decode cX6_readLine 64 = .ok (.aload_n 0, 1) := by decide +kernel
theorem dX6_readLine_65 : decode cX6_readLine 65 = .ok (.aload_n 1, 1) := by decide +kernel
theorem dX6_readLine_66 : decode cX6_readLine 66 = .ok (.iload_n 3, 1) := by decide +kernel
theorem dX6_readLine_67 : decode cX6_readLine 67 = .ok (.iconst 1, 1) := by decide +kernel
theorem dX6_readLine_68 : decode cX6_readLine 68 = .ok (.if_icmp .ne 7, 3) := by decide +kernel
theorem dX6_readLine_71 : decode cX6_readLine 71 = .ok (.iconst 1, 1) := by decide +kernel
theorem dX6_readLine_72 : decode cX6_readLine 72 = .ok (.goto 4, 3) := by decide +kernel
theorem dX6_readLine_75 : decode cX6_readLine 75 = .ok (.iconst 0, 1) := by decide +kernel
theorem dX6_readLine_76 : decode cX6_readLine 76 = .ok (.invokevirtual 43, 3) := by decide +kernel
theorem dX6_readLine_79 : decode cX6_readLine 79 = .ok (.istore 4, 2) := by decide +kernel
theorem dX6_readLine_81 : decode cX6_readLine 81 = .ok (.aload_n 0, 1) := by decide +kernel
theorem dX6_readLine_82 : decode cX6_readLine 82 = .ok (.getfield 15, 3) := by decide +kernel
theorem dX6_readLine_85 : decode cX6_readLine 85 = .ok (.invokevirtual 59, 3) := by decide +kernel
theorem dX6_readLine_88 : decode cX6_readLine 88 = .ok (.ifCond .ne 10, 3) := by decide +kernel
theorem dX6_readLine_91 : decode cX6_readLine 91 = .ok (.aload_n 1, 1) := by decide +kernel
theorem dX6_readLine_92 : decode cX6_readLine 92 = .ok (.iload_n 2, 1) := by decide +kernel
theorem dX6_readLine_93 : decode cX6_readLine 93 = .ok (.iload 4, 2) := by decide +kernel
theorem dX6_readLine_95 : decode cX6_readLine 95 = .ok (.invokevirtual 62, 3) := by decide +kernel
theorem dX6_readLine_98 : decode cX6_readLine 98 = .ok (.aload_n 0, 1) := by decide +kernel
theorem dX6_readLine_99 : decode cX6_readLine 99 = .ok (.dup, 1) := by decide +kernel
theorem dX6_readLine_100 : decode cX6_readLine 100 = .ok (.getfield 9, 3) := by decide +kernel
theorem dX6_readLine_103 : decode cX6_readLine 103 = .ok (.iconst 1, 1) := by decide +kernel
theorem dX6_readLine_104 : decode cX6_readLine 104 = .ok (.iadd, 1) := by decide +kernel
theorem dX6_readLine_105 : decode cX6_readLine 105 = .ok (.putfield 9, 3) := by decide +kernel
theorem dX6_readLine_108 : decode cX6_readLine 108 = .ok (.return_, 1) := by decide +kernel
theorem dX6_readSeat_0 : decode cX6_readSeat 0 = .ok (.aload_n 0, 1) := by decide +kernel
theorem dX6_readSeat_1 : decode cX6_readSeat 1 = .ok (.getfield 15, 3) := by decide +kernel
theorem dX6_readSeat_4 : decode cX6_readSeat 4 = .ok (.invokevirtual 59, 3) := by decide +kernel
theorem dX6_readSeat_7 : decode cX6_readSeat 7 = .ok (.ifCond .eq 5, 3) := by decide +kernel
theorem dX6_readSeat_10 : decode cX6_readSeat 10 = .ok (.iconst 0, 1) := by decide +kernel
theorem dX6_readSeat_11 : decode cX6_readSeat 11 = .ok (.ireturn, 1) := by decide +kernel
theorem dX6_readSeat_12 : decode cX6_readSeat 12 = .ok (.aload_n 0, 1) := by decide +kernel
theorem dX6_readSeat_13 : decode cX6_readSeat 13 = .ok (.getfield 15, 3) := by decide +kernel
theorem dX6_readSeat_16 : decode cX6_readSeat 16 = .ok (.getfield 36, 3) := by decide +kernel
theorem dX6_readSeat_19 : decode cX6_readSeat 19 = .ok (.istore_n 3, 1) := by decide +kernel
theorem dX6_readSeat_20 : decode cX6_readSeat 20 = .ok (.aload_n 0, 1) := by decide +kernel
theorem dX6_readSeat_21 : decode cX6_readSeat 21 = .ok (.getfield 15, 3) := by decide +kernel
theorem dX6_readSeat_24 : decode cX6_readSeat 24 = .ok (.iconst 3, 1) := by decide +kernel
theorem dX6_readSeat_25 : decode cX6_readSeat 25 = .ok (.invokevirtual 65, 3) := by decide +kernel
theorem dX6_readSeat_28 : decode cX6_readSeat 28 = .ok (.istore 4, 2) := by decide +kernel
theorem dX6_readSeat_30 : decode cX6_readSeat 30 = .ok (.aload_n 0, 1) := by decide +kernel
theorem dX6_readSeat_31 : decode cX6_readSeat 31 = .ok (.getfield 15, 3) := by decide +kernel
theorem dX6_readSeat_34 : decode cX6_readSeat 34 = .ok (.invokevirtual 59, 3) := by decide +kernel
theorem dX6_readSeat_37 : decode cX6_readSeat 37 = .ok (.ifCond .eq 5, 3) := by decide +kernel
theorem dX6_readSeat_40 : decode cX6_readSeat 40 = .ok (.iconst 0, 1) := by decide +kernel
theorem dX6_readSeat_41 : decode cX6_readSeat 41 = .ok (.ireturn, 1) := by decide +kernel
theorem dX6_readSeat_42 : decode cX6_readSeat 42 = .ok (.iload 4, 2) := by decide +kernel
theorem dX6_readSeat_44 : decode cX6_readSeat 44 = .ok (.sipush 144, 3) := by decide +kernel
theorem dX6_readSeat_47 : decode cX6_readSeat 47 = .ok (.if_icmp .lt 14, 3) := by decide +kernel
theorem dX6_readSeat_50 : decode cX6_readSeat 50 = .ok (.aload_n 0, 1) := by decide +kernel
theorem dX6_readSeat_51 : decode cX6_readSeat 51 = .ok (.getfield 15, 3) := by decide +kernel
theorem dX6_readSeat_54 : decode cX6_readSeat 54 = .ok (.iconst 3, 1) := by decide +kernel
theorem dX6_readSeat_55 : decode cX6_readSeat 55 = .ok (.iload_n 3, 1) := by decide +kernel
theorem dX6_readSeat_56 : decode cX6_readSeat 56 = .ok (.invokevirtual 39, 3) := by decide +kernel
theorem dX6_readSeat_59 : decode cX6_readSeat 59 = .ok (.iconst 0, 1) := by decide +kernel
theorem dX6_readSeat_60 : decode cX6_readSeat 60 = .ok (.ireturn, 1) := by decide +kernel
theorem dX6_readSeat_61 : decode cX6_readSeat 61 = .ok (.aload_n 1, 1) := by decide +kernel
theorem dX6_readSeat_62 : decode cX6_readSeat 62 = .ok (.iload 4, 2) := by decide +kernel
theorem dX6_readSeat_64 : decode cX6_readSeat 64 = .ok (.invokevirtual 69, 3) := by decide +kernel
theorem dX6_readSeat_67 : decode cX6_readSeat 67 = .ok (.iload_n 2, 1) := by decide +kernel
theorem dX6_readSeat_68 : decode cX6_readSeat 68 = .ok (.if_icmp .eq 22, 3) := by decide +kernel
theorem dX6_readSeat_71 : decode cX6_readSeat 71 = .ok (.aload_n 0, 1) := by decide +kernel
theorem dX6_readSeat_72 : decode cX6_readSeat 72 = .ok (.getfield 15, 3) := by decide +kernel
theorem dX6_readSeat_75 : decode cX6_readSeat 75 = .ok (.iload_n 2, 1) := by decide +kernel
theorem dX6_readSeat_76 : decode cX6_readSeat 76 = .ok (.ifCond .eq 8, 3) := by decide +kernel
theorem dX6_readSeat_79 : decode cX6_readSeat 79 = .ok (.bipush 7, 2) := by decide +kernel
theorem dX6_readSeat_81 : decode cX6_readSeat 81 = .ok (.goto 5, 3) := by decide +kernel
theorem dX6_readSeat_84 : decode cX6_readSeat 84 = .ok (.bipush 8, 2) := by decide +kernel
theorem dX6_readSeat_86 : decode cX6_readSeat 86 = .ok (.iload_n 3, 1) := by decide +kernel
theorem dX6_readSeat_87 : decode cX6_readSeat 87 = .ok (.invokevirtual 39, 3) := by decide +kernel
theorem dX6_readSeat_90 : decode cX6_readSeat 90 = .ok (.iload 4, 2) := by decide +kernel
theorem dX6_readSeat_92 : decode cX6_readSeat 92 = .ok (.ireturn, 1) := by decide +kernel
theorem dX7_init_0 : decode cX7_init 0 = .ok (.aload_n 0, 1) := by decide +kernel
theorem dX7_init_1 : decode cX7_init 1 = .ok (.invokespecial 3, 3) := by decide +kernel
theorem dX7_init_4 : decode cX7_init 4 = .ok (.aload_n 0, 1) := by decide +kernel
theorem dX7_init_5 : decode cX7_init 5 = .ok (.bipush 64, 2) := by decide +kernel
theorem dX7_init_7 : decode cX7_init 7 = .ok (.newarray .int, 2) := by decide +kernel
theorem dX7_init_9 : decode cX7_init 9 = .ok (.putfield 11, 3) := by decide +kernel
theorem dX7_init_12 : decode cX7_init 12 = .ok (.aload_n 0, 1) := by decide +kernel
theorem dX7_init_13 : decode cX7_init 13 = .ok (.bipush 64, 2) := by decide +kernel
theorem dX7_init_15 : decode cX7_init 15 = .ok (.newarray .int, 2) := by decide +kernel
theorem dX7_init_17 : decode cX7_init 17 = .ok (.putfield 15, 3) := by decide +kernel
theorem dX7_init_20 : decode cX7_init 20 = .ok (.aload_n 0, 1) := by decide +kernel
theorem dX7_init_21 : decode cX7_init 21 = .ok (.bipush 8, 2) := by decide +kernel
theorem dX7_init_23 : decode cX7_init 23 = .ok (.newarray .int, 2) := by decide +kernel
theorem dX7_init_25 : decode cX7_init 25 = .ok (.putfield 18, 3) := by decide +kernel
theorem dX7_init_28 : decode cX7_init 28 = .ok (.aload_n 0, 1) := by decide +kernel
theorem dX7_init_29 : decode cX7_init 29 = .ok (.bipush 12, 2) := by decide +kernel
theorem dX7_init_31 : decode cX7_init 31 = .ok (.newarray .int, 2) := by decide +kernel
theorem dX7_init_33 : decode cX7_init 33 = .ok (.putfield 21, 3) := by decide +kernel
theorem dX7_init_36 : decode cX7_init 36 = .ok (.aload_n 0, 1) := by decide +kernel
theorem dX7_init_37 : decode cX7_init 37 = .ok (.sipush 1024, 3) := by decide +kernel
theorem dX7_init_40 : decode cX7_init 40 = .ok (.newarray .int, 2) := by decide +kernel
theorem dX7_init_42 : decode cX7_init 42 = .ok (.putfield 24, 3) := by decide +kernel
theorem dX7_init_45 : decode cX7_init 45 = .ok (.aload_n 0, 1) := by decide +kernel
theorem dX7_init_46 : decode cX7_init 46 = .ok (.aload_n 1, 1) := by decide +kernel
theorem dX7_init_47 : decode cX7_init 47 = .ok (.putfield 27, 3) := by decide +kernel
theorem dX7_init_50 : decode cX7_init 50 = .ok (.return_, 1) := by decide +kernel
theorem dX7_fillSums_0 : decode cX7_fillSums 0 = .ok (.aload_n 3, 1) := by decide +kernel
theorem dX7_fillSums_1 : decode cX7_fillSums 1 = .ok (.iconst 0, 1) := by decide +kernel
theorem dX7_fillSums_2 : decode cX7_fillSums 2 = .ok (.iconst 0, 1) := by decide +kernel
theorem dX7_fillSums_3 : decode cX7_fillSums 3 = .ok (.iastore, 1) := by decide +kernel
theorem dX7_fillSums_4 : decode cX7_fillSums 4 = .ok (.iconst 0, 1) := by decide +kernel
theorem dX7_fillSums_5 : decode cX7_fillSums 5 = .ok (.istore 4, 2) := by decide +kernel
theorem dX7_fillSums_7 : decode cX7_fillSums 7 = .ok (.iload 4, 2) := by decide +kernel
theorem dX7_fillSums_9 : decode cX7_fillSums 9 = .ok (.iload_n 2, 1) := by decide +kernel
theorem dX7_fillSums_10 : decode cX7_fillSums 10 = .ok (.if_icmp .ge 61, 3) := by decide +kernel
theorem dX7_fillSums_13 : decode cX7_fillSums 13 = .ok (.iload 4, 2) := by decide +kernel
theorem dX7_fillSums_15 : decode cX7_fillSums 15 = .ok (.bipush 6, 2) := by decide +kernel
theorem dX7_fillSums_17 : decode cX7_fillSums 17 = .ok (.if_icmp .ge 54, 3) := by decide +kernel
theorem dX7_fillSums_20 : decode cX7_fillSums 20 = .ok (.iconst 1, 1) := by decide +kernel
theorem dX7_fillSums_21 : decode cX7_fillSums 21 = .ok (.iload 4, 2) := by decide +kernel
theorem dX7_fillSums_23 : decode cX7_fillSums 23 = .ok (.ishl, 1) := by decide +kernel
theorem dX7_fillSums_24 : decode cX7_fillSums 24 = .ok (.istore 5, 2) := by decide +kernel
theorem dX7_fillSums_26 : decode cX7_fillSums 26 = .ok (.iconst 0, 1) := by decide +kernel
theorem dX7_fillSums_27 : decode cX7_fillSums 27 = .ok (.istore 6, 2) := by decide +kernel
theorem dX7_fillSums_29 : decode cX7_fillSums 29 = .ok (.iload 6, 2) := by decide +kernel
theorem dX7_fillSums_31 : decode cX7_fillSums 31 = .ok (.iload 5, 2) := by decide +kernel
theorem dX7_fillSums_33 : decode cX7_fillSums 33 = .ok (.if_icmp .ge 32, 3) := by decide +kernel
theorem dX7_fillSums_36 : decode cX7_fillSums 36 = .ok (.aload_n 3, 1) := by decide +kernel
theorem dX7_fillSums_37 : decode cX7_fillSums 37 = .ok (.iload 5, 2) := by decide +kernel
theorem dX7_fillSums_39 : decode cX7_fillSums 39 = .ok (.iload 6, 2) := by decide +kernel
theorem dX7_fillSums_41 : decode cX7_fillSums 41 = .ok (.iadd, 1) := by decide +kernel
theorem dX7_fillSums_42 : decode cX7_fillSums 42 = .ok (.aload_n 3, 1) := by decide +kernel
theorem dX7_fillSums_43 : decode cX7_fillSums 43 = .ok (.iload 6, 2) := by decide +kernel
theorem dX7_fillSums_45 : decode cX7_fillSums 45 = .ok (.iaload, 1) := by decide +kernel
theorem dX7_fillSums_46 : decode cX7_fillSums 46 = .ok (.aload_n 0, 1) := by decide +kernel
theorem dX7_fillSums_47 : decode cX7_fillSums 47 = .ok (.getfield 27, 3) := by decide +kernel
theorem dX7_fillSums_50 : decode cX7_fillSums 50 = .ok (.iload_n 1, 1) := by decide +kernel
theorem dX7_fillSums_51 : decode cX7_fillSums 51 = .ok (.iload 4, 2) := by decide +kernel
theorem dX7_fillSums_53 : decode cX7_fillSums 53 = .ok (.iadd, 1) := by decide +kernel
theorem dX7_fillSums_54 : decode cX7_fillSums 54 = .ok (.invokevirtual 31, 3) := by decide +kernel
theorem dX7_fillSums_57 : decode cX7_fillSums 57 = .ok (.iadd, 1) := by decide +kernel
theorem dX7_fillSums_58 : decode cX7_fillSums 58 = .ok (.iastore, 1) := by decide +kernel
theorem dX7_fillSums_59 : decode cX7_fillSums 59 = .ok (.iinc 6 1, 3) := by decide +kernel
theorem dX7_fillSums_62 : decode cX7_fillSums 62 = .ok (.goto (-33), 3) := by decide +kernel
theorem dX7_fillSums_65 : decode cX7_fillSums 65 = .ok (.iinc 4 1, 3) := by decide +kernel
theorem dX7_fillSums_68 : decode cX7_fillSums 68 = .ok (.goto (-61), 3) := by decide +kernel
theorem dX7_fillSums_71 : decode cX7_fillSums 71 = .ok (.return_, 1) := by decide +kernel
