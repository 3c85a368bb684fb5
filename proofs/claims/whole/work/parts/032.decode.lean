theorem dX12_familyAll_4 : decode cX12_familyAll 4 = .ok (.iload_n 3, 1) := by decide +kernel
theorem dX12_familyAll_5 : decode cX12_familyAll 5 = .ok (.bipush 16, 2) := by decide +kernel
theorem dX12_familyAll_7 : decode cX12_familyAll 7 = .ok (.if_icmp .ge 18, 3) := by decide +kernel
theorem dX12_familyAll_10 : decode cX12_familyAll 10 = .ok (.iload_n 2, 1) := by decide +kernel
theorem dX12_familyAll_11 : decode cX12_familyAll 11 = .ok (.aload_n 0, 1) := by decide +kernel
theorem dX12_familyAll_12 : decode cX12_familyAll 12 = .ok (.iload_n 3, 1) := by decide +kernel
theorem dX12_familyAll_13 : decode cX12_familyAll 13 = .ok (.iload_n 1, 1) := by decide +kernel
theorem dX12_familyAll_14 : decode cX12_familyAll 14 = .ok (.invokevirtual 104, 3) := by decide +kernel
theorem dX12_familyAll_17 : decode cX12_familyAll 17 = .ok (.iadd, 1) := by decide +kernel
theorem dX12_familyAll_18 : decode cX12_familyAll 18 = .ok (.istore_n 2, 1) := by decide +kernel
theorem dX12_familyAll_19 : decode cX12_familyAll 19 = .ok (.iinc 3 1, 3) := by decide +kernel
theorem dX12_familyAll_22 : decode cX12_familyAll 22 = .ok (.goto (-18), 3) := by decide +kernel
theorem dX12_familyAll_25 : decode cX12_familyAll 25 = .ok (.iload_n 2, 1) := by decide +kernel
theorem dX12_familyAll_26 : decode cX12_familyAll 26 = .ok (.ireturn, 1) := by decide +kernel
theorem dX12_coat_0 : decode cX12_coat 0 = .ok (.iload_n 1, 1) := by decide +kernel
theorem dX12_coat_1 : decode cX12_coat 1 = .ok (.iconst 0, 1) := by decide +kernel
theorem dX12_coat_2 : decode cX12_coat 2 = .ok (.sipush 143, 3) := by decide +kernel
theorem dX12_coat_5 : decode cX12_coat 5 = .ok (.invokestatic 108, 3) := by decide +kernel
theorem dX12_coat_8 : decode cX12_coat 8 = .ok (.ifCond .eq 13, 3) := by decide +kernel
theorem dX12_coat_11 : decode cX12_coat 11 = .ok (.iload_n 2, 1) := by decide +kernel
theorem dX12_coat_12 : decode cX12_coat 12 = .ok (.iconst (-1), 1) := by decide +kernel
theorem dX12_coat_13 : decode cX12_coat 13 = .ok (.bipush 15, 2) := by decide +kernel
theorem dX12_coat_15 : decode cX12_coat 15 = .ok (.invokestatic 108, 3) := by decide +kernel
theorem dX12_coat_18 : decode cX12_coat 18 = .ok (.ifCond .ne 5, 3) := by decide +kernel
theorem dX12_coat_21 : decode cX12_coat 21 = .ok (.iconst 0, 1) := by decide +kernel
theorem dX12_coat_22 : decode cX12_coat 22 = .ok (.ireturn, 1) := by decide +kernel
theorem dX12_coat_23 : decode cX12_coat 23 = .ok (.aload_n 0, 1) := by decide +kernel
theorem dX12_coat_24 : decode cX12_coat 24 = .ok (.getfield 7, 3) := by decide +kernel
theorem dX12_coat_27 : decode cX12_coat 27 = .ok (.sipush 288, 3) := by decide +kernel
theorem dX12_coat_30 : decode cX12_coat 30 = .ok (.iload_n 1, 1) := by decide +kernel
theorem dX12_coat_31 : decode cX12_coat 31 = .ok (.iadd, 1) := by decide +kernel
theorem dX12_coat_32 : decode cX12_coat 32 = .ok (.iload_n 2, 1) := by decide +kernel
theorem dX12_coat_33 : decode cX12_coat 33 = .ok (.iastore, 1) := by decide +kernel
theorem dX12_coat_34 : decode cX12_coat 34 = .ok (.iconst 1, 1) := by decide +kernel
theorem dX12_coat_35 : decode cX12_coat 35 = .ok (.ireturn, 1) := by decide +kernel
theorem dX12_types_0 : decode cX12_types 0 = .ok (.iconst 3, 1) := by decide +kernel
theorem dX12_types_1 : decode cX12_types 1 = .ok (.istore_n 2, 1) := by decide +kernel
theorem dX12_types_2 : decode cX12_types 2 = .ok (.iload_n 2, 1) := by decide +kernel
theorem dX12_types_3 : decode cX12_types 3 = .ok (.ifCond .lt 35, 3) := by decide +kernel
theorem dX12_types_6 : decode cX12_types 6 = .ok (.aload_n 0, 1) := by decide +kernel
theorem dX12_types_7 : decode cX12_types 7 = .ok (.getfield 19, 3) := by decide +kernel
theorem dX12_types_10 : decode cX12_types 10 = .ok (.aload_n 0, 1) := by decide +kernel
theorem dX12_types_11 : decode cX12_types 11 = .ok (.getfield 112, 3) := by decide +kernel
theorem dX12_types_14 : decode cX12_types 14 = .ok (.iload_n 1, 1) := by decide +kernel
theorem dX12_types_15 : decode cX12_types 15 = .ok (.bipush 8, 2) := by decide +kernel
theorem dX12_types_17 : decode cX12_types 17 = .ok (.iload_n 2, 1) := by decide +kernel
theorem dX12_types_18 : decode cX12_types 18 = .ok (.imul, 1) := by decide +kernel
theorem dX12_types_19 : decode cX12_types 19 = .ok (.ishr, 1) := by decide +kernel
theorem dX12_types_20 : decode cX12_types 20 = .ok (.i2b, 1) := by decide +kernel
theorem dX12_types_21 : decode cX12_types 21 = .ok (.bastore, 1) := by decide +kernel
theorem dX12_types_22 : decode cX12_types 22 = .ok (.aload_n 0, 1) := by decide +kernel
theorem dX12_types_23 : decode cX12_types 23 = .ok (.aload_n 0, 1) := by decide +kernel
theorem dX12_types_24 : decode cX12_types 24 = .ok (.getfield 112, 3) := by decide +kernel
theorem dX12_types_27 : decode cX12_types 27 = .ok (.iconst 1, 1) := by decide +kernel
theorem dX12_types_28 : decode cX12_types 28 = .ok (.iadd, 1) := by decide +kernel
theorem dX12_types_29 : decode cX12_types 29 = .ok (.putfield 112, 3) := by decide +kernel
theorem dX12_types_32 : decode cX12_types 32 = .ok (.iinc 2 (-1), 3) := by decide +kernel
theorem dX12_types_35 : decode cX12_types 35 = .ok (.goto (-33), 3) := by decide +kernel
theorem dX12_types_38 : decode cX12_types 38 = .ok (.return_, 1) := by decide +kernel
theorem dX12_feed_0 : decode cX12_feed 0 = .ok (.aload_n 0, 1) := by decide +kernel
theorem dX12_feed_1 : decode cX12_feed 1 = .ok (.getfield 112, 3) := by decide +kernel
theorem dX12_feed_4 : decode cX12_feed 4 = .ok (.bipush 20, 2) := by decide +kernel
theorem dX12_feed_6 : decode cX12_feed 6 = .ok (.iadd, 1) := by decide +kernel
theorem dX12_feed_7 : decode cX12_feed 7 = .ok (.sipush 260, 3) := by decide +kernel
theorem dX12_feed_10 : decode cX12_feed 10 = .ok (.if_icmp .le 5, 3) := by decide +kernel
theorem dX12_feed_13 : decode cX12_feed 13 = .ok (.iconst (-1), 1) := by decide +kernel
theorem dX12_feed_14 : decode cX12_feed 14 = .ok (.ireturn, 1) := by decide +kernel
theorem dX12_feed_15 : decode cX12_feed 15 = .ok (.aload_n 0, 1) := by decide +kernel
theorem dX12_feed_16 : decode cX12_feed 16 = .ok (.iload_n 1, 1) := by decide +kernel
theorem dX12_feed_17 : decode cX12_feed 17 = .ok (.invokevirtual 116, 3) := by decide +kernel
theorem dX12_feed_20 : decode cX12_feed 20 = .ok (.aload_n 0, 1) := by decide +kernel
theorem dX12_feed_21 : decode cX12_feed 21 = .ok (.iload_n 2, 1) := by decide +kernel
theorem dX12_feed_22 : decode cX12_feed 22 = .ok (.invokevirtual 116, 3) := by decide +kernel
theorem dX12_feed_25 : decode cX12_feed 25 = .ok (.aload_n 0, 1) := by decide +kernel
theorem dX12_feed_26 : decode cX12_feed 26 = .ok (.iload_n 3, 1) := by decide +kernel
theorem dX12_feed_27 : decode cX12_feed 27 = .ok (.invokevirtual 116, 3) := by decide +kernel
theorem dX12_feed_30 : decode cX12_feed 30 = .ok (.aload_n 0, 1) := by decide +kernel
theorem dX12_feed_31 : decode cX12_feed 31 = .ok (.iload 4, 2) := by decide +kernel
theorem dX12_feed_33 : decode cX12_feed 33 = .ok (.invokevirtual 116, 3) := by decide +kernel
theorem dX12_feed_36 : decode cX12_feed 36 = .ok (.aload_n 0, 1) := by decide +kernel
theorem dX12_feed_37 : decode cX12_feed 37 = .ok (.iload 5, 2) := by decide +kernel
theorem dX12_feed_39 : decode cX12_feed 39 = .ok (.invokevirtual 116, 3) := by decide +kernel
theorem dX12_feed_42 : decode cX12_feed 42 = .ok (.aload_n 0, 1) := by decide +kernel
theorem dX12_feed_43 : decode cX12_feed 43 = .ok (.getfield 112, 3) := by decide +kernel
theorem dX12_feed_46 : decode cX12_feed 46 = .ok (.ireturn, 1) := by decide +kernel
theorem dX12_octet_0 : decode cX12_octet 0 = .ok (.aload_n 0, 1) := by decide +kernel
theorem dX12_octet_1 : decode cX12_octet 1 = .ok (.getfield 19, 3) := by decide +kernel
theorem dX12_octet_4 : decode cX12_octet 4 = .ok (.iload_n 1, 1) := by decide +kernel
theorem dX12_octet_5 : decode cX12_octet 5 = .ok (.baload, 1) := by decide +kernel
theorem dX12_octet_6 : decode cX12_octet 6 = .ok (.sipush 255, 3) := by decide +kernel
theorem dX12_octet_9 : decode cX12_octet 9 = .ok (.iand, 1) := by decide +kernel
theorem dX12_octet_10 : decode cX12_octet 10 = .ok (.ireturn, 1) := by decide +kernel
theorem dX12_here_0 : decode cX12_here 0 = .ok (.aload_n 0, 1) := by decide +kernel
theorem dX12_here_1 : decode cX12_here 1 = .ok (.getfield 120, 3) := by decide +kernel
theorem dX12_here_4 : decode cX12_here 4 = .ok (.aload_n 0, 1) := by decide +kernel
theorem dX12_here_5 : decode cX12_here 5 = .ok (.getfield 123, 3) := by decide +kernel
theorem dX12_here_8 : decode cX12_here 8 = .ok (.if_icmp .ge 19, 3) := by decide +kernel
theorem dX12_here_11 : decode cX12_here 11 = .ok (.aload_n 0, 1) := by decide +kernel
theorem dX12_here_12 : decode cX12_here 12 = .ok (.getfield 19, 3) := by decide +kernel
theorem dX12_here_15 : decode cX12_here 15 = .ok (.aload_n 0, 1) := by decide +kernel
theorem dX12_here_16 : decode cX12_here 16 = .ok (.getfield 120, 3) := by decide +kernel
theorem dX12_here_19 : decode cX12_here 19 = .ok (.baload, 1) := by decide +kernel
theorem dX12_here_20 : decode cX12_here 20 = .ok (.sipush 255, 3) := by decide +kernel
theorem dX12_here_23 : decode cX12_here 23 = .ok (.iand, 1) := by decide +kernel
theorem dX12_here_24 : decode cX12_here 24 = .ok (.goto 4, 3) := by decide +kernel
theorem dX12_here_27 : decode cX12_here 27 = .ok (.iconst (-1), 1) := by decide +kernel
theorem dX12_here_28 : decode cX12_here 28 = .ok (.ireturn, 1) := by decide +kernel
theorem dX12_isDigit_0 : decode cX12_isDigit 0 = .ok (.aload_n 0, 1) := by decide +kernel
theorem dX12_isDigit_1 : decode cX12_isDigit 1 = .ok (.invokevirtual 126, 3) := by decide +kernel
theorem dX12_isDigit_4 : decode cX12_isDigit 4 = .ok (.bipush 48, 2) := by decide +kernel
theorem dX12_isDigit_6 : decode cX12_isDigit 6 = .ok (.if_icmp .lt 16, 3) := by decide +kernel
theorem dX12_isDigit_9 : decode cX12_isDigit 9 = .ok (.aload_n 0, 1) := by decide +kernel
theorem dX12_isDigit_10 : decode cX12_isDigit 10 = .ok (.invokevirtual 126, 3) := by decide +kernel
theorem dX12_isDigit_13 : decode cX12_isDigit 13 = .ok (.bipush 57, 2) := by decide +kernel
theorem dX12_isDigit_15 : decode cX12_isDigit 15 = .ok (.if_icmp .gt 7, 3) := by decide +kernel
theorem dX12_isDigit_18 : decode cX12_isDigit 18 = .ok (.iconst 1, 1) := by decide +kernel
theorem dX12_isDigit_19 : decode cX12_isDigit 19 = .ok (.goto 4, 3) := by decide +kernel
theorem dX12_isDigit_22 : decode cX12_isDigit 22 = .ok (.iconst 0, 1) := by decide +kernel
theorem dX12_isDigit_23 : decode cX12_isDigit 23 = .ok (.ireturn, 1) := by decide +kernel
theorem dX12_wrongAt_0 : decode cX12_wrongAt 0 = .ok (.aload_n 0, 1) := by decide +kernel
theorem dX12_wrongAt_1 : decode cX12_wrongAt 1 = .ok (.sipush (-1000), 3) := by decide +kernel
theorem dX12_wrongAt_4 : decode cX12_wrongAt 4 = .ok (.iload_n 1, 1) := by decide +kernel
theorem dX12_wrongAt_5 : decode cX12_wrongAt 5 = .ok (.imul, 1) := by decide +kernel
theorem dX12_wrongAt_6 : decode cX12_wrongAt 6 = .ok (.iload_n 2, 1) := by decide +kernel
theorem dX12_wrongAt_7 : decode cX12_wrongAt 7 = .ok (.isub, 1) := by decide +kernel
theorem dX12_wrongAt_8 : decode cX12_wrongAt 8 = .ok (.putfield 130, 3) := by decide +kernel
theorem dX12_wrongAt_11 : decode cX12_wrongAt 11 = .ok (.iconst 0, 1) := by decide +kernel
theorem dX12_wrongAt_12 : decode cX12_wrongAt 12 = .ok (.ireturn, 1) := by decide +kernel
theorem dX12_takes_0 : decode cX12_takes 0 = .ok (.aload_n 0, 1) := by decide +kernel
theorem dX12_takes_1 : decode cX12_takes 1 = .ok (.invokevirtual 126, 3) := by decide +kernel
theorem dX12_takes_4 : decode cX12_takes 4 = .ok (.iload_n 1, 1) := by decide +kernel
theorem dX12_takes_5 : decode cX12_takes 5 = .ok (.if_icmp .eq 13, 3) := by decide +kernel
theorem dX12_takes_8 : decode cX12_takes 8 = .ok (.aload_n 0, 1) := by decide +kernel
theorem dX12_takes_9 : decode cX12_takes 9 = .ok (.iconst 1, 1) := by decide +kernel
theorem dX12_takes_10 : decode cX12_takes 10 = .ok (.aload_n 0, 1) := by decide +kernel
theorem dX12_takes_11 : decode cX12_takes 11 = .ok (.getfield 120, 3) := by decide +kernel
theorem dX12_takes_14 : decode cX12_takes 14 = .ok (.invokevirtual 133, 3) := by decide +kernel
theorem dX12_takes_17 : decode cX12_takes 17 = .ok (.ireturn, 1) := by decide +kernel
theorem dX12_takes_18 : decode cX12_takes 18 = .ok (.aload_n 0, 1) := by decide +kernel
theorem dX12_takes_19 : decode cX12_takes 19 = .ok (.aload_n 0, 1) := by decide +kernel
theorem dX12_takes_20 : decode cX12_takes 20 = .ok (.getfield 120, 3) := by decide +kernel
theorem dX12_takes_23 : decode cX12_takes 23 = .ok (.iconst 1, 1) := by decide +kernel
theorem dX12_takes_24 : decode cX12_takes 24 = .ok (.iadd, 1) := by decide +kernel
theorem dX12_takes_25 : decode cX12_takes 25 = .ok (.putfield 120, 3) := by decide +kernel
theorem dX12_takes_28 : decode cX12_takes 28 = .ok (.iconst 1, 1) := by decide +kernel
theorem dX12_takes_29 : decode cX12_takes 29 = .ok (.ireturn, 1) := by decide +kernel
theorem dX12_readsNumber_0 : decode cX12_readsNumber 0 = .ok (.aload_n 0, 1) := by decide +kernel
theorem dX12_readsNumber_1 : decode cX12_readsNumber 1 = .ok (.getfield 120, 3) := by decide +kernel
theorem dX12_readsNumber_4 : decode cX12_readsNumber 4 = .ok (.istore_n 1, 1) := by decide +kernel
theorem dX12_readsNumber_5 : decode cX12_readsNumber 5 = .ok (.aload_n 0, 1) := by decide +kernel
theorem dX12_readsNumber_6 : decode cX12_readsNumber 6 = .ok (.iconst 0, 1) := by decide +kernel
theorem dX12_readsNumber_7 : decode cX12_readsNumber 7 = .ok (.putfield 137, 3) := by decide +kernel
theorem dX12_readsNumber_10 : decode cX12_readsNumber 10 = .ok (.aload_n 0, 1) := by decide +kernel
theorem dX12_readsNumber_11 : decode cX12_readsNumber 11 = .ok (.invokevirtual 140, 3) := by decide +kernel
theorem dX12_readsNumber_14 : decode cX12_readsNumber 14 = .ok (.ifCond .eq 55, 3) := by decide +kernel
theorem dX12_readsNumber_17 : decode cX12_readsNumber 17 = .ok (.aload_n 0, 1) := by decide +kernel
theorem dX12_readsNumber_18 : decode cX12_readsNumber 18 = .ok (.getfield 120, 3) := by decide +kernel
theorem dX12_readsNumber_21 : decode cX12_readsNumber 21 = .ok (.iload_n 1, 1) := by decide +kernel
theorem dX12_readsNumber_22 : decode cX12_readsNumber 22 = .ok (.iconst 5, 1) := by decide +kernel
theorem dX12_readsNumber_23 : decode cX12_readsNumber 23 = .ok (.iadd, 1) := by decide +kernel
theorem dX12_readsNumber_24 : decode cX12_readsNumber 24 = .ok (.if_icmp .ne 13, 3) := by decide +kernel
theorem dX12_readsNumber_27 : decode cX12_readsNumber 27 = .ok (.aload_n 0, 1) := by decide +kernel
theorem dX12_readsNumber_28 : decode cX12_readsNumber 28 = .ok (.iconst 2, 1) := by decide +kernel
theorem dX12_readsNumber_29 : decode cX12_readsNumber 29 = .ok (.aload_n 0, 1) := by decide +kernel
theorem dX12_readsNumber_30 : decode cX12_readsNumber 30 = .ok (.getfield 120, 3) := by decide +kernel
theorem dX12_readsNumber_33 : decode cX12_readsNumber 33 = .ok (.invokevirtual 133, 3) := by decide +kernel
theorem dX12_readsNumber_36 : decode cX12_readsNumber 36 = .ok (.ireturn, 1) := by decide +kernel
theorem dX12_readsNumber_37 : decode cX12_readsNumber 37 = .ok (.aload_n 0, 1) := by decide +kernel
theorem dX12_readsNumber_38 : decode cX12_readsNumber 38 = .ok (.bipush 10, 2) := by decide +kernel
theorem dX12_readsNumber_40 : decode cX12_readsNumber 40 = .ok (.aload_n 0, 1) := by decide +kernel
theorem dX12_readsNumber_41 : decode cX12_readsNumber 41 = .ok (.getfield 137, 3) := by decide +kernel
theorem dX12_readsNumber_44 : decode cX12_readsNumber 44 = .ok (.imul, 1) := by decide +kernel
theorem dX12_readsNumber_45 : decode cX12_readsNumber 45 = .ok (.aload_n 0, 1) := by decide +kernel
theorem dX12_readsNumber_46 : decode cX12_readsNumber 46 = .ok (.invokevirtual 126, 3) := by decide +kernel
theorem dX12_readsNumber_49 : decode cX12_readsNumber 49 = .ok (.iadd, 1) := by decide +kernel
theorem dX12_readsNumber_50 : decode cX12_readsNumber 50 = .ok (.bipush 48, 2) := by decide +kernel
theorem dX12_readsNumber_52 : decode cX12_readsNumber 52 = .ok (.isub, 1) := by decide +kernel
theorem dX12_readsNumber_53 : decode cX12_readsNumber 53 = .ok (.putfield 137, 3) := by decide +kernel
theorem dX12_readsNumber_56 : decode cX12_readsNumber 56 = .ok (.aload_n 0, 1) := by decide +kernel
theorem dX12_readsNumber_57 : decode cX12_readsNumber 57 = .ok (.aload_n 0, 1) := by decide +kernel
theorem dX12_readsNumber_58 : decode cX12_readsNumber 58 = .ok (.getfield 120, 3) := by decide +kernel
theorem dX12_readsNumber_61 : decode cX12_readsNumber 61 = .ok (.iconst 1, 1) := by decide +kernel
theorem dX12_readsNumber_62 : decode cX12_readsNumber 62 = .ok (.iadd, 1) := by decide +kernel
theorem dX12_readsNumber_63 : decode cX12_readsNumber 63 = .ok (.putfield 120, 3) := by decide +kernel
theorem dX12_readsNumber_66 : decode cX12_readsNumber 66 = .ok (.goto (-56), 3) := by decide +kernel
theorem dX12_readsNumber_69 : decode cX12_readsNumber 69 = .ok (.iconst 1, 1) := by decide +kernel
theorem dX12_readsNumber_70 : decode cX12_readsNumber 70 = .ok (.ireturn, 1) := by decide +kernel
theorem dX12_notes_0 : decode cX12_notes 0 = .ok (.aload_n 0, 1) := by decide +kernel
theorem dX12_notes_1 : decode cX12_notes 1 = .ok (.getfield 23, 3) := by decide +kernel
theorem dX12_notes_4 : decode cX12_notes 4 = .ok (.aload_n 0, 1) := by decide +kernel
theorem dX12_notes_5 : decode cX12_notes 5 = .ok (.getfield 144, 3) := by decide +kernel
theorem dX12_notes_8 : decode cX12_notes 8 = .ok (.ldc 147, 2) := by decide +kernel
theorem dX12_notes_10 : decode cX12_notes 10 = .ok (.iload_n 1, 1) := by decide +kernel
theorem dX12_notes_11 : decode cX12_notes 11 = .ok (.imul, 1) := by decide +kernel
theorem dX12_notes_12 : decode cX12_notes 12 = .ok (.iload_n 2, 1) := by decide +kernel
theorem dX12_notes_13 : decode cX12_notes 13 = .ok (.iadd, 1) := by decide +kernel
theorem dX12_notes_14 : decode cX12_notes 14 = .ok (.iastore, 1) := by decide +kernel
theorem dX12_notes_15 : decode cX12_notes 15 = .ok (.aload_n 0, 1) := by decide +kernel
theorem dX12_notes_16 : decode cX12_notes 16 = .ok (.aload_n 0, 1) := by decide +kernel
theorem dX12_notes_17 : decode cX12_notes 17 = .ok (.getfield 144, 3) := by decide +kernel
theorem dX12_notes_20 : decode cX12_notes 20 = .ok (.iconst 1, 1) := by decide +kernel
theorem dX12_notes_21 : decode cX12_notes 21 = .ok (.iadd, 1) := by decide +kernel
theorem dX12_notes_22 : decode cX12_notes 22 = .ok (.putfield 144, 3) := by decide +kernel
theorem dX12_notes_25 : decode cX12_notes 25 = .ok (.return_, 1) := by decide +kernel
theorem dX12_opens_0 : decode cX12_opens 0 = .ok (.aload_n 0, 1) := by decide +kernel
theorem dX12_opens_1 : decode cX12_opens 1 = .ok (.getfield 148, 3) := by decide +kernel
theorem dX12_opens_4 : decode cX12_opens 4 = .ok (.bipush 6, 2) := by decide +kernel
theorem dX12_opens_6 : decode cX12_opens 6 = .ok (.if_icmp .ne 13, 3) := by decide +kernel
theorem dX12_opens_9 : decode cX12_opens 9 = .ok (.aload_n 0, 1) := by decide +kernel
theorem dX12_opens_10 : decode cX12_opens 10 = .ok (.iconst 5, 1) := by decide +kernel
theorem dX12_opens_11 : decode cX12_opens 11 = .ok (.aload_n 0, 1) := by decide +kernel
theorem dX12_opens_12 : decode cX12_opens 12 = .ok (.getfield 120, 3) := by decide +kernel
theorem dX12_opens_15 : decode cX12_opens 15 = .ok (.invokevirtual 133, 3) := by decide +kernel
theorem dX12_opens_18 : decode cX12_opens 18 = .ok (.ireturn, 1) := by decide +kernel
theorem dX12_opens_19 : decode cX12_opens 19 = .ok (.aload_n 0, 1) := by decide +kernel
theorem dX12_opens_20 : decode cX12_opens 20 = .ok (.aload_n 0, 1) := by decide +kernel
theorem dX12_opens_21 : decode cX12_opens 21 = .ok (.getfield 148, 3) := by decide +kernel
theorem dX12_opens_24 : decode cX12_opens 24 = .ok (.iconst 1, 1) := by decide +kernel
theorem dX12_opens_25 : decode cX12_opens 25 = .ok (.iadd, 1) := by decide +kernel
theorem dX12_opens_26 : decode cX12_opens 26 = .ok (.putfield 148, 3) := by decide +kernel
theorem dX12_opens_29 : decode cX12_opens 29 = .ok (.aload_n 0, 1) := by decide +kernel
theorem dX12_opens_30 : decode cX12_opens 30 = .ok (.getfield 26, 3) := by decide +kernel
theorem dX12_opens_33 : decode cX12_opens 33 = .ok (.aload_n 0, 1) := by decide +kernel
theorem dX12_opens_34 : decode cX12_opens 34 = .ok (.getfield 151, 3) := by decide +kernel
theorem dX12_opens_37 : decode cX12_opens 37 = .ok (.ldc 147, 2) := by decide +kernel
theorem dX12_opens_39 : decode cX12_opens 39 = .ok (.iload_n 1, 1) := by decide +kernel
theorem dX12_opens_40 : decode cX12_opens 40 = .ok (.imul, 1) := by decide +kernel
theorem dX12_opens_41 : decode cX12_opens 41 = .ok (.iastore, 1) := by decide +kernel
theorem dX12_opens_42 : decode cX12_opens 42 = .ok (.aload_n 0, 1) := by decide +kernel
theorem dX12_opens_43 : decode cX12_opens 43 = .ok (.aload_n 0, 1) := by decide +kernel
theorem dX12_opens_44 : decode cX12_opens 44 = .ok (.getfield 151, 3) := by decide +kernel
theorem dX12_opens_47 : decode cX12_opens 47 = .ok (.iconst 1, 1) := by decide +kernel
theorem dX12_opens_48 : decode cX12_opens 48 = .ok (.iadd, 1) := by decide +kernel
theorem dX12_opens_49 : decode cX12_opens 49 = .ok (.putfield 151, 3) := by decide +kernel
theorem dX12_opens_52 : decode cX12_opens 52 = .ok (.aload_n 0, 1) := by decide +kernel
theorem dX12_opens_53 : decode cX12_opens 53 = .ok (.aload_n 0, 1) := by decide +kernel
theorem dX12_opens_54 : decode cX12_opens 54 = .ok (.getfield 120, 3) := by decide +kernel
theorem dX12_opens_57 : decode cX12_opens 57 = .ok (.iconst 1, 1) := by decide +kernel
theorem dX12_opens_58 : decode cX12_opens 58 = .ok (.iadd, 1) := by decide +kernel
theorem dX12_opens_59 : decode cX12_opens 59 = .ok (.putfield 120, 3) := by decide +kernel
theorem dX12_opens_62 : decode cX12_opens 62 = .ok (.iconst 1, 1) := by decide +kernel
theorem dX12_opens_63 : decode cX12_opens 63 = .ok (.ireturn, 1) := by decide +kernel
theorem dX12_waitTop_0 : decode cX12_waitTop 0 = .ok (.aload_n 0, 1) := by decide +kernel
theorem dX12_waitTop_1 : decode cX12_waitTop 1 = .ok (.getfield 151, 3) := by decide +kernel
theorem dX12_waitTop_4 : decode cX12_waitTop 4 = .ok (.ifCond .ne 7, 3) := by decide +kernel
theorem dX12_waitTop_7 : decode cX12_waitTop 7 = .ok (.iconst (-1), 1) := by decide +kernel
theorem dX12_waitTop_8 : decode cX12_waitTop 8 = .ok (.goto 17, 3) := by decide +kernel
theorem dX12_waitTop_11 : decode cX12_waitTop 11 = .ok (.aload_n 0, 1) := by decide +kernel
theorem dX12_waitTop_12 : decode cX12_waitTop 12 = .ok (.getfield 26, 3) := by decide +kernel
theorem dX12_waitTop_15 : decode cX12_waitTop 15 = .ok (.aload_n 0, 1) := by decide +kernel
theorem dX12_waitTop_16 : decode cX12_waitTop 16 = .ok (.getfield 151, 3) := by decide +kernel
theorem dX12_waitTop_19 : decode cX12_waitTop 19 = .ok (.iconst 1, 1) := by decide +kernel
theorem dX12_waitTop_20 : decode cX12_waitTop 20 = .ok (.isub, 1) := by decide +kernel
theorem dX12_waitTop_21 : decode cX12_waitTop 21 = .ok (.iaload, 1) := by decide +kernel
theorem dX12_waitTop_22 : decode cX12_waitTop 22 = .ok (.ldc 147, 2) := by decide +kernel
theorem dX12_waitTop_24 : decode cX12_waitTop 24 = .ok (.idiv, 1) := by decide +kernel
theorem dX12_waitTop_25 : decode cX12_waitTop 25 = .ok (.ireturn, 1) := by decide +kernel
theorem dX12_factOf_0 : decode cX12_factOf 0 = .ok (.iload_n 0, 1) := by decide +kernel
theorem dX12_factOf_1 : decode cX12_factOf 1 = .ok (.tableswitch 129 99 119 #[105, 123, 129, 101, 107, 129, 129, 129, 120, 129, 117, 114, 129, 129, 109, 111, 99, 103, 129, 129, 126], 99) := by decide +kernel
theorem dX12_factOf_100 : decode cX12_factOf 100 = .ok (.iconst 0, 1) := by decide +kernel
theorem dX12_factOf_101 : decode cX12_factOf 101 = .ok (.ireturn, 1) := by decide +kernel
theorem dX12_factOf_102 : decode cX12_factOf 102 = .ok (.iconst 1, 1) := by decide +kernel
theorem dX12_factOf_103 : decode cX12_factOf 103 = .ok (.ireturn, 1) := by decide +kernel
theorem dX12_factOf_104 : decode cX12_factOf 104 = .ok (.iconst 2, 1) := by decide +kernel
theorem dX12_factOf_105 : decode cX12_factOf 105 = .ok (.ireturn, 1) := by decide +kernel
theorem dX12_factOf_106 : decode cX12_factOf 106 = .ok (.iconst 3, 1) := by decide +kernel
theorem dX12_factOf_107 : decode cX12_factOf 107 = .ok (.ireturn, 1) := by decide +kernel
theorem dX12_factOf_108 : decode cX12_factOf 108 = .ok (.iconst 4, 1) := by decide +kernel
theorem dX12_factOf_109 : decode cX12_factOf 109 = .ok (.ireturn, 1) := by decide +kernel
theorem dX12_factOf_110 : decode cX12_factOf 110 = .ok (.iconst 5, 1) := by decide +kernel
theorem dX12_factOf_111 : decode cX12_factOf 111 = .ok (.ireturn, 1) := by decide +kernel
theorem dX12_factOf_112 : decode cX12_factOf 112 = .ok (.bipush 6, 2) := by decide +kernel
theorem dX12_factOf_114 : decode cX12_factOf 114 = .ok (.ireturn, 1) := by decide +kernel
theorem dX12_factOf_115 : decode cX12_factOf 115 = .ok (.bipush 7, 2) := by decide +kernel
theorem dX12_factOf_117 : decode cX12_factOf 117 = .ok (.ireturn, 1) := by decide +kernel
theorem dX12_factOf_118 : decode cX12_factOf 118 = .ok (.bipush 8, 2) := by decide +kernel
theorem dX12_factOf_120 : decode cX12_factOf 120 = .ok (.ireturn, 1) := by decide +kernel
theorem dX12_factOf_121 : decode cX12_factOf 121 = .ok (.bipush 9, 2) := by decide +kernel
theorem dX12_factOf_123 : decode cX12_factOf 123 = .ok (.ireturn, 1) := by decide +kernel
theorem dX12_factOf_124 : decode cX12_factOf 124 = .ok (.bipush 10, 2) := by decide +kernel
theorem dX12_factOf_126 : decode cX12_factOf 126 = .ok (.ireturn, 1) := by decide +kernel
theorem dX12_factOf_127 : decode cX12_factOf 127 = .ok (.bipush 11, 2) := by decide +kernel
theorem dX12_factOf_129 : decode cX12_factOf 129 = .ok (.ireturn, 1) := by decide +kernel
theorem dX12_factOf_130 : decode cX12_factOf 130 = .ok (.iconst (-1), 1) := by decide +kernel
theorem dX12_factOf_131 : decode cX12_factOf 131 = .ok (.ireturn, 1) := by decide +kernel
theorem dX12_sumSign_0 : decode cX12_sumSign 0 = .ok (.iload_n 0, 1) := by decide +kernel
theorem dX12_sumSign_1 : decode cX12_sumSign 1 = .ok (.bipush 43, 2) := by decide +kernel
theorem dX12_sumSign_3 : decode cX12_sumSign 3 = .ok (.if_icmp .ne 7, 3) := by decide +kernel
theorem dX12_sumSign_6 : decode cX12_sumSign 6 = .ok (.iconst 2, 1) := by decide +kernel
theorem dX12_sumSign_7 : decode cX12_sumSign 7 = .ok (.goto 45, 3) := by decide +kernel
theorem dX12_sumSign_10 : decode cX12_sumSign 10 = .ok (.iload_n 0, 1) := by decide +kernel
theorem dX12_sumSign_11 : decode cX12_sumSign 11 = .ok (.bipush 45, 2) := by decide +kernel
theorem dX12_sumSign_13 : decode cX12_sumSign 13 = .ok (.if_icmp .ne 7, 3) := by decide +kernel
theorem dX12_sumSign_16 : decode cX12_sumSign 16 = .ok (.iconst 3, 1) := by decide +kernel
theorem dX12_sumSign_17 : decode cX12_sumSign 17 = .ok (.goto 35, 3) := by decide +kernel
theorem dX12_sumSign_20 : decode cX12_sumSign 20 = .ok (.iload_n 0, 1) := by decide +kernel
theorem dX12_sumSign_21 : decode cX12_sumSign 21 = .ok (.bipush 42, 2) := by decide +kernel
theorem dX12_sumSign_23 : decode cX12_sumSign 23 = .ok (.if_icmp .ne 7, 3) := by decide +kernel
theorem dX12_sumSign_26 : decode cX12_sumSign 26 = .ok (.iconst 4, 1) := by decide +kernel
theorem dX12_sumSign_27 : decode cX12_sumSign 27 = .ok (.goto 25, 3) := by decide +kernel
theorem dX12_sumSign_30 : decode cX12_sumSign 30 = .ok (.iload_n 0, 1) := by decide +kernel
theorem dX12_sumSign_31 : decode cX12_sumSign 31 = .ok (.bipush 47, 2) := by decide +kernel
theorem dX12_sumSign_33 : decode cX12_sumSign 33 = .ok (.if_icmp .ne 7, 3) := by decide +kernel
theorem dX12_sumSign_36 : decode cX12_sumSign 36 = .ok (.iconst 5, 1) := by decide +kernel
theorem dX12_sumSign_37 : decode cX12_sumSign 37 = .ok (.goto 15, 3) := by decide +kernel
theorem dX12_sumSign_40 : decode cX12_sumSign 40 = .ok (.iload_n 0, 1) := by decide +kernel
theorem dX12_sumSign_41 : decode cX12_sumSign 41 = .ok (.bipush 37, 2) := by decide +kernel
theorem dX12_sumSign_43 : decode cX12_sumSign 43 = .ok (.if_icmp .ne 8, 3) := by decide +kernel
theorem dX12_sumSign_46 : decode cX12_sumSign 46 = .ok (.bipush 6, 2) := by decide +kernel
theorem dX12_sumSign_48 : decode cX12_sumSign 48 = .ok (.goto 4, 3) := by decide +kernel
theorem dX12_sumSign_51 : decode cX12_sumSign 51 = .ok (.iconst (-1), 1) := by decide +kernel
theorem dX12_sumSign_52 : decode cX12_sumSign 52 = .ok (.ireturn, 1) := by decide +kernel
theorem dX12_closesSums_0 : decode cX12_closesSums 0 = .ok (.aload_n 0, 1) := by decide +kernel
theorem dX12_closesSums_1 : decode cX12_closesSums 1 = .ok (.invokevirtual 154, 3) := by decide +kernel
theorem dX12_closesSums_4 : decode cX12_closesSums 4 = .ok (.iconst 4, 1) := by decide +kernel
theorem dX12_closesSums_5 : decode cX12_closesSums 5 = .ok (.if_icmp .lt 12, 3) := by decide +kernel
theorem dX12_closesSums_8 : decode cX12_closesSums 8 = .ok (.aload_n 0, 1) := by decide +kernel
theorem dX12_closesSums_9 : decode cX12_closesSums 9 = .ok (.invokevirtual 154, 3) := by decide +kernel
theorem dX12_closesSums_12 : decode cX12_closesSums 12 = .ok (.bipush 6, 2) := by decide +kernel
theorem dX12_closesSums_14 : decode cX12_closesSums 14 = .ok (.if_icmp .le 23, 3) := by decide +kernel
theorem dX12_closesSums_17 : decode cX12_closesSums 17 = .ok (.iload_n 1, 1) := by decide +kernel
theorem dX12_closesSums_18 : decode cX12_closesSums 18 = .ok (.ifCond .eq 41, 3) := by decide +kernel
theorem dX12_closesSums_21 : decode cX12_closesSums 21 = .ok (.aload_n 0, 1) := by decide +kernel
theorem dX12_closesSums_22 : decode cX12_closesSums 22 = .ok (.invokevirtual 154, 3) := by decide +kernel
theorem dX12_closesSums_25 : decode cX12_closesSums 25 = .ok (.iconst 2, 1) := by decide +kernel
theorem dX12_closesSums_26 : decode cX12_closesSums 26 = .ok (.if_icmp .eq 11, 3) := by decide +kernel
theorem dX12_closesSums_29 : decode cX12_closesSums 29 = .ok (.aload_n 0, 1) := by decide +kernel
theorem dX12_closesSums_30 : decode cX12_closesSums 30 = .ok (.invokevirtual 154, 3) := by decide +kernel
theorem dX12_closesSums_33 : decode cX12_closesSums 33 = .ok (.iconst 3, 1) := by decide +kernel
theorem dX12_closesSums_34 : decode cX12_closesSums 34 = .ok (.if_icmp .ne 25, 3) := by decide +kernel
theorem dX12_closesSums_37 : decode cX12_closesSums 37 = .ok (.aload_n 0, 1) := by decide +kernel
theorem dX12_closesSums_38 : decode cX12_closesSums 38 = .ok (.aload_n 0, 1) := by decide +kernel
theorem dX12_closesSums_39 : decode cX12_closesSums 39 = .ok (.invokevirtual 154, 3) := by decide +kernel
theorem dX12_closesSums_42 : decode cX12_closesSums 42 = .ok (.iconst 0, 1) := by decide +kernel
theorem dX12_closesSums_43 : decode cX12_closesSums 43 = .ok (.invokevirtual 157, 3) := by decide +kernel
theorem dX12_closesSums_46 : decode cX12_closesSums 46 = .ok (.aload_n 0, 1) := by decide +kernel
theorem dX12_closesSums_47 : decode cX12_closesSums 47 = .ok (.aload_n 0, 1) := by decide +kernel
theorem dX12_closesSums_48 : decode cX12_closesSums 48 = .ok (.getfield 151, 3) := by decide +kernel
theorem dX12_closesSums_51 : decode cX12_closesSums 51 = .ok (.iconst 1, 1) := by decide +kernel
theorem dX12_closesSums_52 : decode cX12_closesSums 52 = .ok (.isub, 1) := by decide +kernel
theorem dX12_closesSums_53 : decode cX12_closesSums 53 = .ok (.putfield 151, 3) := by decide +kernel
theorem dX12_closesSums_56 : decode cX12_closesSums 56 = .ok (.goto (-56), 3) := by decide +kernel
theorem dX12_closesSums_59 : decode cX12_closesSums 59 = .ok (.return_, 1) := by decide +kernel
theorem dX12_readsFactor_0 : decode cX12_readsFactor 0 = .ok (.aload_n 0, 1) := by decide +kernel
theorem dX12_readsFactor_1 : decode cX12_readsFactor 1 = .ok (.invokevirtual 126, 3) := by decide +kernel
theorem dX12_readsFactor_4 : decode cX12_readsFactor 4 = .ok (.bipush 91, 2) := by decide +kernel
theorem dX12_readsFactor_6 : decode cX12_readsFactor 6 = .ok (.if_icmp .ne 14, 3) := by decide +kernel
theorem dX12_readsFactor_9 : decode cX12_readsFactor 9 = .ok (.aload_n 0, 1) := by decide +kernel
theorem dX12_readsFactor_10 : decode cX12_readsFactor 10 = .ok (.bipush 14, 2) := by decide +kernel
theorem dX12_readsFactor_12 : decode cX12_readsFactor 12 = .ok (.invokevirtual 161, 3) := by decide +kernel
theorem dX12_readsFactor_15 : decode cX12_readsFactor 15 = .ok (.ifCond .ne (-15), 3) := by decide +kernel
theorem dX12_readsFactor_18 : decode cX12_readsFactor 18 = .ok (.iconst 0, 1) := by decide +kernel
theorem dX12_readsFactor_19 : decode cX12_readsFactor 19 = .ok (.ireturn, 1) := by decide +kernel
theorem dX12_readsFactor_20 : decode cX12_readsFactor 20 = .ok (.aload_n 0, 1) := by decide +kernel
theorem dX12_readsFactor_21 : decode cX12_readsFactor 21 = .ok (.invokevirtual 140, 3) := by decide +kernel
theorem dX12_readsFactor_24 : decode cX12_readsFactor 24 = .ok (.ifCond .eq 23, 3) := by decide +kernel
theorem dX12_readsFactor_27 : decode cX12_readsFactor 27 = .ok (.aload_n 0, 1) := by decide +kernel
theorem dX12_readsFactor_28 : decode cX12_readsFactor 28 = .ok (.invokevirtual 164, 3) := by decide +kernel
theorem dX12_readsFactor_31 : decode cX12_readsFactor 31 = .ok (.ifCond .ne 5, 3) := by decide +kernel
theorem dX12_readsFactor_34 : decode cX12_readsFactor 34 = .ok (.iconst 0, 1) := by decide +kernel
theorem dX12_readsFactor_35 : decode cX12_readsFactor 35 = .ok (.ireturn, 1) := by decide +kernel
theorem dX12_readsFactor_36 : decode cX12_readsFactor 36 = .ok (.aload_n 0, 1) := by decide +kernel
theorem dX12_readsFactor_37 : decode cX12_readsFactor 37 = .ok (.iconst 0, 1) := by decide +kernel
theorem dX12_readsFactor_38 : decode cX12_readsFactor 38 = .ok (.aload_n 0, 1) := by decide +kernel
theorem dX12_readsFactor_39 : decode cX12_readsFactor 39 = .ok (.getfield 137, 3) := by decide +kernel
theorem dX12_readsFactor_42 : decode cX12_readsFactor 42 = .ok (.invokevirtual 157, 3) := by decide +kernel
theorem dX12_readsFactor_45 : decode cX12_readsFactor 45 = .ok (.iconst 1, 1) := by decide +kernel
theorem dX12_readsFactor_46 : decode cX12_readsFactor 46 = .ok (.ireturn, 1) := by decide +kernel
theorem dX12_readsFactor_47 : decode cX12_readsFactor 47 = .ok (.aload_n 0, 1) := by decide +kernel
theorem dX12_readsFactor_48 : decode cX12_readsFactor 48 = .ok (.invokevirtual 126, 3) := by decide +kernel
theorem dX12_readsFactor_51 : decode cX12_readsFactor 51 = .ok (.invokestatic 167, 3) := by decide +kernel
theorem dX12_readsFactor_54 : decode cX12_readsFactor 54 = .ok (.istore_n 1, 1) := by decide +kernel
theorem dX12_readsFactor_55 : decode cX12_readsFactor 55 = .ok (.iload_n 1, 1) := by decide +kernel
theorem dX12_readsFactor_56 : decode cX12_readsFactor 56 = .ok (.iconst (-1), 1) := by decide +kernel
theorem dX12_readsFactor_57 : decode cX12_readsFactor 57 = .ok (.if_icmp .ne 13, 3) := by decide +kernel
theorem dX12_readsFactor_60 : decode cX12_readsFactor 60 = .ok (.aload_n 0, 1) := by decide +kernel
theorem dX12_readsFactor_61 : decode cX12_readsFactor 61 = .ok (.iconst 1, 1) := by decide +kernel
theorem dX12_readsFactor_62 : decode cX12_readsFactor 62 = .ok (.aload_n 0, 1) := by decide +kernel
theorem dX12_readsFactor_63 : decode cX12_readsFactor 63 = .ok (.getfield 120, 3) := by decide +kernel
theorem dX12_readsFactor_66 : decode cX12_readsFactor 66 = .ok (.invokevirtual 133, 3) := by decide +kernel
theorem dX12_readsFactor_69 : decode cX12_readsFactor 69 = .ok (.ireturn, 1) := by decide +kernel
theorem dX12_readsFactor_70 : decode cX12_readsFactor 70 = .ok (.aload_n 0, 1) := by decide +kernel
theorem dX12_readsFactor_71 : decode cX12_readsFactor 71 = .ok (.iconst 1, 1) := by decide +kernel
theorem dX12_readsFactor_72 : decode cX12_readsFactor 72 = .ok (.iload_n 1, 1) := by decide +kernel
theorem dX12_readsFactor_73 : decode cX12_readsFactor 73 = .ok (.invokevirtual 157, 3) := by decide +kernel
theorem dX12_readsFactor_76 : decode cX12_readsFactor 76 = .ok (.aload_n 0, 1) := by decide +kernel
theorem dX12_readsFactor_77 : decode cX12_readsFactor 77 = .ok (.aload_n 0, 1) := by decide +kernel
theorem dX12_readsFactor_78 : decode cX12_readsFactor 78 = .ok (.getfield 120, 3) := by decide +kernel
theorem dX12_readsFactor_81 : decode cX12_readsFactor 81 = .ok (.iconst 1, 1) := by decide +kernel
theorem dX12_readsFactor_82 : decode cX12_readsFactor 82 = .ok (.iadd, 1) := by decide +kernel
theorem dX12_readsFactor_83 : decode cX12_readsFactor 83 = .ok (.putfield 120, 3) := by decide +kernel
theorem dX12_readsFactor_86 : decode cX12_readsFactor 86 = .ok (.iconst 1, 1) := by decide +kernel
theorem dX12_readsFactor_87 : decode cX12_readsFactor 87 = .ok (.ireturn, 1) := by decide +kernel
theorem dX12_hasOpenSum_0 : decode cX12_hasOpenSum 0 = .ok (.iload_n 1, 1) := by decide +kernel
theorem dX12_hasOpenSum_1 : decode cX12_hasOpenSum 1 = .ok (.istore_n 2, 1) := by decide +kernel
theorem dX12_hasOpenSum_2 : decode cX12_hasOpenSum 2 = .ok (.iload_n 2, 1) := by decide +kernel
theorem dX12_hasOpenSum_3 : decode cX12_hasOpenSum 3 = .ok (.aload_n 0, 1) := by decide +kernel
theorem dX12_hasOpenSum_4 : decode cX12_hasOpenSum 4 = .ok (.getfield 151, 3) := by decide +kernel
theorem dX12_hasOpenSum_7 : decode cX12_hasOpenSum 7 = .ok (.if_icmp .ge 25, 3) := by decide +kernel
theorem dX12_hasOpenSum_10 : decode cX12_hasOpenSum 10 = .ok (.aload_n 0, 1) := by decide +kernel
theorem dX12_hasOpenSum_11 : decode cX12_hasOpenSum 11 = .ok (.getfield 26, 3) := by decide +kernel
theorem dX12_hasOpenSum_14 : decode cX12_hasOpenSum 14 = .ok (.iload_n 2, 1) := by decide +kernel
theorem dX12_hasOpenSum_15 : decode cX12_hasOpenSum 15 = .ok (.iaload, 1) := by decide +kernel
theorem dX12_hasOpenSum_16 : decode cX12_hasOpenSum 16 = .ok (.ldc 147, 2) := by decide +kernel
theorem dX12_hasOpenSum_18 : decode cX12_hasOpenSum 18 = .ok (.idiv, 1) := by decide +kernel
theorem dX12_hasOpenSum_19 : decode cX12_hasOpenSum 19 = .ok (.bipush 14, 2) := by decide +kernel
theorem dX12_hasOpenSum_21 : decode cX12_hasOpenSum 21 = .ok (.if_icmp .ne 5, 3) := by decide +kernel
theorem dX12_hasOpenSum_24 : decode cX12_hasOpenSum 24 = .ok (.iconst 1, 1) := by decide +kernel
theorem dX12_hasOpenSum_25 : decode cX12_hasOpenSum 25 = .ok (.ireturn, 1) := by decide +kernel
theorem dX12_hasOpenSum_26 : decode cX12_hasOpenSum 26 = .ok (.iinc 2 1, 3) := by decide +kernel
theorem dX12_hasOpenSum_29 : decode cX12_hasOpenSum 29 = .ok (.goto (-27), 3) := by decide +kernel
theorem dX12_hasOpenSum_32 : decode cX12_hasOpenSum 32 = .ok (.iconst 0, 1) := by decide +kernel
theorem dX12_hasOpenSum_33 : decode cX12_hasOpenSum 33 = .ok (.ireturn, 1) := by decide +kernel
theorem dX12_readsSum_0 : decode cX12_readsSum 0 = .ok (.aload_n 0, 1) := by decide +kernel
theorem dX12_readsSum_1 : decode cX12_readsSum 1 = .ok (.getfield 151, 3) := by decide +kernel
theorem dX12_readsSum_4 : decode cX12_readsSum 4 = .ok (.istore_n 1, 1) := by decide +kernel
theorem dX12_readsSum_5 : decode cX12_readsSum 5 = .ok (.aload_n 0, 1) := by decide +kernel
theorem dX12_readsSum_6 : decode cX12_readsSum 6 = .ok (.invokevirtual 170, 3) := by decide +kernel
theorem dX12_readsSum_9 : decode cX12_readsSum 9 = .ok (.ifCond .ne 5, 3) := by decide +kernel
theorem dX12_readsSum_12 : decode cX12_readsSum 12 = .ok (.iconst 0, 1) := by decide +kernel
theorem dX12_readsSum_13 : decode cX12_readsSum 13 = .ok (.ireturn, 1) := by decide +kernel
theorem dX12_readsSum_14 : decode cX12_readsSum 14 = .ok (.aload_n 0, 1) := by decide +kernel
theorem dX12_readsSum_15 : decode cX12_readsSum 15 = .ok (.invokevirtual 126, 3) := by decide +kernel
theorem dX12_readsSum_18 : decode cX12_readsSum 18 = .ok (.invokestatic 173, 3) := by decide +kernel
theorem dX12_readsSum_21 : decode cX12_readsSum 21 = .ok (.istore_n 2, 1) := by decide +kernel
theorem dX12_readsSum_22 : decode cX12_readsSum 22 = .ok (.iload_n 2, 1) := by decide +kernel
theorem dX12_readsSum_23 : decode cX12_readsSum 23 = .ok (.iconst (-1), 1) := by decide +kernel
theorem dX12_readsSum_24 : decode cX12_readsSum 24 = .ok (.if_icmp .eq 59, 3) := by decide +kernel
theorem dX12_readsSum_27 : decode cX12_readsSum 27 = .ok (.aload_n 0, 1) := by decide +kernel
theorem dX12_readsSum_28 : decode cX12_readsSum 28 = .ok (.iload_n 2, 1) := by decide +kernel
theorem dX12_readsSum_29 : decode cX12_readsSum 29 = .ok (.iconst 4, 1) := by decide +kernel
theorem dX12_readsSum_30 : decode cX12_readsSum 30 = .ok (.if_icmp .ge 7, 3) := by decide +kernel
theorem dX12_readsSum_33 : decode cX12_readsSum 33 = .ok (.iconst 1, 1) := by decide +kernel
theorem dX12_readsSum_34 : decode cX12_readsSum 34 = .ok (.goto 4, 3) := by decide +kernel
theorem dX12_readsSum_37 : decode cX12_readsSum 37 = .ok (.iconst 0, 1) := by decide +kernel
theorem dX12_readsSum_38 : decode cX12_readsSum 38 = .ok (.invokevirtual 176, 3) := by decide +kernel
theorem dX12_readsSum_41 : decode cX12_readsSum 41 = .ok (.aload_n 0, 1) := by decide +kernel
theorem dX12_readsSum_42 : decode cX12_readsSum 42 = .ok (.getfield 26, 3) := by decide +kernel
theorem dX12_readsSum_45 : decode cX12_readsSum 45 = .ok (.aload_n 0, 1) := by decide +kernel
theorem dX12_readsSum_46 : decode cX12_readsSum 46 = .ok (.getfield 151, 3) := by decide +kernel
theorem dX12_readsSum_49 : decode cX12_readsSum 49 = .ok (.ldc 147, 2) := by decide +kernel
theorem dX12_readsSum_51 : decode cX12_readsSum 51 = .ok (.iload_n 2, 1) := by decide +kernel
theorem dX12_readsSum_52 : decode cX12_readsSum 52 = .ok (.imul, 1) := by decide +kernel
theorem dX12_readsSum_53 : decode cX12_readsSum 53 = .ok (.iastore, 1) := by decide +kernel
theorem dX12_readsSum_54 : decode cX12_readsSum 54 = .ok (.aload_n 0, 1) := by decide +kernel
theorem dX12_readsSum_55 : decode cX12_readsSum 55 = .ok (.aload_n 0, 1) := by decide +kernel
theorem dX12_readsSum_56 : decode cX12_readsSum 56 = .ok (.getfield 151, 3) := by decide +kernel
theorem dX12_readsSum_59 : decode cX12_readsSum 59 = .ok (.iconst 1, 1) := by decide +kernel
theorem dX12_readsSum_60 : decode cX12_readsSum 60 = .ok (.iadd, 1) := by decide +kernel
theorem dX12_readsSum_61 : decode cX12_readsSum 61 = .ok (.putfield 151, 3) := by decide +kernel
theorem dX12_readsSum_64 : decode cX12_readsSum 64 = .ok (.aload_n 0, 1) := by decide +kernel
theorem dX12_readsSum_65 : decode cX12_readsSum 65 = .ok (.aload_n 0, 1) := by decide +kernel
theorem dX12_readsSum_66 : decode cX12_readsSum 66 = .ok (.getfield 120, 3) := by decide +kernel
theorem dX12_readsSum_69 : decode cX12_readsSum 69 = .ok (.iconst 1, 1) := by decide +kernel
theorem dX12_readsSum_70 : decode cX12_readsSum 70 = .ok (.iadd, 1) := by decide +kernel
theorem dX12_readsSum_71 : decode cX12_readsSum 71 = .ok (.putfield 120, 3) := by decide +kernel
theorem dX12_readsSum_74 : decode cX12_readsSum 74 = .ok (.aload_n 0, 1) := by decide +kernel
theorem dX12_readsSum_75 : decode cX12_readsSum 75 = .ok (.invokevirtual 170, 3) := by decide +kernel
theorem dX12_readsSum_78 : decode cX12_readsSum 78 = .ok (.ifCond .ne 85, 3) := by decide +kernel
theorem dX12_readsSum_81 : decode cX12_readsSum 81 = .ok (.iconst 0, 1) := by decide +kernel
theorem dX12_readsSum_82 : decode cX12_readsSum 82 = .ok (.ireturn, 1) := by decide +kernel
theorem dX12_readsSum_83 : decode cX12_readsSum 83 = .ok (.aload_n 0, 1) := by decide +kernel
theorem dX12_readsSum_84 : decode cX12_readsSum 84 = .ok (.invokevirtual 126, 3) := by decide +kernel
theorem dX12_readsSum_87 : decode cX12_readsSum 87 = .ok (.bipush 93, 2) := by decide +kernel
theorem dX12_readsSum_89 : decode cX12_readsSum 89 = .ok (.if_icmp .ne 49, 3) := by decide +kernel
theorem dX12_readsSum_92 : decode cX12_readsSum 92 = .ok (.aload_n 0, 1) := by decide +kernel
theorem dX12_readsSum_93 : decode cX12_readsSum 93 = .ok (.iload_n 1, 1) := by decide +kernel
theorem dX12_readsSum_94 : decode cX12_readsSum 94 = .ok (.invokevirtual 180, 3) := by decide +kernel
theorem dX12_readsSum_97 : decode cX12_readsSum 97 = .ok (.ifCond .eq 41, 3) := by decide +kernel
theorem dX12_readsSum_100 : decode cX12_readsSum 100 = .ok (.aload_n 0, 1) := by decide +kernel
theorem dX12_readsSum_101 : decode cX12_readsSum 101 = .ok (.iconst 1, 1) := by decide +kernel
theorem dX12_readsSum_102 : decode cX12_readsSum 102 = .ok (.invokevirtual 176, 3) := by decide +kernel
theorem dX12_readsSum_105 : decode cX12_readsSum 105 = .ok (.aload_n 0, 1) := by decide +kernel
theorem dX12_readsSum_106 : decode cX12_readsSum 106 = .ok (.aload_n 0, 1) := by decide +kernel
theorem dX12_readsSum_107 : decode cX12_readsSum 107 = .ok (.getfield 151, 3) := by decide +kernel
theorem dX12_readsSum_110 : decode cX12_readsSum 110 = .ok (.iconst 1, 1) := by decide +kernel
theorem dX12_readsSum_111 : decode cX12_readsSum 111 = .ok (.isub, 1) := by decide +kernel
theorem dX12_readsSum_112 : decode cX12_readsSum 112 = .ok (.putfield 151, 3) := by decide +kernel
theorem dX12_readsSum_115 : decode cX12_readsSum 115 = .ok (.aload_n 0, 1) := by decide +kernel
theorem dX12_readsSum_116 : decode cX12_readsSum 116 = .ok (.aload_n 0, 1) := by decide +kernel
theorem dX12_readsSum_117 : decode cX12_readsSum 117 = .ok (.getfield 148, 3) := by decide +kernel
theorem dX12_readsSum_120 : decode cX12_readsSum 120 = .ok (.iconst 1, 1) := by decide +kernel
theorem dX12_readsSum_121 : decode cX12_readsSum 121 = .ok (.isub, 1) := by decide +kernel
theorem dX12_readsSum_122 : decode cX12_readsSum 122 = .ok (.putfield 148, 3) := by decide +kernel
theorem dX12_readsSum_125 : decode cX12_readsSum 125 = .ok (.aload_n 0, 1) := by decide +kernel
theorem dX12_readsSum_126 : decode cX12_readsSum 126 = .ok (.aload_n 0, 1) := by decide +kernel
theorem dX12_readsSum_127 : decode cX12_readsSum 127 = .ok (.getfield 120, 3) := by decide +kernel
theorem dX12_readsSum_130 : decode cX12_readsSum 130 = .ok (.iconst 1, 1) := by decide +kernel
theorem dX12_readsSum_131 : decode cX12_readsSum 131 = .ok (.iadd, 1) := by decide +kernel
theorem dX12_readsSum_132 : decode cX12_readsSum 132 = .ok (.putfield 120, 3) := by decide +kernel
theorem dX12_readsSum_135 : decode cX12_readsSum 135 = .ok (.goto 28, 3) := by decide +kernel
theorem dX12_readsSum_138 : decode cX12_readsSum 138 = .ok (.aload_n 0, 1) := by decide +kernel
theorem dX12_readsSum_139 : decode cX12_readsSum 139 = .ok (.iload_n 1, 1) := by decide +kernel
theorem dX12_readsSum_140 : decode cX12_readsSum 140 = .ok (.invokevirtual 180, 3) := by decide +kernel
theorem dX12_readsSum_143 : decode cX12_readsSum 143 = .ok (.ifCond .eq 13, 3) := by decide +kernel
theorem dX12_readsSum_146 : decode cX12_readsSum 146 = .ok (.aload_n 0, 1) := by decide +kernel
theorem dX12_readsSum_147 : decode cX12_readsSum 147 = .ok (.iconst 1, 1) := by decide +kernel
theorem dX12_readsSum_148 : decode cX12_readsSum 148 = .ok (.aload_n 0, 1) := by decide +kernel
theorem dX12_readsSum_149 : decode cX12_readsSum 149 = .ok (.getfield 120, 3) := by decide +kernel
theorem dX12_readsSum_152 : decode cX12_readsSum 152 = .ok (.invokevirtual 133, 3) := by decide +kernel
theorem dX12_readsSum_155 : decode cX12_readsSum 155 = .ok (.ireturn, 1) := by decide +kernel
theorem dX12_readsSum_156 : decode cX12_readsSum 156 = .ok (.aload_n 0, 1) := by decide +kernel
theorem dX12_readsSum_157 : decode cX12_readsSum 157 = .ok (.iconst 1, 1) := by decide +kernel
theorem dX12_readsSum_158 : decode cX12_readsSum 158 = .ok (.invokevirtual 176, 3) := by decide +kernel
theorem dX12_readsSum_161 : decode cX12_readsSum 161 = .ok (.iconst 1, 1) := by decide +kernel
theorem dX12_readsSum_162 : decode cX12_readsSum 162 = .ok (.ireturn, 1) := by decide +kernel
theorem dX12_readsSum_163 : decode cX12_readsSum 163 = .ok (.goto (-149), 3) := by decide +kernel
theorem dX12_endsPiece_0 : decode cX12_endsPiece 0 = .ok (.aload_n 0, 1) := by decide +kernel
theorem dX12_endsPiece_1 : decode cX12_endsPiece 1 = .ok (.invokevirtual 154, 3) := by decide +kernel
theorem dX12_endsPiece_4 : decode cX12_endsPiece 4 = .ok (.bipush 10, 2) := by decide +kernel
theorem dX12_endsPiece_6 : decode cX12_endsPiece 6 = .ok (.if_icmp .ne 33, 3) := by decide +kernel
theorem dX12_endsPiece_9 : decode cX12_endsPiece 9 = .ok (.aload_n 0, 1) := by decide +kernel
theorem dX12_endsPiece_10 : decode cX12_endsPiece 10 = .ok (.bipush 10, 2) := by decide +kernel
theorem dX12_endsPiece_12 : decode cX12_endsPiece 12 = .ok (.iconst 0, 1) := by decide +kernel
theorem dX12_endsPiece_13 : decode cX12_endsPiece 13 = .ok (.invokevirtual 157, 3) := by decide +kernel
theorem dX12_endsPiece_16 : decode cX12_endsPiece 16 = .ok (.aload_n 0, 1) := by decide +kernel
theorem dX12_endsPiece_17 : decode cX12_endsPiece 17 = .ok (.aload_n 0, 1) := by decide +kernel
theorem dX12_endsPiece_18 : decode cX12_endsPiece 18 = .ok (.getfield 151, 3) := by decide +kernel
theorem dX12_endsPiece_21 : decode cX12_endsPiece 21 = .ok (.iconst 1, 1) := by decide +kernel
theorem dX12_endsPiece_22 : decode cX12_endsPiece 22 = .ok (.isub, 1) := by decide +kernel
theorem dX12_endsPiece_23 : decode cX12_endsPiece 23 = .ok (.putfield 151, 3) := by decide +kernel
theorem dX12_endsPiece_26 : decode cX12_endsPiece 26 = .ok (.aload_n 0, 1) := by decide +kernel
theorem dX12_endsPiece_27 : decode cX12_endsPiece 27 = .ok (.aload_n 0, 1) := by decide +kernel
theorem dX12_endsPiece_28 : decode cX12_endsPiece 28 = .ok (.getfield 148, 3) := by decide +kernel
theorem dX12_endsPiece_31 : decode cX12_endsPiece 31 = .ok (.iconst 1, 1) := by decide +kernel
theorem dX12_endsPiece_32 : decode cX12_endsPiece 32 = .ok (.isub, 1) := by decide +kernel
theorem dX12_endsPiece_33 : decode cX12_endsPiece 33 = .ok (.putfield 148, 3) := by decide +kernel
theorem dX12_endsPiece_36 : decode cX12_endsPiece 36 = .ok (.goto (-36), 3) := by decide +kernel
theorem dX12_endsPiece_39 : decode cX12_endsPiece 39 = .ok (.return_, 1) := by decide +kernel
theorem dX12_lands_0 : decode cX12_lands 0 = .ok (.aload_n 0, 1) := by decide +kernel
theorem dX12_lands_1 : decode cX12_lands 1 = .ok (.invokevirtual 154, 3) := by decide +kernel
theorem dX12_lands_4 : decode cX12_lands 4 = .ok (.bipush 11, 2) := by decide +kernel
theorem dX12_lands_6 : decode cX12_lands 6 = .ok (.if_icmp .eq 16, 3) := by decide +kernel
theorem dX12_lands_9 : decode cX12_lands 9 = .ok (.iload_n 1, 1) := by decide +kernel
theorem dX12_lands_10 : decode cX12_lands 10 = .ok (.ifCond .eq 63, 3) := by decide +kernel
theorem dX12_lands_13 : decode cX12_lands 13 = .ok (.aload_n 0, 1) := by decide +kernel
theorem dX12_lands_14 : decode cX12_lands 14 = .ok (.invokevirtual 154, 3) := by decide +kernel
theorem dX12_lands_17 : decode cX12_lands 17 = .ok (.bipush 12, 2) := by decide +kernel
theorem dX12_lands_19 : decode cX12_lands 19 = .ok (.if_icmp .ne 54, 3) := by decide +kernel
theorem dX12_lands_22 : decode cX12_lands 22 = .ok (.aload_n 0, 1) := by decide +kernel
theorem dX12_lands_23 : decode cX12_lands 23 = .ok (.getfield 26, 3) := by decide +kernel
theorem dX12_lands_26 : decode cX12_lands 26 = .ok (.aload_n 0, 1) := by decide +kernel
theorem dX12_lands_27 : decode cX12_lands 27 = .ok (.getfield 151, 3) := by decide +kernel
theorem dX12_lands_30 : decode cX12_lands 30 = .ok (.iconst 1, 1) := by decide +kernel
theorem dX12_lands_31 : decode cX12_lands 31 = .ok (.isub, 1) := by decide +kernel
theorem dX12_lands_32 : decode cX12_lands 32 = .ok (.iaload, 1) := by decide +kernel
theorem dX12_lands_33 : decode cX12_lands 33 = .ok (.ldc 147, 2) := by decide +kernel
theorem dX12_lands_35 : decode cX12_lands 35 = .ok (.irem, 1) := by decide +kernel
theorem dX12_lands_36 : decode cX12_lands 36 = .ok (.istore_n 2, 1) := by decide +kernel
theorem dX12_lands_37 : decode cX12_lands 37 = .ok (.aload_n 0, 1) := by decide +kernel
theorem dX12_lands_38 : decode cX12_lands 38 = .ok (.getfield 23, 3) := by decide +kernel
theorem dX12_lands_41 : decode cX12_lands 41 = .ok (.iload_n 2, 1) := by decide +kernel
theorem dX12_lands_42 : decode cX12_lands 42 = .ok (.ldc 147, 2) := by decide +kernel
theorem dX12_lands_44 : decode cX12_lands 44 = .ok (.aload_n 0, 1) := by decide +kernel
theorem dX12_lands_45 : decode cX12_lands 45 = .ok (.getfield 23, 3) := by decide +kernel
theorem dX12_lands_48 : decode cX12_lands 48 = .ok (.iload_n 2, 1) := by decide +kernel
theorem dX12_lands_49 : decode cX12_lands 49 = .ok (.iaload, 1) := by decide +kernel
theorem dX12_lands_50 : decode cX12_lands 50 = .ok (.ldc 147, 2) := by decide +kernel
theorem dX12_lands_52 : decode cX12_lands 52 = .ok (.idiv, 1) := by decide +kernel
theorem dX12_lands_53 : decode cX12_lands 53 = .ok (.imul, 1) := by decide +kernel
theorem dX12_lands_54 : decode cX12_lands 54 = .ok (.aload_n 0, 1) := by decide +kernel
theorem dX12_lands_55 : decode cX12_lands 55 = .ok (.getfield 144, 3) := by decide +kernel
theorem dX12_lands_58 : decode cX12_lands 58 = .ok (.iadd, 1) := by decide +kernel
theorem dX12_lands_59 : decode cX12_lands 59 = .ok (.iastore, 1) := by decide +kernel
theorem dX12_lands_60 : decode cX12_lands 60 = .ok (.aload_n 0, 1) := by decide +kernel
theorem dX12_lands_61 : decode cX12_lands 61 = .ok (.aload_n 0, 1) := by decide +kernel
theorem dX12_lands_62 : decode cX12_lands 62 = .ok (.getfield 151, 3) := by decide +kernel
theorem dX12_lands_65 : decode cX12_lands 65 = .ok (.iconst 1, 1) := by decide +kernel
theorem dX12_lands_66 : decode cX12_lands 66 = .ok (.isub, 1) := by decide +kernel
theorem dX12_lands_67 : decode cX12_lands 67 = .ok (.putfield 151, 3) := by decide +kernel
theorem dX12_lands_70 : decode cX12_lands 70 = .ok (.goto (-70), 3) := by decide +kernel
theorem dX12_lands_73 : decode cX12_lands 73 = .ok (.return_, 1) := by decide +kernel
theorem dX12_jumps_0 : decode cX12_jumps 0 = .ok (.aload_n 0, 1) := by decide +kernel
theorem dX12_jumps_1 : decode cX12_jumps 1 = .ok (.getfield 26, 3) := by decide +kernel
theorem dX12_jumps_4 : decode cX12_jumps 4 = .ok (.aload_n 0, 1) := by decide +kernel
theorem dX12_jumps_5 : decode cX12_jumps 5 = .ok (.getfield 151, 3) := by decide +kernel
theorem dX12_jumps_8 : decode cX12_jumps 8 = .ok (.ldc 147, 2) := by decide +kernel
theorem dX12_jumps_10 : decode cX12_jumps 10 = .ok (.iload_n 1, 1) := by decide +kernel
theorem dX12_jumps_11 : decode cX12_jumps 11 = .ok (.imul, 1) := by decide +kernel
theorem dX12_jumps_12 : decode cX12_jumps 12 = .ok (.aload_n 0, 1) := by decide +kernel
theorem dX12_jumps_13 : decode cX12_jumps 13 = .ok (.getfield 144, 3) := by decide +kernel
theorem dX12_jumps_16 : decode cX12_jumps 16 = .ok (.iadd, 1) := by decide +kernel
theorem dX12_jumps_17 : decode cX12_jumps 17 = .ok (.iastore, 1) := by decide +kernel
theorem dX12_jumps_18 : decode cX12_jumps 18 = .ok (.aload_n 0, 1) := by decide +kernel
theorem dX12_jumps_19 : decode cX12_jumps 19 = .ok (.aload_n 0, 1) := by decide +kernel
theorem dX12_jumps_20 : decode cX12_jumps 20 = .ok (.getfield 151, 3) := by decide +kernel
theorem dX12_jumps_23 : decode cX12_jumps 23 = .ok (.iconst 1, 1) := by decide +kernel
theorem dX12_jumps_24 : decode cX12_jumps 24 = .ok (.iadd, 1) := by decide +kernel
theorem dX12_jumps_25 : decode cX12_jumps 25 = .ok (.putfield 151, 3) := by decide +kernel
theorem dX12_jumps_28 : decode cX12_jumps 28 = .ok (.aload_n 0, 1) := by decide +kernel
theorem dX12_jumps_29 : decode cX12_jumps 29 = .ok (.iload_n 1, 1) := by decide +kernel
theorem dX12_jumps_30 : decode cX12_jumps 30 = .ok (.iconst 0, 1) := by decide +kernel
theorem dX12_jumps_31 : decode cX12_jumps 31 = .ok (.invokevirtual 157, 3) := by decide +kernel
theorem dX12_jumps_34 : decode cX12_jumps 34 = .ok (.aload_n 0, 1) := by decide +kernel
theorem dX12_jumps_35 : decode cX12_jumps 35 = .ok (.aload_n 0, 1) := by decide +kernel
theorem dX12_jumps_36 : decode cX12_jumps 36 = .ok (.getfield 120, 3) := by decide +kernel
theorem dX12_jumps_39 : decode cX12_jumps 39 = .ok (.iconst 1, 1) := by decide +kernel
theorem dX12_jumps_40 : decode cX12_jumps 40 = .ok (.iadd, 1) := by decide +kernel
theorem dX12_jumps_41 : decode cX12_jumps 41 = .ok (.putfield 120, 3) := by decide +kernel
theorem dX12_jumps_44 : decode cX12_jumps 44 = .ok (.return_, 1) := by decide +kernel
theorem dX12_readsCompared_0 : decode cX12_readsCompared 0 = .ok (.aload_n 0, 1) := by decide +kernel
theorem dX12_readsCompared_1 : decode cX12_readsCompared 1 = .ok (.invokevirtual 183, 3) := by decide +kernel
theorem dX12_readsCompared_4 : decode cX12_readsCompared 4 = .ok (.ifCond .ne 5, 3) := by decide +kernel
theorem dX12_readsCompared_7 : decode cX12_readsCompared 7 = .ok (.iconst 0, 1) := by decide +kernel
theorem dX12_readsCompared_8 : decode cX12_readsCompared 8 = .ok (.ireturn, 1) := by decide +kernel
theorem dX12_readsCompared_9 : decode cX12_readsCompared 9 = .ok (.aload_n 0, 1) := by decide +kernel
theorem dX12_readsCompared_10 : decode cX12_readsCompared 10 = .ok (.invokevirtual 126, 3) := by decide +kernel
theorem dX12_readsCompared_13 : decode cX12_readsCompared 13 = .ok (.bipush 60, 2) := by decide +kernel
theorem dX12_readsCompared_15 : decode cX12_readsCompared 15 = .ok (.if_icmp .ne 8, 3) := by decide +kernel
theorem dX12_readsCompared_18 : decode cX12_readsCompared 18 = .ok (.bipush 7, 2) := by decide +kernel
theorem dX12_readsCompared_20 : decode cX12_readsCompared 20 = .ok (.goto 32, 3) := by decide +kernel
theorem dX12_readsCompared_23 : decode cX12_readsCompared 23 = .ok (.aload_n 0, 1) := by decide +kernel
theorem dX12_readsCompared_24 : decode cX12_readsCompared 24 = .ok (.invokevirtual 126, 3) := by decide +kernel
theorem dX12_readsCompared_27 : decode cX12_readsCompared 27 = .ok (.bipush 62, 2) := by decide +kernel
theorem dX12_readsCompared_29 : decode cX12_readsCompared 29 = .ok (.if_icmp .ne 8, 3) := by decide +kernel
theorem dX12_readsCompared_32 : decode cX12_readsCompared 32 = .ok (.bipush 8, 2) := by decide +kernel
theorem dX12_readsCompared_34 : decode cX12_readsCompared 34 = .ok (.goto 18, 3) := by decide +kernel
theorem dX12_readsCompared_37 : decode cX12_readsCompared 37 = .ok (.aload_n 0, 1) := by decide +kernel
theorem dX12_readsCompared_38 : decode cX12_readsCompared 38 = .ok (.invokevirtual 126, 3) := by decide +kernel
theorem dX12_readsCompared_41 : decode cX12_readsCompared 41 = .ok (.bipush 61, 2) := by decide +kernel
theorem dX12_readsCompared_43 : decode cX12_readsCompared 43 = .ok (.if_icmp .ne 8, 3) := by decide +kernel
theorem dX12_readsCompared_46 : decode cX12_readsCompared 46 = .ok (.bipush 9, 2) := by decide +kernel
theorem dX12_readsCompared_48 : decode cX12_readsCompared 48 = .ok (.goto 4, 3) := by decide +kernel
theorem dX12_readsCompared_51 : decode cX12_readsCompared 51 = .ok (.iconst (-1), 1) := by decide +kernel
theorem dX12_readsCompared_52 : decode cX12_readsCompared 52 = .ok (.istore_n 1, 1) := by decide +kernel
theorem dX12_readsCompared_53 : decode cX12_readsCompared 53 = .ok (.iload_n 1, 1) := by decide +kernel
theorem dX12_readsCompared_54 : decode cX12_readsCompared 54 = .ok (.iconst (-1), 1) := by decide +kernel
theorem dX12_readsCompared_55 : decode cX12_readsCompared 55 = .ok (.if_icmp .ne 13, 3) := by decide +kernel
theorem dX12_readsCompared_58 : decode cX12_readsCompared 58 = .ok (.aload_n 0, 1) := by decide +kernel
theorem dX12_readsCompared_59 : decode cX12_readsCompared 59 = .ok (.iconst 1, 1) := by decide +kernel
theorem dX12_readsCompared_60 : decode cX12_readsCompared 60 = .ok (.aload_n 0, 1) := by decide +kernel
theorem dX12_readsCompared_61 : decode cX12_readsCompared 61 = .ok (.getfield 120, 3) := by decide +kernel
theorem dX12_readsCompared_64 : decode cX12_readsCompared 64 = .ok (.invokevirtual 133, 3) := by decide +kernel
theorem dX12_readsCompared_67 : decode cX12_readsCompared 67 = .ok (.ireturn, 1) := by decide +kernel
theorem dX12_readsCompared_68 : decode cX12_readsCompared 68 = .ok (.aload_n 0, 1) := by decide +kernel
theorem dX12_readsCompared_69 : decode cX12_readsCompared 69 = .ok (.aload_n 0, 1) := by decide +kernel
theorem dX12_readsCompared_70 : decode cX12_readsCompared 70 = .ok (.getfield 120, 3) := by decide +kernel
theorem dX12_readsCompared_73 : decode cX12_readsCompared 73 = .ok (.iconst 1, 1) := by decide +kernel
theorem dX12_readsCompared_74 : decode cX12_readsCompared 74 = .ok (.iadd, 1) := by decide +kernel
theorem dX12_readsCompared_75 : decode cX12_readsCompared 75 = .ok (.putfield 120, 3) := by decide +kernel
theorem dX12_readsCompared_78 : decode cX12_readsCompared 78 = .ok (.aload_n 0, 1) := by decide +kernel
theorem dX12_readsCompared_79 : decode cX12_readsCompared 79 = .ok (.invokevirtual 183, 3) := by decide +kernel
theorem dX12_readsCompared_82 : decode cX12_readsCompared 82 = .ok (.ifCond .ne 5, 3) := by decide +kernel
theorem dX12_readsCompared_85 : decode cX12_readsCompared 85 = .ok (.iconst 0, 1) := by decide +kernel
theorem dX12_readsCompared_86 : decode cX12_readsCompared 86 = .ok (.ireturn, 1) := by decide +kernel
theorem dX12_readsCompared_87 : decode cX12_readsCompared 87 = .ok (.aload_n 0, 1) := by decide +kernel
theorem dX12_readsCompared_88 : decode cX12_readsCompared 88 = .ok (.iload_n 1, 1) := by decide +kernel
theorem dX12_readsCompared_89 : decode cX12_readsCompared 89 = .ok (.iconst 0, 1) := by decide +kernel
theorem dX12_readsCompared_90 : decode cX12_readsCompared 90 = .ok (.invokevirtual 157, 3) := by decide +kernel
theorem dX12_readsCompared_93 : decode cX12_readsCompared 93 = .ok (.aload_n 0, 1) := by decide +kernel
theorem dX12_readsCompared_94 : decode cX12_readsCompared 94 = .ok (.invokevirtual 186, 3) := by decide +kernel
theorem dX12_readsCompared_97 : decode cX12_readsCompared 97 = .ok (.iconst 1, 1) := by decide +kernel
theorem dX12_readsCompared_98 : decode cX12_readsCompared 98 = .ok (.ireturn, 1) := by decide +kernel
theorem dX12_readsCondition_0 : decode cX12_readsCondition 0 = .ok (.aload_n 0, 1) := by decide +kernel
theorem dX12_readsCondition_1 : decode cX12_readsCondition 1 = .ok (.invokevirtual 126, 3) := by decide +kernel
theorem dX12_readsCondition_4 : decode cX12_readsCondition 4 = .ok (.bipush 40, 2) := by decide +kernel
theorem dX12_readsCondition_6 : decode cX12_readsCondition 6 = .ok (.if_icmp .eq 13, 3) := by decide +kernel
theorem dX12_readsCondition_9 : decode cX12_readsCondition 9 = .ok (.aload_n 0, 1) := by decide +kernel
theorem dX12_readsCondition_10 : decode cX12_readsCondition 10 = .ok (.iconst 1, 1) := by decide +kernel
theorem dX12_readsCondition_11 : decode cX12_readsCondition 11 = .ok (.aload_n 0, 1) := by decide +kernel
theorem dX12_readsCondition_12 : decode cX12_readsCondition 12 = .ok (.getfield 120, 3) := by decide +kernel
theorem dX12_readsCondition_15 : decode cX12_readsCondition 15 = .ok (.invokevirtual 133, 3) := by decide +kernel
theorem dX12_readsCondition_18 : decode cX12_readsCondition 18 = .ok (.ireturn, 1) := by decide +kernel
theorem dX12_readsCondition_19 : decode cX12_readsCondition 19 = .ok (.aload_n 0, 1) := by decide +kernel
theorem dX12_readsCondition_20 : decode cX12_readsCondition 20 = .ok (.iconst 0, 1) := by decide +kernel
theorem dX12_readsCondition_21 : decode cX12_readsCondition 21 = .ok (.putfield 148, 3) := by decide +kernel
theorem dX12_readsCondition_24 : decode cX12_readsCondition 24 = .ok (.aload_n 0, 1) := by decide +kernel
theorem dX12_readsCondition_25 : decode cX12_readsCondition 25 = .ok (.iconst 0, 1) := by decide +kernel
theorem dX12_readsCondition_26 : decode cX12_readsCondition 26 = .ok (.putfield 151, 3) := by decide +kernel
theorem dX12_readsCondition_29 : decode cX12_readsCondition 29 = .ok (.aload_n 0, 1) := by decide +kernel
theorem dX12_readsCondition_30 : decode cX12_readsCondition 30 = .ok (.bipush 13, 2) := by decide +kernel
theorem dX12_readsCondition_32 : decode cX12_readsCondition 32 = .ok (.invokevirtual 161, 3) := by decide +kernel
theorem dX12_readsCondition_35 : decode cX12_readsCondition 35 = .ok (.ifCond .ne 5, 3) := by decide +kernel
theorem dX12_readsCondition_38 : decode cX12_readsCondition 38 = .ok (.iconst 0, 1) := by decide +kernel
theorem dX12_readsCondition_39 : decode cX12_readsCondition 39 = .ok (.ireturn, 1) := by decide +kernel
theorem dX12_readsCondition_40 : decode cX12_readsCondition 40 = .ok (.aload_n 0, 1) := by decide +kernel
theorem dX12_readsCondition_41 : decode cX12_readsCondition 41 = .ok (.invokevirtual 126, 3) := by decide +kernel
theorem dX12_readsCondition_44 : decode cX12_readsCondition 44 = .ok (.bipush 33, 2) := by decide +kernel
theorem dX12_readsCondition_46 : decode cX12_readsCondition 46 = .ok (.if_icmp .eq 12, 3) := by decide +kernel
theorem dX12_readsCondition_49 : decode cX12_readsCondition 49 = .ok (.aload_n 0, 1) := by decide +kernel
theorem dX12_readsCondition_50 : decode cX12_readsCondition 50 = .ok (.invokevirtual 126, 3) := by decide +kernel
theorem dX12_readsCondition_53 : decode cX12_readsCondition 53 = .ok (.bipush 40, 2) := by decide +kernel
theorem dX12_readsCondition_55 : decode cX12_readsCondition 55 = .ok (.if_icmp .ne 28, 3) := by decide +kernel
theorem dX12_readsCondition_58 : decode cX12_readsCondition 58 = .ok (.aload_n 0, 1) := by decide +kernel
theorem dX12_readsCondition_59 : decode cX12_readsCondition 59 = .ok (.aload_n 0, 1) := by decide +kernel
theorem dX12_readsCondition_60 : decode cX12_readsCondition 60 = .ok (.invokevirtual 126, 3) := by decide +kernel
theorem dX12_readsCondition_63 : decode cX12_readsCondition 63 = .ok (.bipush 33, 2) := by decide +kernel
theorem dX12_readsCondition_65 : decode cX12_readsCondition 65 = .ok (.if_icmp .ne 8, 3) := by decide +kernel
theorem dX12_readsCondition_68 : decode cX12_readsCondition 68 = .ok (.bipush 10, 2) := by decide +kernel
theorem dX12_readsCondition_70 : decode cX12_readsCondition 70 = .ok (.goto 5, 3) := by decide +kernel
theorem dX12_readsCondition_73 : decode cX12_readsCondition 73 = .ok (.bipush 13, 2) := by decide +kernel
theorem dX12_readsCondition_75 : decode cX12_readsCondition 75 = .ok (.invokevirtual 161, 3) := by decide +kernel
theorem dX12_readsCondition_78 : decode cX12_readsCondition 78 = .ok (.ifCond .ne (-38), 3) := by decide +kernel
theorem dX12_readsCondition_81 : decode cX12_readsCondition 81 = .ok (.iconst 0, 1) := by decide +kernel
theorem dX12_readsCondition_82 : decode cX12_readsCondition 82 = .ok (.ireturn, 1) := by decide +kernel
theorem dX12_readsCondition_83 : decode cX12_readsCondition 83 = .ok (.aload_n 0, 1) := by decide +kernel
theorem dX12_readsCondition_84 : decode cX12_readsCondition 84 = .ok (.invokevirtual 189, 3) := by decide +kernel
theorem dX12_readsCondition_87 : decode cX12_readsCondition 87 = .ok (.ifCond .ne 5, 3) := by decide +kernel
theorem dX12_readsCondition_90 : decode cX12_readsCondition 90 = .ok (.iconst 0, 1) := by decide +kernel
theorem dX12_readsCondition_91 : decode cX12_readsCondition 91 = .ok (.ireturn, 1) := by decide +kernel
theorem dX12_readsCondition_92 : decode cX12_readsCondition 92 = .ok (.aload_n 0, 1) := by decide +kernel
theorem dX12_readsCondition_93 : decode cX12_readsCondition 93 = .ok (.invokevirtual 126, 3) := by decide +kernel
theorem dX12_readsCondition_96 : decode cX12_readsCondition 96 = .ok (.bipush 41, 2) := by decide +kernel
theorem dX12_readsCondition_98 : decode cX12_readsCondition 98 = .ok (.if_icmp .ne 54, 3) := by decide +kernel
theorem dX12_readsCondition_101 : decode cX12_readsCondition 101 = .ok (.aload_n 0, 1) := by decide +kernel
theorem dX12_readsCondition_102 : decode cX12_readsCondition 102 = .ok (.iconst 1, 1) := by decide +kernel
theorem dX12_readsCondition_103 : decode cX12_readsCondition 103 = .ok (.invokevirtual 192, 3) := by decide +kernel
theorem dX12_readsCondition_106 : decode cX12_readsCondition 106 = .ok (.aload_n 0, 1) := by decide +kernel
theorem dX12_readsCondition_107 : decode cX12_readsCondition 107 = .ok (.aload_n 0, 1) := by decide +kernel
theorem dX12_readsCondition_108 : decode cX12_readsCondition 108 = .ok (.getfield 151, 3) := by decide +kernel
theorem dX12_readsCondition_111 : decode cX12_readsCondition 111 = .ok (.iconst 1, 1) := by decide +kernel
theorem dX12_readsCondition_112 : decode cX12_readsCondition 112 = .ok (.isub, 1) := by decide +kernel
theorem dX12_readsCondition_113 : decode cX12_readsCondition 113 = .ok (.putfield 151, 3) := by decide +kernel
theorem dX12_readsCondition_116 : decode cX12_readsCondition 116 = .ok (.aload_n 0, 1) := by decide +kernel
theorem dX12_readsCondition_117 : decode cX12_readsCondition 117 = .ok (.aload_n 0, 1) := by decide +kernel
theorem dX12_readsCondition_118 : decode cX12_readsCondition 118 = .ok (.getfield 148, 3) := by decide +kernel
theorem dX12_readsCondition_121 : decode cX12_readsCondition 121 = .ok (.iconst 1, 1) := by decide +kernel
theorem dX12_readsCondition_122 : decode cX12_readsCondition 122 = .ok (.isub, 1) := by decide +kernel
theorem dX12_readsCondition_123 : decode cX12_readsCondition 123 = .ok (.putfield 148, 3) := by decide +kernel
theorem dX12_readsCondition_126 : decode cX12_readsCondition 126 = .ok (.aload_n 0, 1) := by decide +kernel
theorem dX12_readsCondition_127 : decode cX12_readsCondition 127 = .ok (.aload_n 0, 1) := by decide +kernel
theorem dX12_readsCondition_128 : decode cX12_readsCondition 128 = .ok (.getfield 120, 3) := by decide +kernel
theorem dX12_readsCondition_131 : decode cX12_readsCondition 131 = .ok (.iconst 1, 1) := by decide +kernel
theorem dX12_readsCondition_132 : decode cX12_readsCondition 132 = .ok (.iadd, 1) := by decide +kernel
theorem dX12_readsCondition_133 : decode cX12_readsCondition 133 = .ok (.putfield 120, 3) := by decide +kernel
theorem dX12_readsCondition_136 : decode cX12_readsCondition 136 = .ok (.aload_n 0, 1) := by decide +kernel
theorem dX12_readsCondition_137 : decode cX12_readsCondition 137 = .ok (.getfield 151, 3) := by decide +kernel
theorem dX12_readsCondition_140 : decode cX12_readsCondition 140 = .ok (.ifCond .ne 5, 3) := by decide +kernel
theorem dX12_readsCondition_143 : decode cX12_readsCondition 143 = .ok (.iconst 1, 1) := by decide +kernel
theorem dX12_readsCondition_144 : decode cX12_readsCondition 144 = .ok (.ireturn, 1) := by decide +kernel
theorem dX12_readsCondition_145 : decode cX12_readsCondition 145 = .ok (.aload_n 0, 1) := by decide +kernel
theorem dX12_readsCondition_146 : decode cX12_readsCondition 146 = .ok (.invokevirtual 186, 3) := by decide +kernel
theorem dX12_readsCondition_149 : decode cX12_readsCondition 149 = .ok (.goto (-57), 3) := by decide +kernel
theorem dX12_readsCondition_152 : decode cX12_readsCondition 152 = .ok (.aload_n 0, 1) := by decide +kernel
theorem dX12_readsCondition_153 : decode cX12_readsCondition 153 = .ok (.invokevirtual 126, 3) := by decide +kernel
theorem dX12_readsCondition_156 : decode cX12_readsCondition 156 = .ok (.bipush 38, 2) := by decide +kernel
theorem dX12_readsCondition_158 : decode cX12_readsCondition 158 = .ok (.if_icmp .eq 22, 3) := by decide +kernel
theorem dX12_readsCondition_161 : decode cX12_readsCondition 161 = .ok (.aload_n 0, 1) := by decide +kernel
theorem dX12_readsCondition_162 : decode cX12_readsCondition 162 = .ok (.invokevirtual 126, 3) := by decide +kernel
theorem dX12_readsCondition_165 : decode cX12_readsCondition 165 = .ok (.bipush 124, 2) := by decide +kernel
theorem dX12_readsCondition_167 : decode cX12_readsCondition 167 = .ok (.if_icmp .eq 13, 3) := by decide +kernel
theorem dX12_readsCondition_170 : decode cX12_readsCondition 170 = .ok (.aload_n 0, 1) := by decide +kernel
theorem dX12_readsCondition_171 : decode cX12_readsCondition 171 = .ok (.iconst 1, 1) := by decide +kernel
theorem dX12_readsCondition_172 : decode cX12_readsCondition 172 = .ok (.aload_n 0, 1) := by decide +kernel
theorem dX12_readsCondition_173 : decode cX12_readsCondition 173 = .ok (.getfield 120, 3) := by decide +kernel
theorem dX12_readsCondition_176 : decode cX12_readsCondition 176 = .ok (.invokevirtual 133, 3) := by decide +kernel
theorem dX12_readsCondition_179 : decode cX12_readsCondition 179 = .ok (.ireturn, 1) := by decide +kernel
theorem dX12_readsCondition_180 : decode cX12_readsCondition 180 = .ok (.aload_n 0, 1) := by decide +kernel
theorem dX12_readsCondition_181 : decode cX12_readsCondition 181 = .ok (.aload_n 0, 1) := by decide +kernel
theorem dX12_readsCondition_182 : decode cX12_readsCondition 182 = .ok (.invokevirtual 126, 3) := by decide +kernel
theorem dX12_readsCondition_185 : decode cX12_readsCondition 185 = .ok (.bipush 124, 2) := by decide +kernel
theorem dX12_readsCondition_187 : decode cX12_readsCondition 187 = .ok (.if_icmp .ne 7, 3) := by decide +kernel
theorem dX12_readsCondition_190 : decode cX12_readsCondition 190 = .ok (.iconst 1, 1) := by decide +kernel
theorem dX12_readsCondition_191 : decode cX12_readsCondition 191 = .ok (.goto 4, 3) := by decide +kernel
theorem dX12_readsCondition_194 : decode cX12_readsCondition 194 = .ok (.iconst 0, 1) := by decide +kernel
theorem dX12_readsCondition_195 : decode cX12_readsCondition 195 = .ok (.invokevirtual 192, 3) := by decide +kernel
theorem dX12_readsCondition_198 : decode cX12_readsCondition 198 = .ok (.aload_n 0, 1) := by decide +kernel
theorem dX12_readsCondition_199 : decode cX12_readsCondition 199 = .ok (.aload_n 0, 1) := by decide +kernel
theorem dX12_readsCondition_200 : decode cX12_readsCondition 200 = .ok (.invokevirtual 126, 3) := by decide +kernel
theorem dX12_readsCondition_203 : decode cX12_readsCondition 203 = .ok (.bipush 38, 2) := by decide +kernel
theorem dX12_readsCondition_205 : decode cX12_readsCondition 205 = .ok (.if_icmp .ne 8, 3) := by decide +kernel
theorem dX12_readsCondition_208 : decode cX12_readsCondition 208 = .ok (.bipush 11, 2) := by decide +kernel
theorem dX12_readsCondition_210 : decode cX12_readsCondition 210 = .ok (.goto 5, 3) := by decide +kernel
theorem dX12_readsCondition_213 : decode cX12_readsCondition 213 = .ok (.bipush 12, 2) := by decide +kernel
theorem dX12_readsCondition_215 : decode cX12_readsCondition 215 = .ok (.invokevirtual 195, 3) := by decide +kernel
theorem dX12_readsCondition_218 : decode cX12_readsCondition 218 = .ok (.goto (-178), 3) := by decide +kernel
theorem dX12_readsRule_0 : decode cX12_readsRule 0 = .ok (.aload_n 0, 1) := by decide +kernel
theorem dX12_readsRule_1 : decode cX12_readsRule 1 = .ok (.invokevirtual 126, 3) := by decide +kernel
theorem dX12_readsRule_4 : decode cX12_readsRule 4 = .ok (.istore_n 1, 1) := by decide +kernel
theorem dX12_readsRule_5 : decode cX12_readsRule 5 = .ok (.iload_n 1, 1) := by decide +kernel
theorem dX12_readsRule_6 : decode cX12_readsRule 6 = .ok (.bipush 101, 2) := by decide +kernel
theorem dX12_readsRule_8 : decode cX12_readsRule 8 = .ok (.if_icmp .eq 25, 3) := by decide +kernel
theorem dX12_readsRule_11 : decode cX12_readsRule 11 = .ok (.iload_n 1, 1) := by decide +kernel
theorem dX12_readsRule_12 : decode cX12_readsRule 12 = .ok (.bipush 121, 2) := by decide +kernel
theorem dX12_readsRule_14 : decode cX12_readsRule 14 = .ok (.if_icmp .eq 19, 3) := by decide +kernel
theorem dX12_readsRule_17 : decode cX12_readsRule 17 = .ok (.iload_n 1, 1) := by decide +kernel
theorem dX12_readsRule_18 : decode cX12_readsRule 18 = .ok (.bipush 111, 2) := by decide +kernel
theorem dX12_readsRule_20 : decode cX12_readsRule 20 = .ok (.if_icmp .eq 13, 3) := by decide +kernel
theorem dX12_readsRule_23 : decode cX12_readsRule 23 = .ok (.aload_n 0, 1) := by decide +kernel
theorem dX12_readsRule_24 : decode cX12_readsRule 24 = .ok (.iconst 1, 1) := by decide +kernel
theorem dX12_readsRule_25 : decode cX12_readsRule 25 = .ok (.aload_n 0, 1) := by decide +kernel
theorem dX12_readsRule_26 : decode cX12_readsRule 26 = .ok (.getfield 120, 3) := by decide +kernel
theorem dX12_readsRule_29 : decode cX12_readsRule 29 = .ok (.invokevirtual 133, 3) := by decide +kernel
theorem dX12_readsRule_32 : decode cX12_readsRule 32 = .ok (.ireturn, 1) := by decide +kernel
theorem dX12_readsRule_33 : decode cX12_readsRule 33 = .ok (.aload_n 0, 1) := by decide +kernel
theorem dX12_readsRule_34 : decode cX12_readsRule 34 = .ok (.getfield 198, 3) := by decide +kernel
theorem dX12_readsRule_37 : decode cX12_readsRule 37 = .ok (.bipush 16, 2) := by decide +kernel
theorem dX12_readsRule_39 : decode cX12_readsRule 39 = .ok (.if_icmp .ne 13, 3) := by decide +kernel
theorem dX12_readsRule_42 : decode cX12_readsRule 42 = .ok (.aload_n 0, 1) := by decide +kernel
theorem dX12_readsRule_43 : decode cX12_readsRule 43 = .ok (.iconst 4, 1) := by decide +kernel
theorem dX12_readsRule_44 : decode cX12_readsRule 44 = .ok (.aload_n 0, 1) := by decide +kernel
theorem dX12_readsRule_45 : decode cX12_readsRule 45 = .ok (.getfield 120, 3) := by decide +kernel
theorem dX12_readsRule_48 : decode cX12_readsRule 48 = .ok (.invokevirtual 133, 3) := by decide +kernel
theorem dX12_readsRule_51 : decode cX12_readsRule 51 = .ok (.ireturn, 1) := by decide +kernel
theorem dX12_readsRule_52 : decode cX12_readsRule 52 = .ok (.aload_n 0, 1) := by decide +kernel
theorem dX12_readsRule_53 : decode cX12_readsRule 53 = .ok (.getfield 29, 3) := by decide +kernel
theorem dX12_readsRule_56 : decode cX12_readsRule 56 = .ok (.aload_n 0, 1) := by decide +kernel
theorem dX12_readsRule_57 : decode cX12_readsRule 57 = .ok (.getfield 198, 3) := by decide +kernel
theorem dX12_readsRule_60 : decode cX12_readsRule 60 = .ok (.iload_n 1, 1) := by decide +kernel
theorem dX12_readsRule_61 : decode cX12_readsRule 61 = .ok (.iastore, 1) := by decide +kernel
theorem dX12_readsRule_62 : decode cX12_readsRule 62 = .ok (.aload_n 0, 1) := by decide +kernel
theorem dX12_readsRule_63 : decode cX12_readsRule 63 = .ok (.aload_n 0, 1) := by decide +kernel
theorem dX12_readsRule_64 : decode cX12_readsRule 64 = .ok (.getfield 120, 3) := by decide +kernel
theorem dX12_readsRule_67 : decode cX12_readsRule 67 = .ok (.iconst 1, 1) := by decide +kernel
theorem dX12_readsRule_68 : decode cX12_readsRule 68 = .ok (.iadd, 1) := by decide +kernel
theorem dX12_readsRule_69 : decode cX12_readsRule 69 = .ok (.putfield 120, 3) := by decide +kernel
theorem dX12_readsRule_72 : decode cX12_readsRule 72 = .ok (.aload_n 0, 1) := by decide +kernel
theorem dX12_readsRule_73 : decode cX12_readsRule 73 = .ok (.getfield 32, 3) := by decide +kernel
theorem dX12_readsRule_76 : decode cX12_readsRule 76 = .ok (.aload_n 0, 1) := by decide +kernel
theorem dX12_readsRule_77 : decode cX12_readsRule 77 = .ok (.getfield 198, 3) := by decide +kernel
theorem dX12_readsRule_80 : decode cX12_readsRule 80 = .ok (.aload_n 0, 1) := by decide +kernel
theorem dX12_readsRule_81 : decode cX12_readsRule 81 = .ok (.getfield 144, 3) := by decide +kernel
theorem dX12_readsRule_84 : decode cX12_readsRule 84 = .ok (.iastore, 1) := by decide +kernel
theorem dX12_readsRule_85 : decode cX12_readsRule 85 = .ok (.aload_n 0, 1) := by decide +kernel
theorem dX12_readsRule_86 : decode cX12_readsRule 86 = .ok (.iconst 0, 1) := by decide +kernel
theorem dX12_readsRule_87 : decode cX12_readsRule 87 = .ok (.putfield 148, 3) := by decide +kernel
theorem dX12_readsRule_90 : decode cX12_readsRule 90 = .ok (.aload_n 0, 1) := by decide +kernel
theorem dX12_readsRule_91 : decode cX12_readsRule 91 = .ok (.iconst 0, 1) := by decide +kernel
theorem dX12_readsRule_92 : decode cX12_readsRule 92 = .ok (.putfield 151, 3) := by decide +kernel
theorem dX12_readsRule_95 : decode cX12_readsRule 95 = .ok (.iload_n 1, 1) := by decide +kernel
theorem dX12_readsRule_96 : decode cX12_readsRule 96 = .ok (.bipush 111, 2) := by decide +kernel
theorem dX12_readsRule_98 : decode cX12_readsRule 98 = .ok (.if_icmp .eq 12, 3) := by decide +kernel
theorem dX12_readsRule_101 : decode cX12_readsRule 101 = .ok (.aload_n 0, 1) := by decide +kernel
theorem dX12_readsRule_102 : decode cX12_readsRule 102 = .ok (.invokevirtual 183, 3) := by decide +kernel
theorem dX12_readsRule_105 : decode cX12_readsRule 105 = .ok (.ifCond .ne 5, 3) := by decide +kernel
theorem dX12_readsRule_108 : decode cX12_readsRule 108 = .ok (.iconst 0, 1) := by decide +kernel
theorem dX12_readsRule_109 : decode cX12_readsRule 109 = .ok (.ireturn, 1) := by decide +kernel
theorem dX12_readsRule_110 : decode cX12_readsRule 110 = .ok (.aload_n 0, 1) := by decide +kernel
theorem dX12_readsRule_111 : decode cX12_readsRule 111 = .ok (.getfield 35, 3) := by decide +kernel
theorem dX12_readsRule_114 : decode cX12_readsRule 114 = .ok (.aload_n 0, 1) := by decide +kernel
theorem dX12_readsRule_115 : decode cX12_readsRule 115 = .ok (.getfield 198, 3) := by decide +kernel
theorem dX12_readsRule_118 : decode cX12_readsRule 118 = .ok (.aload_n 0, 1) := by decide +kernel
theorem dX12_readsRule_119 : decode cX12_readsRule 119 = .ok (.getfield 144, 3) := by decide +kernel
theorem dX12_readsRule_122 : decode cX12_readsRule 122 = .ok (.iastore, 1) := by decide +kernel
theorem dX12_readsRule_123 : decode cX12_readsRule 123 = .ok (.aload_n 0, 1) := by decide +kernel
theorem dX12_readsRule_124 : decode cX12_readsRule 124 = .ok (.invokevirtual 201, 3) := by decide +kernel
theorem dX12_readsRule_127 : decode cX12_readsRule 127 = .ok (.ifCond .ne 5, 3) := by decide +kernel
theorem dX12_readsRule_130 : decode cX12_readsRule 130 = .ok (.iconst 0, 1) := by decide +kernel
theorem dX12_readsRule_131 : decode cX12_readsRule 131 = .ok (.ireturn, 1) := by decide +kernel
theorem dX12_readsRule_132 : decode cX12_readsRule 132 = .ok (.aload_n 0, 1) := by decide +kernel
theorem dX12_readsRule_133 : decode cX12_readsRule 133 = .ok (.getfield 38, 3) := by decide +kernel
theorem dX12_readsRule_136 : decode cX12_readsRule 136 = .ok (.aload_n 0, 1) := by decide +kernel
theorem dX12_readsRule_137 : decode cX12_readsRule 137 = .ok (.getfield 198, 3) := by decide +kernel
theorem dX12_readsRule_140 : decode cX12_readsRule 140 = .ok (.aload_n 0, 1) := by decide +kernel
theorem dX12_readsRule_141 : decode cX12_readsRule 141 = .ok (.getfield 144, 3) := by decide +kernel
theorem dX12_readsRule_144 : decode cX12_readsRule 144 = .ok (.iastore, 1) := by decide +kernel
theorem dX12_readsRule_145 : decode cX12_readsRule 145 = .ok (.aload_n 0, 1) := by decide +kernel
theorem dX12_readsRule_146 : decode cX12_readsRule 146 = .ok (.aload_n 0, 1) := by decide +kernel
theorem dX12_readsRule_147 : decode cX12_readsRule 147 = .ok (.getfield 198, 3) := by decide +kernel
theorem dX12_readsRule_150 : decode cX12_readsRule 150 = .ok (.iconst 1, 1) := by decide +kernel
theorem dX12_readsRule_151 : decode cX12_readsRule 151 = .ok (.iadd, 1) := by decide +kernel
theorem dX12_readsRule_152 : decode cX12_readsRule 152 = .ok (.putfield 198, 3) := by decide +kernel
theorem dX12_readsRule_155 : decode cX12_readsRule 155 = .ok (.iconst 1, 1) := by decide +kernel
theorem dX12_readsRule_156 : decode cX12_readsRule 156 = .ok (.ireturn, 1) := by decide +kernel
theorem dX12_beginsText_0 : decode cX12_beginsText 0 = .ok (.aload_n 0, 1) := by decide +kernel
theorem dX12_beginsText_1 : decode cX12_beginsText 1 = .ok (.iconst 0, 1) := by decide +kernel
theorem dX12_beginsText_2 : decode cX12_beginsText 2 = .ok (.putfield 120, 3) := by decide +kernel
theorem dX12_beginsText_5 : decode cX12_beginsText 5 = .ok (.aload_n 0, 1) := by decide +kernel
theorem dX12_beginsText_6 : decode cX12_beginsText 6 = .ok (.iload_n 1, 1) := by decide +kernel
theorem dX12_beginsText_7 : decode cX12_beginsText 7 = .ok (.putfield 123, 3) := by decide +kernel
theorem dX12_beginsText_10 : decode cX12_beginsText 10 = .ok (.aload_n 0, 1) := by decide +kernel
theorem dX12_beginsText_11 : decode cX12_beginsText 11 = .ok (.iconst 0, 1) := by decide +kernel
theorem dX12_beginsText_12 : decode cX12_beginsText 12 = .ok (.putfield 144, 3) := by decide +kernel
theorem dX12_beginsText_15 : decode cX12_beginsText 15 = .ok (.aload_n 0, 1) := by decide +kernel
theorem dX12_beginsText_16 : decode cX12_beginsText 16 = .ok (.iconst 0, 1) := by decide +kernel
theorem dX12_beginsText_17 : decode cX12_beginsText 17 = .ok (.putfield 198, 3) := by decide +kernel
theorem dX12_beginsText_20 : decode cX12_beginsText 20 = .ok (.return_, 1) := by decide +kernel
theorem dX12_law_0 : decode cX12_law 0 = .ok (.iload_n 1, 1) := by decide +kernel
theorem dX12_law_1 : decode cX12_law 1 = .ok (.iconst 1, 1) := by decide +kernel
theorem dX12_law_2 : decode cX12_law 2 = .ok (.sipush 240, 3) := by decide +kernel
theorem dX12_law_5 : decode cX12_law 5 = .ok (.invokestatic 108, 3) := by decide +kernel
theorem dX12_law_8 : decode cX12_law 8 = .ok (.ifCond .eq 11, 3) := by decide +kernel
theorem dX12_law_11 : decode cX12_law 11 = .ok (.iload_n 1, 1) := by decide +kernel
theorem dX12_law_12 : decode cX12_law 12 = .ok (.aload_n 0, 1) := by decide +kernel
theorem dX12_law_13 : decode cX12_law 13 = .ok (.getfield 112, 3) := by decide +kernel
theorem dX12_law_16 : decode cX12_law 16 = .ok (.if_icmp .le 5, 3) := by decide +kernel
theorem dX12_law_19 : decode cX12_law 19 = .ok (.iconst (-1), 1) := by decide +kernel
theorem dX12_law_20 : decode cX12_law 20 = .ok (.ireturn, 1) := by decide +kernel
theorem dX12_law_21 : decode cX12_law 21 = .ok (.aload_n 0, 1) := by decide +kernel
theorem dX12_law_22 : decode cX12_law 22 = .ok (.iload_n 1, 1) := by decide +kernel
theorem dX12_law_23 : decode cX12_law 23 = .ok (.invokevirtual 204, 3) := by decide +kernel
theorem dX12_law_26 : decode cX12_law 26 = .ok (.aload_n 0, 1) := by decide +kernel
theorem dX12_law_27 : decode cX12_law 27 = .ok (.invokevirtual 207, 3) := by decide +kernel
theorem dX12_law_30 : decode cX12_law 30 = .ok (.istore_n 2, 1) := by decide +kernel
theorem dX12_law_31 : decode cX12_law 31 = .ok (.iload_n 2, 1) := by decide +kernel
theorem dX12_law_32 : decode cX12_law 32 = .ok (.ifCond .eq 39, 3) := by decide +kernel
theorem dX12_law_35 : decode cX12_law 35 = .ok (.aload_n 0, 1) := by decide +kernel
theorem dX12_law_36 : decode cX12_law 36 = .ok (.getfield 120, 3) := by decide +kernel
theorem dX12_law_39 : decode cX12_law 39 = .ok (.aload_n 0, 1) := by decide +kernel
theorem dX12_law_40 : decode cX12_law 40 = .ok (.getfield 123, 3) := by decide +kernel
theorem dX12_law_43 : decode cX12_law 43 = .ok (.if_icmp .ge 28, 3) := by decide +kernel
theorem dX12_law_46 : decode cX12_law 46 = .ok (.aload_n 0, 1) := by decide +kernel
theorem dX12_law_47 : decode cX12_law 47 = .ok (.bipush 59, 2) := by decide +kernel
theorem dX12_law_49 : decode cX12_law 49 = .ok (.invokevirtual 210, 3) := by decide +kernel
theorem dX12_law_52 : decode cX12_law 52 = .ok (.ifCond .eq 14, 3) := by decide +kernel
theorem dX12_law_55 : decode cX12_law 55 = .ok (.aload_n 0, 1) := by decide +kernel
theorem dX12_law_56 : decode cX12_law 56 = .ok (.invokevirtual 207, 3) := by decide +kernel
theorem dX12_law_59 : decode cX12_law 59 = .ok (.ifCond .eq 7, 3) := by decide +kernel
theorem dX12_law_62 : decode cX12_law 62 = .ok (.iconst 1, 1) := by decide +kernel
theorem dX12_law_63 : decode cX12_law 63 = .ok (.goto 4, 3) := by decide +kernel
theorem dX12_law_66 : decode cX12_law 66 = .ok (.iconst 0, 1) := by decide +kernel
theorem dX12_law_67 : decode cX12_law 67 = .ok (.istore_n 2, 1) := by decide +kernel
theorem dX12_law_68 : decode cX12_law 68 = .ok (.goto (-37), 3) := by decide +kernel
theorem dX12_law_71 : decode cX12_law 71 = .ok (.aload_n 0, 1) := by decide +kernel
theorem dX12_law_72 : decode cX12_law 72 = .ok (.iconst 0, 1) := by decide +kernel
theorem dX12_law_73 : decode cX12_law 73 = .ok (.putfield 112, 3) := by decide +kernel
theorem dX12_law_76 : decode cX12_law 76 = .ok (.iload_n 2, 1) := by decide +kernel
theorem dX12_law_77 : decode cX12_law 77 = .ok (.ifCond .ne 8, 3) := by decide +kernel
theorem dX12_law_80 : decode cX12_law 80 = .ok (.aload_n 0, 1) := by decide +kernel
theorem dX12_law_81 : decode cX12_law 81 = .ok (.getfield 130, 3) := by decide +kernel
theorem dX12_law_84 : decode cX12_law 84 = .ok (.ireturn, 1) := by decide +kernel
theorem dX12_law_85 : decode cX12_law 85 = .ok (.aload_n 0, 1) := by decide +kernel
theorem dX12_law_86 : decode cX12_law 86 = .ok (.aload_n 0, 1) := by decide +kernel
theorem dX12_law_87 : decode cX12_law 87 = .ok (.getfield 198, 3) := by decide +kernel
theorem dX12_law_90 : decode cX12_law 90 = .ok (.putfield 213, 3) := by decide +kernel
theorem dX12_law_93 : decode cX12_law 93 = .ok (.iconst 0, 1) := by decide +kernel
theorem dX12_law_94 : decode cX12_law 94 = .ok (.istore_n 3, 1) := by decide +kernel
theorem dX12_law_95 : decode cX12_law 95 = .ok (.iload_n 3, 1) := by decide +kernel
theorem dX12_law_96 : decode cX12_law 96 = .ok (.aload_n 0, 1) := by decide +kernel
theorem dX12_law_97 : decode cX12_law 97 = .ok (.getfield 144, 3) := by decide +kernel
theorem dX12_law_100 : decode cX12_law 100 = .ok (.if_icmp .ge 21, 3) := by decide +kernel
theorem dX12_law_103 : decode cX12_law 103 = .ok (.aload_n 0, 1) := by decide +kernel
theorem dX12_law_104 : decode cX12_law 104 = .ok (.getfield 41, 3) := by decide +kernel
theorem dX12_law_107 : decode cX12_law 107 = .ok (.iload_n 3, 1) := by decide +kernel
theorem dX12_law_108 : decode cX12_law 108 = .ok (.aload_n 0, 1) := by decide +kernel
theorem dX12_law_109 : decode cX12_law 109 = .ok (.getfield 23, 3) := by decide +kernel
theorem dX12_law_112 : decode cX12_law 112 = .ok (.iload_n 3, 1) := by decide +kernel
theorem dX12_law_113 : decode cX12_law 113 = .ok (.iaload, 1) := by decide +kernel
theorem dX12_law_114 : decode cX12_law 114 = .ok (.iastore, 1) := by decide +kernel
theorem dX12_law_115 : decode cX12_law 115 = .ok (.iinc 3 1, 3) := by decide +kernel
theorem dX12_law_118 : decode cX12_law 118 = .ok (.goto (-23), 3) := by decide +kernel
theorem dX12_law_121 : decode cX12_law 121 = .ok (.iconst 0, 1) := by decide +kernel
theorem dX12_law_122 : decode cX12_law 122 = .ok (.istore_n 3, 1) := by decide +kernel
theorem dX12_law_123 : decode cX12_law 123 = .ok (.iload_n 3, 1) := by decide +kernel
theorem dX12_law_124 : decode cX12_law 124 = .ok (.aload_n 0, 1) := by decide +kernel
theorem dX12_law_125 : decode cX12_law 125 = .ok (.getfield 198, 3) := by decide +kernel
theorem dX12_law_128 : decode cX12_law 128 = .ok (.if_icmp .ge 57, 3) := by decide +kernel
theorem dX12_law_131 : decode cX12_law 131 = .ok (.aload_n 0, 1) := by decide +kernel
theorem dX12_law_132 : decode cX12_law 132 = .ok (.getfield 44, 3) := by decide +kernel
theorem dX12_law_135 : decode cX12_law 135 = .ok (.iload_n 3, 1) := by decide +kernel
theorem dX12_law_136 : decode cX12_law 136 = .ok (.aload_n 0, 1) := by decide +kernel
theorem dX12_law_137 : decode cX12_law 137 = .ok (.getfield 29, 3) := by decide +kernel
theorem dX12_law_140 : decode cX12_law 140 = .ok (.iload_n 3, 1) := by decide +kernel
theorem dX12_law_141 : decode cX12_law 141 = .ok (.iaload, 1) := by decide +kernel
theorem dX12_law_142 : decode cX12_law 142 = .ok (.iastore, 1) := by decide +kernel
theorem dX12_law_143 : decode cX12_law 143 = .ok (.aload_n 0, 1) := by decide +kernel
theorem dX12_law_144 : decode cX12_law 144 = .ok (.getfield 47, 3) := by decide +kernel
theorem dX12_law_147 : decode cX12_law 147 = .ok (.iload_n 3, 1) := by decide +kernel
theorem dX12_law_148 : decode cX12_law 148 = .ok (.aload_n 0, 1) := by decide +kernel
theorem dX12_law_149 : decode cX12_law 149 = .ok (.getfield 32, 3) := by decide +kernel
theorem dX12_law_152 : decode cX12_law 152 = .ok (.iload_n 3, 1) := by decide +kernel
theorem dX12_law_153 : decode cX12_law 153 = .ok (.iaload, 1) := by decide +kernel
theorem dX12_law_154 : decode cX12_law 154 = .ok (.iastore, 1) := by decide +kernel
theorem dX12_law_155 : decode cX12_law 155 = .ok (.aload_n 0, 1) := by decide +kernel
theorem dX12_law_156 : decode cX12_law 156 = .ok (.getfield 50, 3) := by decide +kernel
theorem dX12_law_159 : decode cX12_law 159 = .ok (.iload_n 3, 1) := by decide +kernel
theorem dX12_law_160 : decode cX12_law 160 = .ok (.aload_n 0, 1) := by decide +kernel
theorem dX12_law_161 : decode cX12_law 161 = .ok (.getfield 35, 3) := by decide +kernel
theorem dX12_law_164 : decode cX12_law 164 = .ok (.iload_n 3, 1) := by decide +kernel
theorem dX12_law_165 : decode cX12_law 165 = .ok (.iaload, 1) := by decide +kernel
theorem dX12_law_166 : decode cX12_law 166 = .ok (.iastore, 1) := by decide +kernel
theorem dX12_law_167 : decode cX12_law 167 = .ok (.aload_n 0, 1) := by decide +kernel
theorem dX12_law_168 : decode cX12_law 168 = .ok (.getfield 53, 3) := by decide +kernel
theorem dX12_law_171 : decode cX12_law 171 = .ok (.iload_n 3, 1) := by decide +kernel
theorem dX12_law_172 : decode cX12_law 172 = .ok (.aload_n 0, 1) := by decide +kernel
theorem dX12_law_173 : decode cX12_law 173 = .ok (.getfield 38, 3) := by decide +kernel
theorem dX12_law_176 : decode cX12_law 176 = .ok (.iload_n 3, 1) := by decide +kernel
theorem dX12_law_177 : decode cX12_law 177 = .ok (.iaload, 1) := by decide +kernel
theorem dX12_law_178 : decode cX12_law 178 = .ok (.iastore, 1) := by decide +kernel
theorem dX12_law_179 : decode cX12_law 179 = .ok (.iinc 3 1, 3) := by decide +kernel
theorem dX12_law_182 : decode cX12_law 182 = .ok (.goto (-59), 3) := by decide +kernel
theorem dX12_law_185 : decode cX12_law 185 = .ok (.aload_n 0, 1) := by decide +kernel
theorem dX12_law_186 : decode cX12_law 186 = .ok (.getfield 198, 3) := by decide +kernel
theorem dX12_law_189 : decode cX12_law 189 = .ok (.ireturn, 1) := by decide +kernel
theorem dX12_reckon_0 : decode cX12_reckon 0 = .ok (.iload_n 0, 1) := by decide +kernel
theorem dX12_reckon_1 : decode cX12_reckon 1 = .ok (.tableswitch 85 2 8 #[43, 47, 51, 55, 59, 63, 74], 43) := by decide +kernel
theorem dX12_reckon_44 : decode cX12_reckon 44 = .ok (.iload_n 1, 1) := by decide +kernel
theorem dX12_reckon_45 : decode cX12_reckon 45 = .ok (.iload_n 2, 1) := by decide +kernel
theorem dX12_reckon_46 : decode cX12_reckon 46 = .ok (.iadd, 1) := by decide +kernel
theorem dX12_reckon_47 : decode cX12_reckon 47 = .ok (.ireturn, 1) := by decide +kernel
theorem dX12_reckon_48 : decode cX12_reckon 48 = .ok (.iload_n 1, 1) := by decide +kernel
theorem dX12_reckon_49 : decode cX12_reckon 49 = .ok (.iload_n 2, 1) := by decide +kernel
theorem dX12_reckon_50 : decode cX12_reckon 50 = .ok (.isub, 1) := by decide +kernel
theorem dX12_reckon_51 : decode cX12_reckon 51 = .ok (.ireturn, 1) := by decide +kernel
theorem dX12_reckon_52 : decode cX12_reckon 52 = .ok (.iload_n 1, 1) := by decide +kernel
theorem dX12_reckon_53 : decode cX12_reckon 53 = .ok (.iload_n 2, 1) := by decide +kernel
theorem dX12_reckon_54 : decode cX12_reckon 54 = .ok (.imul, 1) := by decide +kernel
theorem dX12_reckon_55 : decode cX12_reckon 55 = .ok (.ireturn, 1) := by decide +kernel
theorem dX12_reckon_56 : decode cX12_reckon 56 = .ok (.iload_n 1, 1) := by decide +kernel
theorem dX12_reckon_57 : decode cX12_reckon 57 = .ok (.iload_n 2, 1) := by decide +kernel
theorem dX12_reckon_58 : decode cX12_reckon 58 = .ok (.idiv, 1) := by decide +kernel
theorem dX12_reckon_59 : decode cX12_reckon 59 = .ok (.ireturn, 1) := by decide +kernel
theorem dX12_reckon_60 : decode cX12_reckon 60 = .ok (.iload_n 1, 1) := by decide +kernel
theorem dX12_reckon_61 : decode cX12_reckon 61 = .ok (.iload_n 2, 1) := by decide +kernel
theorem dX12_reckon_62 : decode cX12_reckon 62 = .ok (.irem, 1) := by decide +kernel
theorem dX12_reckon_63 : decode cX12_reckon 63 = .ok (.ireturn, 1) := by decide +kernel
theorem dX12_reckon_64 : decode cX12_reckon 64 = .ok (.iload_n 1, 1) := by decide +kernel
theorem dX12_reckon_65 : decode cX12_reckon 65 = .ok (.iload_n 2, 1) := by decide +kernel
theorem dX12_reckon_66 : decode cX12_reckon 66 = .ok (.if_icmp .ge 7, 3) := by decide +kernel
theorem dX12_reckon_69 : decode cX12_reckon 69 = .ok (.iconst 1, 1) := by decide +kernel
theorem dX12_reckon_70 : decode cX12_reckon 70 = .ok (.goto 4, 3) := by decide +kernel
theorem dX12_reckon_73 : decode cX12_reckon 73 = .ok (.iconst 0, 1) := by decide +kernel
theorem dX12_reckon_74 : decode cX12_reckon 74 = .ok (.ireturn, 1) := by decide +kernel
theorem dX12_reckon_75 : decode cX12_reckon 75 = .ok (.iload_n 1, 1) := by decide +kernel
theorem dX12_reckon_76 : decode cX12_reckon 76 = .ok (.iload_n 2, 1) := by decide +kernel
theorem dX12_reckon_77 : decode cX12_reckon 77 = .ok (.if_icmp .le 7, 3) := by decide +kernel
theorem dX12_reckon_80 : decode cX12_reckon 80 = .ok (.iconst 1, 1) := by decide +kernel
theorem dX12_reckon_81 : decode cX12_reckon 81 = .ok (.goto 4, 3) := by decide +kernel
theorem dX12_reckon_84 : decode cX12_reckon 84 = .ok (.iconst 0, 1) := by decide +kernel
theorem dX12_reckon_85 : decode cX12_reckon 85 = .ok (.ireturn, 1) := by decide +kernel
theorem dX12_reckon_86 : decode cX12_reckon 86 = .ok (.iload_n 1, 1) := by decide +kernel
theorem dX12_reckon_87 : decode cX12_reckon 87 = .ok (.iload_n 2, 1) := by decide +kernel
theorem dX12_reckon_88 : decode cX12_reckon 88 = .ok (.if_icmp .ne 7, 3) := by decide +kernel
theorem dX12_reckon_91 : decode cX12_reckon 91 = .ok (.iconst 1, 1) := by decide +kernel
theorem dX12_reckon_92 : decode cX12_reckon 92 = .ok (.goto 4, 3) := by decide +kernel
theorem dX12_reckon_95 : decode cX12_reckon 95 = .ok (.iconst 0, 1) := by decide +kernel
theorem dX12_reckon_96 : decode cX12_reckon 96 = .ok (.ireturn, 1) := by decide +kernel
theorem dX12_comesTo_0 : decode cX12_comesTo 0 = .ok (.iconst 0, 1) := by decide +kernel
theorem dX12_comesTo_1 : decode cX12_comesTo 1 = .ok (.istore_n 3, 1) := by decide +kernel
theorem dX12_comesTo_2 : decode cX12_comesTo 2 = .ok (.sipush 260, 3) := by decide +kernel
theorem dX12_comesTo_5 : decode cX12_comesTo 5 = .ok (.iload_n 1, 1) := by decide +kernel
theorem dX12_comesTo_6 : decode cX12_comesTo 6 = .ok (.sipush 260, 3) := by decide +kernel
theorem dX12_comesTo_9 : decode cX12_comesTo 9 = .ok (.idiv, 1) := by decide +kernel
theorem dX12_comesTo_10 : decode cX12_comesTo 10 = .ok (.imul, 1) := by decide +kernel
theorem dX12_comesTo_11 : decode cX12_comesTo 11 = .ok (.istore 4, 2) := by decide +kernel
theorem dX12_comesTo_13 : decode cX12_comesTo 13 = .ok (.iload_n 1, 1) := by decide +kernel
theorem dX12_comesTo_14 : decode cX12_comesTo 14 = .ok (.istore 5, 2) := by decide +kernel
theorem dX12_comesTo_16 : decode cX12_comesTo 16 = .ok (.iload 5, 2) := by decide +kernel
theorem dX12_comesTo_18 : decode cX12_comesTo 18 = .ok (.iload_n 2, 1) := by decide +kernel
theorem dX12_comesTo_19 : decode cX12_comesTo 19 = .ok (.if_icmp .ge 214, 3) := by decide +kernel
theorem dX12_comesTo_22 : decode cX12_comesTo 22 = .ok (.aload_n 0, 1) := by decide +kernel
theorem dX12_comesTo_23 : decode cX12_comesTo 23 = .ok (.getfield 41, 3) := by decide +kernel
theorem dX12_comesTo_26 : decode cX12_comesTo 26 = .ok (.iload 5, 2) := by decide +kernel
theorem dX12_comesTo_28 : decode cX12_comesTo 28 = .ok (.iaload, 1) := by decide +kernel
theorem dX12_comesTo_29 : decode cX12_comesTo 29 = .ok (.ldc 147, 2) := by decide +kernel
theorem dX12_comesTo_31 : decode cX12_comesTo 31 = .ok (.idiv, 1) := by decide +kernel
theorem dX12_comesTo_32 : decode cX12_comesTo 32 = .ok (.istore 6, 2) := by decide +kernel
theorem dX12_comesTo_34 : decode cX12_comesTo 34 = .ok (.aload_n 0, 1) := by decide +kernel
theorem dX12_comesTo_35 : decode cX12_comesTo 35 = .ok (.getfield 41, 3) := by decide +kernel
theorem dX12_comesTo_38 : decode cX12_comesTo 38 = .ok (.iload 5, 2) := by decide +kernel
theorem dX12_comesTo_40 : decode cX12_comesTo 40 = .ok (.iaload, 1) := by decide +kernel
theorem dX12_comesTo_41 : decode cX12_comesTo 41 = .ok (.ldc 147, 2) := by decide +kernel
theorem dX12_comesTo_43 : decode cX12_comesTo 43 = .ok (.irem, 1) := by decide +kernel
theorem dX12_comesTo_44 : decode cX12_comesTo 44 = .ok (.istore 7, 2) := by decide +kernel
theorem dX12_comesTo_46 : decode cX12_comesTo 46 = .ok (.iload 5, 2) := by decide +kernel
theorem dX12_comesTo_48 : decode cX12_comesTo 48 = .ok (.iconst 1, 1) := by decide +kernel
theorem dX12_comesTo_49 : decode cX12_comesTo 49 = .ok (.iadd, 1) := by decide +kernel
theorem dX12_comesTo_50 : decode cX12_comesTo 50 = .ok (.istore 5, 2) := by decide +kernel
theorem dX12_comesTo_52 : decode cX12_comesTo 52 = .ok (.iload 6, 2) := by decide +kernel
theorem dX12_comesTo_54 : decode cX12_comesTo 54 = .ok (.ifCond .eq 9, 3) := by decide +kernel
theorem dX12_comesTo_57 : decode cX12_comesTo 57 = .ok (.iload 6, 2) := by decide +kernel
theorem dX12_comesTo_59 : decode cX12_comesTo 59 = .ok (.iconst 1, 1) := by decide +kernel
theorem dX12_comesTo_60 : decode cX12_comesTo 60 = .ok (.if_icmp .ne 33, 3) := by decide +kernel
theorem dX12_comesTo_63 : decode cX12_comesTo 63 = .ok (.aload_n 0, 1) := by decide +kernel
theorem dX12_comesTo_64 : decode cX12_comesTo 64 = .ok (.getfield 56, 3) := by decide +kernel
theorem dX12_comesTo_67 : decode cX12_comesTo 67 = .ok (.iload_n 3, 1) := by decide +kernel
theorem dX12_comesTo_68 : decode cX12_comesTo 68 = .ok (.iload 6, 2) := by decide +kernel
theorem dX12_comesTo_70 : decode cX12_comesTo 70 = .ok (.ifCond .ne 8, 3) := by decide +kernel
theorem dX12_comesTo_73 : decode cX12_comesTo 73 = .ok (.iload 7, 2) := by decide +kernel
theorem dX12_comesTo_75 : decode cX12_comesTo 75 = .ok (.goto 10, 3) := by decide +kernel
theorem dX12_comesTo_78 : decode cX12_comesTo 78 = .ok (.aload_n 0, 1) := by decide +kernel
theorem dX12_comesTo_79 : decode cX12_comesTo 79 = .ok (.getfield 59, 3) := by decide +kernel
theorem dX12_comesTo_82 : decode cX12_comesTo 82 = .ok (.iload 7, 2) := by decide +kernel
theorem dX12_comesTo_84 : decode cX12_comesTo 84 = .ok (.iaload, 1) := by decide +kernel
theorem dX12_comesTo_85 : decode cX12_comesTo 85 = .ok (.iastore, 1) := by decide +kernel
theorem dX12_comesTo_86 : decode cX12_comesTo 86 = .ok (.iload_n 3, 1) := by decide +kernel
theorem dX12_comesTo_87 : decode cX12_comesTo 87 = .ok (.iconst 1, 1) := by decide +kernel
theorem dX12_comesTo_88 : decode cX12_comesTo 88 = .ok (.iadd, 1) := by decide +kernel
theorem dX12_comesTo_89 : decode cX12_comesTo 89 = .ok (.istore_n 3, 1) := by decide +kernel
theorem dX12_comesTo_90 : decode cX12_comesTo 90 = .ok (.goto 140, 3) := by decide +kernel
theorem dX12_comesTo_93 : decode cX12_comesTo 93 = .ok (.iload 6, 2) := by decide +kernel
theorem dX12_comesTo_95 : decode cX12_comesTo 95 = .ok (.bipush 10, 2) := by decide +kernel
theorem dX12_comesTo_97 : decode cX12_comesTo 97 = .ok (.if_icmp .ne 24, 3) := by decide +kernel
theorem dX12_comesTo_100 : decode cX12_comesTo 100 = .ok (.aload_n 0, 1) := by decide +kernel
theorem dX12_comesTo_101 : decode cX12_comesTo 101 = .ok (.getfield 56, 3) := by decide +kernel
theorem dX12_comesTo_104 : decode cX12_comesTo 104 = .ok (.iload_n 3, 1) := by decide +kernel
theorem dX12_comesTo_105 : decode cX12_comesTo 105 = .ok (.iconst 1, 1) := by decide +kernel
theorem dX12_comesTo_106 : decode cX12_comesTo 106 = .ok (.isub, 1) := by decide +kernel
theorem dX12_comesTo_107 : decode cX12_comesTo 107 = .ok (.iconst 1, 1) := by decide +kernel
theorem dX12_comesTo_108 : decode cX12_comesTo 108 = .ok (.aload_n 0, 1) := by decide +kernel
theorem dX12_comesTo_109 : decode cX12_comesTo 109 = .ok (.getfield 56, 3) := by decide +kernel
theorem dX12_comesTo_112 : decode cX12_comesTo 112 = .ok (.iload_n 3, 1) := by decide +kernel
theorem dX12_comesTo_113 : decode cX12_comesTo 113 = .ok (.iconst 1, 1) := by decide +kernel
theorem dX12_comesTo_114 : decode cX12_comesTo 114 = .ok (.isub, 1) := by decide +kernel
theorem dX12_comesTo_115 : decode cX12_comesTo 115 = .ok (.iaload, 1) := by decide +kernel
theorem dX12_comesTo_116 : decode cX12_comesTo 116 = .ok (.isub, 1) := by decide +kernel
theorem dX12_comesTo_117 : decode cX12_comesTo 117 = .ok (.iastore, 1) := by decide +kernel
theorem dX12_comesTo_118 : decode cX12_comesTo 118 = .ok (.goto 112, 3) := by decide +kernel
theorem dX12_comesTo_121 : decode cX12_comesTo 121 = .ok (.iload 6, 2) := by decide +kernel
theorem dX12_comesTo_123 : decode cX12_comesTo 123 = .ok (.bipush 11, 2) := by decide +kernel
theorem dX12_comesTo_125 : decode cX12_comesTo 125 = .ok (.if_icmp .eq 10, 3) := by decide +kernel
theorem dX12_comesTo_128 : decode cX12_comesTo 128 = .ok (.iload 6, 2) := by decide +kernel
theorem dX12_comesTo_130 : decode cX12_comesTo 130 = .ok (.bipush 12, 2) := by decide +kernel
theorem dX12_comesTo_132 : decode cX12_comesTo 132 = .ok (.if_icmp .ne 43, 3) := by decide +kernel
theorem dX12_comesTo_135 : decode cX12_comesTo 135 = .ok (.aload_n 0, 1) := by decide +kernel
theorem dX12_comesTo_136 : decode cX12_comesTo 136 = .ok (.getfield 56, 3) := by decide +kernel
theorem dX12_comesTo_139 : decode cX12_comesTo 139 = .ok (.iload_n 3, 1) := by decide +kernel
theorem dX12_comesTo_140 : decode cX12_comesTo 140 = .ok (.iconst 1, 1) := by decide +kernel
theorem dX12_comesTo_141 : decode cX12_comesTo 141 = .ok (.isub, 1) := by decide +kernel
theorem dX12_comesTo_142 : decode cX12_comesTo 142 = .ok (.iaload, 1) := by decide +kernel
theorem dX12_comesTo_143 : decode cX12_comesTo 143 = .ok (.iload 6, 2) := by decide +kernel
theorem dX12_comesTo_145 : decode cX12_comesTo 145 = .ok (.bipush 12, 2) := by decide +kernel
theorem dX12_comesTo_147 : decode cX12_comesTo 147 = .ok (.if_icmp .ne 7, 3) := by decide +kernel
theorem dX12_comesTo_150 : decode cX12_comesTo 150 = .ok (.iconst 1, 1) := by decide +kernel
theorem dX12_comesTo_151 : decode cX12_comesTo 151 = .ok (.goto 4, 3) := by decide +kernel
theorem dX12_comesTo_154 : decode cX12_comesTo 154 = .ok (.iconst 0, 1) := by decide +kernel
theorem dX12_comesTo_155 : decode cX12_comesTo 155 = .ok (.if_icmp .ne 13, 3) := by decide +kernel
theorem dX12_comesTo_158 : decode cX12_comesTo 158 = .ok (.iload 4, 2) := by decide +kernel
theorem dX12_comesTo_160 : decode cX12_comesTo 160 = .ok (.iload 7, 2) := by decide +kernel
theorem dX12_comesTo_162 : decode cX12_comesTo 162 = .ok (.iadd, 1) := by decide +kernel
theorem dX12_comesTo_163 : decode cX12_comesTo 163 = .ok (.istore 5, 2) := by decide +kernel
theorem dX12_comesTo_165 : decode cX12_comesTo 165 = .ok (.goto 65, 3) := by decide +kernel
theorem dX12_comesTo_168 : decode cX12_comesTo 168 = .ok (.iload_n 3, 1) := by decide +kernel
theorem dX12_comesTo_169 : decode cX12_comesTo 169 = .ok (.iconst 1, 1) := by decide +kernel
theorem dX12_comesTo_170 : decode cX12_comesTo 170 = .ok (.isub, 1) := by decide +kernel
theorem dX12_comesTo_171 : decode cX12_comesTo 171 = .ok (.istore_n 3, 1) := by decide +kernel
theorem dX12_comesTo_172 : decode cX12_comesTo 172 = .ok (.goto 58, 3) := by decide +kernel
theorem dX12_comesTo_175 : decode cX12_comesTo 175 = .ok (.iload_n 3, 1) := by decide +kernel
theorem dX12_comesTo_176 : decode cX12_comesTo 176 = .ok (.iconst 1, 1) := by decide +kernel
theorem dX12_comesTo_177 : decode cX12_comesTo 177 = .ok (.isub, 1) := by decide +kernel
theorem dX12_comesTo_178 : decode cX12_comesTo 178 = .ok (.istore_n 3, 1) := by decide +kernel
theorem dX12_comesTo_179 : decode cX12_comesTo 179 = .ok (.iload 6, 2) := by decide +kernel
theorem dX12_comesTo_181 : decode cX12_comesTo 181 = .ok (.iconst 5, 1) := by decide +kernel
theorem dX12_comesTo_182 : decode cX12_comesTo 182 = .ok (.if_icmp .eq 10, 3) := by decide +kernel
theorem dX12_comesTo_185 : decode cX12_comesTo 185 = .ok (.iload 6, 2) := by decide +kernel
theorem dX12_comesTo_187 : decode cX12_comesTo 187 = .ok (.bipush 6, 2) := by decide +kernel
theorem dX12_comesTo_189 : decode cX12_comesTo 189 = .ok (.if_icmp .ne 14, 3) := by decide +kernel
theorem dX12_comesTo_192 : decode cX12_comesTo 192 = .ok (.aload_n 0, 1) := by decide +kernel
theorem dX12_comesTo_193 : decode cX12_comesTo 193 = .ok (.getfield 56, 3) := by decide +kernel
theorem dX12_comesTo_196 : decode cX12_comesTo 196 = .ok (.iload_n 3, 1) := by decide +kernel
theorem dX12_comesTo_197 : decode cX12_comesTo 197 = .ok (.iaload, 1) := by decide +kernel
theorem dX12_comesTo_198 : decode cX12_comesTo 198 = .ok (.ifCond .ne 5, 3) := by decide +kernel
theorem dX12_comesTo_201 : decode cX12_comesTo 201 = .ok (.iconst 0, 1) := by decide +kernel
theorem dX12_comesTo_202 : decode cX12_comesTo 202 = .ok (.ireturn, 1) := by decide +kernel
theorem dX12_comesTo_203 : decode cX12_comesTo 203 = .ok (.aload_n 0, 1) := by decide +kernel
theorem dX12_comesTo_204 : decode cX12_comesTo 204 = .ok (.getfield 56, 3) := by decide +kernel
theorem dX12_comesTo_207 : decode cX12_comesTo 207 = .ok (.iload_n 3, 1) := by decide +kernel
theorem dX12_comesTo_208 : decode cX12_comesTo 208 = .ok (.iconst 1, 1) := by decide +kernel
theorem dX12_comesTo_209 : decode cX12_comesTo 209 = .ok (.isub, 1) := by decide +kernel
theorem dX12_comesTo_210 : decode cX12_comesTo 210 = .ok (.iload 6, 2) := by decide +kernel
theorem dX12_comesTo_212 : decode cX12_comesTo 212 = .ok (.aload_n 0, 1) := by decide +kernel
theorem dX12_comesTo_213 : decode cX12_comesTo 213 = .ok (.getfield 56, 3) := by decide +kernel
theorem dX12_comesTo_216 : decode cX12_comesTo 216 = .ok (.iload_n 3, 1) := by decide +kernel
theorem dX12_comesTo_217 : decode cX12_comesTo 217 = .ok (.iconst 1, 1) := by decide +kernel
theorem dX12_comesTo_218 : decode cX12_comesTo 218 = .ok (.isub, 1) := by decide +kernel
theorem dX12_comesTo_219 : decode cX12_comesTo 219 = .ok (.iaload, 1) := by decide +kernel
theorem dX12_comesTo_220 : decode cX12_comesTo 220 = .ok (.aload_n 0, 1) := by decide +kernel
theorem dX12_comesTo_221 : decode cX12_comesTo 221 = .ok (.getfield 56, 3) := by decide +kernel
theorem dX12_comesTo_224 : decode cX12_comesTo 224 = .ok (.iload_n 3, 1) := by decide +kernel
theorem dX12_comesTo_225 : decode cX12_comesTo 225 = .ok (.iaload, 1) := by decide +kernel
theorem dX12_comesTo_226 : decode cX12_comesTo 226 = .ok (.invokestatic 216, 3) := by decide +kernel
theorem dX12_comesTo_229 : decode cX12_comesTo 229 = .ok (.iastore, 1) := by decide +kernel
theorem dX12_comesTo_230 : decode cX12_comesTo 230 = .ok (.goto (-214), 3) := by decide +kernel
theorem dX12_comesTo_233 : decode cX12_comesTo 233 = .ok (.aload_n 0, 1) := by decide +kernel
theorem dX12_comesTo_234 : decode cX12_comesTo 234 = .ok (.getfield 56, 3) := by decide +kernel
theorem dX12_comesTo_237 : decode cX12_comesTo 237 = .ok (.iconst 0, 1) := by decide +kernel
theorem dX12_comesTo_238 : decode cX12_comesTo 238 = .ok (.iaload, 1) := by decide +kernel
theorem dX12_comesTo_239 : decode cX12_comesTo 239 = .ok (.ireturn, 1) := by decide +kernel
theorem dX12_byLaw_0 : decode cX12_byLaw 0 = .ok (.iconst 0, 1) := by decide +kernel
theorem dX12_byLaw_1 : decode cX12_byLaw 1 = .ok (.istore_n 3, 1) := by decide +kernel
theorem dX12_byLaw_2 : decode cX12_byLaw 2 = .ok (.iload_n 3, 1) := by decide +kernel
theorem dX12_byLaw_3 : decode cX12_byLaw 3 = .ok (.aload_n 0, 1) := by decide +kernel
theorem dX12_byLaw_4 : decode cX12_byLaw 4 = .ok (.getfield 213, 3) := by decide +kernel
theorem dX12_byLaw_7 : decode cX12_byLaw 7 = .ok (.if_icmp .ge 82, 3) := by decide +kernel
theorem dX12_byLaw_10 : decode cX12_byLaw 10 = .ok (.aload_n 0, 1) := by decide +kernel
theorem dX12_byLaw_11 : decode cX12_byLaw 11 = .ok (.getfield 44, 3) := by decide +kernel
theorem dX12_byLaw_14 : decode cX12_byLaw 14 = .ok (.iload_n 3, 1) := by decide +kernel
theorem dX12_byLaw_15 : decode cX12_byLaw 15 = .ok (.iaload, 1) := by decide +kernel
theorem dX12_byLaw_16 : decode cX12_byLaw 16 = .ok (.iload_n 1, 1) := by decide +kernel
theorem dX12_byLaw_17 : decode cX12_byLaw 17 = .ok (.if_icmp .ne 66, 3) := by decide +kernel
theorem dX12_byLaw_20 : decode cX12_byLaw 20 = .ok (.aload_n 0, 1) := by decide +kernel
theorem dX12_byLaw_21 : decode cX12_byLaw 21 = .ok (.aload_n 0, 1) := by decide +kernel
theorem dX12_byLaw_22 : decode cX12_byLaw 22 = .ok (.getfield 50, 3) := by decide +kernel
theorem dX12_byLaw_25 : decode cX12_byLaw 25 = .ok (.iload_n 3, 1) := by decide +kernel
theorem dX12_byLaw_26 : decode cX12_byLaw 26 = .ok (.iaload, 1) := by decide +kernel
theorem dX12_byLaw_27 : decode cX12_byLaw 27 = .ok (.aload_n 0, 1) := by decide +kernel
theorem dX12_byLaw_28 : decode cX12_byLaw 28 = .ok (.getfield 53, 3) := by decide +kernel
theorem dX12_byLaw_31 : decode cX12_byLaw 31 = .ok (.iload_n 3, 1) := by decide +kernel
theorem dX12_byLaw_32 : decode cX12_byLaw 32 = .ok (.iaload, 1) := by decide +kernel
theorem dX12_byLaw_33 : decode cX12_byLaw 33 = .ok (.invokevirtual 220, 3) := by decide +kernel
theorem dX12_byLaw_36 : decode cX12_byLaw 36 = .ok (.iconst 1, 1) := by decide +kernel
theorem dX12_byLaw_37 : decode cX12_byLaw 37 = .ok (.if_icmp .eq 6, 3) := by decide +kernel
theorem dX12_byLaw_40 : decode cX12_byLaw 40 = .ok (.goto 43, 3) := by decide +kernel
theorem dX12_byLaw_43 : decode cX12_byLaw 43 = .ok (.aload_n 0, 1) := by decide +kernel
theorem dX12_byLaw_44 : decode cX12_byLaw 44 = .ok (.aload_n 0, 1) := by decide +kernel
theorem dX12_byLaw_45 : decode cX12_byLaw 45 = .ok (.getfield 47, 3) := by decide +kernel
theorem dX12_byLaw_48 : decode cX12_byLaw 48 = .ok (.iload_n 3, 1) := by decide +kernel
theorem dX12_byLaw_49 : decode cX12_byLaw 49 = .ok (.iaload, 1) := by decide +kernel
theorem dX12_byLaw_50 : decode cX12_byLaw 50 = .ok (.aload_n 0, 1) := by decide +kernel
theorem dX12_byLaw_51 : decode cX12_byLaw 51 = .ok (.getfield 50, 3) := by decide +kernel
theorem dX12_byLaw_54 : decode cX12_byLaw 54 = .ok (.iload_n 3, 1) := by decide +kernel
theorem dX12_byLaw_55 : decode cX12_byLaw 55 = .ok (.iaload, 1) := by decide +kernel
theorem dX12_byLaw_56 : decode cX12_byLaw 56 = .ok (.invokevirtual 220, 3) := by decide +kernel
theorem dX12_byLaw_59 : decode cX12_byLaw 59 = .ok (.istore 4, 2) := by decide +kernel
theorem dX12_byLaw_61 : decode cX12_byLaw 61 = .ok (.iload 4, 2) := by decide +kernel
theorem dX12_byLaw_63 : decode cX12_byLaw 63 = .ok (.ifCond .ge 7, 3) := by decide +kernel
theorem dX12_byLaw_66 : decode cX12_byLaw 66 = .ok (.iconst 0, 1) := by decide +kernel
theorem dX12_byLaw_67 : decode cX12_byLaw 67 = .ok (.goto 15, 3) := by decide +kernel
theorem dX12_byLaw_70 : decode cX12_byLaw 70 = .ok (.iload 4, 2) := by decide +kernel
theorem dX12_byLaw_72 : decode cX12_byLaw 72 = .ok (.iload_n 2, 1) := by decide +kernel
theorem dX12_byLaw_73 : decode cX12_byLaw 73 = .ok (.if_icmp .le 7, 3) := by decide +kernel
theorem dX12_byLaw_76 : decode cX12_byLaw 76 = .ok (.iload_n 2, 1) := by decide +kernel
theorem dX12_byLaw_77 : decode cX12_byLaw 77 = .ok (.goto 5, 3) := by decide +kernel
theorem dX12_byLaw_80 : decode cX12_byLaw 80 = .ok (.iload 4, 2) := by decide +kernel
theorem dX12_byLaw_82 : decode cX12_byLaw 82 = .ok (.ireturn, 1) := by decide +kernel
theorem dX12_byLaw_83 : decode cX12_byLaw 83 = .ok (.iinc 3 1, 3) := by decide +kernel
theorem dX12_byLaw_86 : decode cX12_byLaw 86 = .ok (.goto (-84), 3) := by decide +kernel
theorem dX12_byLaw_89 : decode cX12_byLaw 89 = .ok (.iconst 0, 1) := by decide +kernel
theorem dX12_byLaw_90 : decode cX12_byLaw 90 = .ok (.ireturn, 1) := by decide +kernel
theorem dX12_holdsAny_0 : decode cX12_holdsAny 0 = .ok (.iconst 0, 1) := by decide +kernel
theorem dX12_holdsAny_1 : decode cX12_holdsAny 1 = .ok (.istore_n 2, 1) := by decide +kernel
theorem dX12_holdsAny_2 : decode cX12_holdsAny 2 = .ok (.iload_n 2, 1) := by decide +kernel
theorem dX12_holdsAny_3 : decode cX12_holdsAny 3 = .ok (.aload_n 0, 1) := by decide +kernel
theorem dX12_holdsAny_4 : decode cX12_holdsAny 4 = .ok (.getfield 213, 3) := by decide +kernel
theorem dX12_holdsAny_7 : decode cX12_holdsAny 7 = .ok (.if_icmp .ge 41, 3) := by decide +kernel
theorem dX12_holdsAny_10 : decode cX12_holdsAny 10 = .ok (.aload_n 0, 1) := by decide +kernel
theorem dX12_holdsAny_11 : decode cX12_holdsAny 11 = .ok (.getfield 44, 3) := by decide +kernel
theorem dX12_holdsAny_14 : decode cX12_holdsAny 14 = .ok (.iload_n 2, 1) := by decide +kernel
theorem dX12_holdsAny_15 : decode cX12_holdsAny 15 = .ok (.iaload, 1) := by decide +kernel
theorem dX12_holdsAny_16 : decode cX12_holdsAny 16 = .ok (.iload_n 1, 1) := by decide +kernel
theorem dX12_holdsAny_17 : decode cX12_holdsAny 17 = .ok (.if_icmp .ne 25, 3) := by decide +kernel
theorem dX12_holdsAny_20 : decode cX12_holdsAny 20 = .ok (.aload_n 0, 1) := by decide +kernel
theorem dX12_holdsAny_21 : decode cX12_holdsAny 21 = .ok (.aload_n 0, 1) := by decide +kernel
theorem dX12_holdsAny_22 : decode cX12_holdsAny 22 = .ok (.getfield 50, 3) := by decide +kernel
theorem dX12_holdsAny_25 : decode cX12_holdsAny 25 = .ok (.iload_n 2, 1) := by decide +kernel
theorem dX12_holdsAny_26 : decode cX12_holdsAny 26 = .ok (.iaload, 1) := by decide +kernel
theorem dX12_holdsAny_27 : decode cX12_holdsAny 27 = .ok (.aload_n 0, 1) := by decide +kernel
theorem dX12_holdsAny_28 : decode cX12_holdsAny 28 = .ok (.getfield 53, 3) := by decide +kernel
theorem dX12_holdsAny_31 : decode cX12_holdsAny 31 = .ok (.iload_n 2, 1) := by decide +kernel
theorem dX12_holdsAny_32 : decode cX12_holdsAny 32 = .ok (.iaload, 1) := by decide +kernel
theorem dX12_holdsAny_33 : decode cX12_holdsAny 33 = .ok (.invokevirtual 220, 3) := by decide +kernel
theorem dX12_holdsAny_36 : decode cX12_holdsAny 36 = .ok (.iconst 1, 1) := by decide +kernel
theorem dX12_holdsAny_37 : decode cX12_holdsAny 37 = .ok (.if_icmp .ne 5, 3) := by decide +kernel
theorem dX12_holdsAny_40 : decode cX12_holdsAny 40 = .ok (.iconst 1, 1) := by decide +kernel
theorem dX12_holdsAny_41 : decode cX12_holdsAny 41 = .ok (.ireturn, 1) := by decide +kernel
theorem dX12_holdsAny_42 : decode cX12_holdsAny 42 = .ok (.iinc 2 1, 3) := by decide +kernel
theorem dX12_holdsAny_45 : decode cX12_holdsAny 45 = .ok (.goto (-43), 3) := by decide +kernel
theorem dX12_holdsAny_48 : decode cX12_holdsAny 48 = .ok (.iconst 0, 1) := by decide +kernel
theorem dX12_holdsAny_49 : decode cX12_holdsAny 49 = .ok (.ireturn, 1) := by decide +kernel
theorem dX12_feelsGuest_0 : decode cX12_feelsGuest 0 = .ok (.aload_n 0, 1) := by decide +kernel
theorem dX12_feelsGuest_1 : decode cX12_feelsGuest 1 = .ok (.getfield 59, 3) := by decide +kernel
theorem dX12_feelsGuest_4 : decode cX12_feelsGuest 4 = .ok (.iconst 0, 1) := by decide +kernel
theorem dX12_feelsGuest_5 : decode cX12_feelsGuest 5 = .ok (.iload_n 1, 1) := by decide +kernel
theorem dX12_feelsGuest_6 : decode cX12_feelsGuest 6 = .ok (.invokestatic 223, 3) := by decide +kernel
theorem dX12_feelsGuest_9 : decode cX12_feelsGuest 9 = .ok (.iastore, 1) := by decide +kernel
theorem dX12_feelsGuest_10 : decode cX12_feelsGuest 10 = .ok (.aload_n 0, 1) := by decide +kernel
theorem dX12_feelsGuest_11 : decode cX12_feelsGuest 11 = .ok (.getfield 59, 3) := by decide +kernel
theorem dX12_feelsGuest_14 : decode cX12_feelsGuest 14 = .ok (.iconst 1, 1) := by decide +kernel
theorem dX12_feelsGuest_15 : decode cX12_feelsGuest 15 = .ok (.iload_n 1, 1) := by decide +kernel
theorem dX12_feelsGuest_16 : decode cX12_feelsGuest 16 = .ok (.invokestatic 101, 3) := by decide +kernel
theorem dX12_feelsGuest_19 : decode cX12_feelsGuest 19 = .ok (.iastore, 1) := by decide +kernel
theorem dX12_feelsGuest_20 : decode cX12_feelsGuest 20 = .ok (.aload_n 0, 1) := by decide +kernel
theorem dX12_feelsGuest_21 : decode cX12_feelsGuest 21 = .ok (.getfield 59, 3) := by decide +kernel
theorem dX12_feelsGuest_24 : decode cX12_feelsGuest 24 = .ok (.iconst 2, 1) := by decide +kernel
theorem dX12_feelsGuest_25 : decode cX12_feelsGuest 25 = .ok (.iload_n 1, 1) := by decide +kernel
theorem dX12_feelsGuest_26 : decode cX12_feelsGuest 26 = .ok (.invokestatic 226, 3) := by decide +kernel
theorem dX12_feelsGuest_29 : decode cX12_feelsGuest 29 = .ok (.iastore, 1) := by decide +kernel
theorem dX12_feelsGuest_30 : decode cX12_feelsGuest 30 = .ok (.aload_n 0, 1) := by decide +kernel
theorem dX12_feelsGuest_31 : decode cX12_feelsGuest 31 = .ok (.getfield 59, 3) := by decide +kernel
theorem dX12_feelsGuest_34 : decode cX12_feelsGuest 34 = .ok (.iconst 3, 1) := by decide +kernel
theorem dX12_feelsGuest_35 : decode cX12_feelsGuest 35 = .ok (.iload_n 1, 1) := by decide +kernel
theorem dX12_feelsGuest_36 : decode cX12_feelsGuest 36 = .ok (.invokestatic 229, 3) := by decide +kernel
theorem dX12_feelsGuest_39 : decode cX12_feelsGuest 39 = .ok (.iastore, 1) := by decide +kernel
theorem dX12_feelsGuest_40 : decode cX12_feelsGuest 40 = .ok (.aload_n 0, 1) := by decide +kernel
theorem dX12_feelsGuest_41 : decode cX12_feelsGuest 41 = .ok (.getfield 59, 3) := by decide +kernel
theorem dX12_feelsGuest_44 : decode cX12_feelsGuest 44 = .ok (.iconst 4, 1) := by decide +kernel
theorem dX12_feelsGuest_45 : decode cX12_feelsGuest 45 = .ok (.iload_n 1, 1) := by decide +kernel
theorem dX12_feelsGuest_46 : decode cX12_feelsGuest 46 = .ok (.invokestatic 232, 3) := by decide +kernel
theorem dX12_feelsGuest_49 : decode cX12_feelsGuest 49 = .ok (.iastore, 1) := by decide +kernel
theorem dX12_feelsGuest_50 : decode cX12_feelsGuest 50 = .ok (.iconst 5, 1) := by decide +kernel
theorem dX12_feelsGuest_51 : decode cX12_feelsGuest 51 = .ok (.istore_n 2, 1) := by decide +kernel
theorem dX12_feelsGuest_52 : decode cX12_feelsGuest 52 = .ok (.iload_n 2, 1) := by decide +kernel
theorem dX12_feelsGuest_53 : decode cX12_feelsGuest 53 = .ok (.bipush 10, 2) := by decide +kernel
theorem dX12_feelsGuest_55 : decode cX12_feelsGuest 55 = .ok (.if_icmp .ge 16, 3) := by decide +kernel
theorem dX12_feelsGuest_58 : decode cX12_feelsGuest 58 = .ok (.aload_n 0, 1) := by decide +kernel
theorem dX12_feelsGuest_59 : decode cX12_feelsGuest 59 = .ok (.getfield 59, 3) := by decide +kernel
theorem dX12_feelsGuest_62 : decode cX12_feelsGuest 62 = .ok (.iload_n 2, 1) := by decide +kernel
theorem dX12_feelsGuest_63 : decode cX12_feelsGuest 63 = .ok (.iconst 0, 1) := by decide +kernel
theorem dX12_feelsGuest_64 : decode cX12_feelsGuest 64 = .ok (.iastore, 1) := by decide +kernel
theorem dX12_feelsGuest_65 : decode cX12_feelsGuest 65 = .ok (.iinc 2 1, 3) := by decide +kernel
theorem dX12_feelsGuest_68 : decode cX12_feelsGuest 68 = .ok (.goto (-16), 3) := by decide +kernel
theorem dX12_feelsGuest_71 : decode cX12_feelsGuest 71 = .ok (.aload_n 0, 1) := by decide +kernel
theorem dX12_feelsGuest_72 : decode cX12_feelsGuest 72 = .ok (.getfield 59, 3) := by decide +kernel
theorem dX12_feelsGuest_75 : decode cX12_feelsGuest 75 = .ok (.bipush 10, 2) := by decide +kernel
theorem dX12_feelsGuest_77 : decode cX12_feelsGuest 77 = .ok (.aload_n 0, 1) := by decide +kernel
theorem dX12_feelsGuest_78 : decode cX12_feelsGuest 78 = .ok (.iconst 0, 1) := by decide +kernel
theorem dX12_feelsGuest_79 : decode cX12_feelsGuest 79 = .ok (.invokevirtual 235, 3) := by decide +kernel
theorem dX12_feelsGuest_82 : decode cX12_feelsGuest 82 = .ok (.aload_n 0, 1) := by decide +kernel
theorem dX12_feelsGuest_83 : decode cX12_feelsGuest 83 = .ok (.iconst 1, 1) := by decide +kernel
theorem dX12_feelsGuest_84 : decode cX12_feelsGuest 84 = .ok (.invokevirtual 235, 3) := by decide +kernel
theorem dX12_feelsGuest_87 : decode cX12_feelsGuest 87 = .ok (.isub, 1) := by decide +kernel
theorem dX12_feelsGuest_88 : decode cX12_feelsGuest 88 = .ok (.iastore, 1) := by decide +kernel
theorem dX12_feelsGuest_89 : decode cX12_feelsGuest 89 = .ok (.aload_n 0, 1) := by decide +kernel
theorem dX12_feelsGuest_90 : decode cX12_feelsGuest 90 = .ok (.getfield 59, 3) := by decide +kernel
theorem dX12_feelsGuest_93 : decode cX12_feelsGuest 93 = .ok (.bipush 11, 2) := by decide +kernel
theorem dX12_feelsGuest_95 : decode cX12_feelsGuest 95 = .ok (.aload_n 0, 1) := by decide +kernel
theorem dX12_feelsGuest_96 : decode cX12_feelsGuest 96 = .ok (.getfield 7, 3) := by decide +kernel
theorem dX12_feelsGuest_99 : decode cX12_feelsGuest 99 = .ok (.sipush 633, 3) := by decide +kernel
theorem dX12_feelsGuest_102 : decode cX12_feelsGuest 102 = .ok (.iaload, 1) := by decide +kernel
theorem dX12_feelsGuest_103 : decode cX12_feelsGuest 103 = .ok (.sipush 1000, 3) := by decide +kernel
theorem dX12_feelsGuest_106 : decode cX12_feelsGuest 106 = .ok (.irem, 1) := by decide +kernel
theorem dX12_feelsGuest_107 : decode cX12_feelsGuest 107 = .ok (.iastore, 1) := by decide +kernel
theorem dX12_feelsGuest_108 : decode cX12_feelsGuest 108 = .ok (.return_, 1) := by decide +kernel
theorem dX12_coatsIn_0 : decode cX12_coatsIn 0 = .ok (.iconst 0, 1) := by decide +kernel
theorem dX12_coatsIn_1 : decode cX12_coatsIn 1 = .ok (.istore_n 3, 1) := by decide +kernel
theorem dX12_coatsIn_2 : decode cX12_coatsIn 2 = .ok (.bipush 9, 2) := by decide +kernel
theorem dX12_coatsIn_4 : decode cX12_coatsIn 4 = .ok (.iload_n 1, 1) := by decide +kernel
theorem dX12_coatsIn_5 : decode cX12_coatsIn 5 = .ok (.imul, 1) := by decide +kernel
theorem dX12_coatsIn_6 : decode cX12_coatsIn 6 = .ok (.istore 4, 2) := by decide +kernel
theorem dX12_coatsIn_8 : decode cX12_coatsIn 8 = .ok (.iload 4, 2) := by decide +kernel
theorem dX12_coatsIn_10 : decode cX12_coatsIn 10 = .ok (.bipush 9, 2) := by decide +kernel
theorem dX12_coatsIn_12 : decode cX12_coatsIn 12 = .ok (.iload_n 1, 1) := by decide +kernel
theorem dX12_coatsIn_13 : decode cX12_coatsIn 13 = .ok (.imul, 1) := by decide +kernel
theorem dX12_coatsIn_14 : decode cX12_coatsIn 14 = .ok (.bipush 9, 2) := by decide +kernel
theorem dX12_coatsIn_16 : decode cX12_coatsIn 16 = .ok (.iadd, 1) := by decide +kernel
theorem dX12_coatsIn_17 : decode cX12_coatsIn 17 = .ok (.if_icmp .ge 37, 3) := by decide +kernel
theorem dX12_coatsIn_20 : decode cX12_coatsIn 20 = .ok (.aload_n 0, 1) := by decide +kernel
theorem dX12_coatsIn_21 : decode cX12_coatsIn 21 = .ok (.iload 4, 2) := by decide +kernel
theorem dX12_coatsIn_23 : decode cX12_coatsIn 23 = .ok (.invokevirtual 93, 3) := by decide +kernel
theorem dX12_coatsIn_26 : decode cX12_coatsIn 26 = .ok (.ifCond .ne 22, 3) := by decide +kernel
theorem dX12_coatsIn_29 : decode cX12_coatsIn 29 = .ok (.aload_n 0, 1) := by decide +kernel
theorem dX12_coatsIn_30 : decode cX12_coatsIn 30 = .ok (.getfield 7, 3) := by decide +kernel
theorem dX12_coatsIn_33 : decode cX12_coatsIn 33 = .ok (.sipush 288, 3) := by decide +kernel
theorem dX12_coatsIn_36 : decode cX12_coatsIn 36 = .ok (.iload 4, 2) := by decide +kernel
theorem dX12_coatsIn_38 : decode cX12_coatsIn 38 = .ok (.iadd, 1) := by decide +kernel
theorem dX12_coatsIn_39 : decode cX12_coatsIn 39 = .ok (.iaload, 1) := by decide +kernel
theorem dX12_coatsIn_40 : decode cX12_coatsIn 40 = .ok (.iload_n 2, 1) := by decide +kernel
theorem dX12_coatsIn_41 : decode cX12_coatsIn 41 = .ok (.if_icmp .ne 7, 3) := by decide +kernel
theorem dX12_coatsIn_44 : decode cX12_coatsIn 44 = .ok (.iload_n 3, 1) := by decide +kernel
theorem dX12_coatsIn_45 : decode cX12_coatsIn 45 = .ok (.iconst 1, 1) := by decide +kernel
theorem dX12_coatsIn_46 : decode cX12_coatsIn 46 = .ok (.iadd, 1) := by decide +kernel
theorem dX12_coatsIn_47 : decode cX12_coatsIn 47 = .ok (.istore_n 3, 1) := by decide +kernel
theorem dX12_coatsIn_48 : decode cX12_coatsIn 48 = .ok (.iinc 4 1, 3) := by decide +kernel
theorem dX12_coatsIn_51 : decode cX12_coatsIn 51 = .ok (.goto (-43), 3) := by decide +kernel
theorem dX12_coatsIn_54 : decode cX12_coatsIn 54 = .ok (.iload_n 3, 1) := by decide +kernel
theorem dX12_coatsIn_55 : decode cX12_coatsIn 55 = .ok (.ireturn, 1) := by decide +kernel
theorem dX12_feelsPew_0 : decode cX12_feelsPew 0 = .ok (.aload_n 0, 1) := by decide +kernel
theorem dX12_feelsPew_1 : decode cX12_feelsPew 1 = .ok (.getfield 59, 3) := by decide +kernel
theorem dX12_feelsPew_4 : decode cX12_feelsPew 4 = .ok (.iconst 5, 1) := by decide +kernel
theorem dX12_feelsPew_5 : decode cX12_feelsPew 5 = .ok (.iload_n 2, 1) := by decide +kernel
theorem dX12_feelsPew_6 : decode cX12_feelsPew 6 = .ok (.bipush 8, 2) := by decide +kernel
theorem dX12_feelsPew_8 : decode cX12_feelsPew 8 = .ok (.idiv, 1) := by decide +kernel
theorem dX12_feelsPew_9 : decode cX12_feelsPew 9 = .ok (.iastore, 1) := by decide +kernel
theorem dX12_feelsPew_10 : decode cX12_feelsPew 10 = .ok (.aload_n 0, 1) := by decide +kernel
theorem dX12_feelsPew_11 : decode cX12_feelsPew 11 = .ok (.getfield 59, 3) := by decide +kernel
theorem dX12_feelsPew_14 : decode cX12_feelsPew 14 = .ok (.bipush 6, 2) := by decide +kernel
theorem dX12_feelsPew_16 : decode cX12_feelsPew 16 = .ok (.iload_n 2, 1) := by decide +kernel
theorem dX12_feelsPew_17 : decode cX12_feelsPew 17 = .ok (.bipush 8, 2) := by decide +kernel
theorem dX12_feelsPew_19 : decode cX12_feelsPew 19 = .ok (.irem, 1) := by decide +kernel
theorem dX12_feelsPew_20 : decode cX12_feelsPew 20 = .ok (.iastore, 1) := by decide +kernel
theorem dX12_feelsPew_21 : decode cX12_feelsPew 21 = .ok (.aload_n 0, 1) := by decide +kernel
theorem dX12_feelsPew_22 : decode cX12_feelsPew 22 = .ok (.getfield 59, 3) := by decide +kernel
theorem dX12_feelsPew_25 : decode cX12_feelsPew 25 = .ok (.bipush 7, 2) := by decide +kernel
theorem dX12_feelsPew_27 : decode cX12_feelsPew 27 = .ok (.aload_n 0, 1) := by decide +kernel
theorem dX12_feelsPew_28 : decode cX12_feelsPew 28 = .ok (.iload_n 2, 1) := by decide +kernel
theorem dX12_feelsPew_29 : decode cX12_feelsPew 29 = .ok (.invokevirtual 97, 3) := by decide +kernel
theorem dX12_feelsPew_32 : decode cX12_feelsPew 32 = .ok (.iastore, 1) := by decide +kernel
theorem dX12_feelsPew_33 : decode cX12_feelsPew 33 = .ok (.aload_n 0, 1) := by decide +kernel
theorem dX12_feelsPew_34 : decode cX12_feelsPew 34 = .ok (.getfield 59, 3) := by decide +kernel
theorem dX12_feelsPew_37 : decode cX12_feelsPew 37 = .ok (.bipush 8, 2) := by decide +kernel
theorem dX12_feelsPew_39 : decode cX12_feelsPew 39 = .ok (.aload_n 0, 1) := by decide +kernel
theorem dX12_feelsPew_40 : decode cX12_feelsPew 40 = .ok (.iload_n 2, 1) := by decide +kernel
theorem dX12_feelsPew_41 : decode cX12_feelsPew 41 = .ok (.iload_n 1, 1) := by decide +kernel
theorem dX12_feelsPew_42 : decode cX12_feelsPew 42 = .ok (.invokestatic 101, 3) := by decide +kernel
theorem dX12_feelsPew_45 : decode cX12_feelsPew 45 = .ok (.invokevirtual 104, 3) := by decide +kernel
theorem dX12_feelsPew_48 : decode cX12_feelsPew 48 = .ok (.iastore, 1) := by decide +kernel
theorem dX12_feelsPew_49 : decode cX12_feelsPew 49 = .ok (.aload_n 0, 1) := by decide +kernel
theorem dX12_feelsPew_50 : decode cX12_feelsPew 50 = .ok (.getfield 59, 3) := by decide +kernel
theorem dX12_feelsPew_53 : decode cX12_feelsPew 53 = .ok (.bipush 9, 2) := by decide +kernel
theorem dX12_feelsPew_55 : decode cX12_feelsPew 55 = .ok (.aload_n 0, 1) := by decide +kernel
theorem dX12_feelsPew_56 : decode cX12_feelsPew 56 = .ok (.iload_n 2, 1) := by decide +kernel
theorem dX12_feelsPew_57 : decode cX12_feelsPew 57 = .ok (.iload_n 1, 1) := by decide +kernel
theorem dX12_feelsPew_58 : decode cX12_feelsPew 58 = .ok (.invokestatic 101, 3) := by decide +kernel
theorem dX12_feelsPew_61 : decode cX12_feelsPew 61 = .ok (.invokevirtual 238, 3) := by decide +kernel
theorem dX12_feelsPew_64 : decode cX12_feelsPew 64 = .ok (.iastore, 1) := by decide +kernel
theorem dX12_feelsPew_65 : decode cX12_feelsPew 65 = .ok (.return_, 1) := by decide +kernel
theorem dX12_readsPart_0 : decode cX12_readsPart 0 = .ok (.aload_n 0, 1) := by decide +kernel
theorem dX12_readsPart_1 : decode cX12_readsPart 1 = .ok (.getfield 120, 3) := by decide +kernel
theorem dX12_readsPart_4 : decode cX12_readsPart 4 = .ok (.istore_n 1, 1) := by decide +kernel
theorem dX12_readsPart_5 : decode cX12_readsPart 5 = .ok (.iconst 1, 1) := by decide +kernel
theorem dX12_readsPart_6 : decode cX12_readsPart 6 = .ok (.istore_n 2, 1) := by decide +kernel
theorem dX12_readsPart_7 : decode cX12_readsPart 7 = .ok (.aload_n 0, 1) := by decide +kernel
theorem dX12_readsPart_8 : decode cX12_readsPart 8 = .ok (.invokevirtual 126, 3) := by decide +kernel
theorem dX12_readsPart_11 : decode cX12_readsPart 11 = .ok (.bipush 50, 2) := by decide +kernel
theorem dX12_readsPart_13 : decode cX12_readsPart 13 = .ok (.bipush 57, 2) := by decide +kernel
theorem dX12_readsPart_15 : decode cX12_readsPart 15 = .ok (.invokestatic 108, 3) := by decide +kernel
theorem dX12_readsPart_18 : decode cX12_readsPart 18 = .ok (.ifCond .eq 21, 3) := by decide +kernel
theorem dX12_readsPart_21 : decode cX12_readsPart 21 = .ok (.aload_n 0, 1) := by decide +kernel
theorem dX12_readsPart_22 : decode cX12_readsPart 22 = .ok (.invokevirtual 126, 3) := by decide +kernel
theorem dX12_readsPart_25 : decode cX12_readsPart 25 = .ok (.bipush 48, 2) := by decide +kernel
theorem dX12_readsPart_27 : decode cX12_readsPart 27 = .ok (.isub, 1) := by decide +kernel
theorem dX12_readsPart_28 : decode cX12_readsPart 28 = .ok (.istore_n 2, 1) := by decide +kernel
theorem dX12_readsPart_29 : decode cX12_readsPart 29 = .ok (.aload_n 0, 1) := by decide +kernel
theorem dX12_readsPart_30 : decode cX12_readsPart 30 = .ok (.aload_n 0, 1) := by decide +kernel
theorem dX12_readsPart_31 : decode cX12_readsPart 31 = .ok (.getfield 120, 3) := by decide +kernel
theorem dX12_readsPart_34 : decode cX12_readsPart 34 = .ok (.iconst 1, 1) := by decide +kernel
theorem dX12_readsPart_35 : decode cX12_readsPart 35 = .ok (.iadd, 1) := by decide +kernel
theorem dX12_readsPart_36 : decode cX12_readsPart 36 = .ok (.putfield 120, 3) := by decide +kernel
theorem dX12_readsPart_39 : decode cX12_readsPart 39 = .ok (.aload_n 0, 1) := by decide +kernel
theorem dX12_readsPart_40 : decode cX12_readsPart 40 = .ok (.invokevirtual 126, 3) := by decide +kernel
theorem dX12_readsPart_43 : decode cX12_readsPart 43 = .ok (.istore_n 3, 1) := by decide +kernel
theorem dX12_readsPart_44 : decode cX12_readsPart 44 = .ok (.iload_n 3, 1) := by decide +kernel
theorem dX12_readsPart_45 : decode cX12_readsPart 45 = .ok (.bipush 104, 2) := by decide +kernel
theorem dX12_readsPart_47 : decode cX12_readsPart 47 = .ok (.if_icmp .ne 7, 3) := by decide +kernel
theorem dX12_readsPart_50 : decode cX12_readsPart 50 = .ok (.iconst 0, 1) := by decide +kernel
theorem dX12_readsPart_51 : decode cX12_readsPart 51 = .ok (.goto 24, 3) := by decide +kernel
theorem dX12_readsPart_54 : decode cX12_readsPart 54 = .ok (.iload_n 3, 1) := by decide +kernel
theorem dX12_readsPart_55 : decode cX12_readsPart 55 = .ok (.bipush 103, 2) := by decide +kernel
theorem dX12_readsPart_57 : decode cX12_readsPart 57 = .ok (.if_icmp .ne 7, 3) := by decide +kernel
theorem dX12_readsPart_60 : decode cX12_readsPart 60 = .ok (.iconst 1, 1) := by decide +kernel
theorem dX12_readsPart_61 : decode cX12_readsPart 61 = .ok (.goto 14, 3) := by decide +kernel
theorem dX12_readsPart_64 : decode cX12_readsPart 64 = .ok (.iload_n 3, 1) := by decide +kernel
theorem dX12_readsPart_65 : decode cX12_readsPart 65 = .ok (.bipush 98, 2) := by decide +kernel
theorem dX12_readsPart_67 : decode cX12_readsPart 67 = .ok (.if_icmp .ne 7, 3) := by decide +kernel
theorem dX12_readsPart_70 : decode cX12_readsPart 70 = .ok (.iconst 2, 1) := by decide +kernel
theorem dX12_readsPart_71 : decode cX12_readsPart 71 = .ok (.goto 4, 3) := by decide +kernel
theorem dX12_readsPart_74 : decode cX12_readsPart 74 = .ok (.iconst (-1), 1) := by decide +kernel
theorem dX12_readsPart_75 : decode cX12_readsPart 75 = .ok (.istore 4, 2) := by decide +kernel
theorem dX12_readsPart_77 : decode cX12_readsPart 77 = .ok (.iload 4, 2) := by decide +kernel
theorem dX12_readsPart_79 : decode cX12_readsPart 79 = .ok (.iconst (-1), 1) := by decide +kernel
theorem dX12_readsPart_80 : decode cX12_readsPart 80 = .ok (.if_icmp .ne 13, 3) := by decide +kernel
theorem dX12_readsPart_83 : decode cX12_readsPart 83 = .ok (.aload_n 0, 1) := by decide +kernel
theorem dX12_readsPart_84 : decode cX12_readsPart 84 = .ok (.iconst 1, 1) := by decide +kernel
theorem dX12_readsPart_85 : decode cX12_readsPart 85 = .ok (.aload_n 0, 1) := by decide +kernel
theorem dX12_readsPart_86 : decode cX12_readsPart 86 = .ok (.getfield 120, 3) := by decide +kernel
theorem dX12_readsPart_89 : decode cX12_readsPart 89 = .ok (.invokevirtual 133, 3) := by decide +kernel
theorem dX12_readsPart_92 : decode cX12_readsPart 92 = .ok (.ireturn, 1) := by decide +kernel
theorem dX12_readsPart_93 : decode cX12_readsPart 93 = .ok (.aload_n 0, 1) := by decide +kernel
theorem dX12_readsPart_94 : decode cX12_readsPart 94 = .ok (.aload_n 0, 1) := by decide +kernel
theorem dX12_readsPart_95 : decode cX12_readsPart 95 = .ok (.getfield 120, 3) := by decide +kernel
theorem dX12_readsPart_98 : decode cX12_readsPart 98 = .ok (.iconst 1, 1) := by decide +kernel
theorem dX12_readsPart_99 : decode cX12_readsPart 99 = .ok (.iadd, 1) := by decide +kernel
theorem dX12_readsPart_100 : decode cX12_readsPart 100 = .ok (.putfield 120, 3) := by decide +kernel
theorem dX12_readsPart_103 : decode cX12_readsPart 103 = .ok (.aload_n 0, 1) := by decide +kernel
theorem dX12_readsPart_104 : decode cX12_readsPart 104 = .ok (.invokevirtual 126, 3) := by decide +kernel
theorem dX12_readsPart_107 : decode cX12_readsPart 107 = .ok (.bipush 97, 2) := by decide +kernel
theorem dX12_readsPart_109 : decode cX12_readsPart 109 = .ok (.isub, 1) := by decide +kernel
theorem dX12_readsPart_110 : decode cX12_readsPart 110 = .ok (.istore 5, 2) := by decide +kernel
theorem dX12_readsPart_112 : decode cX12_readsPart 112 = .ok (.iload 5, 2) := by decide +kernel
theorem dX12_readsPart_114 : decode cX12_readsPart 114 = .ok (.iconst 0, 1) := by decide +kernel
theorem dX12_readsPart_115 : decode cX12_readsPart 115 = .ok (.bipush 15, 2) := by decide +kernel
theorem dX12_readsPart_117 : decode cX12_readsPart 117 = .ok (.invokestatic 108, 3) := by decide +kernel
theorem dX12_readsPart_120 : decode cX12_readsPart 120 = .ok (.ifCond .ne 13, 3) := by decide +kernel
theorem dX12_readsPart_123 : decode cX12_readsPart 123 = .ok (.aload_n 0, 1) := by decide +kernel
theorem dX12_readsPart_124 : decode cX12_readsPart 124 = .ok (.iconst 1, 1) := by decide +kernel
theorem dX12_readsPart_125 : decode cX12_readsPart 125 = .ok (.aload_n 0, 1) := by decide +kernel
theorem dX12_readsPart_126 : decode cX12_readsPart 126 = .ok (.getfield 120, 3) := by decide +kernel
theorem dX12_readsPart_129 : decode cX12_readsPart 129 = .ok (.invokevirtual 133, 3) := by decide +kernel
theorem dX12_readsPart_132 : decode cX12_readsPart 132 = .ok (.ireturn, 1) := by decide +kernel
theorem dX12_readsPart_133 : decode cX12_readsPart 133 = .ok (.aload_n 0, 1) := by decide +kernel
theorem dX12_readsPart_134 : decode cX12_readsPart 134 = .ok (.aload_n 0, 1) := by decide +kernel
theorem dX12_readsPart_135 : decode cX12_readsPart 135 = .ok (.getfield 120, 3) := by decide +kernel
theorem dX12_readsPart_138 : decode cX12_readsPart 138 = .ok (.iconst 1, 1) := by decide +kernel
theorem dX12_readsPart_139 : decode cX12_readsPart 139 = .ok (.iadd, 1) := by decide +kernel
theorem dX12_readsPart_140 : decode cX12_readsPart 140 = .ok (.putfield 120, 3) := by decide +kernel
theorem dX12_readsPart_143 : decode cX12_readsPart 143 = .ok (.aload_n 0, 1) := by decide +kernel
theorem dX12_readsPart_144 : decode cX12_readsPart 144 = .ok (.invokevirtual 140, 3) := by decide +kernel
theorem dX12_readsPart_147 : decode cX12_readsPart 147 = .ok (.ifCond .ne 13, 3) := by decide +kernel
theorem dX12_readsPart_150 : decode cX12_readsPart 150 = .ok (.aload_n 0, 1) := by decide +kernel
theorem dX12_readsPart_151 : decode cX12_readsPart 151 = .ok (.iconst 1, 1) := by decide +kernel
theorem dX12_readsPart_152 : decode cX12_readsPart 152 = .ok (.aload_n 0, 1) := by decide +kernel
theorem dX12_readsPart_153 : decode cX12_readsPart 153 = .ok (.getfield 120, 3) := by decide +kernel
theorem dX12_readsPart_156 : decode cX12_readsPart 156 = .ok (.invokevirtual 133, 3) := by decide +kernel
theorem dX12_readsPart_159 : decode cX12_readsPart 159 = .ok (.ireturn, 1) := by decide +kernel
theorem dX12_readsPart_160 : decode cX12_readsPart 160 = .ok (.iload 4, 2) := by decide +kernel
theorem dX12_readsPart_162 : decode cX12_readsPart 162 = .ok (.iconst 3, 1) := by decide +kernel
theorem dX12_readsPart_163 : decode cX12_readsPart 163 = .ok (.iload 5, 2) := by decide +kernel
theorem dX12_readsPart_165 : decode cX12_readsPart 165 = .ok (.imul, 1) := by decide +kernel
theorem dX12_readsPart_166 : decode cX12_readsPart 166 = .ok (.iadd, 1) := by decide +kernel
theorem dX12_readsPart_167 : decode cX12_readsPart 167 = .ok (.bipush 48, 2) := by decide +kernel
theorem dX12_readsPart_169 : decode cX12_readsPart 169 = .ok (.aload_n 0, 1) := by decide +kernel
theorem dX12_readsPart_170 : decode cX12_readsPart 170 = .ok (.invokevirtual 126, 3) := by decide +kernel
theorem dX12_readsPart_173 : decode cX12_readsPart 173 = .ok (.bipush 48, 2) := by decide +kernel
theorem dX12_readsPart_175 : decode cX12_readsPart 175 = .ok (.isub, 1) := by decide +kernel
theorem dX12_readsPart_176 : decode cX12_readsPart 176 = .ok (.imul, 1) := by decide +kernel
theorem dX12_readsPart_177 : decode cX12_readsPart 177 = .ok (.iadd, 1) := by decide +kernel
theorem dX12_readsPart_178 : decode cX12_readsPart 178 = .ok (.istore 6, 2) := by decide +kernel
theorem dX12_readsPart_180 : decode cX12_readsPart 180 = .ok (.aload_n 0, 1) := by decide +kernel
theorem dX12_readsPart_181 : decode cX12_readsPart 181 = .ok (.aload_n 0, 1) := by decide +kernel
theorem dX12_readsPart_182 : decode cX12_readsPart 182 = .ok (.getfield 120, 3) := by decide +kernel
theorem dX12_readsPart_185 : decode cX12_readsPart 185 = .ok (.iconst 1, 1) := by decide +kernel
theorem dX12_readsPart_186 : decode cX12_readsPart 186 = .ok (.iadd, 1) := by decide +kernel
theorem dX12_readsPart_187 : decode cX12_readsPart 187 = .ok (.putfield 120, 3) := by decide +kernel
theorem dX12_readsPart_190 : decode cX12_readsPart 190 = .ok (.aload_n 0, 1) := by decide +kernel
theorem dX12_readsPart_191 : decode cX12_readsPart 191 = .ok (.invokevirtual 126, 3) := by decide +kernel
theorem dX12_readsPart_194 : decode cX12_readsPart 194 = .ok (.bipush 99, 2) := by decide +kernel
theorem dX12_readsPart_196 : decode cX12_readsPart 196 = .ok (.if_icmp .ne 21, 3) := by decide +kernel
theorem dX12_readsPart_199 : decode cX12_readsPart 199 = .ok (.iload 6, 2) := by decide +kernel
theorem dX12_readsPart_201 : decode cX12_readsPart 201 = .ok (.sipush 480, 3) := by decide +kernel
theorem dX12_readsPart_204 : decode cX12_readsPart 204 = .ok (.iadd, 1) := by decide +kernel
theorem dX12_readsPart_205 : decode cX12_readsPart 205 = .ok (.istore 6, 2) := by decide +kernel
theorem dX12_readsPart_207 : decode cX12_readsPart 207 = .ok (.aload_n 0, 1) := by decide +kernel
theorem dX12_readsPart_208 : decode cX12_readsPart 208 = .ok (.aload_n 0, 1) := by decide +kernel
theorem dX12_readsPart_209 : decode cX12_readsPart 209 = .ok (.getfield 120, 3) := by decide +kernel
theorem dX12_readsPart_212 : decode cX12_readsPart 212 = .ok (.iconst 1, 1) := by decide +kernel
theorem dX12_readsPart_213 : decode cX12_readsPart 213 = .ok (.iadd, 1) := by decide +kernel
theorem dX12_readsPart_214 : decode cX12_readsPart 214 = .ok (.putfield 120, 3) := by decide +kernel
theorem dX12_readsPart_217 : decode cX12_readsPart 217 = .ok (.aload_n 0, 1) := by decide +kernel
theorem dX12_readsPart_218 : decode cX12_readsPart 218 = .ok (.invokevirtual 126, 3) := by decide +kernel
theorem dX12_readsPart_221 : decode cX12_readsPart 221 = .ok (.bipush 115, 2) := by decide +kernel
theorem dX12_readsPart_223 : decode cX12_readsPart 223 = .ok (.if_icmp .ne 21, 3) := by decide +kernel
theorem dX12_readsPart_226 : decode cX12_readsPart 226 = .ok (.iload 6, 2) := by decide +kernel
theorem dX12_readsPart_228 : decode cX12_readsPart 228 = .ok (.sipush 960, 3) := by decide +kernel
theorem dX12_readsPart_231 : decode cX12_readsPart 231 = .ok (.iadd, 1) := by decide +kernel
theorem dX12_readsPart_232 : decode cX12_readsPart 232 = .ok (.istore 6, 2) := by decide +kernel
theorem dX12_readsPart_234 : decode cX12_readsPart 234 = .ok (.aload_n 0, 1) := by decide +kernel
theorem dX12_readsPart_235 : decode cX12_readsPart 235 = .ok (.aload_n 0, 1) := by decide +kernel
theorem dX12_readsPart_236 : decode cX12_readsPart 236 = .ok (.getfield 120, 3) := by decide +kernel
theorem dX12_readsPart_239 : decode cX12_readsPart 239 = .ok (.iconst 1, 1) := by decide +kernel
theorem dX12_readsPart_240 : decode cX12_readsPart 240 = .ok (.iadd, 1) := by decide +kernel
theorem dX12_readsPart_241 : decode cX12_readsPart 241 = .ok (.putfield 120, 3) := by decide +kernel
theorem dX12_readsPart_244 : decode cX12_readsPart 244 = .ok (.aload_n 0, 1) := by decide +kernel
theorem dX12_readsPart_245 : decode cX12_readsPart 245 = .ok (.getfield 7, 3) := by decide +kernel
theorem dX12_readsPart_248 : decode cX12_readsPart 248 = .ok (.sipush 632, 3) := by decide +kernel
theorem dX12_readsPart_251 : decode cX12_readsPart 251 = .ok (.iaload, 1) := by decide +kernel
theorem dX12_readsPart_252 : decode cX12_readsPart 252 = .ok (.aload_n 0, 1) := by decide +kernel
theorem dX12_readsPart_253 : decode cX12_readsPart 253 = .ok (.getfield 241, 3) := by decide +kernel
theorem dX12_readsPart_256 : decode cX12_readsPart 256 = .ok (.iadd, 1) := by decide +kernel
theorem dX12_readsPart_257 : decode cX12_readsPart 257 = .ok (.iload_n 2, 1) := by decide +kernel
theorem dX12_readsPart_258 : decode cX12_readsPart 258 = .ok (.iadd, 1) := by decide +kernel
theorem dX12_readsPart_259 : decode cX12_readsPart 259 = .ok (.sipush 200, 3) := by decide +kernel
theorem dX12_readsPart_262 : decode cX12_readsPart 262 = .ok (.if_icmp .le 10, 3) := by decide +kernel
theorem dX12_readsPart_265 : decode cX12_readsPart 265 = .ok (.aload_n 0, 1) := by decide +kernel
theorem dX12_readsPart_266 : decode cX12_readsPart 266 = .ok (.iconst 4, 1) := by decide +kernel
theorem dX12_readsPart_267 : decode cX12_readsPart 267 = .ok (.iload_n 1, 1) := by decide +kernel
theorem dX12_readsPart_268 : decode cX12_readsPart 268 = .ok (.invokevirtual 133, 3) := by decide +kernel
theorem dX12_readsPart_271 : decode cX12_readsPart 271 = .ok (.ireturn, 1) := by decide +kernel
theorem dX12_readsPart_272 : decode cX12_readsPart 272 = .ok (.iconst 0, 1) := by decide +kernel
theorem dX12_readsPart_273 : decode cX12_readsPart 273 = .ok (.istore 7, 2) := by decide +kernel
theorem dX12_readsPart_275 : decode cX12_readsPart 275 = .ok (.iload 7, 2) := by decide +kernel
theorem dX12_readsPart_277 : decode cX12_readsPart 277 = .ok (.iload_n 2, 1) := by decide +kernel
theorem dX12_readsPart_278 : decode cX12_readsPart 278 = .ok (.if_icmp .ge 23, 3) := by decide +kernel
theorem dX12_readsPart_281 : decode cX12_readsPart 281 = .ok (.aload_n 0, 1) := by decide +kernel
theorem dX12_readsPart_282 : decode cX12_readsPart 282 = .ok (.getfield 62, 3) := by decide +kernel
theorem dX12_readsPart_285 : decode cX12_readsPart 285 = .ok (.aload_n 0, 1) := by decide +kernel
theorem dX12_readsPart_286 : decode cX12_readsPart 286 = .ok (.getfield 241, 3) := by decide +kernel
theorem dX12_readsPart_289 : decode cX12_readsPart 289 = .ok (.iload 7, 2) := by decide +kernel
theorem dX12_readsPart_291 : decode cX12_readsPart 291 = .ok (.iadd, 1) := by decide +kernel
theorem dX12_readsPart_292 : decode cX12_readsPart 292 = .ok (.iload 6, 2) := by decide +kernel
theorem dX12_readsPart_294 : decode cX12_readsPart 294 = .ok (.iastore, 1) := by decide +kernel
theorem dX12_readsPart_295 : decode cX12_readsPart 295 = .ok (.iinc 7 1, 3) := by decide +kernel
theorem dX12_readsPart_298 : decode cX12_readsPart 298 = .ok (.goto (-23), 3) := by decide +kernel
theorem dX12_readsPart_301 : decode cX12_readsPart 301 = .ok (.aload_n 0, 1) := by decide +kernel
theorem dX12_readsPart_302 : decode cX12_readsPart 302 = .ok (.aload_n 0, 1) := by decide +kernel
theorem dX12_readsPart_303 : decode cX12_readsPart 303 = .ok (.getfield 241, 3) := by decide +kernel
theorem dX12_readsPart_306 : decode cX12_readsPart 306 = .ok (.iload_n 2, 1) := by decide +kernel
theorem dX12_readsPart_307 : decode cX12_readsPart 307 = .ok (.iadd, 1) := by decide +kernel
theorem dX12_readsPart_308 : decode cX12_readsPart 308 = .ok (.putfield 241, 3) := by decide +kernel
theorem dX12_readsPart_311 : decode cX12_readsPart 311 = .ok (.iconst 1, 1) := by decide +kernel
theorem dX12_readsPart_312 : decode cX12_readsPart 312 = .ok (.ireturn, 1) := by decide +kernel
theorem dX12_list_0 : decode cX12_list 0 = .ok (.iload_n 1, 1) := by decide +kernel
theorem dX12_list_1 : decode cX12_list 1 = .ok (.iconst 1, 1) := by decide +kernel
theorem dX12_list_2 : decode cX12_list 2 = .ok (.bipush 120, 2) := by decide +kernel
theorem dX12_list_4 : decode cX12_list 4 = .ok (.invokestatic 108, 3) := by decide +kernel
theorem dX12_list_7 : decode cX12_list 7 = .ok (.ifCond .eq 11, 3) := by decide +kernel
theorem dX12_list_10 : decode cX12_list 10 = .ok (.iload_n 1, 1) := by decide +kernel
theorem dX12_list_11 : decode cX12_list 11 = .ok (.aload_n 0, 1) := by decide +kernel
theorem dX12_list_12 : decode cX12_list 12 = .ok (.getfield 112, 3) := by decide +kernel
theorem dX12_list_15 : decode cX12_list 15 = .ok (.if_icmp .le 5, 3) := by decide +kernel
theorem dX12_list_18 : decode cX12_list 18 = .ok (.iconst (-1), 1) := by decide +kernel
theorem dX12_list_19 : decode cX12_list 19 = .ok (.ireturn, 1) := by decide +kernel
theorem dX12_list_20 : decode cX12_list 20 = .ok (.aload_n 0, 1) := by decide +kernel
theorem dX12_list_21 : decode cX12_list 21 = .ok (.iload_n 1, 1) := by decide +kernel
theorem dX12_list_22 : decode cX12_list 22 = .ok (.invokevirtual 204, 3) := by decide +kernel
theorem dX12_list_25 : decode cX12_list 25 = .ok (.aload_n 0, 1) := by decide +kernel
theorem dX12_list_26 : decode cX12_list 26 = .ok (.iconst 0, 1) := by decide +kernel
theorem dX12_list_27 : decode cX12_list 27 = .ok (.putfield 241, 3) := by decide +kernel
theorem dX12_list_30 : decode cX12_list 30 = .ok (.aload_n 0, 1) := by decide +kernel
theorem dX12_list_31 : decode cX12_list 31 = .ok (.invokevirtual 244, 3) := by decide +kernel
theorem dX12_list_34 : decode cX12_list 34 = .ok (.istore_n 2, 1) := by decide +kernel
theorem dX12_list_35 : decode cX12_list 35 = .ok (.iload_n 2, 1) := by decide +kernel
theorem dX12_list_36 : decode cX12_list 36 = .ok (.ifCond .eq 39, 3) := by decide +kernel
theorem dX12_list_39 : decode cX12_list 39 = .ok (.aload_n 0, 1) := by decide +kernel
theorem dX12_list_40 : decode cX12_list 40 = .ok (.getfield 120, 3) := by decide +kernel
theorem dX12_list_43 : decode cX12_list 43 = .ok (.aload_n 0, 1) := by decide +kernel
theorem dX12_list_44 : decode cX12_list 44 = .ok (.getfield 123, 3) := by decide +kernel
theorem dX12_list_47 : decode cX12_list 47 = .ok (.if_icmp .ge 28, 3) := by decide +kernel
theorem dX12_list_50 : decode cX12_list 50 = .ok (.aload_n 0, 1) := by decide +kernel
theorem dX12_list_51 : decode cX12_list 51 = .ok (.bipush 44, 2) := by decide +kernel
theorem dX12_list_53 : decode cX12_list 53 = .ok (.invokevirtual 210, 3) := by decide +kernel
theorem dX12_list_56 : decode cX12_list 56 = .ok (.ifCond .eq 14, 3) := by decide +kernel
theorem dX12_list_59 : decode cX12_list 59 = .ok (.aload_n 0, 1) := by decide +kernel
theorem dX12_list_60 : decode cX12_list 60 = .ok (.invokevirtual 244, 3) := by decide +kernel
theorem dX12_list_63 : decode cX12_list 63 = .ok (.ifCond .eq 7, 3) := by decide +kernel
theorem dX12_list_66 : decode cX12_list 66 = .ok (.iconst 1, 1) := by decide +kernel
theorem dX12_list_67 : decode cX12_list 67 = .ok (.goto 4, 3) := by decide +kernel
theorem dX12_list_70 : decode cX12_list 70 = .ok (.iconst 0, 1) := by decide +kernel
theorem dX12_list_71 : decode cX12_list 71 = .ok (.istore_n 2, 1) := by decide +kernel
theorem dX12_list_72 : decode cX12_list 72 = .ok (.goto (-37), 3) := by decide +kernel
theorem dX12_list_75 : decode cX12_list 75 = .ok (.aload_n 0, 1) := by decide +kernel
theorem dX12_list_76 : decode cX12_list 76 = .ok (.iconst 0, 1) := by decide +kernel
theorem dX12_list_77 : decode cX12_list 77 = .ok (.putfield 112, 3) := by decide +kernel
theorem dX12_list_80 : decode cX12_list 80 = .ok (.iload_n 2, 1) := by decide +kernel
theorem dX12_list_81 : decode cX12_list 81 = .ok (.ifCond .ne 8, 3) := by decide +kernel
theorem dX12_list_84 : decode cX12_list 84 = .ok (.aload_n 0, 1) := by decide +kernel
theorem dX12_list_85 : decode cX12_list 85 = .ok (.getfield 130, 3) := by decide +kernel
theorem dX12_list_88 : decode cX12_list 88 = .ok (.ireturn, 1) := by decide +kernel
theorem dX12_list_89 : decode cX12_list 89 = .ok (.iconst 0, 1) := by decide +kernel
theorem dX12_list_90 : decode cX12_list 90 = .ok (.istore_n 3, 1) := by decide +kernel
theorem dX12_list_91 : decode cX12_list 91 = .ok (.iload_n 3, 1) := by decide +kernel
theorem dX12_list_92 : decode cX12_list 92 = .ok (.aload_n 0, 1) := by decide +kernel
theorem dX12_list_93 : decode cX12_list 93 = .ok (.getfield 241, 3) := by decide +kernel
theorem dX12_list_96 : decode cX12_list 96 = .ok (.if_icmp .ge 34, 3) := by decide +kernel
theorem dX12_list_99 : decode cX12_list 99 = .ok (.aload_n 0, 1) := by decide +kernel
theorem dX12_list_100 : decode cX12_list 100 = .ok (.getfield 7, 3) := by decide +kernel
theorem dX12_list_103 : decode cX12_list 103 = .ok (.sipush 432, 3) := by decide +kernel
theorem dX12_list_106 : decode cX12_list 106 = .ok (.aload_n 0, 1) := by decide +kernel
theorem dX12_list_107 : decode cX12_list 107 = .ok (.getfield 7, 3) := by decide +kernel
theorem dX12_list_110 : decode cX12_list 110 = .ok (.sipush 632, 3) := by decide +kernel
theorem dX12_list_113 : decode cX12_list 113 = .ok (.iaload, 1) := by decide +kernel
theorem dX12_list_114 : decode cX12_list 114 = .ok (.iadd, 1) := by decide +kernel
theorem dX12_list_115 : decode cX12_list 115 = .ok (.iload_n 3, 1) := by decide +kernel
theorem dX12_list_116 : decode cX12_list 116 = .ok (.iadd, 1) := by decide +kernel
theorem dX12_list_117 : decode cX12_list 117 = .ok (.aload_n 0, 1) := by decide +kernel
theorem dX12_list_118 : decode cX12_list 118 = .ok (.getfield 62, 3) := by decide +kernel
theorem dX12_list_121 : decode cX12_list 121 = .ok (.iload_n 3, 1) := by decide +kernel
theorem dX12_list_122 : decode cX12_list 122 = .ok (.iaload, 1) := by decide +kernel
theorem dX12_list_123 : decode cX12_list 123 = .ok (.iastore, 1) := by decide +kernel
theorem dX12_list_124 : decode cX12_list 124 = .ok (.iinc 3 1, 3) := by decide +kernel
theorem dX12_list_127 : decode cX12_list 127 = .ok (.goto (-36), 3) := by decide +kernel
theorem dX12_list_130 : decode cX12_list 130 = .ok (.aload_n 0, 1) := by decide +kernel
theorem dX12_list_131 : decode cX12_list 131 = .ok (.getfield 7, 3) := by decide +kernel
theorem dX12_list_134 : decode cX12_list 134 = .ok (.sipush 632, 3) := by decide +kernel
theorem dX12_list_137 : decode cX12_list 137 = .ok (.aload_n 0, 1) := by decide +kernel
theorem dX12_list_138 : decode cX12_list 138 = .ok (.getfield 7, 3) := by decide +kernel
theorem dX12_list_141 : decode cX12_list 141 = .ok (.sipush 632, 3) := by decide +kernel
theorem dX12_list_144 : decode cX12_list 144 = .ok (.iaload, 1) := by decide +kernel
theorem dX12_list_145 : decode cX12_list 145 = .ok (.aload_n 0, 1) := by decide +kernel
theorem dX12_list_146 : decode cX12_list 146 = .ok (.getfield 241, 3) := by decide +kernel
theorem dX12_list_149 : decode cX12_list 149 = .ok (.iadd, 1) := by decide +kernel
theorem dX12_list_150 : decode cX12_list 150 = .ok (.iastore, 1) := by decide +kernel
theorem dX12_list_151 : decode cX12_list 151 = .ok (.aload_n 0, 1) := by decide +kernel
theorem dX12_list_152 : decode cX12_list 152 = .ok (.getfield 241, 3) := by decide +kernel
theorem dX12_list_155 : decode cX12_list 155 = .ok (.ireturn, 1) := by decide +kernel
theorem dX12_readsSeat_0 : decode cX12_readsSeat 0 = .ok (.aload_n 0, 1) := by decide +kernel
theorem dX12_readsSeat_1 : decode cX12_readsSeat 1 = .ok (.getfield 120, 3) := by decide +kernel
theorem dX12_readsSeat_4 : decode cX12_readsSeat 4 = .ok (.istore_n 1, 1) := by decide +kernel
theorem dX12_readsSeat_5 : decode cX12_readsSeat 5 = .ok (.aload_n 0, 1) := by decide +kernel
theorem dX12_readsSeat_6 : decode cX12_readsSeat 6 = .ok (.invokevirtual 140, 3) := by decide +kernel
theorem dX12_readsSeat_9 : decode cX12_readsSeat 9 = .ok (.ifCond .ne 13, 3) := by decide +kernel
theorem dX12_readsSeat_12 : decode cX12_readsSeat 12 = .ok (.aload_n 0, 1) := by decide +kernel
theorem dX12_readsSeat_13 : decode cX12_readsSeat 13 = .ok (.iconst 1, 1) := by decide +kernel
theorem dX12_readsSeat_14 : decode cX12_readsSeat 14 = .ok (.aload_n 0, 1) := by decide +kernel
theorem dX12_readsSeat_15 : decode cX12_readsSeat 15 = .ok (.getfield 120, 3) := by decide +kernel
theorem dX12_readsSeat_18 : decode cX12_readsSeat 18 = .ok (.invokevirtual 133, 3) := by decide +kernel
theorem dX12_readsSeat_21 : decode cX12_readsSeat 21 = .ok (.ireturn, 1) := by decide +kernel
theorem dX12_readsSeat_22 : decode cX12_readsSeat 22 = .ok (.aload_n 0, 1) := by decide +kernel
theorem dX12_readsSeat_23 : decode cX12_readsSeat 23 = .ok (.iconst 0, 1) := by decide +kernel
theorem dX12_readsSeat_24 : decode cX12_readsSeat 24 = .ok (.putfield 137, 3) := by decide +kernel
theorem dX12_readsSeat_27 : decode cX12_readsSeat 27 = .ok (.aload_n 0, 1) := by decide +kernel
theorem dX12_readsSeat_28 : decode cX12_readsSeat 28 = .ok (.invokevirtual 140, 3) := by decide +kernel
theorem dX12_readsSeat_31 : decode cX12_readsSeat 31 = .ok (.ifCond .eq 55, 3) := by decide +kernel
theorem dX12_readsSeat_34 : decode cX12_readsSeat 34 = .ok (.aload_n 0, 1) := by decide +kernel
theorem dX12_readsSeat_35 : decode cX12_readsSeat 35 = .ok (.getfield 120, 3) := by decide +kernel
theorem dX12_readsSeat_38 : decode cX12_readsSeat 38 = .ok (.iload_n 1, 1) := by decide +kernel
theorem dX12_readsSeat_39 : decode cX12_readsSeat 39 = .ok (.iconst 3, 1) := by decide +kernel
theorem dX12_readsSeat_40 : decode cX12_readsSeat 40 = .ok (.iadd, 1) := by decide +kernel
theorem dX12_readsSeat_41 : decode cX12_readsSeat 41 = .ok (.if_icmp .ne 13, 3) := by decide +kernel
theorem dX12_readsSeat_44 : decode cX12_readsSeat 44 = .ok (.aload_n 0, 1) := by decide +kernel
theorem dX12_readsSeat_45 : decode cX12_readsSeat 45 = .ok (.iconst 2, 1) := by decide +kernel
theorem dX12_readsSeat_46 : decode cX12_readsSeat 46 = .ok (.aload_n 0, 1) := by decide +kernel
theorem dX12_readsSeat_47 : decode cX12_readsSeat 47 = .ok (.getfield 120, 3) := by decide +kernel
theorem dX12_readsSeat_50 : decode cX12_readsSeat 50 = .ok (.invokevirtual 133, 3) := by decide +kernel
theorem dX12_readsSeat_53 : decode cX12_readsSeat 53 = .ok (.ireturn, 1) := by decide +kernel
theorem dX12_readsSeat_54 : decode cX12_readsSeat 54 = .ok (.aload_n 0, 1) := by decide +kernel
theorem dX12_readsSeat_55 : decode cX12_readsSeat 55 = .ok (.bipush 10, 2) := by decide +kernel
theorem dX12_readsSeat_57 : decode cX12_readsSeat 57 = .ok (.aload_n 0, 1) := by decide +kernel
theorem dX12_readsSeat_58 : decode cX12_readsSeat 58 = .ok (.getfield 137, 3) := by decide +kernel
theorem dX12_readsSeat_61 : decode cX12_readsSeat 61 = .ok (.imul, 1) := by decide +kernel
theorem dX12_readsSeat_62 : decode cX12_readsSeat 62 = .ok (.aload_n 0, 1) := by decide +kernel
theorem dX12_readsSeat_63 : decode cX12_readsSeat 63 = .ok (.invokevirtual 126, 3) := by decide +kernel
theorem dX12_readsSeat_66 : decode cX12_readsSeat 66 = .ok (.iadd, 1) := by decide +kernel
theorem dX12_readsSeat_67 : decode cX12_readsSeat 67 = .ok (.bipush 48, 2) := by decide +kernel
theorem dX12_readsSeat_69 : decode cX12_readsSeat 69 = .ok (.isub, 1) := by decide +kernel
theorem dX12_readsSeat_70 : decode cX12_readsSeat 70 = .ok (.putfield 137, 3) := by decide +kernel
theorem dX12_readsSeat_73 : decode cX12_readsSeat 73 = .ok (.aload_n 0, 1) := by decide +kernel
theorem dX12_readsSeat_74 : decode cX12_readsSeat 74 = .ok (.aload_n 0, 1) := by decide +kernel
theorem dX12_readsSeat_75 : decode cX12_readsSeat 75 = .ok (.getfield 120, 3) := by decide +kernel
theorem dX12_readsSeat_78 : decode cX12_readsSeat 78 = .ok (.iconst 1, 1) := by decide +kernel
theorem dX12_readsSeat_79 : decode cX12_readsSeat 79 = .ok (.iadd, 1) := by decide +kernel
theorem dX12_readsSeat_80 : decode cX12_readsSeat 80 = .ok (.putfield 120, 3) := by decide +kernel
theorem dX12_readsSeat_83 : decode cX12_readsSeat 83 = .ok (.goto (-56), 3) := by decide +kernel
theorem dX12_readsSeat_86 : decode cX12_readsSeat 86 = .ok (.aload_n 0, 1) := by decide +kernel
theorem dX12_readsSeat_87 : decode cX12_readsSeat 87 = .ok (.getfield 137, 3) := by decide +kernel
theorem dX12_readsSeat_90 : decode cX12_readsSeat 90 = .ok (.iconst 0, 1) := by decide +kernel
theorem dX12_readsSeat_91 : decode cX12_readsSeat 91 = .ok (.sipush 143, 3) := by decide +kernel
theorem dX12_readsSeat_94 : decode cX12_readsSeat 94 = .ok (.invokestatic 108, 3) := by decide +kernel
theorem dX12_readsSeat_97 : decode cX12_readsSeat 97 = .ok (.ifCond .ne 12, 3) := by decide +kernel
theorem dX12_readsSeat_100 : decode cX12_readsSeat 100 = .ok (.aload_n 0, 1) := by decide +kernel
theorem dX12_readsSeat_101 : decode cX12_readsSeat 101 = .ok (.iconst 3, 1) := by decide +kernel
theorem dX12_readsSeat_102 : decode cX12_readsSeat 102 = .ok (.iload_n 1, 1) := by decide +kernel
theorem dX12_readsSeat_103 : decode cX12_readsSeat 103 = .ok (.invokevirtual 133, 3) := by decide +kernel
theorem dX12_readsSeat_106 : decode cX12_readsSeat 106 = .ok (.ifCond .eq 7, 3) := by decide +kernel
theorem dX12_readsSeat_109 : decode cX12_readsSeat 109 = .ok (.iconst 1, 1) := by decide +kernel
theorem dX12_readsSeat_110 : decode cX12_readsSeat 110 = .ok (.goto 4, 3) := by decide +kernel
theorem dX12_readsSeat_113 : decode cX12_readsSeat 113 = .ok (.iconst 0, 1) := by decide +kernel
theorem dX12_readsSeat_114 : decode cX12_readsSeat 114 = .ok (.ireturn, 1) := by decide +kernel
theorem dX12_swaps_0 : decode cX12_swaps 0 = .ok (.aload_n 0, 1) := by decide +kernel
theorem dX12_swaps_1 : decode cX12_swaps 1 = .ok (.getfield 7, 3) := by decide +kernel
theorem dX12_swaps_4 : decode cX12_swaps 4 = .ok (.iload_n 1, 1) := by decide +kernel
theorem dX12_swaps_5 : decode cX12_swaps 5 = .ok (.iaload, 1) := by decide +kernel
theorem dX12_swaps_6 : decode cX12_swaps 6 = .ok (.istore_n 3, 1) := by decide +kernel
theorem dX12_swaps_7 : decode cX12_swaps 7 = .ok (.aload_n 0, 1) := by decide +kernel
theorem dX12_swaps_8 : decode cX12_swaps 8 = .ok (.getfield 7, 3) := by decide +kernel
theorem dX12_swaps_11 : decode cX12_swaps 11 = .ok (.iload_n 1, 1) := by decide +kernel
theorem dX12_swaps_12 : decode cX12_swaps 12 = .ok (.aload_n 0, 1) := by decide +kernel
theorem dX12_swaps_13 : decode cX12_swaps 13 = .ok (.getfield 7, 3) := by decide +kernel
theorem dX12_swaps_16 : decode cX12_swaps 16 = .ok (.iload_n 2, 1) := by decide +kernel
theorem dX12_swaps_17 : decode cX12_swaps 17 = .ok (.iaload, 1) := by decide +kernel
theorem dX12_swaps_18 : decode cX12_swaps 18 = .ok (.iastore, 1) := by decide +kernel
theorem dX12_swaps_19 : decode cX12_swaps 19 = .ok (.aload_n 0, 1) := by decide +kernel
theorem dX12_swaps_20 : decode cX12_swaps 20 = .ok (.getfield 7, 3) := by decide +kernel
theorem dX12_swaps_23 : decode cX12_swaps 23 = .ok (.iload_n 2, 1) := by decide +kernel
theorem dX12_swaps_24 : decode cX12_swaps 24 = .ok (.iload_n 3, 1) := by decide +kernel
theorem dX12_swaps_25 : decode cX12_swaps 25 = .ok (.iastore, 1) := by decide +kernel
theorem dX12_swaps_26 : decode cX12_swaps 26 = .ok (.return_, 1) := by decide +kernel
theorem dX12_readsMove_0 : decode cX12_readsMove 0 = .ok (.aload_n 0, 1) := by decide +kernel
theorem dX12_readsMove_1 : decode cX12_readsMove 1 = .ok (.getfield 120, 3) := by decide +kernel
theorem dX12_readsMove_4 : decode cX12_readsMove 4 = .ok (.istore_n 1, 1) := by decide +kernel
theorem dX12_readsMove_5 : decode cX12_readsMove 5 = .ok (.aload_n 0, 1) := by decide +kernel
theorem dX12_readsMove_6 : decode cX12_readsMove 6 = .ok (.invokevirtual 140, 3) := by decide +kernel
theorem dX12_readsMove_9 : decode cX12_readsMove 9 = .ok (.ifCond .ne 13, 3) := by decide +kernel
theorem dX12_readsMove_12 : decode cX12_readsMove 12 = .ok (.aload_n 0, 1) := by decide +kernel
theorem dX12_readsMove_13 : decode cX12_readsMove 13 = .ok (.iconst 1, 1) := by decide +kernel
theorem dX12_readsMove_14 : decode cX12_readsMove 14 = .ok (.aload_n 0, 1) := by decide +kernel
theorem dX12_readsMove_15 : decode cX12_readsMove 15 = .ok (.getfield 120, 3) := by decide +kernel
theorem dX12_readsMove_18 : decode cX12_readsMove 18 = .ok (.invokevirtual 133, 3) := by decide +kernel
theorem dX12_readsMove_21 : decode cX12_readsMove 21 = .ok (.ireturn, 1) := by decide +kernel
theorem dX12_readsMove_22 : decode cX12_readsMove 22 = .ok (.aload_n 0, 1) := by decide +kernel
theorem dX12_readsMove_23 : decode cX12_readsMove 23 = .ok (.getfield 247, 3) := by decide +kernel
theorem dX12_readsMove_26 : decode cX12_readsMove 26 = .ok (.bipush 20, 2) := by decide +kernel
theorem dX12_readsMove_28 : decode cX12_readsMove 28 = .ok (.if_icmp .ne 13, 3) := by decide +kernel
theorem dX12_readsMove_31 : decode cX12_readsMove 31 = .ok (.aload_n 0, 1) := by decide +kernel
theorem dX12_readsMove_32 : decode cX12_readsMove 32 = .ok (.iconst 4, 1) := by decide +kernel
theorem dX12_readsMove_33 : decode cX12_readsMove 33 = .ok (.aload_n 0, 1) := by decide +kernel
theorem dX12_readsMove_34 : decode cX12_readsMove 34 = .ok (.getfield 120, 3) := by decide +kernel
theorem dX12_readsMove_37 : decode cX12_readsMove 37 = .ok (.invokevirtual 133, 3) := by decide +kernel
theorem dX12_readsMove_40 : decode cX12_readsMove 40 = .ok (.ireturn, 1) := by decide +kernel
theorem dX12_readsMove_41 : decode cX12_readsMove 41 = .ok (.aload_n 0, 1) := by decide +kernel
theorem dX12_readsMove_42 : decode cX12_readsMove 42 = .ok (.invokevirtual 250, 3) := by decide +kernel
theorem dX12_readsMove_45 : decode cX12_readsMove 45 = .ok (.ifCond .ne 5, 3) := by decide +kernel
theorem dX12_readsMove_48 : decode cX12_readsMove 48 = .ok (.iconst 0, 1) := by decide +kernel
theorem dX12_readsMove_49 : decode cX12_readsMove 49 = .ok (.ireturn, 1) := by decide +kernel
theorem dX12_readsMove_50 : decode cX12_readsMove 50 = .ok (.aload_n 0, 1) := by decide +kernel
theorem dX12_readsMove_51 : decode cX12_readsMove 51 = .ok (.getfield 137, 3) := by decide +kernel
theorem dX12_readsMove_54 : decode cX12_readsMove 54 = .ok (.istore_n 2, 1) := by decide +kernel
theorem dX12_readsMove_55 : decode cX12_readsMove 55 = .ok (.aload_n 0, 1) := by decide +kernel
theorem dX12_readsMove_56 : decode cX12_readsMove 56 = .ok (.iload_n 2, 1) := by decide +kernel
theorem dX12_readsMove_57 : decode cX12_readsMove 57 = .ok (.invokevirtual 93, 3) := by decide +kernel
theorem dX12_readsMove_60 : decode cX12_readsMove 60 = .ok (.ifCond .ne 11, 3) := by decide +kernel
theorem dX12_readsMove_63 : decode cX12_readsMove 63 = .ok (.aload_n 0, 1) := by decide +kernel
theorem dX12_readsMove_64 : decode cX12_readsMove 64 = .ok (.bipush 7, 2) := by decide +kernel
theorem dX12_readsMove_66 : decode cX12_readsMove 66 = .ok (.iload_n 1, 1) := by decide +kernel
theorem dX12_readsMove_67 : decode cX12_readsMove 67 = .ok (.invokevirtual 133, 3) := by decide +kernel
theorem dX12_readsMove_70 : decode cX12_readsMove 70 = .ok (.ireturn, 1) := by decide +kernel
theorem dX12_readsMove_71 : decode cX12_readsMove 71 = .ok (.aload_n 0, 1) := by decide +kernel
theorem dX12_readsMove_72 : decode cX12_readsMove 72 = .ok (.invokevirtual 126, 3) := by decide +kernel
theorem dX12_readsMove_75 : decode cX12_readsMove 75 = .ok (.istore_n 3, 1) := by decide +kernel
theorem dX12_readsMove_76 : decode cX12_readsMove 76 = .ok (.iload_n 3, 1) := by decide +kernel
theorem dX12_readsMove_77 : decode cX12_readsMove 77 = .ok (.bipush 62, 2) := by decide +kernel
theorem dX12_readsMove_79 : decode cX12_readsMove 79 = .ok (.if_icmp .eq 25, 3) := by decide +kernel
theorem dX12_readsMove_82 : decode cX12_readsMove 82 = .ok (.iload_n 3, 1) := by decide +kernel
theorem dX12_readsMove_83 : decode cX12_readsMove 83 = .ok (.bipush 61, 2) := by decide +kernel
theorem dX12_readsMove_85 : decode cX12_readsMove 85 = .ok (.if_icmp .eq 19, 3) := by decide +kernel
theorem dX12_readsMove_88 : decode cX12_readsMove 88 = .ok (.iload_n 3, 1) := by decide +kernel
theorem dX12_readsMove_89 : decode cX12_readsMove 89 = .ok (.bipush 33, 2) := by decide +kernel
theorem dX12_readsMove_91 : decode cX12_readsMove 91 = .ok (.if_icmp .eq 13, 3) := by decide +kernel
theorem dX12_readsMove_94 : decode cX12_readsMove 94 = .ok (.aload_n 0, 1) := by decide +kernel
theorem dX12_readsMove_95 : decode cX12_readsMove 95 = .ok (.iconst 1, 1) := by decide +kernel
theorem dX12_readsMove_96 : decode cX12_readsMove 96 = .ok (.aload_n 0, 1) := by decide +kernel
theorem dX12_readsMove_97 : decode cX12_readsMove 97 = .ok (.getfield 120, 3) := by decide +kernel
theorem dX12_readsMove_100 : decode cX12_readsMove 100 = .ok (.invokevirtual 133, 3) := by decide +kernel
theorem dX12_readsMove_103 : decode cX12_readsMove 103 = .ok (.ireturn, 1) := by decide +kernel
theorem dX12_readsMove_104 : decode cX12_readsMove 104 = .ok (.aload_n 0, 1) := by decide +kernel
theorem dX12_readsMove_105 : decode cX12_readsMove 105 = .ok (.aload_n 0, 1) := by decide +kernel
theorem dX12_readsMove_106 : decode cX12_readsMove 106 = .ok (.getfield 120, 3) := by decide +kernel
theorem dX12_readsMove_109 : decode cX12_readsMove 109 = .ok (.iconst 1, 1) := by decide +kernel
theorem dX12_readsMove_110 : decode cX12_readsMove 110 = .ok (.iadd, 1) := by decide +kernel
theorem dX12_readsMove_111 : decode cX12_readsMove 111 = .ok (.putfield 120, 3) := by decide +kernel
theorem dX12_readsMove_114 : decode cX12_readsMove 114 = .ok (.aload_n 0, 1) := by decide +kernel
theorem dX12_readsMove_115 : decode cX12_readsMove 115 = .ok (.aload_n 0, 1) := by decide +kernel
theorem dX12_readsMove_116 : decode cX12_readsMove 116 = .ok (.getfield 247, 3) := by decide +kernel
theorem dX12_readsMove_119 : decode cX12_readsMove 119 = .ok (.iconst 1, 1) := by decide +kernel
theorem dX12_readsMove_120 : decode cX12_readsMove 120 = .ok (.iadd, 1) := by decide +kernel
theorem dX12_readsMove_121 : decode cX12_readsMove 121 = .ok (.putfield 247, 3) := by decide +kernel
theorem dX12_readsMove_124 : decode cX12_readsMove 124 = .ok (.iload_n 3, 1) := by decide +kernel
theorem dX12_readsMove_125 : decode cX12_readsMove 125 = .ok (.bipush 33, 2) := by decide +kernel
theorem dX12_readsMove_127 : decode cX12_readsMove 127 = .ok (.if_icmp .ne 32, 3) := by decide +kernel
theorem dX12_readsMove_130 : decode cX12_readsMove 130 = .ok (.aload_n 0, 1) := by decide +kernel
theorem dX12_readsMove_131 : decode cX12_readsMove 131 = .ok (.getfield 7, 3) := by decide +kernel
theorem dX12_readsMove_134 : decode cX12_readsMove 134 = .ok (.iconst 0, 1) := by decide +kernel
theorem dX12_readsMove_135 : decode cX12_readsMove 135 = .ok (.iload_n 2, 1) := by decide +kernel
theorem dX12_readsMove_136 : decode cX12_readsMove 136 = .ok (.iadd, 1) := by decide +kernel
theorem dX12_readsMove_137 : decode cX12_readsMove 137 = .ok (.iconst (-1), 1) := by decide +kernel
theorem dX12_readsMove_138 : decode cX12_readsMove 138 = .ok (.iastore, 1) := by decide +kernel
theorem dX12_readsMove_139 : decode cX12_readsMove 139 = .ok (.aload_n 0, 1) := by decide +kernel
theorem dX12_readsMove_140 : decode cX12_readsMove 140 = .ok (.getfield 7, 3) := by decide +kernel
theorem dX12_readsMove_143 : decode cX12_readsMove 143 = .ok (.sipush 634, 3) := by decide +kernel
theorem dX12_readsMove_146 : decode cX12_readsMove 146 = .ok (.aload_n 0, 1) := by decide +kernel
theorem dX12_readsMove_147 : decode cX12_readsMove 147 = .ok (.getfield 7, 3) := by decide +kernel
theorem dX12_readsMove_150 : decode cX12_readsMove 150 = .ok (.sipush 634, 3) := by decide +kernel
theorem dX12_readsMove_153 : decode cX12_readsMove 153 = .ok (.iaload, 1) := by decide +kernel
theorem dX12_readsMove_154 : decode cX12_readsMove 154 = .ok (.iconst 1, 1) := by decide +kernel
theorem dX12_readsMove_155 : decode cX12_readsMove 155 = .ok (.iadd, 1) := by decide +kernel
theorem dX12_readsMove_156 : decode cX12_readsMove 156 = .ok (.iastore, 1) := by decide +kernel
theorem dX12_readsMove_157 : decode cX12_readsMove 157 = .ok (.iconst 1, 1) := by decide +kernel
theorem dX12_readsMove_158 : decode cX12_readsMove 158 = .ok (.ireturn, 1) := by decide +kernel
theorem dX12_readsMove_159 : decode cX12_readsMove 159 = .ok (.aload_n 0, 1) := by decide +kernel
theorem dX12_readsMove_160 : decode cX12_readsMove 160 = .ok (.getfield 120, 3) := by decide +kernel
theorem dX12_readsMove_163 : decode cX12_readsMove 163 = .ok (.istore_n 1, 1) := by decide +kernel
theorem dX12_readsMove_164 : decode cX12_readsMove 164 = .ok (.aload_n 0, 1) := by decide +kernel
theorem dX12_readsMove_165 : decode cX12_readsMove 165 = .ok (.invokevirtual 250, 3) := by decide +kernel
theorem dX12_readsMove_168 : decode cX12_readsMove 168 = .ok (.ifCond .ne 5, 3) := by decide +kernel
theorem dX12_readsMove_171 : decode cX12_readsMove 171 = .ok (.iconst 0, 1) := by decide +kernel
theorem dX12_readsMove_172 : decode cX12_readsMove 172 = .ok (.ireturn, 1) := by decide +kernel
theorem dX12_readsMove_173 : decode cX12_readsMove 173 = .ok (.iload_n 3, 1) := by decide +kernel
theorem dX12_readsMove_174 : decode cX12_readsMove 174 = .ok (.bipush 61, 2) := by decide +kernel
theorem dX12_readsMove_176 : decode cX12_readsMove 176 = .ok (.if_icmp .ne 22, 3) := by decide +kernel
theorem dX12_readsMove_179 : decode cX12_readsMove 179 = .ok (.aload_n 0, 1) := by decide +kernel
theorem dX12_readsMove_180 : decode cX12_readsMove 180 = .ok (.aload_n 0, 1) := by decide +kernel
theorem dX12_readsMove_181 : decode cX12_readsMove 181 = .ok (.getfield 137, 3) := by decide +kernel
theorem dX12_readsMove_184 : decode cX12_readsMove 184 = .ok (.invokevirtual 93, 3) := by decide +kernel
theorem dX12_readsMove_187 : decode cX12_readsMove 187 = .ok (.ifCond .ne 11, 3) := by decide +kernel
theorem dX12_readsMove_190 : decode cX12_readsMove 190 = .ok (.aload_n 0, 1) := by decide +kernel
theorem dX12_readsMove_191 : decode cX12_readsMove 191 = .ok (.bipush 7, 2) := by decide +kernel
theorem dX12_readsMove_193 : decode cX12_readsMove 193 = .ok (.iload_n 1, 1) := by decide +kernel
theorem dX12_readsMove_194 : decode cX12_readsMove 194 = .ok (.invokevirtual 133, 3) := by decide +kernel
theorem dX12_readsMove_197 : decode cX12_readsMove 197 = .ok (.ireturn, 1) := by decide +kernel
theorem dX12_readsMove_198 : decode cX12_readsMove 198 = .ok (.iload_n 3, 1) := by decide +kernel
theorem dX12_readsMove_199 : decode cX12_readsMove 199 = .ok (.bipush 62, 2) := by decide +kernel
theorem dX12_readsMove_201 : decode cX12_readsMove 201 = .ok (.if_icmp .ne 22, 3) := by decide +kernel
theorem dX12_readsMove_204 : decode cX12_readsMove 204 = .ok (.aload_n 0, 1) := by decide +kernel
theorem dX12_readsMove_205 : decode cX12_readsMove 205 = .ok (.aload_n 0, 1) := by decide +kernel
theorem dX12_readsMove_206 : decode cX12_readsMove 206 = .ok (.getfield 137, 3) := by decide +kernel
theorem dX12_readsMove_209 : decode cX12_readsMove 209 = .ok (.invokevirtual 93, 3) := by decide +kernel
theorem dX12_readsMove_212 : decode cX12_readsMove 212 = .ok (.ifCond .eq 11, 3) := by decide +kernel
theorem dX12_readsMove_215 : decode cX12_readsMove 215 = .ok (.aload_n 0, 1) := by decide +kernel
theorem dX12_readsMove_216 : decode cX12_readsMove 216 = .ok (.bipush 8, 2) := by decide +kernel
theorem dX12_readsMove_218 : decode cX12_readsMove 218 = .ok (.iload_n 1, 1) := by decide +kernel
theorem dX12_readsMove_219 : decode cX12_readsMove 219 = .ok (.invokevirtual 133, 3) := by decide +kernel
theorem dX12_readsMove_222 : decode cX12_readsMove 222 = .ok (.ireturn, 1) := by decide +kernel
theorem dX12_readsMove_223 : decode cX12_readsMove 223 = .ok (.aload_n 0, 1) := by decide +kernel
theorem dX12_readsMove_224 : decode cX12_readsMove 224 = .ok (.iconst 0, 1) := by decide +kernel
theorem dX12_readsMove_225 : decode cX12_readsMove 225 = .ok (.iload_n 2, 1) := by decide +kernel
theorem dX12_readsMove_226 : decode cX12_readsMove 226 = .ok (.iadd, 1) := by decide +kernel
theorem dX12_readsMove_227 : decode cX12_readsMove 227 = .ok (.iconst 0, 1) := by decide +kernel
theorem dX12_readsMove_228 : decode cX12_readsMove 228 = .ok (.aload_n 0, 1) := by decide +kernel
theorem dX12_readsMove_229 : decode cX12_readsMove 229 = .ok (.getfield 137, 3) := by decide +kernel
theorem dX12_readsMove_232 : decode cX12_readsMove 232 = .ok (.iadd, 1) := by decide +kernel
theorem dX12_readsMove_233 : decode cX12_readsMove 233 = .ok (.invokevirtual 253, 3) := by decide +kernel
theorem dX12_readsMove_236 : decode cX12_readsMove 236 = .ok (.aload_n 0, 1) := by decide +kernel
theorem dX12_readsMove_237 : decode cX12_readsMove 237 = .ok (.sipush 144, 3) := by decide +kernel
theorem dX12_readsMove_240 : decode cX12_readsMove 240 = .ok (.iload_n 2, 1) := by decide +kernel
theorem dX12_readsMove_241 : decode cX12_readsMove 241 = .ok (.iadd, 1) := by decide +kernel
theorem dX12_readsMove_242 : decode cX12_readsMove 242 = .ok (.sipush 144, 3) := by decide +kernel
theorem dX12_readsMove_245 : decode cX12_readsMove 245 = .ok (.aload_n 0, 1) := by decide +kernel
theorem dX12_readsMove_246 : decode cX12_readsMove 246 = .ok (.getfield 137, 3) := by decide +kernel
theorem dX12_readsMove_249 : decode cX12_readsMove 249 = .ok (.iadd, 1) := by decide +kernel
theorem dX12_readsMove_250 : decode cX12_readsMove 250 = .ok (.invokevirtual 253, 3) := by decide +kernel
theorem dX12_readsMove_253 : decode cX12_readsMove 253 = .ok (.iconst 1, 1) := by decide +kernel
theorem dX12_readsMove_254 : decode cX12_readsMove 254 = .ok (.ireturn, 1) := by decide +kernel
theorem dX12_moves_0 : decode cX12_moves 0 = .ok (.iload_n 1, 1) := by decide +kernel
theorem dX12_moves_1 : decode cX12_moves 1 = .ok (.iconst 1, 1) := by decide +kernel
theorem dX12_moves_2 : decode cX12_moves 2 = .ok (.bipush 120, 2) := by decide +kernel
theorem dX12_moves_4 : decode cX12_moves 4 = .ok (.invokestatic 108, 3) := by decide +kernel
theorem dX12_moves_7 : decode cX12_moves 7 = .ok (.ifCond .eq 11, 3) := by decide +kernel
theorem dX12_moves_10 : decode cX12_moves 10 = .ok (.iload_n 1, 1) := by decide +kernel
theorem dX12_moves_11 : decode cX12_moves 11 = .ok (.aload_n 0, 1) := by decide +kernel
theorem dX12_moves_12 : decode cX12_moves 12 = .ok (.getfield 112, 3) := by decide +kernel
theorem dX12_moves_15 : decode cX12_moves 15 = .ok (.if_icmp .le 5, 3) := by decide +kernel
theorem dX12_moves_18 : decode cX12_moves 18 = .ok (.iconst (-1), 1) := by decide +kernel
theorem dX12_moves_19 : decode cX12_moves 19 = .ok (.ireturn, 1) := by decide +kernel
theorem dX12_moves_20 : decode cX12_moves 20 = .ok (.aload_n 0, 1) := by decide +kernel
theorem dX12_moves_21 : decode cX12_moves 21 = .ok (.iload_n 1, 1) := by decide +kernel
theorem dX12_moves_22 : decode cX12_moves 22 = .ok (.invokevirtual 204, 3) := by decide +kernel
theorem dX12_moves_25 : decode cX12_moves 25 = .ok (.aload_n 0, 1) := by decide +kernel
theorem dX12_moves_26 : decode cX12_moves 26 = .ok (.iconst 0, 1) := by decide +kernel
theorem dX12_moves_27 : decode cX12_moves 27 = .ok (.putfield 247, 3) := by decide +kernel
theorem dX12_moves_30 : decode cX12_moves 30 = .ok (.aload_n 0, 1) := by decide +kernel
theorem dX12_moves_31 : decode cX12_moves 31 = .ok (.getfield 7, 3) := by decide +kernel
theorem dX12_moves_34 : decode cX12_moves 34 = .ok (.aload_n 0, 1) := by decide +kernel
theorem dX12_moves_35 : decode cX12_moves 35 = .ok (.getfield 13, 3) := by decide +kernel
theorem dX12_moves_38 : decode cX12_moves 38 = .ok (.invokestatic 256, 3) := by decide +kernel
theorem dX12_moves_41 : decode cX12_moves 41 = .ok (.aload_n 0, 1) := by decide +kernel
theorem dX12_moves_42 : decode cX12_moves 42 = .ok (.invokevirtual 260, 3) := by decide +kernel
theorem dX12_moves_45 : decode cX12_moves 45 = .ok (.istore_n 2, 1) := by decide +kernel
theorem dX12_moves_46 : decode cX12_moves 46 = .ok (.iload_n 2, 1) := by decide +kernel
theorem dX12_moves_47 : decode cX12_moves 47 = .ok (.ifCond .eq 39, 3) := by decide +kernel
theorem dX12_moves_50 : decode cX12_moves 50 = .ok (.aload_n 0, 1) := by decide +kernel
theorem dX12_moves_51 : decode cX12_moves 51 = .ok (.getfield 120, 3) := by decide +kernel
theorem dX12_moves_54 : decode cX12_moves 54 = .ok (.aload_n 0, 1) := by decide +kernel
theorem dX12_moves_55 : decode cX12_moves 55 = .ok (.getfield 123, 3) := by decide +kernel
theorem dX12_moves_58 : decode cX12_moves 58 = .ok (.if_icmp .ge 28, 3) := by decide +kernel
theorem dX12_moves_61 : decode cX12_moves 61 = .ok (.aload_n 0, 1) := by decide +kernel
theorem dX12_moves_62 : decode cX12_moves 62 = .ok (.bipush 59, 2) := by decide +kernel
theorem dX12_moves_64 : decode cX12_moves 64 = .ok (.invokevirtual 210, 3) := by decide +kernel
theorem dX12_moves_67 : decode cX12_moves 67 = .ok (.ifCond .eq 14, 3) := by decide +kernel
theorem dX12_moves_70 : decode cX12_moves 70 = .ok (.aload_n 0, 1) := by decide +kernel
theorem dX12_moves_71 : decode cX12_moves 71 = .ok (.invokevirtual 260, 3) := by decide +kernel
theorem dX12_moves_74 : decode cX12_moves 74 = .ok (.ifCond .eq 7, 3) := by decide +kernel
theorem dX12_moves_77 : decode cX12_moves 77 = .ok (.iconst 1, 1) := by decide +kernel
theorem dX12_moves_78 : decode cX12_moves 78 = .ok (.goto 4, 3) := by decide +kernel
theorem dX12_moves_81 : decode cX12_moves 81 = .ok (.iconst 0, 1) := by decide +kernel
theorem dX12_moves_82 : decode cX12_moves 82 = .ok (.istore_n 2, 1) := by decide +kernel
theorem dX12_moves_83 : decode cX12_moves 83 = .ok (.goto (-37), 3) := by decide +kernel
theorem dX12_moves_86 : decode cX12_moves 86 = .ok (.aload_n 0, 1) := by decide +kernel
theorem dX12_moves_87 : decode cX12_moves 87 = .ok (.iconst 0, 1) := by decide +kernel
theorem dX12_moves_88 : decode cX12_moves 88 = .ok (.putfield 112, 3) := by decide +kernel
theorem dX12_moves_91 : decode cX12_moves 91 = .ok (.iload_n 2, 1) := by decide +kernel
theorem dX12_moves_92 : decode cX12_moves 92 = .ok (.ifCond .eq 8, 3) := by decide +kernel
theorem dX12_moves_95 : decode cX12_moves 95 = .ok (.aload_n 0, 1) := by decide +kernel
theorem dX12_moves_96 : decode cX12_moves 96 = .ok (.getfield 247, 3) := by decide +kernel
theorem dX12_moves_99 : decode cX12_moves 99 = .ok (.ireturn, 1) := by decide +kernel
theorem dX12_moves_100 : decode cX12_moves 100 = .ok (.aload_n 0, 1) := by decide +kernel
theorem dX12_moves_101 : decode cX12_moves 101 = .ok (.getfield 13, 3) := by decide +kernel
theorem dX12_moves_104 : decode cX12_moves 104 = .ok (.aload_n 0, 1) := by decide +kernel
theorem dX12_moves_105 : decode cX12_moves 105 = .ok (.getfield 7, 3) := by decide +kernel
theorem dX12_moves_108 : decode cX12_moves 108 = .ok (.invokestatic 256, 3) := by decide +kernel
theorem dX12_moves_111 : decode cX12_moves 111 = .ok (.aload_n 0, 1) := by decide +kernel
theorem dX12_moves_112 : decode cX12_moves 112 = .ok (.getfield 130, 3) := by decide +kernel
theorem dX12_moves_115 : decode cX12_moves 115 = .ok (.ireturn, 1) := by decide +kernel
theorem dX12_isFree_0 : decode cX12_isFree 0 = .ok (.aload_n 0, 1) := by decide +kernel
theorem dX12_isFree_1 : decode cX12_isFree 1 = .ok (.iload_n 1, 1) := by decide +kernel
theorem dX12_isFree_2 : decode cX12_isFree 2 = .ok (.invokevirtual 93, 3) := by decide +kernel
theorem dX12_isFree_5 : decode cX12_isFree 5 = .ok (.ifCond .ne 38, 3) := by decide +kernel
theorem dX12_isFree_8 : decode cX12_isFree 8 = .ok (.aload_n 0, 1) := by decide +kernel
theorem dX12_isFree_9 : decode cX12_isFree 9 = .ok (.getfield 7, 3) := by decide +kernel
theorem dX12_isFree_12 : decode cX12_isFree 12 = .ok (.sipush 288, 3) := by decide +kernel
theorem dX12_isFree_15 : decode cX12_isFree 15 = .ok (.iload_n 1, 1) := by decide +kernel
theorem dX12_isFree_16 : decode cX12_isFree 16 = .ok (.iadd, 1) := by decide +kernel
theorem dX12_isFree_17 : decode cX12_isFree 17 = .ok (.iaload, 1) := by decide +kernel
theorem dX12_isFree_18 : decode cX12_isFree 18 = .ok (.iconst (-1), 1) := by decide +kernel
theorem dX12_isFree_19 : decode cX12_isFree 19 = .ok (.if_icmp .eq 20, 3) := by decide +kernel
theorem dX12_isFree_22 : decode cX12_isFree 22 = .ok (.aload_n 0, 1) := by decide +kernel
theorem dX12_isFree_23 : decode cX12_isFree 23 = .ok (.getfield 7, 3) := by decide +kernel
theorem dX12_isFree_26 : decode cX12_isFree 26 = .ok (.sipush 288, 3) := by decide +kernel
theorem dX12_isFree_29 : decode cX12_isFree 29 = .ok (.iload_n 1, 1) := by decide +kernel
theorem dX12_isFree_30 : decode cX12_isFree 30 = .ok (.iadd, 1) := by decide +kernel
theorem dX12_isFree_31 : decode cX12_isFree 31 = .ok (.iaload, 1) := by decide +kernel
theorem dX12_isFree_32 : decode cX12_isFree 32 = .ok (.iload_n 2, 1) := by decide +kernel
theorem dX12_isFree_33 : decode cX12_isFree 33 = .ok (.invokestatic 101, 3) := by decide +kernel
theorem dX12_isFree_36 : decode cX12_isFree 36 = .ok (.if_icmp .ne 7, 3) := by decide +kernel
theorem dX12_isFree_39 : decode cX12_isFree 39 = .ok (.iconst 1, 1) := by decide +kernel
theorem dX12_isFree_40 : decode cX12_isFree 40 = .ok (.goto 4, 3) := by decide +kernel
theorem dX12_isFree_43 : decode cX12_isFree 43 = .ok (.iconst 0, 1) := by decide +kernel
theorem dX12_isFree_44 : decode cX12_isFree 44 = .ok (.ireturn, 1) := by decide +kernel
theorem dX12_seatIn_0 : decode cX12_seatIn 0 = .ok (.iconst 0, 1) := by decide +kernel
theorem dX12_seatIn_1 : decode cX12_seatIn 1 = .ok (.istore 4, 2) := by decide +kernel
theorem dX12_seatIn_3 : decode cX12_seatIn 3 = .ok (.iload 4, 2) := by decide +kernel
theorem dX12_seatIn_5 : decode cX12_seatIn 5 = .ok (.bipush 9, 2) := by decide +kernel
theorem dX12_seatIn_7 : decode cX12_seatIn 7 = .ok (.if_icmp .ge 43, 3) := by decide +kernel
theorem dX12_seatIn_10 : decode cX12_seatIn 10 = .ok (.bipush 9, 2) := by decide +kernel
theorem dX12_seatIn_12 : decode cX12_seatIn 12 = .ok (.iload_n 1, 1) := by decide +kernel
theorem dX12_seatIn_13 : decode cX12_seatIn 13 = .ok (.imul, 1) := by decide +kernel
theorem dX12_seatIn_14 : decode cX12_seatIn 14 = .ok (.iload_n 3, 1) := by decide +kernel
theorem dX12_seatIn_15 : decode cX12_seatIn 15 = .ok (.ifCond .eq 11, 3) := by decide +kernel
theorem dX12_seatIn_18 : decode cX12_seatIn 18 = .ok (.bipush 8, 2) := by decide +kernel
theorem dX12_seatIn_20 : decode cX12_seatIn 20 = .ok (.iload 4, 2) := by decide +kernel
theorem dX12_seatIn_22 : decode cX12_seatIn 22 = .ok (.isub, 1) := by decide +kernel
theorem dX12_seatIn_23 : decode cX12_seatIn 23 = .ok (.goto 5, 3) := by decide +kernel
theorem dX12_seatIn_26 : decode cX12_seatIn 26 = .ok (.iload 4, 2) := by decide +kernel
theorem dX12_seatIn_28 : decode cX12_seatIn 28 = .ok (.iadd, 1) := by decide +kernel
theorem dX12_seatIn_29 : decode cX12_seatIn 29 = .ok (.istore 5, 2) := by decide +kernel
theorem dX12_seatIn_31 : decode cX12_seatIn 31 = .ok (.aload_n 0, 1) := by decide +kernel
theorem dX12_seatIn_32 : decode cX12_seatIn 32 = .ok (.iload 5, 2) := by decide +kernel
theorem dX12_seatIn_34 : decode cX12_seatIn 34 = .ok (.iload_n 2, 1) := by decide +kernel
theorem dX12_seatIn_35 : decode cX12_seatIn 35 = .ok (.invokevirtual 263, 3) := by decide +kernel
theorem dX12_seatIn_38 : decode cX12_seatIn 38 = .ok (.ifCond .eq 6, 3) := by decide +kernel
theorem dX12_seatIn_41 : decode cX12_seatIn 41 = .ok (.iload 5, 2) := by decide +kernel
theorem dX12_seatIn_43 : decode cX12_seatIn 43 = .ok (.ireturn, 1) := by decide +kernel
theorem dX12_seatIn_44 : decode cX12_seatIn 44 = .ok (.iinc 4 1, 3) := by decide +kernel
theorem dX12_seatIn_47 : decode cX12_seatIn 47 = .ok (.goto (-44), 3) := by decide +kernel
theorem dX12_seatIn_50 : decode cX12_seatIn 50 = .ok (.iconst (-1), 1) := by decide +kernel
theorem dX12_seatIn_51 : decode cX12_seatIn 51 = .ok (.ireturn, 1) := by decide +kernel
theorem dX12_emptiest_0 : decode cX12_emptiest 0 = .ok (.iconst (-1), 1) := by decide +kernel
theorem dX12_emptiest_1 : decode cX12_emptiest 1 = .ok (.istore_n 2, 1) := by decide +kernel
theorem dX12_emptiest_2 : decode cX12_emptiest 2 = .ok (.iconst 0, 1) := by decide +kernel
theorem dX12_emptiest_3 : decode cX12_emptiest 3 = .ok (.istore_n 3, 1) := by decide +kernel
theorem dX12_emptiest_4 : decode cX12_emptiest 4 = .ok (.iload_n 3, 1) := by decide +kernel
theorem dX12_emptiest_5 : decode cX12_emptiest 5 = .ok (.bipush 16, 2) := by decide +kernel
theorem dX12_emptiest_7 : decode cX12_emptiest 7 = .ok (.if_icmp .ge 40, 3) := by decide +kernel
theorem dX12_emptiest_10 : decode cX12_emptiest 10 = .ok (.aload_n 0, 1) := by decide +kernel
theorem dX12_emptiest_11 : decode cX12_emptiest 11 = .ok (.iload_n 3, 1) := by decide +kernel
theorem dX12_emptiest_12 : decode cX12_emptiest 12 = .ok (.iload_n 1, 1) := by decide +kernel
theorem dX12_emptiest_13 : decode cX12_emptiest 13 = .ok (.iconst 0, 1) := by decide +kernel
theorem dX12_emptiest_14 : decode cX12_emptiest 14 = .ok (.invokevirtual 266, 3) := by decide +kernel
theorem dX12_emptiest_17 : decode cX12_emptiest 17 = .ok (.iconst (-1), 1) := by decide +kernel
theorem dX12_emptiest_18 : decode cX12_emptiest 18 = .ok (.if_icmp .eq 23, 3) := by decide +kernel
theorem dX12_emptiest_21 : decode cX12_emptiest 21 = .ok (.iload_n 2, 1) := by decide +kernel
theorem dX12_emptiest_22 : decode cX12_emptiest 22 = .ok (.iconst (-1), 1) := by decide +kernel
theorem dX12_emptiest_23 : decode cX12_emptiest 23 = .ok (.if_icmp .eq 16, 3) := by decide +kernel
theorem dX12_emptiest_26 : decode cX12_emptiest 26 = .ok (.aload_n 0, 1) := by decide +kernel
theorem dX12_emptiest_27 : decode cX12_emptiest 27 = .ok (.iload_n 3, 1) := by decide +kernel
theorem dX12_emptiest_28 : decode cX12_emptiest 28 = .ok (.invokevirtual 97, 3) := by decide +kernel
theorem dX12_emptiest_31 : decode cX12_emptiest 31 = .ok (.aload_n 0, 1) := by decide +kernel
theorem dX12_emptiest_32 : decode cX12_emptiest 32 = .ok (.iload_n 2, 1) := by decide +kernel
theorem dX12_emptiest_33 : decode cX12_emptiest 33 = .ok (.invokevirtual 97, 3) := by decide +kernel
theorem dX12_emptiest_36 : decode cX12_emptiest 36 = .ok (.if_icmp .ge 5, 3) := by decide +kernel
theorem dX12_emptiest_39 : decode cX12_emptiest 39 = .ok (.iload_n 3, 1) := by decide +kernel
theorem dX12_emptiest_40 : decode cX12_emptiest 40 = .ok (.istore_n 2, 1) := by decide +kernel
theorem dX12_emptiest_41 : decode cX12_emptiest 41 = .ok (.iinc 3 1, 3) := by decide +kernel
theorem dX12_emptiest_44 : decode cX12_emptiest 44 = .ok (.goto (-40), 3) := by decide +kernel
theorem dX12_emptiest_47 : decode cX12_emptiest 47 = .ok (.iload_n 2, 1) := by decide +kernel
theorem dX12_emptiest_48 : decode cX12_emptiest 48 = .ok (.ireturn, 1) := by decide +kernel
theorem dX12_dearest_0 : decode cX12_dearest 0 = .ok (.iconst (-1), 1) := by decide +kernel
theorem dX12_dearest_1 : decode cX12_dearest 1 = .ok (.istore_n 2, 1) := by decide +kernel
theorem dX12_dearest_2 : decode cX12_dearest 2 = .ok (.iconst 0, 1) := by decide +kernel
theorem dX12_dearest_3 : decode cX12_dearest 3 = .ok (.istore_n 3, 1) := by decide +kernel
theorem dX12_dearest_4 : decode cX12_dearest 4 = .ok (.iconst 0, 1) := by decide +kernel
theorem dX12_dearest_5 : decode cX12_dearest 5 = .ok (.istore 4, 2) := by decide +kernel
theorem dX12_dearest_7 : decode cX12_dearest 7 = .ok (.iload 4, 2) := by decide +kernel
theorem dX12_dearest_9 : decode cX12_dearest 9 = .ok (.bipush 16, 2) := by decide +kernel
theorem dX12_dearest_11 : decode cX12_dearest 11 = .ok (.if_icmp .ge 57, 3) := by decide +kernel
theorem dX12_dearest_14 : decode cX12_dearest 14 = .ok (.aload_n 0, 1) := by decide +kernel
theorem dX12_dearest_15 : decode cX12_dearest 15 = .ok (.iload 4, 2) := by decide +kernel
theorem dX12_dearest_17 : decode cX12_dearest 17 = .ok (.iload_n 1, 1) := by decide +kernel
theorem dX12_dearest_18 : decode cX12_dearest 18 = .ok (.iconst 0, 1) := by decide +kernel
theorem dX12_dearest_19 : decode cX12_dearest 19 = .ok (.invokevirtual 266, 3) := by decide +kernel
theorem dX12_dearest_22 : decode cX12_dearest 22 = .ok (.iconst (-1), 1) := by decide +kernel
theorem dX12_dearest_23 : decode cX12_dearest 23 = .ok (.if_icmp .ne 6, 3) := by decide +kernel
theorem dX12_dearest_26 : decode cX12_dearest 26 = .ok (.goto 36, 3) := by decide +kernel
theorem dX12_dearest_29 : decode cX12_dearest 29 = .ok (.aload_n 0, 1) := by decide +kernel
theorem dX12_dearest_30 : decode cX12_dearest 30 = .ok (.iload_n 1, 1) := by decide +kernel
theorem dX12_dearest_31 : decode cX12_dearest 31 = .ok (.iload 4, 2) := by decide +kernel
theorem dX12_dearest_33 : decode cX12_dearest 33 = .ok (.invokevirtual 270, 3) := by decide +kernel
theorem dX12_dearest_36 : decode cX12_dearest 36 = .ok (.aload_n 0, 1) := by decide +kernel
theorem dX12_dearest_37 : decode cX12_dearest 37 = .ok (.bipush 101, 2) := by decide +kernel
theorem dX12_dearest_39 : decode cX12_dearest 39 = .ok (.sipush 9999, 3) := by decide +kernel
theorem dX12_dearest_42 : decode cX12_dearest 42 = .ok (.invokevirtual 273, 3) := by decide +kernel
theorem dX12_dearest_45 : decode cX12_dearest 45 = .ok (.istore 5, 2) := by decide +kernel
theorem dX12_dearest_47 : decode cX12_dearest 47 = .ok (.iload 5, 2) := by decide +kernel
theorem dX12_dearest_49 : decode cX12_dearest 49 = .ok (.iload_n 3, 1) := by decide +kernel
theorem dX12_dearest_50 : decode cX12_dearest 50 = .ok (.if_icmp .gt 6, 3) := by decide +kernel
theorem dX12_dearest_53 : decode cX12_dearest 53 = .ok (.goto 9, 3) := by decide +kernel
theorem dX12_dearest_56 : decode cX12_dearest 56 = .ok (.iload 5, 2) := by decide +kernel
theorem dX12_dearest_58 : decode cX12_dearest 58 = .ok (.istore_n 3, 1) := by decide +kernel
theorem dX12_dearest_59 : decode cX12_dearest 59 = .ok (.iload 4, 2) := by decide +kernel
theorem dX12_dearest_61 : decode cX12_dearest 61 = .ok (.istore_n 2, 1) := by decide +kernel
theorem dX12_dearest_62 : decode cX12_dearest 62 = .ok (.iinc 4 1, 3) := by decide +kernel
theorem dX12_dearest_65 : decode cX12_dearest 65 = .ok (.goto (-58), 3) := by decide +kernel
theorem dX12_dearest_68 : decode cX12_dearest 68 = .ok (.iload_n 2, 1) := by decide +kernel
theorem dX12_dearest_69 : decode cX12_dearest 69 = .ok (.ireturn, 1) := by decide +kernel
theorem dX12_sits_0 : decode cX12_sits 0 = .ok (.aload_n 0, 1) := by decide +kernel
theorem dX12_sits_1 : decode cX12_sits 1 = .ok (.iload_n 1, 1) := by decide +kernel
theorem dX12_sits_2 : decode cX12_sits 2 = .ok (.iload_n 2, 1) := by decide +kernel
theorem dX12_sits_3 : decode cX12_sits 3 = .ok (.invokevirtual 270, 3) := by decide +kernel
theorem dX12_sits_6 : decode cX12_sits 6 = .ok (.aload_n 0, 1) := by decide +kernel
theorem dX12_sits_7 : decode cX12_sits 7 = .ok (.iload_n 2, 1) := by decide +kernel
theorem dX12_sits_8 : decode cX12_sits 8 = .ok (.iload_n 1, 1) := by decide +kernel
theorem dX12_sits_9 : decode cX12_sits 9 = .ok (.aload_n 0, 1) := by decide +kernel
theorem dX12_sits_10 : decode cX12_sits 10 = .ok (.bipush 111, 2) := by decide +kernel
theorem dX12_sits_12 : decode cX12_sits 12 = .ok (.invokevirtual 276, 3) := by decide +kernel
theorem dX12_sits_15 : decode cX12_sits 15 = .ok (.invokevirtual 266, 3) := by decide +kernel
theorem dX12_sits_18 : decode cX12_sits 18 = .ok (.istore_n 3, 1) := by decide +kernel
theorem dX12_sits_19 : decode cX12_sits 19 = .ok (.bipush 9, 2) := by decide +kernel
theorem dX12_sits_21 : decode cX12_sits 21 = .ok (.iload_n 2, 1) := by decide +kernel
theorem dX12_sits_22 : decode cX12_sits 22 = .ok (.imul, 1) := by decide +kernel
theorem dX12_sits_23 : decode cX12_sits 23 = .ok (.istore 4, 2) := by decide +kernel
theorem dX12_sits_25 : decode cX12_sits 25 = .ok (.iload 4, 2) := by decide +kernel
theorem dX12_sits_27 : decode cX12_sits 27 = .ok (.iload_n 3, 1) := by decide +kernel
theorem dX12_sits_28 : decode cX12_sits 28 = .ok (.if_icmp .ge 28, 3) := by decide +kernel
theorem dX12_sits_31 : decode cX12_sits 31 = .ok (.aload_n 0, 1) := by decide +kernel
theorem dX12_sits_32 : decode cX12_sits 32 = .ok (.iload 4, 2) := by decide +kernel
theorem dX12_sits_34 : decode cX12_sits 34 = .ok (.invokevirtual 93, 3) := by decide +kernel
theorem dX12_sits_37 : decode cX12_sits 37 = .ok (.ifCond .eq 13, 3) := by decide +kernel
theorem dX12_sits_40 : decode cX12_sits 40 = .ok (.aload_n 0, 1) := by decide +kernel
theorem dX12_sits_41 : decode cX12_sits 41 = .ok (.aload_n 0, 1) := by decide +kernel
theorem dX12_sits_42 : decode cX12_sits 42 = .ok (.getfield 279, 3) := by decide +kernel
theorem dX12_sits_45 : decode cX12_sits 45 = .ok (.iconst 1, 1) := by decide +kernel
theorem dX12_sits_46 : decode cX12_sits 46 = .ok (.iadd, 1) := by decide +kernel
theorem dX12_sits_47 : decode cX12_sits 47 = .ok (.putfield 279, 3) := by decide +kernel
theorem dX12_sits_50 : decode cX12_sits 50 = .ok (.iinc 4 1, 3) := by decide +kernel
theorem dX12_sits_53 : decode cX12_sits 53 = .ok (.goto (-28), 3) := by decide +kernel
theorem dX12_sits_56 : decode cX12_sits 56 = .ok (.aload_n 0, 1) := by decide +kernel
theorem dX12_sits_57 : decode cX12_sits 57 = .ok (.getfield 7, 3) := by decide +kernel
theorem dX12_sits_60 : decode cX12_sits 60 = .ok (.iconst 0, 1) := by decide +kernel
theorem dX12_sits_61 : decode cX12_sits 61 = .ok (.iload_n 3, 1) := by decide +kernel
theorem dX12_sits_62 : decode cX12_sits 62 = .ok (.iadd, 1) := by decide +kernel
theorem dX12_sits_63 : decode cX12_sits 63 = .ok (.iload_n 1, 1) := by decide +kernel
theorem dX12_sits_64 : decode cX12_sits 64 = .ok (.iastore, 1) := by decide +kernel
theorem dX12_sits_65 : decode cX12_sits 65 = .ok (.aload_n 0, 1) := by decide +kernel
theorem dX12_sits_66 : decode cX12_sits 66 = .ok (.getfield 7, 3) := by decide +kernel
theorem dX12_sits_69 : decode cX12_sits 69 = .ok (.sipush 144, 3) := by decide +kernel
theorem dX12_sits_72 : decode cX12_sits 72 = .ok (.iload_n 3, 1) := by decide +kernel
theorem dX12_sits_73 : decode cX12_sits 73 = .ok (.iadd, 1) := by decide +kernel
theorem dX12_sits_74 : decode cX12_sits 74 = .ok (.aload_n 0, 1) := by decide +kernel
theorem dX12_sits_75 : decode cX12_sits 75 = .ok (.getfield 7, 3) := by decide +kernel
theorem dX12_sits_78 : decode cX12_sits 78 = .ok (.sipush 633, 3) := by decide +kernel
theorem dX12_sits_81 : decode cX12_sits 81 = .ok (.iaload, 1) := by decide +kernel
theorem dX12_sits_82 : decode cX12_sits 82 = .ok (.iastore, 1) := by decide +kernel
theorem dX12_sits_83 : decode cX12_sits 83 = .ok (.aload_n 0, 1) := by decide +kernel
theorem dX12_sits_84 : decode cX12_sits 84 = .ok (.iload_n 3, 1) := by decide +kernel
theorem dX12_sits_85 : decode cX12_sits 85 = .ok (.putfield 282, 3) := by decide +kernel
theorem dX12_sits_88 : decode cX12_sits 88 = .ok (.return_, 1) := by decide +kernel
theorem dX12_oneComes_0 : decode cX12_oneComes 0 = .ok (.aload_n 0, 1) := by decide +kernel
theorem dX12_oneComes_1 : decode cX12_oneComes 1 = .ok (.getfield 7, 3) := by decide +kernel
theorem dX12_oneComes_4 : decode cX12_oneComes 4 = .ok (.sipush 432, 3) := by decide +kernel
theorem dX12_oneComes_7 : decode cX12_oneComes 7 = .ok (.iaload, 1) := by decide +kernel
theorem dX12_oneComes_8 : decode cX12_oneComes 8 = .ok (.istore_n 1, 1) := by decide +kernel
theorem dX12_oneComes_9 : decode cX12_oneComes 9 = .ok (.iconst 1, 1) := by decide +kernel
theorem dX12_oneComes_10 : decode cX12_oneComes 10 = .ok (.istore_n 2, 1) := by decide +kernel
theorem dX12_oneComes_11 : decode cX12_oneComes 11 = .ok (.iload_n 2, 1) := by decide +kernel
theorem dX12_oneComes_12 : decode cX12_oneComes 12 = .ok (.aload_n 0, 1) := by decide +kernel
theorem dX12_oneComes_13 : decode cX12_oneComes 13 = .ok (.getfield 7, 3) := by decide +kernel
theorem dX12_oneComes_16 : decode cX12_oneComes 16 = .ok (.sipush 632, 3) := by decide +kernel
theorem dX12_oneComes_19 : decode cX12_oneComes 19 = .ok (.iaload, 1) := by decide +kernel
theorem dX12_oneComes_20 : decode cX12_oneComes 20 = .ok (.if_icmp .ge 31, 3) := by decide +kernel
theorem dX12_oneComes_23 : decode cX12_oneComes 23 = .ok (.aload_n 0, 1) := by decide +kernel
theorem dX12_oneComes_24 : decode cX12_oneComes 24 = .ok (.getfield 7, 3) := by decide +kernel
theorem dX12_oneComes_27 : decode cX12_oneComes 27 = .ok (.sipush 432, 3) := by decide +kernel
theorem dX12_oneComes_30 : decode cX12_oneComes 30 = .ok (.iload_n 2, 1) := by decide +kernel
theorem dX12_oneComes_31 : decode cX12_oneComes 31 = .ok (.iadd, 1) := by decide +kernel
theorem dX12_oneComes_32 : decode cX12_oneComes 32 = .ok (.iconst 1, 1) := by decide +kernel
theorem dX12_oneComes_33 : decode cX12_oneComes 33 = .ok (.isub, 1) := by decide +kernel
theorem dX12_oneComes_34 : decode cX12_oneComes 34 = .ok (.aload_n 0, 1) := by decide +kernel
theorem dX12_oneComes_35 : decode cX12_oneComes 35 = .ok (.getfield 7, 3) := by decide +kernel
theorem dX12_oneComes_38 : decode cX12_oneComes 38 = .ok (.sipush 432, 3) := by decide +kernel
theorem dX12_oneComes_41 : decode cX12_oneComes 41 = .ok (.iload_n 2, 1) := by decide +kernel
theorem dX12_oneComes_42 : decode cX12_oneComes 42 = .ok (.iadd, 1) := by decide +kernel
theorem dX12_oneComes_43 : decode cX12_oneComes 43 = .ok (.iaload, 1) := by decide +kernel
theorem dX12_oneComes_44 : decode cX12_oneComes 44 = .ok (.iastore, 1) := by decide +kernel
theorem dX12_oneComes_45 : decode cX12_oneComes 45 = .ok (.iinc 2 1, 3) := by decide +kernel
theorem dX12_oneComes_48 : decode cX12_oneComes 48 = .ok (.goto (-37), 3) := by decide +kernel
theorem dX12_oneComes_51 : decode cX12_oneComes 51 = .ok (.aload_n 0, 1) := by decide +kernel
theorem dX12_oneComes_52 : decode cX12_oneComes 52 = .ok (.getfield 7, 3) := by decide +kernel
theorem dX12_oneComes_55 : decode cX12_oneComes 55 = .ok (.sipush 632, 3) := by decide +kernel
theorem dX12_oneComes_58 : decode cX12_oneComes 58 = .ok (.aload_n 0, 1) := by decide +kernel
theorem dX12_oneComes_59 : decode cX12_oneComes 59 = .ok (.getfield 7, 3) := by decide +kernel
theorem dX12_oneComes_62 : decode cX12_oneComes 62 = .ok (.sipush 632, 3) := by decide +kernel
theorem dX12_oneComes_65 : decode cX12_oneComes 65 = .ok (.iaload, 1) := by decide +kernel
theorem dX12_oneComes_66 : decode cX12_oneComes 66 = .ok (.iconst 1, 1) := by decide +kernel
theorem dX12_oneComes_67 : decode cX12_oneComes 67 = .ok (.isub, 1) := by decide +kernel
theorem dX12_oneComes_68 : decode cX12_oneComes 68 = .ok (.iastore, 1) := by decide +kernel
theorem dX12_oneComes_69 : decode cX12_oneComes 69 = .ok (.aload_n 0, 1) := by decide +kernel
theorem dX12_oneComes_70 : decode cX12_oneComes 70 = .ok (.iload_n 1, 1) := by decide +kernel
theorem dX12_oneComes_71 : decode cX12_oneComes 71 = .ok (.invokevirtual 285, 3) := by decide +kernel
theorem dX12_oneComes_74 : decode cX12_oneComes 74 = .ok (.aload_n 0, 1) := by decide +kernel
theorem dX12_oneComes_75 : decode cX12_oneComes 75 = .ok (.bipush 121, 2) := by decide +kernel
theorem dX12_oneComes_77 : decode cX12_oneComes 77 = .ok (.bipush 10, 2) := by decide +kernel
theorem dX12_oneComes_79 : decode cX12_oneComes 79 = .ok (.invokevirtual 273, 3) := by decide +kernel
theorem dX12_oneComes_82 : decode cX12_oneComes 82 = .ok (.istore_n 2, 1) := by decide +kernel
theorem dX12_oneComes_83 : decode cX12_oneComes 83 = .ok (.aload_n 0, 1) := by decide +kernel
theorem dX12_oneComes_84 : decode cX12_oneComes 84 = .ok (.getfield 7, 3) := by decide +kernel
theorem dX12_oneComes_87 : decode cX12_oneComes 87 = .ok (.sipush 636, 3) := by decide +kernel
theorem dX12_oneComes_90 : decode cX12_oneComes 90 = .ok (.sipush 25173, 3) := by decide +kernel
theorem dX12_oneComes_93 : decode cX12_oneComes 93 = .ok (.aload_n 0, 1) := by decide +kernel
theorem dX12_oneComes_94 : decode cX12_oneComes 94 = .ok (.getfield 7, 3) := by decide +kernel
theorem dX12_oneComes_97 : decode cX12_oneComes 97 = .ok (.sipush 636, 3) := by decide +kernel
theorem dX12_oneComes_100 : decode cX12_oneComes 100 = .ok (.iaload, 1) := by decide +kernel
theorem dX12_oneComes_101 : decode cX12_oneComes 101 = .ok (.imul, 1) := by decide +kernel
theorem dX12_oneComes_102 : decode cX12_oneComes 102 = .ok (.sipush 13849, 3) := by decide +kernel
theorem dX12_oneComes_105 : decode cX12_oneComes 105 = .ok (.iadd, 1) := by decide +kernel
theorem dX12_oneComes_106 : decode cX12_oneComes 106 = .ok (.ldc_w 288, 3) := by decide +kernel
theorem dX12_oneComes_109 : decode cX12_oneComes 109 = .ok (.irem, 1) := by decide +kernel
theorem dX12_oneComes_110 : decode cX12_oneComes 110 = .ok (.iastore, 1) := by decide +kernel
theorem dX12_oneComes_111 : decode cX12_oneComes 111 = .ok (.aload_n 0, 1) := by decide +kernel
theorem dX12_oneComes_112 : decode cX12_oneComes 112 = .ok (.getfield 7, 3) := by decide +kernel
theorem dX12_oneComes_115 : decode cX12_oneComes 115 = .ok (.sipush 636, 3) := by decide +kernel
theorem dX12_oneComes_118 : decode cX12_oneComes 118 = .ok (.iaload, 1) := by decide +kernel
theorem dX12_oneComes_119 : decode cX12_oneComes 119 = .ok (.bipush 10, 2) := by decide +kernel
theorem dX12_oneComes_121 : decode cX12_oneComes 121 = .ok (.irem, 1) := by decide +kernel
theorem dX12_oneComes_122 : decode cX12_oneComes 122 = .ok (.iload_n 2, 1) := by decide +kernel
theorem dX12_oneComes_123 : decode cX12_oneComes 123 = .ok (.if_icmp .ge 11, 3) := by decide +kernel
theorem dX12_oneComes_126 : decode cX12_oneComes 126 = .ok (.aload_n 0, 1) := by decide +kernel
theorem dX12_oneComes_127 : decode cX12_oneComes 127 = .ok (.iload_n 1, 1) := by decide +kernel
theorem dX12_oneComes_128 : decode cX12_oneComes 128 = .ok (.invokevirtual 289, 3) := by decide +kernel
theorem dX12_oneComes_131 : decode cX12_oneComes 131 = .ok (.goto 8, 3) := by decide +kernel
theorem dX12_oneComes_134 : decode cX12_oneComes 134 = .ok (.aload_n 0, 1) := by decide +kernel
theorem dX12_oneComes_135 : decode cX12_oneComes 135 = .ok (.iload_n 1, 1) := by decide +kernel
theorem dX12_oneComes_136 : decode cX12_oneComes 136 = .ok (.invokevirtual 292, 3) := by decide +kernel
theorem dX12_oneComes_139 : decode cX12_oneComes 139 = .ok (.istore_n 3, 1) := by decide +kernel
theorem dX12_oneComes_140 : decode cX12_oneComes 140 = .ok (.iload_n 3, 1) := by decide +kernel
theorem dX12_oneComes_141 : decode cX12_oneComes 141 = .ok (.iconst (-1), 1) := by decide +kernel
theorem dX12_oneComes_142 : decode cX12_oneComes 142 = .ok (.if_icmp .ne 40, 3) := by decide +kernel
theorem dX12_oneComes_145 : decode cX12_oneComes 145 = .ok (.aload_n 0, 1) := by decide +kernel
theorem dX12_oneComes_146 : decode cX12_oneComes 146 = .ok (.getfield 7, 3) := by decide +kernel
theorem dX12_oneComes_149 : decode cX12_oneComes 149 = .ok (.sipush 634, 3) := by decide +kernel
theorem dX12_oneComes_152 : decode cX12_oneComes 152 = .ok (.aload_n 0, 1) := by decide +kernel
theorem dX12_oneComes_153 : decode cX12_oneComes 153 = .ok (.getfield 7, 3) := by decide +kernel
theorem dX12_oneComes_156 : decode cX12_oneComes 156 = .ok (.sipush 634, 3) := by decide +kernel
theorem dX12_oneComes_159 : decode cX12_oneComes 159 = .ok (.iaload, 1) := by decide +kernel
theorem dX12_oneComes_160 : decode cX12_oneComes 160 = .ok (.iconst 1, 1) := by decide +kernel
theorem dX12_oneComes_161 : decode cX12_oneComes 161 = .ok (.iadd, 1) := by decide +kernel
theorem dX12_oneComes_162 : decode cX12_oneComes 162 = .ok (.iastore, 1) := by decide +kernel
theorem dX12_oneComes_163 : decode cX12_oneComes 163 = .ok (.aload_n 0, 1) := by decide +kernel
theorem dX12_oneComes_164 : decode cX12_oneComes 164 = .ok (.aload_n 0, 1) := by decide +kernel
theorem dX12_oneComes_165 : decode cX12_oneComes 165 = .ok (.getfield 295, 3) := by decide +kernel
theorem dX12_oneComes_168 : decode cX12_oneComes 168 = .ok (.iconst 1, 1) := by decide +kernel
theorem dX12_oneComes_169 : decode cX12_oneComes 169 = .ok (.iadd, 1) := by decide +kernel
theorem dX12_oneComes_170 : decode cX12_oneComes 170 = .ok (.putfield 295, 3) := by decide +kernel
theorem dX12_oneComes_173 : decode cX12_oneComes 173 = .ok (.aload_n 0, 1) := by decide +kernel
theorem dX12_oneComes_174 : decode cX12_oneComes 174 = .ok (.bipush (-2), 2) := by decide +kernel
theorem dX12_oneComes_176 : decode cX12_oneComes 176 = .ok (.putfield 282, 3) := by decide +kernel
theorem dX12_oneComes_179 : decode cX12_oneComes 179 = .ok (.goto 9, 3) := by decide +kernel
theorem dX12_oneComes_182 : decode cX12_oneComes 182 = .ok (.aload_n 0, 1) := by decide +kernel
theorem dX12_oneComes_183 : decode cX12_oneComes 183 = .ok (.iload_n 1, 1) := by decide +kernel
theorem dX12_oneComes_184 : decode cX12_oneComes 184 = .ok (.iload_n 3, 1) := by decide +kernel
theorem dX12_oneComes_185 : decode cX12_oneComes 185 = .ok (.invokevirtual 298, 3) := by decide +kernel
theorem dX12_oneComes_188 : decode cX12_oneComes 188 = .ok (.aload_n 0, 1) := by decide +kernel
theorem dX12_oneComes_189 : decode cX12_oneComes 189 = .ok (.getfield 7, 3) := by decide +kernel
theorem dX12_oneComes_192 : decode cX12_oneComes 192 = .ok (.sipush 633, 3) := by decide +kernel
theorem dX12_oneComes_195 : decode cX12_oneComes 195 = .ok (.aload_n 0, 1) := by decide +kernel
theorem dX12_oneComes_196 : decode cX12_oneComes 196 = .ok (.getfield 7, 3) := by decide +kernel
theorem dX12_oneComes_199 : decode cX12_oneComes 199 = .ok (.sipush 633, 3) := by decide +kernel
theorem dX12_oneComes_202 : decode cX12_oneComes 202 = .ok (.iaload, 1) := by decide +kernel
theorem dX12_oneComes_203 : decode cX12_oneComes 203 = .ok (.iconst 1, 1) := by decide +kernel
theorem dX12_oneComes_204 : decode cX12_oneComes 204 = .ok (.iadd, 1) := by decide +kernel
theorem dX12_oneComes_205 : decode cX12_oneComes 205 = .ok (.iastore, 1) := by decide +kernel
theorem dX12_oneComes_206 : decode cX12_oneComes 206 = .ok (.return_, 1) := by decide +kernel
theorem dX12_theyCome_0 : decode cX12_theyCome 0 = .ok (.aload_n 0, 1) := by decide +kernel
theorem dX12_theyCome_1 : decode cX12_theyCome 1 = .ok (.iconst 0, 1) := by decide +kernel
theorem dX12_theyCome_2 : decode cX12_theyCome 2 = .ok (.putfield 295, 3) := by decide +kernel
theorem dX12_theyCome_5 : decode cX12_theyCome 5 = .ok (.aload_n 0, 1) := by decide +kernel
theorem dX12_theyCome_6 : decode cX12_theyCome 6 = .ok (.iconst 0, 1) := by decide +kernel
theorem dX12_theyCome_7 : decode cX12_theyCome 7 = .ok (.putfield 279, 3) := by decide +kernel
theorem dX12_theyCome_10 : decode cX12_theyCome 10 = .ok (.aload_n 0, 1) := by decide +kernel
theorem dX12_theyCome_11 : decode cX12_theyCome 11 = .ok (.bipush (-2), 2) := by decide +kernel
theorem dX12_theyCome_13 : decode cX12_theyCome 13 = .ok (.putfield 282, 3) := by decide +kernel
theorem dX12_theyCome_16 : decode cX12_theyCome 16 = .ok (.iconst 0, 1) := by decide +kernel
theorem dX12_theyCome_17 : decode cX12_theyCome 17 = .ok (.istore_n 2, 1) := by decide +kernel
theorem dX12_theyCome_18 : decode cX12_theyCome 18 = .ok (.iload_n 2, 1) := by decide +kernel
theorem dX12_theyCome_19 : decode cX12_theyCome 19 = .ok (.iload_n 1, 1) := by decide +kernel
theorem dX12_theyCome_20 : decode cX12_theyCome 20 = .ok (.if_icmp .ge 24, 3) := by decide +kernel
theorem dX12_theyCome_23 : decode cX12_theyCome 23 = .ok (.aload_n 0, 1) := by decide +kernel
theorem dX12_theyCome_24 : decode cX12_theyCome 24 = .ok (.getfield 7, 3) := by decide +kernel
theorem dX12_theyCome_27 : decode cX12_theyCome 27 = .ok (.sipush 632, 3) := by decide +kernel
theorem dX12_theyCome_30 : decode cX12_theyCome 30 = .ok (.iaload, 1) := by decide +kernel
theorem dX12_theyCome_31 : decode cX12_theyCome 31 = .ok (.ifCond .le 13, 3) := by decide +kernel
theorem dX12_theyCome_34 : decode cX12_theyCome 34 = .ok (.aload_n 0, 1) := by decide +kernel
theorem dX12_theyCome_35 : decode cX12_theyCome 35 = .ok (.invokevirtual 301, 3) := by decide +kernel
theorem dX12_theyCome_38 : decode cX12_theyCome 38 = .ok (.iinc 2 1, 3) := by decide +kernel
theorem dX12_theyCome_41 : decode cX12_theyCome 41 = .ok (.goto (-23), 3) := by decide +kernel
theorem dX12_theyCome_44 : decode cX12_theyCome 44 = .ok (.aload_n 0, 1) := by decide +kernel
theorem dX12_theyCome_45 : decode cX12_theyCome 45 = .ok (.getfield 7, 3) := by decide +kernel
theorem dX12_theyCome_48 : decode cX12_theyCome 48 = .ok (.sipush 635, 3) := by decide +kernel
theorem dX12_theyCome_51 : decode cX12_theyCome 51 = .ok (.aload_n 0, 1) := by decide +kernel
theorem dX12_theyCome_52 : decode cX12_theyCome 52 = .ok (.getfield 7, 3) := by decide +kernel
theorem dX12_theyCome_55 : decode cX12_theyCome 55 = .ok (.sipush 635, 3) := by decide +kernel
theorem dX12_theyCome_58 : decode cX12_theyCome 58 = .ok (.iaload, 1) := by decide +kernel
theorem dX12_theyCome_59 : decode cX12_theyCome 59 = .ok (.aload_n 0, 1) := by decide +kernel
theorem dX12_theyCome_60 : decode cX12_theyCome 60 = .ok (.getfield 279, 3) := by decide +kernel
theorem dX12_theyCome_63 : decode cX12_theyCome 63 = .ok (.iadd, 1) := by decide +kernel
theorem dX12_theyCome_64 : decode cX12_theyCome 64 = .ok (.iastore, 1) := by decide +kernel
theorem dX12_theyCome_65 : decode cX12_theyCome 65 = .ok (.return_, 1) := by decide +kernel
theorem dX12_come_0 : decode cX12_come 0 = .ok (.iload_n 1, 1) := by decide +kernel
theorem dX12_come_1 : decode cX12_come 1 = .ok (.iconst 1, 1) := by decide +kernel
theorem dX12_come_2 : decode cX12_come 2 = .ok (.sipush 200, 3) := by decide +kernel
theorem dX12_come_5 : decode cX12_come 5 = .ok (.invokestatic 108, 3) := by decide +kernel
theorem dX12_come_8 : decode cX12_come 8 = .ok (.ifCond .ne 5, 3) := by decide +kernel
theorem dX12_come_11 : decode cX12_come 11 = .ok (.iconst (-1), 1) := by decide +kernel
theorem dX12_come_12 : decode cX12_come 12 = .ok (.ireturn, 1) := by decide +kernel
theorem dX12_come_13 : decode cX12_come 13 = .ok (.aload_n 0, 1) := by decide +kernel
theorem dX12_come_14 : decode cX12_come 14 = .ok (.iload_n 1, 1) := by decide +kernel
theorem dX12_come_15 : decode cX12_come 15 = .ok (.invokevirtual 304, 3) := by decide +kernel
theorem dX12_come_18 : decode cX12_come 18 = .ok (.aload_n 0, 1) := by decide +kernel
theorem dX12_come_19 : decode cX12_come 19 = .ok (.getfield 279, 3) := by decide +kernel
theorem dX12_come_22 : decode cX12_come 22 = .ok (.ireturn, 1) := by decide +kernel
theorem dX12_tried_0 : decode cX12_tried 0 = .ok (.iload_n 1, 1) := by decide +kernel
theorem dX12_tried_1 : decode cX12_tried 1 = .ok (.iconst 1, 1) := by decide +kernel
theorem dX12_tried_2 : decode cX12_tried 2 = .ok (.sipush 200, 3) := by decide +kernel
theorem dX12_tried_5 : decode cX12_tried 5 = .ok (.invokestatic 108, 3) := by decide +kernel
theorem dX12_tried_8 : decode cX12_tried 8 = .ok (.ifCond .eq 12, 3) := by decide +kernel
theorem dX12_tried_11 : decode cX12_tried 11 = .ok (.iload_n 2, 1) := by decide +kernel
theorem dX12_tried_12 : decode cX12_tried 12 = .ok (.iconst 0, 1) := by decide +kernel
theorem dX12_tried_13 : decode cX12_tried 13 = .ok (.iconst 4, 1) := by decide +kernel
theorem dX12_tried_14 : decode cX12_tried 14 = .ok (.invokestatic 108, 3) := by decide +kernel
theorem dX12_tried_17 : decode cX12_tried 17 = .ok (.ifCond .ne 7, 3) := by decide +kernel
theorem dX12_tried_20 : decode cX12_tried 20 = .ok (.sipush (-1000), 3) := by decide +kernel
theorem dX12_tried_23 : decode cX12_tried 23 = .ok (.ireturn, 1) := by decide +kernel
theorem dX12_tried_24 : decode cX12_tried 24 = .ok (.aload_n 0, 1) := by decide +kernel
theorem dX12_tried_25 : decode cX12_tried 25 = .ok (.getfield 7, 3) := by decide +kernel
theorem dX12_tried_28 : decode cX12_tried 28 = .ok (.aload_n 0, 1) := by decide +kernel
theorem dX12_tried_29 : decode cX12_tried 29 = .ok (.getfield 13, 3) := by decide +kernel
theorem dX12_tried_32 : decode cX12_tried 32 = .ok (.invokestatic 256, 3) := by decide +kernel
theorem dX12_tried_35 : decode cX12_tried 35 = .ok (.aload_n 0, 1) := by decide +kernel
theorem dX12_tried_36 : decode cX12_tried 36 = .ok (.iload_n 1, 1) := by decide +kernel
theorem dX12_tried_37 : decode cX12_tried 37 = .ok (.invokevirtual 304, 3) := by decide +kernel
theorem dX12_tried_40 : decode cX12_tried 40 = .ok (.aload_n 0, 1) := by decide +kernel
theorem dX12_tried_41 : decode cX12_tried 41 = .ok (.iconst 0, 1) := by decide +kernel
theorem dX12_tried_42 : decode cX12_tried 42 = .ok (.invokevirtual 235, 3) := by decide +kernel
theorem dX12_tried_45 : decode cX12_tried 45 = .ok (.aload_n 0, 1) := by decide +kernel
theorem dX12_tried_46 : decode cX12_tried 46 = .ok (.iconst 1, 1) := by decide +kernel
theorem dX12_tried_47 : decode cX12_tried 47 = .ok (.invokevirtual 235, 3) := by decide +kernel
theorem dX12_tried_50 : decode cX12_tried 50 = .ok (.isub, 1) := by decide +kernel
theorem dX12_tried_51 : decode cX12_tried 51 = .ok (.istore_n 3, 1) := by decide +kernel
theorem dX12_tried_52 : decode cX12_tried 52 = .ok (.aload_n 0, 1) := by decide +kernel
theorem dX12_tried_53 : decode cX12_tried 53 = .ok (.invokevirtual 307, 3) := by decide +kernel
theorem dX12_tried_56 : decode cX12_tried 56 = .ok (.istore 4, 2) := by decide +kernel
theorem dX12_tried_58 : decode cX12_tried 58 = .ok (.aload_n 0, 1) := by decide +kernel
theorem dX12_tried_59 : decode cX12_tried 59 = .ok (.getfield 13, 3) := by decide +kernel
theorem dX12_tried_62 : decode cX12_tried 62 = .ok (.aload_n 0, 1) := by decide +kernel
theorem dX12_tried_63 : decode cX12_tried 63 = .ok (.getfield 7, 3) := by decide +kernel
theorem dX12_tried_66 : decode cX12_tried 66 = .ok (.invokestatic 256, 3) := by decide +kernel
theorem dX12_tried_69 : decode cX12_tried 69 = .ok (.iload_n 2, 1) := by decide +kernel
theorem dX12_tried_70 : decode cX12_tried 70 = .ok (.tableswitch 47 0 3 #[30, 35, 40, 45], 30) := by decide +kernel
theorem dX12_tried_100 : decode cX12_tried 100 = .ok (.aload_n 0, 1) := by decide +kernel
theorem dX12_tried_101 : decode cX12_tried 101 = .ok (.getfield 279, 3) := by decide +kernel
theorem dX12_tried_104 : decode cX12_tried 104 = .ok (.ireturn, 1) := by decide +kernel
theorem dX12_tried_105 : decode cX12_tried 105 = .ok (.aload_n 0, 1) := by decide +kernel
theorem dX12_tried_106 : decode cX12_tried 106 = .ok (.getfield 295, 3) := by decide +kernel
theorem dX12_tried_109 : decode cX12_tried 109 = .ok (.ireturn, 1) := by decide +kernel
theorem dX12_tried_110 : decode cX12_tried 110 = .ok (.aload_n 0, 1) := by decide +kernel
theorem dX12_tried_111 : decode cX12_tried 111 = .ok (.getfield 282, 3) := by decide +kernel
theorem dX12_tried_114 : decode cX12_tried 114 = .ok (.ireturn, 1) := by decide +kernel
theorem dX12_tried_115 : decode cX12_tried 115 = .ok (.iload_n 3, 1) := by decide +kernel
theorem dX12_tried_116 : decode cX12_tried 116 = .ok (.ireturn, 1) := by decide +kernel
theorem dX12_tried_117 : decode cX12_tried 117 = .ok (.iload 4, 2) := by decide +kernel
theorem dX12_tried_119 : decode cX12_tried 119 = .ok (.ireturn, 1) := by decide +kernel
theorem dX12_viewOf_0 : decode cX12_viewOf 0 = .ok (.iload_n 1, 1) := by decide +kernel
theorem dX12_viewOf_1 : decode cX12_viewOf 1 = .ok (.bipush 72, 2) := by decide +kernel
theorem dX12_viewOf_3 : decode cX12_viewOf 3 = .ok (.irem, 1) := by decide +kernel
theorem dX12_viewOf_4 : decode cX12_viewOf 4 = .ok (.bipush 9, 2) := by decide +kernel
theorem dX12_viewOf_6 : decode cX12_viewOf 6 = .ok (.idiv, 1) := by decide +kernel
theorem dX12_viewOf_7 : decode cX12_viewOf 7 = .ok (.istore_n 2, 1) := by decide +kernel
theorem dX12_viewOf_8 : decode cX12_viewOf 8 = .ok (.iconst 1, 1) := by decide +kernel
theorem dX12_viewOf_9 : decode cX12_viewOf 9 = .ok (.istore_n 3, 1) := by decide +kernel
theorem dX12_viewOf_10 : decode cX12_viewOf 10 = .ok (.iload_n 3, 1) := by decide +kernel
theorem dX12_viewOf_11 : decode cX12_viewOf 11 = .ok (.iload_n 2, 1) := by decide +kernel
theorem dX12_viewOf_12 : decode cX12_viewOf 12 = .ok (.if_icmp .gt 54, 3) := by decide +kernel
theorem dX12_viewOf_15 : decode cX12_viewOf 15 = .ok (.iload_n 1, 1) := by decide +kernel
theorem dX12_viewOf_16 : decode cX12_viewOf 16 = .ok (.bipush 9, 2) := by decide +kernel
theorem dX12_viewOf_18 : decode cX12_viewOf 18 = .ok (.iload_n 3, 1) := by decide +kernel
theorem dX12_viewOf_19 : decode cX12_viewOf 19 = .ok (.imul, 1) := by decide +kernel
theorem dX12_viewOf_20 : decode cX12_viewOf 20 = .ok (.isub, 1) := by decide +kernel
theorem dX12_viewOf_21 : decode cX12_viewOf 21 = .ok (.istore 4, 2) := by decide +kernel
theorem dX12_viewOf_23 : decode cX12_viewOf 23 = .ok (.aload_n 0, 1) := by decide +kernel
theorem dX12_viewOf_24 : decode cX12_viewOf 24 = .ok (.iload 4, 2) := by decide +kernel
theorem dX12_viewOf_26 : decode cX12_viewOf 26 = .ok (.invokevirtual 93, 3) := by decide +kernel
theorem dX12_viewOf_29 : decode cX12_viewOf 29 = .ok (.ifCond .eq 31, 3) := by decide +kernel
theorem dX12_viewOf_32 : decode cX12_viewOf 32 = .ok (.aload_n 0, 1) := by decide +kernel
theorem dX12_viewOf_33 : decode cX12_viewOf 33 = .ok (.getfield 7, 3) := by decide +kernel
theorem dX12_viewOf_36 : decode cX12_viewOf 36 = .ok (.iconst 0, 1) := by decide +kernel
theorem dX12_viewOf_37 : decode cX12_viewOf 37 = .ok (.iload 4, 2) := by decide +kernel
theorem dX12_viewOf_39 : decode cX12_viewOf 39 = .ok (.iadd, 1) := by decide +kernel
theorem dX12_viewOf_40 : decode cX12_viewOf 40 = .ok (.iaload, 1) := by decide +kernel
theorem dX12_viewOf_41 : decode cX12_viewOf 41 = .ok (.invokestatic 226, 3) := by decide +kernel
theorem dX12_viewOf_44 : decode cX12_viewOf 44 = .ok (.aload_n 0, 1) := by decide +kernel
theorem dX12_viewOf_45 : decode cX12_viewOf 45 = .ok (.getfield 7, 3) := by decide +kernel
theorem dX12_viewOf_48 : decode cX12_viewOf 48 = .ok (.iconst 0, 1) := by decide +kernel
theorem dX12_viewOf_49 : decode cX12_viewOf 49 = .ok (.iload_n 1, 1) := by decide +kernel
theorem dX12_viewOf_50 : decode cX12_viewOf 50 = .ok (.iadd, 1) := by decide +kernel
theorem dX12_viewOf_51 : decode cX12_viewOf 51 = .ok (.iaload, 1) := by decide +kernel
theorem dX12_viewOf_52 : decode cX12_viewOf 52 = .ok (.invokestatic 226, 3) := by decide +kernel
theorem dX12_viewOf_55 : decode cX12_viewOf 55 = .ok (.if_icmp .lt 5, 3) := by decide +kernel
theorem dX12_viewOf_58 : decode cX12_viewOf 58 = .ok (.iload_n 3, 1) := by decide +kernel
theorem dX12_viewOf_59 : decode cX12_viewOf 59 = .ok (.ireturn, 1) := by decide +kernel
theorem dX12_viewOf_60 : decode cX12_viewOf 60 = .ok (.iinc 3 1, 3) := by decide +kernel
theorem dX12_viewOf_63 : decode cX12_viewOf 63 = .ok (.goto (-53), 3) := by decide +kernel
theorem dX12_viewOf_66 : decode cX12_viewOf 66 = .ok (.iconst 0, 1) := by decide +kernel
theorem dX12_viewOf_67 : decode cX12_viewOf 67 = .ok (.ireturn, 1) := by decide +kernel
theorem dX12_guestAt_0 : decode cX12_guestAt 0 = .ok (.iload_n 1, 1) := by decide +kernel
theorem dX12_guestAt_1 : decode cX12_guestAt 1 = .ok (.iconst 0, 1) := by decide +kernel
theorem dX12_guestAt_2 : decode cX12_guestAt 2 = .ok (.sipush 143, 3) := by decide +kernel
theorem dX12_guestAt_5 : decode cX12_guestAt 5 = .ok (.invokestatic 108, 3) := by decide +kernel
theorem dX12_guestAt_8 : decode cX12_guestAt 8 = .ok (.ifCond .eq 13, 3) := by decide +kernel
theorem dX12_guestAt_11 : decode cX12_guestAt 11 = .ok (.iload_n 2, 1) := by decide +kernel
theorem dX12_guestAt_12 : decode cX12_guestAt 12 = .ok (.iconst 0, 1) := by decide +kernel
theorem dX12_guestAt_13 : decode cX12_guestAt 13 = .ok (.bipush 6, 2) := by decide +kernel
theorem dX12_guestAt_15 : decode cX12_guestAt 15 = .ok (.invokestatic 108, 3) := by decide +kernel
theorem dX12_guestAt_18 : decode cX12_guestAt 18 = .ok (.ifCond .ne 5, 3) := by decide +kernel
theorem dX12_guestAt_21 : decode cX12_guestAt 21 = .ok (.iconst (-1), 1) := by decide +kernel
theorem dX12_guestAt_22 : decode cX12_guestAt 22 = .ok (.ireturn, 1) := by decide +kernel
theorem dX12_guestAt_23 : decode cX12_guestAt 23 = .ok (.aload_n 0, 1) := by decide +kernel
theorem dX12_guestAt_24 : decode cX12_guestAt 24 = .ok (.iload_n 1, 1) := by decide +kernel
theorem dX12_guestAt_25 : decode cX12_guestAt 25 = .ok (.invokevirtual 93, 3) := by decide +kernel
theorem dX12_guestAt_28 : decode cX12_guestAt 28 = .ok (.ifCond .ne 6, 3) := by decide +kernel
theorem dX12_guestAt_31 : decode cX12_guestAt 31 = .ok (.bipush (-2), 2) := by decide +kernel
theorem dX12_guestAt_33 : decode cX12_guestAt 33 = .ok (.ireturn, 1) := by decide +kernel
theorem dX12_guestAt_34 : decode cX12_guestAt 34 = .ok (.aload_n 0, 1) := by decide +kernel
theorem dX12_guestAt_35 : decode cX12_guestAt 35 = .ok (.getfield 7, 3) := by decide +kernel
theorem dX12_guestAt_38 : decode cX12_guestAt 38 = .ok (.iconst 0, 1) := by decide +kernel
theorem dX12_guestAt_39 : decode cX12_guestAt 39 = .ok (.iload_n 1, 1) := by decide +kernel
theorem dX12_guestAt_40 : decode cX12_guestAt 40 = .ok (.iadd, 1) := by decide +kernel
theorem dX12_guestAt_41 : decode cX12_guestAt 41 = .ok (.iaload, 1) := by decide +kernel
theorem dX12_guestAt_42 : decode cX12_guestAt 42 = .ok (.istore_n 3, 1) := by decide +kernel
theorem dX12_guestAt_43 : decode cX12_guestAt 43 = .ok (.iload_n 2, 1) := by decide +kernel
theorem dX12_guestAt_44 : decode cX12_guestAt 44 = .ok (.tableswitch 76 0 5 #[40, 45, 50, 55, 60, 65], 40) := by decide +kernel
theorem dX12_guestAt_84 : decode cX12_guestAt 84 = .ok (.iload_n 3, 1) := by decide +kernel
theorem dX12_guestAt_85 : decode cX12_guestAt 85 = .ok (.invokestatic 223, 3) := by decide +kernel
theorem dX12_guestAt_88 : decode cX12_guestAt 88 = .ok (.ireturn, 1) := by decide +kernel
theorem dX12_guestAt_89 : decode cX12_guestAt 89 = .ok (.iload_n 3, 1) := by decide +kernel
theorem dX12_guestAt_90 : decode cX12_guestAt 90 = .ok (.invokestatic 101, 3) := by decide +kernel
theorem dX12_guestAt_93 : decode cX12_guestAt 93 = .ok (.ireturn, 1) := by decide +kernel
theorem dX12_guestAt_94 : decode cX12_guestAt 94 = .ok (.iload_n 3, 1) := by decide +kernel
theorem dX12_guestAt_95 : decode cX12_guestAt 95 = .ok (.invokestatic 226, 3) := by decide +kernel
theorem dX12_guestAt_98 : decode cX12_guestAt 98 = .ok (.ireturn, 1) := by decide +kernel
theorem dX12_guestAt_99 : decode cX12_guestAt 99 = .ok (.iload_n 3, 1) := by decide +kernel
theorem dX12_guestAt_100 : decode cX12_guestAt 100 = .ok (.invokestatic 229, 3) := by decide +kernel
theorem dX12_guestAt_103 : decode cX12_guestAt 103 = .ok (.ireturn, 1) := by decide +kernel
theorem dX12_guestAt_104 : decode cX12_guestAt 104 = .ok (.iload_n 3, 1) := by decide +kernel
theorem dX12_guestAt_105 : decode cX12_guestAt 105 = .ok (.invokestatic 232, 3) := by decide +kernel
theorem dX12_guestAt_108 : decode cX12_guestAt 108 = .ok (.ireturn, 1) := by decide +kernel
theorem dX12_guestAt_109 : decode cX12_guestAt 109 = .ok (.aload_n 0, 1) := by decide +kernel
theorem dX12_guestAt_110 : decode cX12_guestAt 110 = .ok (.getfield 7, 3) := by decide +kernel
theorem dX12_guestAt_113 : decode cX12_guestAt 113 = .ok (.sipush 144, 3) := by decide +kernel
theorem dX12_guestAt_116 : decode cX12_guestAt 116 = .ok (.iload_n 1, 1) := by decide +kernel
theorem dX12_guestAt_117 : decode cX12_guestAt 117 = .ok (.iadd, 1) := by decide +kernel
theorem dX12_guestAt_118 : decode cX12_guestAt 118 = .ok (.iaload, 1) := by decide +kernel
theorem dX12_guestAt_119 : decode cX12_guestAt 119 = .ok (.ireturn, 1) := by decide +kernel
theorem dX12_guestAt_120 : decode cX12_guestAt 120 = .ok (.aload_n 0, 1) := by decide +kernel
theorem dX12_guestAt_121 : decode cX12_guestAt 121 = .ok (.iload_n 1, 1) := by decide +kernel
theorem dX12_guestAt_122 : decode cX12_guestAt 122 = .ok (.invokevirtual 310, 3) := by decide +kernel
theorem dX12_guestAt_125 : decode cX12_guestAt 125 = .ok (.ireturn, 1) := by decide +kernel
theorem dX12_coatAt_0 : decode cX12_coatAt 0 = .ok (.iload_n 1, 1) := by decide +kernel
theorem dX12_coatAt_1 : decode cX12_coatAt 1 = .ok (.iconst 0, 1) := by decide +kernel
theorem dX12_coatAt_2 : decode cX12_coatAt 2 = .ok (.sipush 143, 3) := by decide +kernel
theorem dX12_coatAt_5 : decode cX12_coatAt 5 = .ok (.invokestatic 108, 3) := by decide +kernel
theorem dX12_coatAt_8 : decode cX12_coatAt 8 = .ok (.ifCond .ne 5, 3) := by decide +kernel
theorem dX12_coatAt_11 : decode cX12_coatAt 11 = .ok (.iconst (-1), 1) := by decide +kernel
theorem dX12_coatAt_12 : decode cX12_coatAt 12 = .ok (.ireturn, 1) := by decide +kernel
theorem dX12_coatAt_13 : decode cX12_coatAt 13 = .ok (.aload_n 0, 1) := by decide +kernel
theorem dX12_coatAt_14 : decode cX12_coatAt 14 = .ok (.getfield 7, 3) := by decide +kernel
theorem dX12_coatAt_17 : decode cX12_coatAt 17 = .ok (.sipush 288, 3) := by decide +kernel
theorem dX12_coatAt_20 : decode cX12_coatAt 20 = .ok (.iload_n 1, 1) := by decide +kernel
theorem dX12_coatAt_21 : decode cX12_coatAt 21 = .ok (.iadd, 1) := by decide +kernel
theorem dX12_coatAt_22 : decode cX12_coatAt 22 = .ok (.iaload, 1) := by decide +kernel
theorem dX12_coatAt_23 : decode cX12_coatAt 23 = .ok (.iconst (-1), 1) := by decide +kernel
theorem dX12_coatAt_24 : decode cX12_coatAt 24 = .ok (.if_icmp .ne 8, 3) := by decide +kernel
theorem dX12_coatAt_27 : decode cX12_coatAt 27 = .ok (.bipush (-2), 2) := by decide +kernel
theorem dX12_coatAt_29 : decode cX12_coatAt 29 = .ok (.goto 13, 3) := by decide +kernel
theorem dX12_coatAt_32 : decode cX12_coatAt 32 = .ok (.aload_n 0, 1) := by decide +kernel
theorem dX12_coatAt_33 : decode cX12_coatAt 33 = .ok (.getfield 7, 3) := by decide +kernel
theorem dX12_coatAt_36 : decode cX12_coatAt 36 = .ok (.sipush 288, 3) := by decide +kernel
theorem dX12_coatAt_39 : decode cX12_coatAt 39 = .ok (.iload_n 1, 1) := by decide +kernel
theorem dX12_coatAt_40 : decode cX12_coatAt 40 = .ok (.iadd, 1) := by decide +kernel
theorem dX12_coatAt_41 : decode cX12_coatAt 41 = .ok (.iaload, 1) := by decide +kernel
theorem dX12_coatAt_42 : decode cX12_coatAt 42 = .ok (.ireturn, 1) := by decide +kernel
theorem dX12_familiesIn_0 : decode cX12_familiesIn 0 = .ok (.iconst 0, 1) := by decide +kernel
theorem dX12_familiesIn_1 : decode cX12_familiesIn 1 = .ok (.istore_n 2, 1) := by decide +kernel
theorem dX12_familiesIn_2 : decode cX12_familiesIn 2 = .ok (.bipush 9, 2) := by decide +kernel
theorem dX12_familiesIn_4 : decode cX12_familiesIn 4 = .ok (.iload_n 1, 1) := by decide +kernel
theorem dX12_familiesIn_5 : decode cX12_familiesIn 5 = .ok (.imul, 1) := by decide +kernel
theorem dX12_familiesIn_6 : decode cX12_familiesIn 6 = .ok (.istore_n 3, 1) := by decide +kernel
theorem dX12_familiesIn_7 : decode cX12_familiesIn 7 = .ok (.iload_n 3, 1) := by decide +kernel
theorem dX12_familiesIn_8 : decode cX12_familiesIn 8 = .ok (.bipush 9, 2) := by decide +kernel
theorem dX12_familiesIn_10 : decode cX12_familiesIn 10 = .ok (.iload_n 1, 1) := by decide +kernel
theorem dX12_familiesIn_11 : decode cX12_familiesIn 11 = .ok (.imul, 1) := by decide +kernel
theorem dX12_familiesIn_12 : decode cX12_familiesIn 12 = .ok (.bipush 9, 2) := by decide +kernel
theorem dX12_familiesIn_14 : decode cX12_familiesIn 14 = .ok (.iadd, 1) := by decide +kernel
theorem dX12_familiesIn_15 : decode cX12_familiesIn 15 = .ok (.if_icmp .ge 33, 3) := by decide +kernel
theorem dX12_familiesIn_18 : decode cX12_familiesIn 18 = .ok (.aload_n 0, 1) := by decide +kernel
theorem dX12_familiesIn_19 : decode cX12_familiesIn 19 = .ok (.iload_n 3, 1) := by decide +kernel
theorem dX12_familiesIn_20 : decode cX12_familiesIn 20 = .ok (.invokevirtual 93, 3) := by decide +kernel
theorem dX12_familiesIn_23 : decode cX12_familiesIn 23 = .ok (.ifCond .eq 19, 3) := by decide +kernel
theorem dX12_familiesIn_26 : decode cX12_familiesIn 26 = .ok (.iload_n 2, 1) := by decide +kernel
theorem dX12_familiesIn_27 : decode cX12_familiesIn 27 = .ok (.iconst 1, 1) := by decide +kernel
theorem dX12_familiesIn_28 : decode cX12_familiesIn 28 = .ok (.aload_n 0, 1) := by decide +kernel
theorem dX12_familiesIn_29 : decode cX12_familiesIn 29 = .ok (.getfield 7, 3) := by decide +kernel
theorem dX12_familiesIn_32 : decode cX12_familiesIn 32 = .ok (.iconst 0, 1) := by decide +kernel
theorem dX12_familiesIn_33 : decode cX12_familiesIn 33 = .ok (.iload_n 3, 1) := by decide +kernel
theorem dX12_familiesIn_34 : decode cX12_familiesIn 34 = .ok (.iadd, 1) := by decide +kernel
theorem dX12_familiesIn_35 : decode cX12_familiesIn 35 = .ok (.iaload, 1) := by decide +kernel
theorem dX12_familiesIn_36 : decode cX12_familiesIn 36 = .ok (.invokestatic 101, 3) := by decide +kernel
theorem dX12_familiesIn_39 : decode cX12_familiesIn 39 = .ok (.ishl, 1) := by decide +kernel
theorem dX12_familiesIn_40 : decode cX12_familiesIn 40 = .ok (.ior, 1) := by decide +kernel
theorem dX12_familiesIn_41 : decode cX12_familiesIn 41 = .ok (.istore_n 2, 1) := by decide +kernel
theorem dX12_familiesIn_42 : decode cX12_familiesIn 42 = .ok (.iinc 3 1, 3) := by decide +kernel
theorem dX12_familiesIn_45 : decode cX12_familiesIn 45 = .ok (.goto (-38), 3) := by decide +kernel
theorem dX12_familiesIn_48 : decode cX12_familiesIn 48 = .ok (.iload_n 2, 1) := by decide +kernel
theorem dX12_familiesIn_49 : decode cX12_familiesIn 49 = .ok (.ireturn, 1) := by decide +kernel
theorem dX12_ringOf_0 : decode cX12_ringOf 0 = .ok (.iconst 0, 1) := by decide +kernel
theorem dX12_ringOf_1 : decode cX12_ringOf 1 = .ok (.istore_n 3, 1) := by decide +kernel
theorem dX12_ringOf_2 : decode cX12_ringOf 2 = .ok (.iconst 0, 1) := by decide +kernel
theorem dX12_ringOf_3 : decode cX12_ringOf 3 = .ok (.istore 4, 2) := by decide +kernel
theorem dX12_ringOf_5 : decode cX12_ringOf 5 = .ok (.bipush 9, 2) := by decide +kernel
theorem dX12_ringOf_7 : decode cX12_ringOf 7 = .ok (.iload_n 1, 1) := by decide +kernel
theorem dX12_ringOf_8 : decode cX12_ringOf 8 = .ok (.imul, 1) := by decide +kernel
theorem dX12_ringOf_9 : decode cX12_ringOf 9 = .ok (.istore 5, 2) := by decide +kernel
theorem dX12_ringOf_11 : decode cX12_ringOf 11 = .ok (.iload 5, 2) := by decide +kernel
theorem dX12_ringOf_13 : decode cX12_ringOf 13 = .ok (.bipush 9, 2) := by decide +kernel
theorem dX12_ringOf_15 : decode cX12_ringOf 15 = .ok (.iload_n 1, 1) := by decide +kernel
theorem dX12_ringOf_16 : decode cX12_ringOf 16 = .ok (.imul, 1) := by decide +kernel
theorem dX12_ringOf_17 : decode cX12_ringOf 17 = .ok (.bipush 9, 2) := by decide +kernel
theorem dX12_ringOf_19 : decode cX12_ringOf 19 = .ok (.iadd, 1) := by decide +kernel
theorem dX12_ringOf_20 : decode cX12_ringOf 20 = .ok (.if_icmp .ge 89, 3) := by decide +kernel
theorem dX12_ringOf_23 : decode cX12_ringOf 23 = .ok (.iload 4, 2) := by decide +kernel
theorem dX12_ringOf_25 : decode cX12_ringOf 25 = .ok (.ifCond .le 40, 3) := by decide +kernel
theorem dX12_ringOf_28 : decode cX12_ringOf 28 = .ok (.iload_n 2, 1) := by decide +kernel
theorem dX12_ringOf_29 : decode cX12_ringOf 29 = .ok (.ifCond .eq 32, 3) := by decide +kernel
theorem dX12_ringOf_32 : decode cX12_ringOf 32 = .ok (.aload_n 0, 1) := by decide +kernel
theorem dX12_ringOf_33 : decode cX12_ringOf 33 = .ok (.getfield 7, 3) := by decide +kernel
theorem dX12_ringOf_36 : decode cX12_ringOf 36 = .ok (.iconst 0, 1) := by decide +kernel
theorem dX12_ringOf_37 : decode cX12_ringOf 37 = .ok (.iload 5, 2) := by decide +kernel
theorem dX12_ringOf_39 : decode cX12_ringOf 39 = .ok (.iadd, 1) := by decide +kernel
theorem dX12_ringOf_40 : decode cX12_ringOf 40 = .ok (.iaload, 1) := by decide +kernel
theorem dX12_ringOf_41 : decode cX12_ringOf 41 = .ok (.invokestatic 101, 3) := by decide +kernel
theorem dX12_ringOf_44 : decode cX12_ringOf 44 = .ok (.aload_n 0, 1) := by decide +kernel
theorem dX12_ringOf_45 : decode cX12_ringOf 45 = .ok (.getfield 7, 3) := by decide +kernel
theorem dX12_ringOf_48 : decode cX12_ringOf 48 = .ok (.iconst 0, 1) := by decide +kernel
theorem dX12_ringOf_49 : decode cX12_ringOf 49 = .ok (.iload 5, 2) := by decide +kernel
theorem dX12_ringOf_51 : decode cX12_ringOf 51 = .ok (.iadd, 1) := by decide +kernel
theorem dX12_ringOf_52 : decode cX12_ringOf 52 = .ok (.iconst 1, 1) := by decide +kernel
theorem dX12_ringOf_53 : decode cX12_ringOf 53 = .ok (.isub, 1) := by decide +kernel
theorem dX12_ringOf_54 : decode cX12_ringOf 54 = .ok (.iaload, 1) := by decide +kernel
theorem dX12_ringOf_55 : decode cX12_ringOf 55 = .ok (.invokestatic 101, 3) := by decide +kernel
theorem dX12_ringOf_58 : decode cX12_ringOf 58 = .ok (.if_icmp .ne 7, 3) := by decide +kernel
theorem dX12_ringOf_61 : decode cX12_ringOf 61 = .ok (.iconst 1, 1) := by decide +kernel
theorem dX12_ringOf_62 : decode cX12_ringOf 62 = .ok (.goto 4, 3) := by decide +kernel
theorem dX12_ringOf_65 : decode cX12_ringOf 65 = .ok (.iconst 0, 1) := by decide +kernel
theorem dX12_ringOf_66 : decode cX12_ringOf 66 = .ok (.istore 6, 2) := by decide +kernel
