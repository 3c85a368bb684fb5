abbrev TB : List Cond := lw_tbl.filter goodWord
theorem TB_good : ∀ w ∈ TB, (w.onTables && w.keeps) = true ∨ ∃ ty, w = .arrayClass ty := fun w h => good_of_word (List.mem_filter.mp h).2
theorem TB_in : ∀ w ∈ TB, w ∈ lw_tbl := fun w h => (List.mem_filter.mp h).1
theorem TB_mk {w : Cond} (h : w ∈ lw_tbl) (g : goodWord w = true) : w ∈ TB := List.mem_filter.mpr ⟨h, g⟩
theorem tm_0 : ∀ w ∈ k2_sels lw_privs, w ∈ lw_tbl := fun w h => List.mem_append_left _ h
theorem tm_1 : ∀ w ∈ tables_1_1, w ∈ lw_tbl := fun w h => List.mem_append_right _ (show w ∈ tables_1 from List.mem_append_left _ h)
theorem tm_2 : ∀ w ∈ tables_1_2, w ∈ lw_tbl := fun w h => List.mem_append_right _ (show w ∈ tables_1 from List.mem_append_right _ (List.mem_append_left _ h))
theorem tm_3 : ∀ w ∈ tables_1_3, w ∈ lw_tbl := fun w h => List.mem_append_right _ (show w ∈ tables_1 from List.mem_append_right _ (List.mem_append_right _ (List.mem_append_left _ h)))
theorem tm_4 : ∀ w ∈ tables_1_4, w ∈ lw_tbl := fun w h => List.mem_append_right _ (show w ∈ tables_1 from List.mem_append_right _ (List.mem_append_right _ (List.mem_append_right _ (List.mem_append_left _ h))))
theorem tm_5 : ∀ w ∈ tables_1_5, w ∈ lw_tbl := fun w h => List.mem_append_right _ (show w ∈ tables_1 from List.mem_append_right _ (List.mem_append_right _ (List.mem_append_right _ (List.mem_append_right _ (List.mem_append_left _ h)))))
theorem tm_6 : ∀ w ∈ tables_1_6, w ∈ lw_tbl := fun w h => List.mem_append_right _ (show w ∈ tables_1 from List.mem_append_right _ (List.mem_append_right _ (List.mem_append_right _ (List.mem_append_right _ (List.mem_append_right _ (List.mem_append_left _ h))))))
theorem tm_7 : ∀ w ∈ tables_1_7, w ∈ lw_tbl := fun w h => List.mem_append_right _ (show w ∈ tables_1 from List.mem_append_right _ (List.mem_append_right _ (List.mem_append_right _ (List.mem_append_right _ (List.mem_append_right _ (List.mem_append_right _ (h)))))))
theorem tb_0 : (Cond.selects RX3 yX3_readRule yX3_readRule) ∈ TB := TB_mk (tm_0 _ (List.mem_of_getElem? (i := 0) (by decide +kernel))) rfl
theorem tb_1 : (Cond.selects RX3 yX3_readSum yX3_readSum) ∈ TB := TB_mk (tm_0 _ (List.mem_of_getElem? (i := 1) (by decide +kernel))) rfl
theorem tb_2 : (Cond.selects RX3 yX3_readProduct yX3_readProduct) ∈ TB := TB_mk (tm_0 _ (List.mem_of_getElem? (i := 2) (by decide +kernel))) rfl
theorem tb_3 : (Cond.selects RX3 yX3_readFactor yX3_readFactor) ∈ TB := TB_mk (tm_0 _ (List.mem_of_getElem? (i := 3) (by decide +kernel))) rfl
theorem tb_4 : (Cond.selects RX3 yX3_opens yX3_opens) ∈ TB := TB_mk (tm_0 _ (List.mem_of_getElem? (i := 4) (by decide +kernel))) rfl
theorem tb_5 : (Cond.selects RX3 yX3_readAnyOf yX3_readAnyOf) ∈ TB := TB_mk (tm_0 _ (List.mem_of_getElem? (i := 5) (by decide +kernel))) rfl
theorem tb_6 : (Cond.selects RX3 yX3_readAllOf yX3_readAllOf) ∈ TB := TB_mk (tm_0 _ (List.mem_of_getElem? (i := 6) (by decide +kernel))) rfl
theorem tb_7 : (Cond.selects RX3 yX3_readTest yX3_readTest) ∈ TB := TB_mk (tm_0 _ (List.mem_of_getElem? (i := 7) (by decide +kernel))) rfl
theorem tb_8 : (Cond.selects RX4 yX4_readPart yX4_readPart) ∈ TB := TB_mk (tm_0 _ (List.mem_of_getElem? (i := 8) (by decide +kernel))) rfl
theorem tb_9 : (Cond.selects RX6 yX6_readLine yX6_readLine) ∈ TB := TB_mk (tm_0 _ (List.mem_of_getElem? (i := 9) (by decide +kernel))) rfl
theorem tb_10 : (Cond.selects RX6 yX6_readSeat yX6_readSeat) ∈ TB := TB_mk (tm_0 _ (List.mem_of_getElem? (i := 10) (by decide +kernel))) rfl
theorem tb_11 : (Cond.selects RX10 yX10_leadOne yX10_leadOne) ∈ TB := TB_mk (tm_0 _ (List.mem_of_getElem? (i := 11) (by decide +kernel))) rfl
theorem tb_12 : (Cond.selects RX10 yX10_tellGuest yX10_tellGuest) ∈ TB := TB_mk (tm_0 _ (List.mem_of_getElem? (i := 12) (by decide +kernel))) rfl
theorem tb_13 : (Cond.selects RX0 yX0_sittingFrom yX0_sittingFrom) ∈ TB := TB_mk (tm_0 _ (List.mem_of_getElem? (i := 13) (by decide +kernel))) rfl
theorem tb_14 : (Cond.selects RX2 yX2_reckon yX2_reckon) ∈ TB := TB_mk (tm_0 _ (List.mem_of_getElem? (i := 14) (by decide +kernel))) rfl
theorem tb_15 : (Cond.selects RX10 yX10_emptiestPew yX10_emptiestPew) ∈ TB := TB_mk (tm_0 _ (List.mem_of_getElem? (i := 15) (by decide +kernel))) rfl
theorem tb_16 : (Cond.selects RX10 yX10_fittestPew yX10_fittestPew) ∈ TB := TB_mk (tm_0 _ (List.mem_of_getElem? (i := 16) (by decide +kernel))) rfl
theorem tb_17 : (Cond.selects RX10 yX10_tellPew yX10_tellPew) ∈ TB := TB_mk (tm_0 _ (List.mem_of_getElem? (i := 17) (by decide +kernel))) rfl
theorem tb_18 : (Cond.selects RX10 yX10_seatIn yX10_seatIn) ∈ TB := TB_mk (tm_0 _ (List.mem_of_getElem? (i := 18) (by decide +kernel))) rfl
theorem tb_19 : (Cond.selects RX5 yX5_isBlind yX5_isBlind) ∈ TB := TB_mk (tm_0 _ (List.mem_of_getElem? (i := 19) (by decide +kernel))) rfl
theorem tb_20 : (Cond.selects RX7 yX7_fillSums yX7_fillSums) ∈ TB := TB_mk (tm_0 _ (List.mem_of_getElem? (i := 20) (by decide +kernel))) rfl
theorem tb_21 : (Cond.selects RX7 yX7_sumOfFirst yX7_sumOfFirst) ∈ TB := TB_mk (tm_0 _ (List.mem_of_getElem? (i := 21) (by decide +kernel))) rfl
theorem tb_22 : (Cond.selects RX7 yX7_withOnePewMore yX7_withOnePewMore) ∈ TB := TB_mk (tm_0 _ (List.mem_of_getElem? (i := 22) (by decide +kernel))) rfl
theorem tb_23 : (Cond.selects RX5 yX5_fillSingersByRow yX5_fillSingersByRow) ∈ TB := TB_mk (tm_0 _ (List.mem_of_getElem? (i := 23) (by decide +kernel))) rfl
theorem tb_24 : (Cond.selects RX5 yX5_middleRow yX5_middleRow) ∈ TB := TB_mk (tm_0 _ (List.mem_of_getElem? (i := 24) (by decide +kernel))) rfl
theorem tb_25 : (Cond.selects RX5 yX5_isLonely yX5_isLonely) ∈ TB := TB_mk (tm_0 _ (List.mem_of_getElem? (i := 25) (by decide +kernel))) rfl
theorem tb_26 : (Cond.selects RX7 yX7_firstFree yX7_firstFree) ∈ TB := TB_mk (tm_0 _ (List.mem_of_getElem? (i := 26) (by decide +kernel))) rfl
theorem tb_27 : (Cond.selects RX7 yX7_ushersFor yX7_ushersFor) ∈ TB := TB_mk (tm_0 _ (List.mem_of_getElem? (i := 27) (by decide +kernel))) rfl
theorem tb_28 : (Cond.selects RX5 yX5_raiseToSubsets yX5_raiseToSubsets) ∈ TB := TB_mk (tm_0 _ (List.mem_of_getElem? (i := 28) (by decide +kernel))) rfl
theorem tb_29 : (Cond.selects RX7 yX7_seenFromFront yX7_seenFromFront) ∈ TB := TB_mk (tm_0 _ (List.mem_of_getElem? (i := 29) (by decide +kernel))) rfl
theorem tb_30 : (Cond.selects RX7 yX7_changesTillRising yX7_changesTillRising) ∈ TB := TB_mk (tm_0 _ (List.mem_of_getElem? (i := 30) (by decide +kernel))) rfl
theorem tb_31 : (Cond.selects RX7 yX7_longestRising yX7_longestRising) ∈ TB := TB_mk (tm_0 _ (List.mem_of_getElem? (i := 31) (by decide +kernel))) rfl
theorem tb_32 : (Cond.selects RX11 yX11_firstWrongRow yX11_firstWrongRow) ∈ TB := TB_mk (tm_0 _ (List.mem_of_getElem? (i := 32) (by decide +kernel))) rfl
theorem tb_33 : (Cond.selects RX12 yX12_types yX12_types) ∈ TB := TB_mk (tm_0 _ (List.mem_of_getElem? (i := 33) (by decide +kernel))) rfl
theorem tb_34 : (Cond.selects RX12 yX12_beginsText yX12_beginsText) ∈ TB := TB_mk (tm_0 _ (List.mem_of_getElem? (i := 34) (by decide +kernel))) rfl
theorem tb_35 : (Cond.selects RX12 yX12_readsRule yX12_readsRule) ∈ TB := TB_mk (tm_0 _ (List.mem_of_getElem? (i := 35) (by decide +kernel))) rfl
theorem tb_36 : (Cond.selects RX12 yX12_here yX12_here) ∈ TB := TB_mk (tm_0 _ (List.mem_of_getElem? (i := 36) (by decide +kernel))) rfl
theorem tb_37 : (Cond.selects RX12 yX12_wrongAt yX12_wrongAt) ∈ TB := TB_mk (tm_0 _ (List.mem_of_getElem? (i := 37) (by decide +kernel))) rfl
theorem tb_38 : (Cond.selects RX12 yX12_readsSum yX12_readsSum) ∈ TB := TB_mk (tm_0 _ (List.mem_of_getElem? (i := 38) (by decide +kernel))) rfl
theorem tb_39 : (Cond.selects RX12 yX12_readsFactor yX12_readsFactor) ∈ TB := TB_mk (tm_0 _ (List.mem_of_getElem? (i := 39) (by decide +kernel))) rfl
theorem tb_40 : (Cond.selects RX12 yX12_opens yX12_opens) ∈ TB := TB_mk (tm_0 _ (List.mem_of_getElem? (i := 40) (by decide +kernel))) rfl
theorem tb_41 : (Cond.selects RX12 yX12_isDigit yX12_isDigit) ∈ TB := TB_mk (tm_0 _ (List.mem_of_getElem? (i := 41) (by decide +kernel))) rfl
theorem tb_42 : (Cond.selects RX12 yX12_readsNumber yX12_readsNumber) ∈ TB := TB_mk (tm_0 _ (List.mem_of_getElem? (i := 42) (by decide +kernel))) rfl
theorem tb_43 : (Cond.selects RX12 yX12_notes yX12_notes) ∈ TB := TB_mk (tm_0 _ (List.mem_of_getElem? (i := 43) (by decide +kernel))) rfl
theorem tb_44 : (Cond.selects RX12 yX12_closesSums yX12_closesSums) ∈ TB := TB_mk (tm_0 _ (List.mem_of_getElem? (i := 44) (by decide +kernel))) rfl
theorem tb_45 : (Cond.selects RX12 yX12_waitTop yX12_waitTop) ∈ TB := TB_mk (tm_0 _ (List.mem_of_getElem? (i := 45) (by decide +kernel))) rfl
theorem tb_46 : (Cond.selects RX12 yX12_hasOpenSum yX12_hasOpenSum) ∈ TB := TB_mk (tm_0 _ (List.mem_of_getElem? (i := 46) (by decide +kernel))) rfl
theorem tb_47 : (Cond.selects RX12 yX12_readsCondition yX12_readsCondition) ∈ TB := TB_mk (tm_0 _ (List.mem_of_getElem? (i := 47) (by decide +kernel))) rfl
theorem tb_48 : (Cond.selects RX12 yX12_readsCompared yX12_readsCompared) ∈ TB := TB_mk (tm_0 _ (List.mem_of_getElem? (i := 48) (by decide +kernel))) rfl
theorem tb_49 : (Cond.selects RX12 yX12_endsPiece yX12_endsPiece) ∈ TB := TB_mk (tm_0 _ (List.mem_of_getElem? (i := 49) (by decide +kernel))) rfl
theorem tb_50 : (Cond.selects RX12 yX12_lands yX12_lands) ∈ TB := TB_mk (tm_0 _ (List.mem_of_getElem? (i := 50) (by decide +kernel))) rfl
theorem tb_51 : (Cond.selects RX12 yX12_jumps yX12_jumps) ∈ TB := TB_mk (tm_0 _ (List.mem_of_getElem? (i := 51) (by decide +kernel))) rfl
theorem tb_52 : (Cond.selects RX12 yX12_takes yX12_takes) ∈ TB := TB_mk (tm_0 _ (List.mem_of_getElem? (i := 52) (by decide +kernel))) rfl
theorem tb_53 : (Cond.selects RX12 yX12_readsPart yX12_readsPart) ∈ TB := TB_mk (tm_0 _ (List.mem_of_getElem? (i := 53) (by decide +kernel))) rfl
theorem tb_54 : (Cond.selects RX12 yX12_readsMove yX12_readsMove) ∈ TB := TB_mk (tm_0 _ (List.mem_of_getElem? (i := 54) (by decide +kernel))) rfl
theorem tb_55 : (Cond.selects RX12 yX12_readsSeat yX12_readsSeat) ∈ TB := TB_mk (tm_0 _ (List.mem_of_getElem? (i := 55) (by decide +kernel))) rfl
theorem tb_56 : (Cond.selects RX12 yX12_isTaken yX12_isTaken) ∈ TB := TB_mk (tm_0 _ (List.mem_of_getElem? (i := 56) (by decide +kernel))) rfl
theorem tb_57 : (Cond.selects RX12 yX12_swaps yX12_swaps) ∈ TB := TB_mk (tm_0 _ (List.mem_of_getElem? (i := 57) (by decide +kernel))) rfl
theorem tb_58 : (Cond.selects RX12 yX12_theyCome yX12_theyCome) ∈ TB := TB_mk (tm_0 _ (List.mem_of_getElem? (i := 58) (by decide +kernel))) rfl
theorem tb_59 : (Cond.selects RX12 yX12_oneComes yX12_oneComes) ∈ TB := TB_mk (tm_0 _ (List.mem_of_getElem? (i := 59) (by decide +kernel))) rfl
theorem tb_60 : (Cond.selects RX12 yX12_feelsGuest yX12_feelsGuest) ∈ TB := TB_mk (tm_0 _ (List.mem_of_getElem? (i := 60) (by decide +kernel))) rfl
theorem tb_61 : (Cond.selects RX12 yX12_sittersOn yX12_sittersOn) ∈ TB := TB_mk (tm_0 _ (List.mem_of_getElem? (i := 61) (by decide +kernel))) rfl
theorem tb_62 : (Cond.selects RX12 yX12_sittersIn yX12_sittersIn) ∈ TB := TB_mk (tm_0 _ (List.mem_of_getElem? (i := 62) (by decide +kernel))) rfl
theorem tb_63 : (Cond.selects RX12 yX12_byLaw yX12_byLaw) ∈ TB := TB_mk (tm_0 _ (List.mem_of_getElem? (i := 63) (by decide +kernel))) rfl
theorem tb_64 : (Cond.selects RX12 yX12_comesTo yX12_comesTo) ∈ TB := TB_mk (tm_0 _ (List.mem_of_getElem? (i := 64) (by decide +kernel))) rfl
theorem tb_65 : (Cond.selects RX12 yX12_emptiest yX12_emptiest) ∈ TB := TB_mk (tm_0 _ (List.mem_of_getElem? (i := 65) (by decide +kernel))) rfl
theorem tb_66 : (Cond.selects RX12 yX12_seatIn yX12_seatIn) ∈ TB := TB_mk (tm_0 _ (List.mem_of_getElem? (i := 66) (by decide +kernel))) rfl
theorem tb_67 : (Cond.selects RX12 yX12_isFree yX12_isFree) ∈ TB := TB_mk (tm_0 _ (List.mem_of_getElem? (i := 67) (by decide +kernel))) rfl
theorem tb_68 : (Cond.selects RX12 yX12_dearest yX12_dearest) ∈ TB := TB_mk (tm_0 _ (List.mem_of_getElem? (i := 68) (by decide +kernel))) rfl
theorem tb_69 : (Cond.selects RX12 yX12_feelsPew yX12_feelsPew) ∈ TB := TB_mk (tm_0 _ (List.mem_of_getElem? (i := 69) (by decide +kernel))) rfl
theorem tb_70 : (Cond.selects RX12 yX12_familyIn yX12_familyIn) ∈ TB := TB_mk (tm_0 _ (List.mem_of_getElem? (i := 70) (by decide +kernel))) rfl
theorem tb_71 : (Cond.selects RX12 yX12_coatsIn yX12_coatsIn) ∈ TB := TB_mk (tm_0 _ (List.mem_of_getElem? (i := 71) (by decide +kernel))) rfl
theorem tb_72 : (Cond.selects RX12 yX12_sits yX12_sits) ∈ TB := TB_mk (tm_0 _ (List.mem_of_getElem? (i := 72) (by decide +kernel))) rfl
theorem tb_73 : (Cond.selects RX12 yX12_holdsAny yX12_holdsAny) ∈ TB := TB_mk (tm_0 _ (List.mem_of_getElem? (i := 73) (by decide +kernel))) rfl
theorem tb_74 : (Cond.selects RX12 yX12_familiesIn yX12_familiesIn) ∈ TB := TB_mk (tm_0 _ (List.mem_of_getElem? (i := 74) (by decide +kernel))) rfl
theorem tb_75 : (Cond.selects RX12 yX12_viewOf yX12_viewOf) ∈ TB := TB_mk (tm_0 _ (List.mem_of_getElem? (i := 75) (by decide +kernel))) rfl
theorem tb_76 : (Cond.selects RX12 yX12_ringOf yX12_ringOf) ∈ TB := TB_mk (tm_0 _ (List.mem_of_getElem? (i := 76) (by decide +kernel))) rfl
theorem tb_77 : (Cond.selects RX12 yX12_coatsLeft yX12_coatsLeft) ∈ TB := TB_mk (tm_0 _ (List.mem_of_getElem? (i := 77) (by decide +kernel))) rfl
theorem tb_78 : (Cond.selects RX12 yX12_familyAll yX12_familyAll) ∈ TB := TB_mk (tm_0 _ (List.mem_of_getElem? (i := 78) (by decide +kernel))) rfl
theorem tb_79 : (Cond.selects RX12 yX12_seesNot yX12_seesNot) ∈ TB := TB_mk (tm_0 _ (List.mem_of_getElem? (i := 79) (by decide +kernel))) rfl
theorem tb_80 : (Cond.selects RX12 yX12_octet yX12_octet) ∈ TB := TB_mk (tm_0 _ (List.mem_of_getElem? (i := 80) (by decide +kernel))) rfl
theorem tb_81 : (Cond.selects RX12 yX12_sumOf yX12_sumOf) ∈ TB := TB_mk (tm_0 _ (List.mem_of_getElem? (i := 81) (by decide +kernel))) rfl
theorem tb_82 : (Cond.selects RX12 yX12_isBeside yX12_isBeside) ∈ TB := TB_mk (tm_0 _ (List.mem_of_getElem? (i := 82) (by decide +kernel))) rfl
theorem tb_83 : (Cond.selects RX12 yX12_takenIn yX12_takenIn) ∈ TB := TB_mk (tm_0 _ (List.mem_of_getElem? (i := 83) (by decide +kernel))) rfl
theorem tb_84 : (Cond.initialized RL) ∈ TB := TB_mk (tm_1 _ (List.mem_of_getElem? (i := 0) (by decide +kernel))) rfl
theorem tb_85 : (Cond.initialized RX11) ∈ TB := TB_mk (tm_1 _ (List.mem_of_getElem? (i := 1) (by decide +kernel))) rfl
theorem tb_86 : (Cond.initialized RX8) ∈ TB := TB_mk (tm_1 _ (List.mem_of_getElem? (i := 2) (by decide +kernel))) rfl
theorem tb_87 : (Cond.initialized RX9) ∈ TB := TB_mk (tm_1 _ (List.mem_of_getElem? (i := 3) (by decide +kernel))) rfl
theorem tb_88 : (Cond.initialized RX0) ∈ TB := TB_mk (tm_1 _ (List.mem_of_getElem? (i := 4) (by decide +kernel))) rfl
theorem tb_89 : (Cond.initialized RJ7) ∈ TB := TB_mk (tm_1 _ (List.mem_of_getElem? (i := 5) (by decide +kernel))) rfl
theorem tb_90 : (Cond.initialized RX3) ∈ TB := TB_mk (tm_1 _ (List.mem_of_getElem? (i := 6) (by decide +kernel))) rfl
theorem tb_91 : (Cond.initialized RX4) ∈ TB := TB_mk (tm_1 _ (List.mem_of_getElem? (i := 7) (by decide +kernel))) rfl
theorem tb_92 : (Cond.initialized RX6) ∈ TB := TB_mk (tm_1 _ (List.mem_of_getElem? (i := 8) (by decide +kernel))) rfl
theorem tb_93 : (Cond.initialized RX10) ∈ TB := TB_mk (tm_1 _ (List.mem_of_getElem? (i := 9) (by decide +kernel))) rfl
theorem tb_94 : (Cond.initialized RX5) ∈ TB := TB_mk (tm_1 _ (List.mem_of_getElem? (i := 10) (by decide +kernel))) rfl
theorem tb_95 : (Cond.initialized RX7) ∈ TB := TB_mk (tm_1 _ (List.mem_of_getElem? (i := 11) (by decide +kernel))) rfl
theorem tb_96 : (Cond.initialized RX2) ∈ TB := TB_mk (tm_1 _ (List.mem_of_getElem? (i := 12) (by decide +kernel))) rfl
theorem tb_97 : (Cond.initialized RX12) ∈ TB := TB_mk (tm_1 _ (List.mem_of_getElem? (i := 13) (by decide +kernel))) rfl
theorem tb_98 : (Cond.initialized RJ9) ∈ TB := TB_mk (tm_1 _ (List.mem_of_getElem? (i := 14) (by decide +kernel))) rfl
theorem tb_99 : (Cond.initialized RJ0) ∈ TB := TB_mk (tm_1 _ (List.mem_of_getElem? (i := 15) (by decide +kernel))) rfl
theorem tb_100 : (Cond.initialized RJ1) ∈ TB := TB_mk (tm_1 _ (List.mem_of_getElem? (i := 16) (by decide +kernel))) rfl
theorem tb_101 : (Cond.initialized RJ2) ∈ TB := TB_mk (tm_1 _ (List.mem_of_getElem? (i := 17) (by decide +kernel))) rfl
theorem tb_102 : (Cond.initialized RJ3) ∈ TB := TB_mk (tm_1 _ (List.mem_of_getElem? (i := 18) (by decide +kernel))) rfl
theorem tb_103 : (Cond.initialized RJ11) ∈ TB := TB_mk (tm_1 _ (List.mem_of_getElem? (i := 19) (by decide +kernel))) rfl
theorem tb_104 : (Cond.initialized RX1) ∈ TB := TB_mk (tm_1 _ (List.mem_of_getElem? (i := 20) (by decide +kernel))) rfl
theorem tb_105 : (Cond.initialized RJ10) ∈ TB := TB_mk (tm_1 _ (List.mem_of_getElem? (i := 21) (by decide +kernel))) rfl
theorem tb_106 : (Cond.initialized RJ6) ∈ TB := TB_mk (tm_1 _ (List.mem_of_getElem? (i := 22) (by decide +kernel))) rfl
theorem tb_107 : (Cond.classLink RL 7 RX11) ∈ TB := TB_mk (tm_1 _ (List.mem_of_getElem? (i := 23) (by decide +kernel))) rfl
theorem tb_108 : (Cond.instantiable RX11 14) ∈ TB := TB_mk (tm_1 _ (List.mem_of_getElem? (i := 24) (by decide +kernel))) rfl
theorem tb_109 : (Cond.methodLink RL 9 yX11_init) ∈ TB := TB_mk (tm_1 _ (List.mem_of_getElem? (i := 25) (by decide +kernel))) rfl
theorem tb_110 : (Cond.instanceMethod yX11_init) ∈ TB := TB_mk (tm_1 _ (List.mem_of_getElem? (i := 26) (by decide +kernel))) rfl
theorem tb_111 : (Cond.code yX11_init cX11_init 1 none) ∈ TB := TB_mk (tm_1 _ (List.mem_of_getElem? (i := 27) (by decide +kernel))) rfl
theorem tb_112 : (Cond.methodLink RX11 3 objectInit) ∈ TB := TB_mk (tm_1 _ (List.mem_of_getElem? (i := 28) (by decide +kernel))) rfl
theorem tb_113 : (Cond.instanceMethod objectInit) ∈ TB := TB_mk (tm_1 _ (List.mem_of_getElem? (i := 29) (by decide +kernel))) rfl
theorem tb_114 : (Cond.code objectInit ⟨#[0xb1]⟩ 1 none) ∈ TB := TB_mk (tm_1 _ (List.mem_of_getElem? (i := 30) (by decide +kernel))) rfl
theorem tb_115 : (Cond.classLink RX11 9 RX8) ∈ TB := TB_mk (tm_1 _ (List.mem_of_getElem? (i := 31) (by decide +kernel))) rfl
theorem tb_116 : (Cond.instantiable RX8 2) ∈ TB := TB_mk (tm_1 _ (List.mem_of_getElem? (i := 32) (by decide +kernel))) rfl
theorem nb_117 : (Cond.methodLinkNest RX11 11 yX8_init "WeddingPews") ∈ lw_tbl := tm_1 _ (List.mem_of_getElem? (i := 33) (by decide +kernel))
theorem tb_118 : (Cond.instanceMethod yX8_init) ∈ TB := TB_mk (tm_1 _ (List.mem_of_getElem? (i := 34) (by decide +kernel))) rfl
theorem tb_119 : (Cond.code yX8_init cX8_init 1 none) ∈ TB := TB_mk (tm_1 _ (List.mem_of_getElem? (i := 35) (by decide +kernel))) rfl
theorem tb_120 : (Cond.methodLink RX8 1 objectInit) ∈ TB := TB_mk (tm_1 _ (List.mem_of_getElem? (i := 36) (by decide +kernel))) rfl
theorem tb_121 : (Cond.fieldLink RX8 9 "WeddingPews$Tape" "bytes" "[I") ∈ TB := TB_mk (tm_1 _ (List.mem_of_getElem? (i := 37) (by decide +kernel))) rfl
theorem nb_122 : (Cond.fieldLinkNest RX9 27 "WeddingPews$Tape" "bytes" "[I" "WeddingPews") ∈ lw_tbl := tm_1 _ (List.mem_of_getElem? (i := 38) (by decide +kernel))
theorem tb_123 : (Cond.fieldLink RX8 13 "WeddingPews$Tape" "length" "I") ∈ TB := TB_mk (tm_1 _ (List.mem_of_getElem? (i := 39) (by decide +kernel))) rfl
theorem tb_124 : (Cond.fieldLink RX11 116 "WeddingPews$Tape" "length" "I") ∈ TB := TB_mk (tm_1 _ (List.mem_of_getElem? (i := 40) (by decide +kernel))) rfl
theorem tb_130 : (Cond.arrayClass .int) ∈ TB := TB_mk (tm_1 _ (List.mem_of_getElem? (i := 46) (by decide +kernel))) rfl
theorem tb_131 : (Cond.classLink RX11 16 RX9) ∈ TB := TB_mk (tm_1 _ (List.mem_of_getElem? (i := 47) (by decide +kernel))) rfl
theorem tb_132 : (Cond.instantiable RX9 6) ∈ TB := TB_mk (tm_1 _ (List.mem_of_getElem? (i := 48) (by decide +kernel))) rfl
theorem tb_133 : (Cond.methodLink RX11 18 yX9_init) ∈ TB := TB_mk (tm_1 _ (List.mem_of_getElem? (i := 49) (by decide +kernel))) rfl
theorem tb_134 : (Cond.instanceMethod yX9_init) ∈ TB := TB_mk (tm_1 _ (List.mem_of_getElem? (i := 50) (by decide +kernel))) rfl
theorem tb_135 : (Cond.code yX9_init cX9_init 2 none) ∈ TB := TB_mk (tm_1 _ (List.mem_of_getElem? (i := 51) (by decide +kernel))) rfl
theorem tb_136 : (Cond.methodLink RX9 3 objectInit) ∈ TB := TB_mk (tm_1 _ (List.mem_of_getElem? (i := 52) (by decide +kernel))) rfl
theorem tb_137 : (Cond.fieldLink RX9 33 "WeddingPews$Text" "bytes" "[I") ∈ TB := TB_mk (tm_1 _ (List.mem_of_getElem? (i := 53) (by decide +kernel))) rfl
theorem tb_138 : (Cond.fieldLink RX9 9 "WeddingPews$Text" "end" "I") ∈ TB := TB_mk (tm_1 _ (List.mem_of_getElem? (i := 54) (by decide +kernel))) rfl
theorem tb_139 : (Cond.fieldLink RX9 15 "WeddingPews$Text" "fault" "I") ∈ TB := TB_mk (tm_1 _ (List.mem_of_getElem? (i := 55) (by decide +kernel))) rfl
theorem tb_140 : (Cond.fieldLink RX9 18 "WeddingPews$Text" "faultPlace" "I") ∈ TB := TB_mk (tm_1 _ (List.mem_of_getElem? (i := 56) (by decide +kernel))) rfl
theorem tb_141 : (Cond.fieldLink RX9 21 "WeddingPews$Text" "place" "I") ∈ TB := TB_mk (tm_1 _ (List.mem_of_getElem? (i := 57) (by decide +kernel))) rfl
theorem tb_142 : (Cond.fieldLink RX4 32 "WeddingPews$Text" "place" "I") ∈ TB := TB_mk (tm_1 _ (List.mem_of_getElem? (i := 58) (by decide +kernel))) rfl
theorem tb_143 : (Cond.fieldLink RX6 36 "WeddingPews$Text" "place" "I") ∈ TB := TB_mk (tm_1 _ (List.mem_of_getElem? (i := 59) (by decide +kernel))) rfl
theorem tb_144 : (Cond.fieldLink RX3 43 "WeddingPews$Text" "place" "I") ∈ TB := TB_mk (tm_1 _ (List.mem_of_getElem? (i := 60) (by decide +kernel))) rfl
theorem tb_145 : (Cond.fieldLink RX9 24 "WeddingPews$Text" "sign" "I") ∈ TB := TB_mk (tm_1 _ (List.mem_of_getElem? (i := 61) (by decide +kernel))) rfl
theorem tb_146 : (Cond.fieldLink RX3 87 "WeddingPews$Text" "sign" "I") ∈ TB := TB_mk (tm_1 _ (List.mem_of_getElem? (i := 62) (by decide +kernel))) rfl
theorem tb_160 : (Cond.classLink RX11 25 RX0) ∈ TB := TB_mk (tm_1 _ (List.mem_of_getElem? (i := 76) (by decide +kernel))) rfl
theorem tb_161 : (Cond.instantiable RX0 9) ∈ TB := TB_mk (tm_1 _ (List.mem_of_getElem? (i := 77) (by decide +kernel))) rfl
theorem tb_162 : (Cond.methodLink RX11 27 yX0_init) ∈ TB := TB_mk (tm_1 _ (List.mem_of_getElem? (i := 78) (by decide +kernel))) rfl
theorem tb_163 : (Cond.instanceMethod yX0_init) ∈ TB := TB_mk (tm_1 _ (List.mem_of_getElem? (i := 79) (by decide +kernel))) rfl
theorem tb_164 : (Cond.code yX0_init cX0_init 1 none) ∈ TB := TB_mk (tm_1 _ (List.mem_of_getElem? (i := 80) (by decide +kernel))) rfl
theorem tb_165 : (Cond.methodLink RX0 3 objectInit) ∈ TB := TB_mk (tm_1 _ (List.mem_of_getElem? (i := 81) (by decide +kernel))) rfl
theorem tb_166 : (Cond.methodLink RX0 42 yJ7_fill_53178) ∈ TB := TB_mk (tm_1 _ (List.mem_of_getElem? (i := 82) (by decide +kernel))) rfl
theorem tb_167 : (Cond.static yJ7_fill_53178) ∈ TB := TB_mk (tm_1 _ (List.mem_of_getElem? (i := 83) (by decide +kernel))) rfl
theorem tb_168 : (Cond.code yJ7_fill_53178 cJ7_fill_53178 4 none) ∈ TB := TB_mk (tm_1 _ (List.mem_of_getElem? (i := 84) (by decide +kernel))) rfl
theorem tb_169 : (Cond.fieldLink RX0 9 "WeddingPews$Church" "guests" "[I") ∈ TB := TB_mk (tm_1 _ (List.mem_of_getElem? (i := 85) (by decide +kernel))) rfl
theorem tb_170 : (Cond.fieldLink RX11 173 "WeddingPews$Church" "guests" "[I") ∈ TB := TB_mk (tm_1 _ (List.mem_of_getElem? (i := 86) (by decide +kernel))) rfl
theorem tb_171 : (Cond.fieldLink RX0 15 "WeddingPews$Church" "numbers" "[I") ∈ TB := TB_mk (tm_1 _ (List.mem_of_getElem? (i := 87) (by decide +kernel))) rfl
theorem tb_172 : (Cond.fieldLink RX11 194 "WeddingPews$Church" "numbers" "[I") ∈ TB := TB_mk (tm_1 _ (List.mem_of_getElem? (i := 88) (by decide +kernel))) rfl
theorem tb_173 : (Cond.fieldLink RX5 69 "WeddingPews$Church" "numbers" "[I") ∈ TB := TB_mk (tm_1 _ (List.mem_of_getElem? (i := 89) (by decide +kernel))) rfl
theorem tb_174 : (Cond.fieldLink RX0 18 "WeddingPews$Church" "coats" "[I") ∈ TB := TB_mk (tm_1 _ (List.mem_of_getElem? (i := 90) (by decide +kernel))) rfl
theorem tb_175 : (Cond.fieldLink RX11 104 "WeddingPews$Church" "coats" "[I") ∈ TB := TB_mk (tm_1 _ (List.mem_of_getElem? (i := 91) (by decide +kernel))) rfl
theorem tb_176 : (Cond.fieldLink RX0 21 "WeddingPews$Church" "line" "[I") ∈ TB := TB_mk (tm_1 _ (List.mem_of_getElem? (i := 92) (by decide +kernel))) rfl
theorem tb_177 : (Cond.fieldLink RX10 33 "WeddingPews$Church" "line" "[I") ∈ TB := TB_mk (tm_1 _ (List.mem_of_getElem? (i := 93) (by decide +kernel))) rfl
theorem tb_178 : (Cond.fieldLink RX4 69 "WeddingPews$Church" "line" "[I") ∈ TB := TB_mk (tm_1 _ (List.mem_of_getElem? (i := 94) (by decide +kernel))) rfl
theorem tb_179 : (Cond.fieldLink RX5 98 "WeddingPews$Church" "line" "[I") ∈ TB := TB_mk (tm_1 _ (List.mem_of_getElem? (i := 95) (by decide +kernel))) rfl
theorem tb_180 : (Cond.fieldLink RX11 291 "WeddingPews$Church" "line" "[I") ∈ TB := TB_mk (tm_1 _ (List.mem_of_getElem? (i := 96) (by decide +kernel))) rfl
theorem tb_181 : (Cond.fieldLink RX0 24 "WeddingPews$Church" "waiting" "I") ∈ TB := TB_mk (tm_1 _ (List.mem_of_getElem? (i := 97) (by decide +kernel))) rfl
theorem tb_182 : (Cond.fieldLink RX10 19 "WeddingPews$Church" "waiting" "I") ∈ TB := TB_mk (tm_1 _ (List.mem_of_getElem? (i := 98) (by decide +kernel))) rfl
theorem tb_183 : (Cond.fieldLink RX4 50 "WeddingPews$Church" "waiting" "I") ∈ TB := TB_mk (tm_1 _ (List.mem_of_getElem? (i := 99) (by decide +kernel))) rfl
theorem tb_184 : (Cond.fieldLink RX11 147 "WeddingPews$Church" "waiting" "I") ∈ TB := TB_mk (tm_1 _ (List.mem_of_getElem? (i := 100) (by decide +kernel))) rfl
theorem tb_185 : (Cond.fieldLink RX5 94 "WeddingPews$Church" "waiting" "I") ∈ TB := TB_mk (tm_1 _ (List.mem_of_getElem? (i := 101) (by decide +kernel))) rfl
theorem tb_186 : (Cond.fieldLink RX0 28 "WeddingPews$Church" "arrived" "I") ∈ TB := TB_mk (tm_1 _ (List.mem_of_getElem? (i := 102) (by decide +kernel))) rfl
theorem tb_187 : (Cond.fieldLink RX10 82 "WeddingPews$Church" "arrived" "I") ∈ TB := TB_mk (tm_1 _ (List.mem_of_getElem? (i := 103) (by decide +kernel))) rfl
theorem tb_188 : (Cond.fieldLink RX11 282 "WeddingPews$Church" "arrived" "I") ∈ TB := TB_mk (tm_1 _ (List.mem_of_getElem? (i := 104) (by decide +kernel))) rfl
theorem tb_189 : (Cond.fieldLink RX0 31 "WeddingPews$Church" "standing" "I") ∈ TB := TB_mk (tm_1 _ (List.mem_of_getElem? (i := 105) (by decide +kernel))) rfl
theorem tb_190 : (Cond.fieldLink RX10 75 "WeddingPews$Church" "standing" "I") ∈ TB := TB_mk (tm_1 _ (List.mem_of_getElem? (i := 106) (by decide +kernel))) rfl
theorem tb_191 : (Cond.fieldLink RX11 161 "WeddingPews$Church" "standing" "I") ∈ TB := TB_mk (tm_1 _ (List.mem_of_getElem? (i := 107) (by decide +kernel))) rfl
theorem tb_192 : (Cond.fieldLink RX0 34 "WeddingPews$Church" "climbed" "I") ∈ TB := TB_mk (tm_1 _ (List.mem_of_getElem? (i := 108) (by decide +kernel))) rfl
theorem tb_193 : (Cond.fieldLink RX10 30 "WeddingPews$Church" "climbed" "I") ∈ TB := TB_mk (tm_1 _ (List.mem_of_getElem? (i := 109) (by decide +kernel))) rfl
theorem tb_194 : (Cond.fieldLink RX11 297 "WeddingPews$Church" "climbed" "I") ∈ TB := TB_mk (tm_1 _ (List.mem_of_getElem? (i := 110) (by decide +kernel))) rfl
theorem tb_195 : (Cond.fieldLink RX0 37 "WeddingPews$Church" "drawn" "I") ∈ TB := TB_mk (tm_1 _ (List.mem_of_getElem? (i := 111) (by decide +kernel))) rfl
theorem tb_196 : (Cond.fieldLink RX11 279 "WeddingPews$Church" "drawn" "I") ∈ TB := TB_mk (tm_1 _ (List.mem_of_getElem? (i := 112) (by decide +kernel))) rfl
theorem tb_216 : (Cond.classLink RX11 38 RX3) ∈ TB := TB_mk (tm_1 _ (List.mem_of_getElem? (i := 132) (by decide +kernel))) rfl
theorem tb_217 : (Cond.instantiable RX3 1) ∈ TB := TB_mk (tm_1 _ (List.mem_of_getElem? (i := 133) (by decide +kernel))) rfl
theorem tb_218 : (Cond.methodLink RX11 40 yX3_init) ∈ TB := TB_mk (tm_1 _ (List.mem_of_getElem? (i := 134) (by decide +kernel))) rfl
theorem tb_219 : (Cond.instanceMethod yX3_init) ∈ TB := TB_mk (tm_1 _ (List.mem_of_getElem? (i := 135) (by decide +kernel))) rfl
theorem tb_220 : (Cond.code yX3_init cX3_init 2 none) ∈ TB := TB_mk (tm_1 _ (List.mem_of_getElem? (i := 136) (by decide +kernel))) rfl
theorem tb_221 : (Cond.methodLink RX3 3 objectInit) ∈ TB := TB_mk (tm_1 _ (List.mem_of_getElem? (i := 137) (by decide +kernel))) rfl
theorem tb_222 : (Cond.fieldLink RX3 9 "WeddingPews$LawReader" "text" "LWeddingPews$Text;") ∈ TB := TB_mk (tm_1 _ (List.mem_of_getElem? (i := 138) (by decide +kernel))) rfl
theorem tb_226 : (Cond.classLink RX11 47 RX4) ∈ TB := TB_mk (tm_1 _ (List.mem_of_getElem? (i := 142) (by decide +kernel))) rfl
theorem tb_227 : (Cond.instantiable RX4 2) ∈ TB := TB_mk (tm_1 _ (List.mem_of_getElem? (i := 143) (by decide +kernel))) rfl
theorem tb_228 : (Cond.methodLink RX11 49 yX4_init) ∈ TB := TB_mk (tm_1 _ (List.mem_of_getElem? (i := 144) (by decide +kernel))) rfl
theorem tb_229 : (Cond.instanceMethod yX4_init) ∈ TB := TB_mk (tm_1 _ (List.mem_of_getElem? (i := 145) (by decide +kernel))) rfl
theorem tb_230 : (Cond.code yX4_init cX4_init 2 none) ∈ TB := TB_mk (tm_1 _ (List.mem_of_getElem? (i := 146) (by decide +kernel))) rfl
theorem tb_231 : (Cond.methodLink RX4 3 objectInit) ∈ TB := TB_mk (tm_1 _ (List.mem_of_getElem? (i := 147) (by decide +kernel))) rfl
theorem tb_232 : (Cond.fieldLink RX4 15 "WeddingPews$ListReader" "text" "LWeddingPews$Text;") ∈ TB := TB_mk (tm_1 _ (List.mem_of_getElem? (i := 148) (by decide +kernel))) rfl
theorem tb_233 : (Cond.fieldLink RX4 9 "WeddingPews$ListReader" "added" "I") ∈ TB := TB_mk (tm_1 _ (List.mem_of_getElem? (i := 149) (by decide +kernel))) rfl
theorem tb_239 : (Cond.classLink RX11 54 RX6) ∈ TB := TB_mk (tm_1 _ (List.mem_of_getElem? (i := 155) (by decide +kernel))) rfl
theorem tb_240 : (Cond.instantiable RX6 2) ∈ TB := TB_mk (tm_1 _ (List.mem_of_getElem? (i := 156) (by decide +kernel))) rfl
theorem tb_241 : (Cond.methodLink RX11 56 yX6_init) ∈ TB := TB_mk (tm_1 _ (List.mem_of_getElem? (i := 157) (by decide +kernel))) rfl
theorem tb_242 : (Cond.instanceMethod yX6_init) ∈ TB := TB_mk (tm_1 _ (List.mem_of_getElem? (i := 158) (by decide +kernel))) rfl
theorem tb_243 : (Cond.code yX6_init cX6_init 2 none) ∈ TB := TB_mk (tm_1 _ (List.mem_of_getElem? (i := 159) (by decide +kernel))) rfl
theorem tb_244 : (Cond.methodLink RX6 3 objectInit) ∈ TB := TB_mk (tm_1 _ (List.mem_of_getElem? (i := 160) (by decide +kernel))) rfl
theorem tb_245 : (Cond.fieldLink RX6 15 "WeddingPews$MovesReader" "text" "LWeddingPews$Text;") ∈ TB := TB_mk (tm_1 _ (List.mem_of_getElem? (i := 161) (by decide +kernel))) rfl
theorem tb_246 : (Cond.fieldLink RX6 9 "WeddingPews$MovesReader" "lines" "I") ∈ TB := TB_mk (tm_1 _ (List.mem_of_getElem? (i := 162) (by decide +kernel))) rfl
theorem tb_252 : (Cond.classLink RX11 61 RX10) ∈ TB := TB_mk (tm_1 _ (List.mem_of_getElem? (i := 168) (by decide +kernel))) rfl
theorem tb_253 : (Cond.instantiable RX10 2) ∈ TB := TB_mk (tm_1 _ (List.mem_of_getElem? (i := 169) (by decide +kernel))) rfl
theorem nb_254 : (Cond.methodLinkNest RX11 63 yX10_init "WeddingPews") ∈ lw_tbl := tm_1 _ (List.mem_of_getElem? (i := 170) (by decide +kernel))
theorem tb_255 : (Cond.instanceMethod yX10_init) ∈ TB := TB_mk (tm_1 _ (List.mem_of_getElem? (i := 171) (by decide +kernel))) rfl
theorem tb_256 : (Cond.code yX10_init cX10_init 1 none) ∈ TB := TB_mk (tm_1 _ (List.mem_of_getElem? (i := 172) (by decide +kernel))) rfl
theorem tb_257 : (Cond.methodLink RX10 3 objectInit) ∈ TB := TB_mk (tm_1 _ (List.mem_of_getElem? (i := 173) (by decide +kernel))) rfl
theorem tb_258 : (Cond.fieldLink RX10 11 "WeddingPews$Usher" "facts" "[I") ∈ TB := TB_mk (tm_1 _ (List.mem_of_getElem? (i := 174) (by decide +kernel))) rfl
theorem tb_259 : (Cond.fieldLink RX10 15 "WeddingPews$Usher" "lastSeat" "I") ∈ TB := TB_mk (tm_1 _ (List.mem_of_getElem? (i := 175) (by decide +kernel))) rfl
theorem tb_260 : (Cond.fieldLink RX11 164 "WeddingPews$Usher" "lastSeat" "I") ∈ TB := TB_mk (tm_1 _ (List.mem_of_getElem? (i := 176) (by decide +kernel))) rfl
theorem tb_266 : (Cond.classLink RX11 68 RX5) ∈ TB := TB_mk (tm_1 _ (List.mem_of_getElem? (i := 182) (by decide +kernel))) rfl
theorem tb_267 : (Cond.instantiable RX5 3) ∈ TB := TB_mk (tm_1 _ (List.mem_of_getElem? (i := 183) (by decide +kernel))) rfl
theorem nb_268 : (Cond.methodLinkNest RX11 70 yX5_init "WeddingPews") ∈ lw_tbl := tm_1 _ (List.mem_of_getElem? (i := 184) (by decide +kernel))
theorem tb_269 : (Cond.instanceMethod yX5_init) ∈ TB := TB_mk (tm_1 _ (List.mem_of_getElem? (i := 185) (by decide +kernel))) rfl
theorem tb_270 : (Cond.code yX5_init cX5_init 1 none) ∈ TB := TB_mk (tm_1 _ (List.mem_of_getElem? (i := 186) (by decide +kernel))) rfl
theorem tb_271 : (Cond.methodLink RX5 3 objectInit) ∈ TB := TB_mk (tm_1 _ (List.mem_of_getElem? (i := 187) (by decide +kernel))) rfl
theorem tb_272 : (Cond.fieldLink RX5 9 "WeddingPews$Looks" "singersByRow" "[I") ∈ TB := TB_mk (tm_1 _ (List.mem_of_getElem? (i := 188) (by decide +kernel))) rfl
theorem tb_273 : (Cond.fieldLink RX5 15 "WeddingPews$Looks" "most" "[I") ∈ TB := TB_mk (tm_1 _ (List.mem_of_getElem? (i := 189) (by decide +kernel))) rfl
theorem tb_274 : (Cond.fieldLink RX5 18 "WeddingPews$Looks" "mostBefore" "[I") ∈ TB := TB_mk (tm_1 _ (List.mem_of_getElem? (i := 190) (by decide +kernel))) rfl
theorem tb_282 : (Cond.classLink RX11 75 RX7) ∈ TB := TB_mk (tm_1 _ (List.mem_of_getElem? (i := 198) (by decide +kernel))) rfl
theorem tb_283 : (Cond.instantiable RX7 6) ∈ TB := TB_mk (tm_1 _ (List.mem_of_getElem? (i := 199) (by decide +kernel))) rfl
theorem tb_284 : (Cond.methodLink RX11 77 yX7_init) ∈ TB := TB_mk (tm_1 _ (List.mem_of_getElem? (i := 200) (by decide +kernel))) rfl
theorem tb_285 : (Cond.instanceMethod yX7_init) ∈ TB := TB_mk (tm_1 _ (List.mem_of_getElem? (i := 201) (by decide +kernel))) rfl
theorem tb_286 : (Cond.code yX7_init cX7_init 2 none) ∈ TB := TB_mk (tm_1 _ (List.mem_of_getElem? (i := 202) (by decide +kernel))) rfl
theorem tb_287 : (Cond.methodLink RX7 3 objectInit) ∈ TB := TB_mk (tm_1 _ (List.mem_of_getElem? (i := 203) (by decide +kernel))) rfl
theorem tb_288 : (Cond.fieldLink RX7 27 "WeddingPews$Sums" "tape" "LWeddingPews$Tape;") ∈ TB := TB_mk (tm_1 _ (List.mem_of_getElem? (i := 204) (by decide +kernel))) rfl
theorem tb_289 : (Cond.fieldLink RX7 11 "WeddingPews$Sums" "lowSums" "[I") ∈ TB := TB_mk (tm_1 _ (List.mem_of_getElem? (i := 205) (by decide +kernel))) rfl
theorem tb_290 : (Cond.fieldLink RX7 15 "WeddingPews$Sums" "highSums" "[I") ∈ TB := TB_mk (tm_1 _ (List.mem_of_getElem? (i := 206) (by decide +kernel))) rfl
theorem tb_291 : (Cond.fieldLink RX7 18 "WeddingPews$Sums" "freeAt" "[I") ∈ TB := TB_mk (tm_1 _ (List.mem_of_getElem? (i := 207) (by decide +kernel))) rfl
theorem tb_292 : (Cond.fieldLink RX7 21 "WeddingPews$Sums" "rising" "[I") ∈ TB := TB_mk (tm_1 _ (List.mem_of_getElem? (i := 208) (by decide +kernel))) rfl
theorem tb_293 : (Cond.fieldLink RX7 24 "WeddingPews$Sums" "used" "[I") ∈ TB := TB_mk (tm_1 _ (List.mem_of_getElem? (i := 209) (by decide +kernel))) rfl
theorem tb_307 : (Cond.classLink RX11 82 RX2) ∈ TB := TB_mk (tm_1 _ (List.mem_of_getElem? (i := 223) (by decide +kernel))) rfl
theorem tb_308 : (Cond.instantiable RX2 9) ∈ TB := TB_mk (tm_1 _ (List.mem_of_getElem? (i := 224) (by decide +kernel))) rfl
theorem nb_309 : (Cond.methodLinkNest RX11 84 yX2_init "WeddingPews") ∈ lw_tbl := tm_1 _ (List.mem_of_getElem? (i := 225) (by decide +kernel))
theorem tb_310 : (Cond.instanceMethod yX2_init) ∈ TB := TB_mk (tm_1 _ (List.mem_of_getElem? (i := 226) (by decide +kernel))) rfl
theorem tb_311 : (Cond.code yX2_init cX2_init 1 none) ∈ TB := TB_mk (tm_1 _ (List.mem_of_getElem? (i := 227) (by decide +kernel))) rfl
theorem tb_312 : (Cond.methodLink RX2 5 objectInit) ∈ TB := TB_mk (tm_1 _ (List.mem_of_getElem? (i := 228) (by decide +kernel))) rfl
theorem tb_313 : (Cond.fieldLink RX2 13 "WeddingPews$Law" "deeds" "[I") ∈ TB := TB_mk (tm_1 _ (List.mem_of_getElem? (i := 229) (by decide +kernel))) rfl
theorem tb_314 : (Cond.fieldLink RX2 17 "WeddingPews$Law" "values" "[I") ∈ TB := TB_mk (tm_1 _ (List.mem_of_getElem? (i := 230) (by decide +kernel))) rfl
theorem tb_315 : (Cond.fieldLink RX2 20 "WeddingPews$Law" "kinds" "[I") ∈ TB := TB_mk (tm_1 _ (List.mem_of_getElem? (i := 231) (by decide +kernel))) rfl
theorem tb_316 : (Cond.fieldLink RX2 23 "WeddingPews$Law" "sumStarts" "[I") ∈ TB := TB_mk (tm_1 _ (List.mem_of_getElem? (i := 232) (by decide +kernel))) rfl
theorem tb_317 : (Cond.fieldLink RX2 26 "WeddingPews$Law" "testStarts" "[I") ∈ TB := TB_mk (tm_1 _ (List.mem_of_getElem? (i := 233) (by decide +kernel))) rfl
theorem tb_318 : (Cond.fieldLink RX2 29 "WeddingPews$Law" "testEnds" "[I") ∈ TB := TB_mk (tm_1 _ (List.mem_of_getElem? (i := 234) (by decide +kernel))) rfl
theorem tb_319 : (Cond.fieldLink RX2 32 "WeddingPews$Law" "stack" "[I") ∈ TB := TB_mk (tm_1 _ (List.mem_of_getElem? (i := 235) (by decide +kernel))) rfl
theorem tb_320 : (Cond.fieldLink RX2 35 "WeddingPews$Law" "steps" "I") ∈ TB := TB_mk (tm_1 _ (List.mem_of_getElem? (i := 236) (by decide +kernel))) rfl
theorem tb_321 : (Cond.fieldLink RX2 39 "WeddingPews$Law" "rules" "I") ∈ TB := TB_mk (tm_1 _ (List.mem_of_getElem? (i := 237) (by decide +kernel))) rfl
theorem tb_322 : (Cond.fieldLink RX11 140 "WeddingPews$Law" "rules" "I") ∈ TB := TB_mk (tm_1 _ (List.mem_of_getElem? (i := 238) (by decide +kernel))) rfl
theorem tb_342 : (Cond.fieldLink RX11 12 "WeddingPews" "tape" "LWeddingPews$Tape;") ∈ TB := TB_mk (tm_2 _ (List.mem_of_getElem? (i := 18) (by decide +kernel))) rfl
theorem tb_343 : (Cond.fieldLink RX11 21 "WeddingPews" "text" "LWeddingPews$Text;") ∈ TB := TB_mk (tm_2 _ (List.mem_of_getElem? (i := 19) (by decide +kernel))) rfl
theorem tb_344 : (Cond.fieldLink RX11 28 "WeddingPews" "church" "LWeddingPews$Church;") ∈ TB := TB_mk (tm_2 _ (List.mem_of_getElem? (i := 20) (by decide +kernel))) rfl
theorem tb_345 : (Cond.fieldLink RX11 32 "WeddingPews" "keptChurch" "LWeddingPews$Church;") ∈ TB := TB_mk (tm_2 _ (List.mem_of_getElem? (i := 21) (by decide +kernel))) rfl
theorem tb_346 : (Cond.fieldLink RX11 35 "WeddingPews" "trialChurch" "LWeddingPews$Church;") ∈ TB := TB_mk (tm_2 _ (List.mem_of_getElem? (i := 22) (by decide +kernel))) rfl
theorem tb_347 : (Cond.fieldLink RX11 43 "WeddingPews" "lawReader" "LWeddingPews$LawReader;") ∈ TB := TB_mk (tm_2 _ (List.mem_of_getElem? (i := 23) (by decide +kernel))) rfl
theorem tb_348 : (Cond.fieldLink RX11 50 "WeddingPews" "listReader" "LWeddingPews$ListReader;") ∈ TB := TB_mk (tm_2 _ (List.mem_of_getElem? (i := 24) (by decide +kernel))) rfl
theorem tb_349 : (Cond.fieldLink RX11 57 "WeddingPews" "movesReader" "LWeddingPews$MovesReader;") ∈ TB := TB_mk (tm_2 _ (List.mem_of_getElem? (i := 25) (by decide +kernel))) rfl
theorem tb_350 : (Cond.fieldLink RX11 64 "WeddingPews" "usher" "LWeddingPews$Usher;") ∈ TB := TB_mk (tm_2 _ (List.mem_of_getElem? (i := 26) (by decide +kernel))) rfl
theorem tb_351 : (Cond.fieldLink RX11 71 "WeddingPews" "looks" "LWeddingPews$Looks;") ∈ TB := TB_mk (tm_2 _ (List.mem_of_getElem? (i := 27) (by decide +kernel))) rfl
theorem tb_352 : (Cond.fieldLink RX11 78 "WeddingPews" "sums" "LWeddingPews$Sums;") ∈ TB := TB_mk (tm_2 _ (List.mem_of_getElem? (i := 28) (by decide +kernel))) rfl
theorem tb_353 : (Cond.fieldLink RX11 85 "WeddingPews" "inForce" "LWeddingPews$Law;") ∈ TB := TB_mk (tm_2 _ (List.mem_of_getElem? (i := 29) (by decide +kernel))) rfl
theorem tb_354 : (Cond.fieldLink RX11 89 "WeddingPews" "draft" "LWeddingPews$Law;") ∈ TB := TB_mk (tm_2 _ (List.mem_of_getElem? (i := 30) (by decide +kernel))) rfl
theorem tb_355 : (Cond.fieldLink RX11 92 "WeddingPews" "isKept" "Z") ∈ TB := TB_mk (tm_2 _ (List.mem_of_getElem? (i := 31) (by decide +kernel))) rfl
theorem tb_385 : (Cond.methodLink RL 13 yX11_coat) ∈ TB := TB_mk (tm_2 _ (List.mem_of_getElem? (i := 61) (by decide +kernel))) rfl
theorem tb_386 : (Cond.instanceMethod yX11_coat) ∈ TB := TB_mk (tm_2 _ (List.mem_of_getElem? (i := 62) (by decide +kernel))) rfl
theorem tb_387 : (Cond.selects RX11 yX11_coat yX11_coat) ∈ TB := TB_mk (tm_2 _ (List.mem_of_getElem? (i := 63) (by decide +kernel))) rfl
theorem tb_388 : (Cond.code yX11_coat cX11_coat 3 (some .boolean)) ∈ TB := TB_mk (tm_2 _ (List.mem_of_getElem? (i := 64) (by decide +kernel))) rfl
theorem tb_389 : (Cond.methodLink RX11 96 yX11_isSeat) ∈ TB := TB_mk (tm_2 _ (List.mem_of_getElem? (i := 65) (by decide +kernel))) rfl
theorem tb_390 : (Cond.static yX11_isSeat) ∈ TB := TB_mk (tm_2 _ (List.mem_of_getElem? (i := 66) (by decide +kernel))) rfl
theorem tb_391 : (Cond.code yX11_isSeat cX11_isSeat 1 (some .boolean)) ∈ TB := TB_mk (tm_2 _ (List.mem_of_getElem? (i := 67) (by decide +kernel))) rfl
theorem tb_392 : (Cond.methodLink RX11 100 yX11_isWithin) ∈ TB := TB_mk (tm_2 _ (List.mem_of_getElem? (i := 68) (by decide +kernel))) rfl
theorem tb_393 : (Cond.static yX11_isWithin) ∈ TB := TB_mk (tm_2 _ (List.mem_of_getElem? (i := 69) (by decide +kernel))) rfl
theorem tb_394 : (Cond.code yX11_isWithin cX11_isWithin 3 (some .boolean)) ∈ TB := TB_mk (tm_2 _ (List.mem_of_getElem? (i := 70) (by decide +kernel))) rfl
theorem tb_395 : (Cond.methodLink RL 18 yX11_feed) ∈ TB := TB_mk (tm_2 _ (List.mem_of_getElem? (i := 71) (by decide +kernel))) rfl
theorem tb_396 : (Cond.instanceMethod yX11_feed) ∈ TB := TB_mk (tm_2 _ (List.mem_of_getElem? (i := 72) (by decide +kernel))) rfl
theorem tb_397 : (Cond.selects RX11 yX11_feed yX11_feed) ∈ TB := TB_mk (tm_2 _ (List.mem_of_getElem? (i := 73) (by decide +kernel))) rfl
theorem tb_398 : (Cond.code yX11_feed cX11_feed 6 (some .int)) ∈ TB := TB_mk (tm_2 _ (List.mem_of_getElem? (i := 74) (by decide +kernel))) rfl
theorem tb_399 : (Cond.methodLink RX11 108 yX8_hasRoomForFive) ∈ TB := TB_mk (tm_2 _ (List.mem_of_getElem? (i := 75) (by decide +kernel))) rfl
theorem tb_400 : (Cond.instanceMethod yX8_hasRoomForFive) ∈ TB := TB_mk (tm_2 _ (List.mem_of_getElem? (i := 76) (by decide +kernel))) rfl
theorem tb_401 : (Cond.selects RX8 yX8_hasRoomForFive yX8_hasRoomForFive) ∈ TB := TB_mk (tm_2 _ (List.mem_of_getElem? (i := 77) (by decide +kernel))) rfl
theorem tb_402 : (Cond.code yX8_hasRoomForFive cX8_hasRoomForFive 1 (some .boolean)) ∈ TB := TB_mk (tm_2 _ (List.mem_of_getElem? (i := 78) (by decide +kernel))) rfl
theorem tb_403 : (Cond.methodLink RX11 112 yX8_append) ∈ TB := TB_mk (tm_2 _ (List.mem_of_getElem? (i := 79) (by decide +kernel))) rfl
theorem tb_404 : (Cond.instanceMethod yX8_append) ∈ TB := TB_mk (tm_2 _ (List.mem_of_getElem? (i := 80) (by decide +kernel))) rfl
theorem tb_405 : (Cond.selects RX8 yX8_append yX8_append) ∈ TB := TB_mk (tm_2 _ (List.mem_of_getElem? (i := 81) (by decide +kernel))) rfl
theorem tb_406 : (Cond.code yX8_append cX8_append 3 none) ∈ TB := TB_mk (tm_2 _ (List.mem_of_getElem? (i := 82) (by decide +kernel))) rfl
theorem tb_407 : (Cond.methodLink RL 23 yX11_law) ∈ TB := TB_mk (tm_2 _ (List.mem_of_getElem? (i := 83) (by decide +kernel))) rfl
theorem tb_408 : (Cond.instanceMethod yX11_law) ∈ TB := TB_mk (tm_2 _ (List.mem_of_getElem? (i := 84) (by decide +kernel))) rfl
theorem tb_409 : (Cond.selects RX11 yX11_law yX11_law) ∈ TB := TB_mk (tm_2 _ (List.mem_of_getElem? (i := 85) (by decide +kernel))) rfl
theorem tb_410 : (Cond.code yX11_law cX11_law 3 (some .int)) ∈ TB := TB_mk (tm_2 _ (List.mem_of_getElem? (i := 86) (by decide +kernel))) rfl
theorem tb_411 : (Cond.methodLink RX11 120 yX8_holds) ∈ TB := TB_mk (tm_2 _ (List.mem_of_getElem? (i := 87) (by decide +kernel))) rfl
theorem tb_412 : (Cond.instanceMethod yX8_holds) ∈ TB := TB_mk (tm_2 _ (List.mem_of_getElem? (i := 88) (by decide +kernel))) rfl
theorem tb_413 : (Cond.selects RX8 yX8_holds yX8_holds) ∈ TB := TB_mk (tm_2 _ (List.mem_of_getElem? (i := 89) (by decide +kernel))) rfl
theorem tb_414 : (Cond.code yX8_holds cX8_holds 4 (some .boolean)) ∈ TB := TB_mk (tm_2 _ (List.mem_of_getElem? (i := 90) (by decide +kernel))) rfl
theorem nb_415 : (Cond.methodLinkNest RX8 17 yX11_isWithin "WeddingPews") ∈ lw_tbl := tm_2 _ (List.mem_of_getElem? (i := 91) (by decide +kernel))
theorem tb_416 : (Cond.methodLink RX11 123 yX9_open) ∈ TB := TB_mk (tm_2 _ (List.mem_of_getElem? (i := 92) (by decide +kernel))) rfl
theorem tb_417 : (Cond.instanceMethod yX9_open) ∈ TB := TB_mk (tm_2 _ (List.mem_of_getElem? (i := 93) (by decide +kernel))) rfl
theorem tb_418 : (Cond.selects RX9 yX9_open yX9_open) ∈ TB := TB_mk (tm_2 _ (List.mem_of_getElem? (i := 94) (by decide +kernel))) rfl
theorem tb_419 : (Cond.code yX9_open cX9_open 2 none) ∈ TB := TB_mk (tm_2 _ (List.mem_of_getElem? (i := 95) (by decide +kernel))) rfl
theorem tb_420 : (Cond.methodLink RX9 34 Lib.Math.min.name) ∈ TB := TB_mk (tm_2 _ (List.mem_of_getElem? (i := 96) (by decide +kernel))) rfl
theorem tb_421 : (Cond.static Lib.Math.min.name) ∈ TB := TB_mk (tm_2 _ (List.mem_of_getElem? (i := 97) (by decide +kernel))) rfl
theorem tb_422 : (Cond.code Lib.Math.min.name Lib.Math.min.code 2 (some .int)) ∈ TB := TB_mk (tm_2 _ (List.mem_of_getElem? (i := 98) (by decide +kernel))) rfl
theorem tb_423 : (Cond.methodLink RX11 126 yX3_readInto) ∈ TB := TB_mk (tm_2 _ (List.mem_of_getElem? (i := 99) (by decide +kernel))) rfl
theorem tb_424 : (Cond.instanceMethod yX3_readInto) ∈ TB := TB_mk (tm_2 _ (List.mem_of_getElem? (i := 100) (by decide +kernel))) rfl
theorem tb_425 : (Cond.selects RX3 yX3_readInto yX3_readInto) ∈ TB := TB_mk (tm_2 _ (List.mem_of_getElem? (i := 101) (by decide +kernel))) rfl
theorem tb_426 : (Cond.code yX3_readInto cX3_readInto 3 none) ∈ TB := TB_mk (tm_2 _ (List.mem_of_getElem? (i := 102) (by decide +kernel))) rfl
theorem tb_427 : (Cond.methodLink RX3 15 yX2_clear) ∈ TB := TB_mk (tm_2 _ (List.mem_of_getElem? (i := 103) (by decide +kernel))) rfl
theorem tb_428 : (Cond.instanceMethod yX2_clear) ∈ TB := TB_mk (tm_2 _ (List.mem_of_getElem? (i := 104) (by decide +kernel))) rfl
theorem tb_429 : (Cond.selects RX2 yX2_clear yX2_clear) ∈ TB := TB_mk (tm_2 _ (List.mem_of_getElem? (i := 105) (by decide +kernel))) rfl
theorem tb_430 : (Cond.code yX2_clear cX2_clear 1 none) ∈ TB := TB_mk (tm_2 _ (List.mem_of_getElem? (i := 106) (by decide +kernel))) rfl
theorem tb_431 : (Cond.methodLink RX3 20 yX3_readRule) ∈ TB := TB_mk (tm_2 _ (List.mem_of_getElem? (i := 107) (by decide +kernel))) rfl
theorem tb_433 : (Cond.instanceMethod yX3_readRule) ∈ TB := TB_mk (tm_2 _ (List.mem_of_getElem? (i := 109) (by decide +kernel))) rfl
theorem tb_434 : (Cond.code yX3_readRule cX3_readRule 3 none) ∈ TB := TB_mk (tm_2 _ (List.mem_of_getElem? (i := 110) (by decide +kernel))) rfl
theorem tb_435 : (Cond.methodLink RX3 33 yX2_isFull) ∈ TB := TB_mk (tm_2 _ (List.mem_of_getElem? (i := 111) (by decide +kernel))) rfl
theorem tb_436 : (Cond.instanceMethod yX2_isFull) ∈ TB := TB_mk (tm_2 _ (List.mem_of_getElem? (i := 112) (by decide +kernel))) rfl
theorem tb_437 : (Cond.selects RX2 yX2_isFull yX2_isFull) ∈ TB := TB_mk (tm_2 _ (List.mem_of_getElem? (i := 113) (by decide +kernel))) rfl
theorem tb_438 : (Cond.code yX2_isFull cX2_isFull 1 (some .boolean)) ∈ TB := TB_mk (tm_2 _ (List.mem_of_getElem? (i := 114) (by decide +kernel))) rfl
theorem nb_439 : (Cond.stringRef RX3 37 "eyo") ∈ lw_tbl := tm_2 _ (List.mem_of_getElem? (i := 115) (by decide +kernel))
theorem tb_440 : (Cond.methodLink RX3 39 yX9_whichOf) ∈ TB := TB_mk (tm_2 _ (List.mem_of_getElem? (i := 116) (by decide +kernel))) rfl
theorem tb_441 : (Cond.instanceMethod yX9_whichOf) ∈ TB := TB_mk (tm_2 _ (List.mem_of_getElem? (i := 117) (by decide +kernel))) rfl
theorem tb_442 : (Cond.selects RX9 yX9_whichOf yX9_whichOf) ∈ TB := TB_mk (tm_2 _ (List.mem_of_getElem? (i := 118) (by decide +kernel))) rfl
theorem tb_443 : (Cond.code yX9_whichOf cX9_whichOf 2 (some .int)) ∈ TB := TB_mk (tm_2 _ (List.mem_of_getElem? (i := 119) (by decide +kernel))) rfl
theorem tb_444 : (Cond.methodLink RX9 40 yX9_hasFault) ∈ TB := TB_mk (tm_2 _ (List.mem_of_getElem? (i := 120) (by decide +kernel))) rfl
theorem tb_445 : (Cond.instanceMethod yX9_hasFault) ∈ TB := TB_mk (tm_2 _ (List.mem_of_getElem? (i := 121) (by decide +kernel))) rfl
theorem tb_446 : (Cond.selects RX9 yX9_hasFault yX9_hasFault) ∈ TB := TB_mk (tm_2 _ (List.mem_of_getElem? (i := 122) (by decide +kernel))) rfl
theorem tb_447 : (Cond.code yX9_hasFault cX9_hasFault 1 (some .boolean)) ∈ TB := TB_mk (tm_2 _ (List.mem_of_getElem? (i := 123) (by decide +kernel))) rfl
theorem tb_448 : (Cond.methodLink RX9 51 yJ0_indexOf_0f7a4) ∈ TB := TB_mk (tm_2 _ (List.mem_of_getElem? (i := 124) (by decide +kernel))) rfl
theorem tb_449 : (Cond.instanceMethod yJ0_indexOf_0f7a4) ∈ TB := TB_mk (tm_2 _ (List.mem_of_getElem? (i := 125) (by decide +kernel))) rfl
theorem tb_450 : (Cond.selects RJ0 yJ0_indexOf_0f7a4 yJ0_indexOf_0f7a4) ∈ TB := TB_mk (tm_2 _ (List.mem_of_getElem? (i := 126) (by decide +kernel))) rfl
theorem tb_451 : (Cond.code yJ0_indexOf_0f7a4 cJ0_indexOf_0f7a4 2 (some .int)) ∈ TB := TB_mk (tm_2 _ (List.mem_of_getElem? (i := 127) (by decide +kernel))) rfl
theorem tb_452 : (Cond.methodLink RJ0 633 yJ0_indexOf_7cf53) ∈ TB := TB_mk (tm_2 _ (List.mem_of_getElem? (i := 128) (by decide +kernel))) rfl
theorem tb_453 : (Cond.instanceMethod yJ0_indexOf_7cf53) ∈ TB := TB_mk (tm_2 _ (List.mem_of_getElem? (i := 129) (by decide +kernel))) rfl
theorem tb_454 : (Cond.selects RJ0 yJ0_indexOf_7cf53 yJ0_indexOf_7cf53) ∈ TB := TB_mk (tm_2 _ (List.mem_of_getElem? (i := 130) (by decide +kernel))) rfl
theorem tb_455 : (Cond.code yJ0_indexOf_7cf53 cJ0_indexOf_7cf53 3 (some .int)) ∈ TB := TB_mk (tm_2 _ (List.mem_of_getElem? (i := 131) (by decide +kernel))) rfl
theorem tb_456 : (Cond.methodLink RJ0 492 yJ0_isLatin1_aae02) ∈ TB := TB_mk (tm_2 _ (List.mem_of_getElem? (i := 132) (by decide +kernel))) rfl
theorem tb_457 : (Cond.instanceMethod yJ0_isLatin1_aae02) ∈ TB := TB_mk (tm_2 _ (List.mem_of_getElem? (i := 133) (by decide +kernel))) rfl
theorem tb_458 : (Cond.selects RJ0 yJ0_isLatin1_aae02 yJ0_isLatin1_aae02) ∈ TB := TB_mk (tm_2 _ (List.mem_of_getElem? (i := 134) (by decide +kernel))) rfl
theorem tb_459 : (Cond.code yJ0_isLatin1_aae02 cJ0_isLatin1_aae02 1 (some .boolean)) ∈ TB := TB_mk (tm_2 _ (List.mem_of_getElem? (i := 135) (by decide +kernel))) rfl
theorem tb_460 : (Cond.fieldLink RJ0 38 "java/lang/String" "COMPACT_STRINGS" "Z") ∈ TB := TB_mk (tm_2 _ (List.mem_of_getElem? (i := 136) (by decide +kernel))) rfl
theorem nb_461 : (Cond.laysStatic RJ0 "COMPACT_STRINGS" "Z") ∈ lw_tbl := tm_2 _ (List.mem_of_getElem? (i := 137) (by decide +kernel))
theorem tb_462 : (Cond.methodLink RJ0 505 yJ0_length_8abf5) ∈ TB := TB_mk (tm_2 _ (List.mem_of_getElem? (i := 138) (by decide +kernel))) rfl
theorem tb_463 : (Cond.instanceMethod yJ0_length_8abf5) ∈ TB := TB_mk (tm_2 _ (List.mem_of_getElem? (i := 139) (by decide +kernel))) rfl
theorem tb_464 : (Cond.selects RJ0 yJ0_length_8abf5 yJ0_length_8abf5) ∈ TB := TB_mk (tm_2 _ (List.mem_of_getElem? (i := 140) (by decide +kernel))) rfl
theorem tb_465 : (Cond.code yJ0_length_8abf5 cJ0_length_8abf5 1 (some .int)) ∈ TB := TB_mk (tm_2 _ (List.mem_of_getElem? (i := 141) (by decide +kernel))) rfl
theorem tb_466 : (Cond.methodLink RJ0 335 yJ0_coder_7d493) ∈ TB := TB_mk (tm_2 _ (List.mem_of_getElem? (i := 142) (by decide +kernel))) rfl
theorem tb_467 : (Cond.instanceMethod yJ0_coder_7d493) ∈ TB := TB_mk (tm_2 _ (List.mem_of_getElem? (i := 143) (by decide +kernel))) rfl
theorem tb_468 : (Cond.selects RJ0 yJ0_coder_7d493 yJ0_coder_7d493) ∈ TB := TB_mk (tm_2 _ (List.mem_of_getElem? (i := 144) (by decide +kernel))) rfl
theorem tb_469 : (Cond.code yJ0_coder_7d493 cJ0_coder_7d493 1 (some .byte)) ∈ TB := TB_mk (tm_2 _ (List.mem_of_getElem? (i := 145) (by decide +kernel))) rfl
theorem tb_470 : (Cond.methodLink RJ0 637 yJ1_indexOf_4cfef) ∈ TB := TB_mk (tm_2 _ (List.mem_of_getElem? (i := 146) (by decide +kernel))) rfl
theorem tb_471 : (Cond.static yJ1_indexOf_4cfef) ∈ TB := TB_mk (tm_2 _ (List.mem_of_getElem? (i := 147) (by decide +kernel))) rfl
theorem tb_472 : (Cond.code yJ1_indexOf_4cfef cJ1_indexOf_4cfef 4 (some .int)) ∈ TB := TB_mk (tm_2 _ (List.mem_of_getElem? (i := 148) (by decide +kernel))) rfl
theorem tb_473 : (Cond.methodLink RJ1 88 yJ1_canEncode_9a6ad) ∈ TB := TB_mk (tm_2 _ (List.mem_of_getElem? (i := 149) (by decide +kernel))) rfl
theorem tb_474 : (Cond.static yJ1_canEncode_9a6ad) ∈ TB := TB_mk (tm_2 _ (List.mem_of_getElem? (i := 150) (by decide +kernel))) rfl
theorem tb_475 : (Cond.code yJ1_canEncode_9a6ad cJ1_canEncode_9a6ad 1 (some .boolean)) ∈ TB := TB_mk (tm_2 _ (List.mem_of_getElem? (i := 151) (by decide +kernel))) rfl
theorem tb_476 : (Cond.methodLink RJ1 92 Lib.Math.max.name) ∈ TB := TB_mk (tm_2 _ (List.mem_of_getElem? (i := 152) (by decide +kernel))) rfl
theorem tb_477 : (Cond.static Lib.Math.max.name) ∈ TB := TB_mk (tm_2 _ (List.mem_of_getElem? (i := 153) (by decide +kernel))) rfl
theorem tb_478 : (Cond.code Lib.Math.max.name Lib.Math.max.code 2 (some .int)) ∈ TB := TB_mk (tm_2 _ (List.mem_of_getElem? (i := 154) (by decide +kernel))) rfl
theorem tb_479 : (Cond.methodLink RJ1 38 Lib.Math.min.name) ∈ TB := TB_mk (tm_2 _ (List.mem_of_getElem? (i := 155) (by decide +kernel))) rfl
theorem tb_480 : (Cond.methodLink RJ1 95 yJ1_indexOfChar_4cfef) ∈ TB := TB_mk (tm_2 _ (List.mem_of_getElem? (i := 156) (by decide +kernel))) rfl
theorem tb_481 : (Cond.static yJ1_indexOfChar_4cfef) ∈ TB := TB_mk (tm_2 _ (List.mem_of_getElem? (i := 157) (by decide +kernel))) rfl
theorem tb_482 : (Cond.code yJ1_indexOfChar_4cfef cJ1_indexOfChar_4cfef 6 (some .int)) ∈ TB := TB_mk (tm_2 _ (List.mem_of_getElem? (i := 158) (by decide +kernel))) rfl
theorem tb_483 : (Cond.methodLink RJ0 640 yJ2_indexOf_4cfef) ∈ TB := TB_mk (tm_2 _ (List.mem_of_getElem? (i := 159) (by decide +kernel))) rfl
theorem tb_484 : (Cond.static yJ2_indexOf_4cfef) ∈ TB := TB_mk (tm_2 _ (List.mem_of_getElem? (i := 160) (by decide +kernel))) rfl
theorem tb_485 : (Cond.code yJ2_indexOf_4cfef cJ2_indexOf_4cfef 4 (some .int)) ∈ TB := TB_mk (tm_2 _ (List.mem_of_getElem? (i := 161) (by decide +kernel))) rfl
theorem tb_486 : (Cond.methodLink RJ2 224 Lib.Math.max.name) ∈ TB := TB_mk (tm_2 _ (List.mem_of_getElem? (i := 162) (by decide +kernel))) rfl
theorem tb_487 : (Cond.methodLink RJ2 183 Lib.Math.min.name) ∈ TB := TB_mk (tm_2 _ (List.mem_of_getElem? (i := 163) (by decide +kernel))) rfl
theorem tb_488 : (Cond.constant RJ2 227 (65536)) ∈ TB := TB_mk (tm_2 _ (List.mem_of_getElem? (i := 164) (by decide +kernel))) rfl
theorem tb_489 : (Cond.methodLink RJ2 228 yJ2_indexOfChar_4cfef) ∈ TB := TB_mk (tm_2 _ (List.mem_of_getElem? (i := 165) (by decide +kernel))) rfl
theorem tb_490 : (Cond.static yJ2_indexOfChar_4cfef) ∈ TB := TB_mk (tm_2 _ (List.mem_of_getElem? (i := 166) (by decide +kernel))) rfl
theorem tb_491 : (Cond.code yJ2_indexOfChar_4cfef cJ2_indexOfChar_4cfef 4 (some .int)) ∈ TB := TB_mk (tm_2 _ (List.mem_of_getElem? (i := 167) (by decide +kernel))) rfl
theorem tb_492 : (Cond.methodLink RJ2 96 yJ2_checkBoundsBeginEnd_d044e) ∈ TB := TB_mk (tm_2 _ (List.mem_of_getElem? (i := 168) (by decide +kernel))) rfl
theorem tb_493 : (Cond.static yJ2_checkBoundsBeginEnd_d044e) ∈ TB := TB_mk (tm_2 _ (List.mem_of_getElem? (i := 169) (by decide +kernel))) rfl
theorem tb_494 : (Cond.code yJ2_checkBoundsBeginEnd_d044e cJ2_checkBoundsBeginEnd_d044e 3 none) ∈ TB := TB_mk (tm_2 _ (List.mem_of_getElem? (i := 170) (by decide +kernel))) rfl
theorem tb_495 : (Cond.methodLink RJ2 48 yJ2_length_9d52b) ∈ TB := TB_mk (tm_2 _ (List.mem_of_getElem? (i := 171) (by decide +kernel))) rfl
theorem tb_496 : (Cond.static yJ2_length_9d52b) ∈ TB := TB_mk (tm_2 _ (List.mem_of_getElem? (i := 172) (by decide +kernel))) rfl
theorem tb_497 : (Cond.code yJ2_length_9d52b cJ2_length_9d52b 1 (some .int)) ∈ TB := TB_mk (tm_2 _ (List.mem_of_getElem? (i := 173) (by decide +kernel))) rfl
theorem tb_498 : (Cond.methodLink RJ2 241 yJ0_checkBoundsBeginEnd_23922) ∈ TB := TB_mk (tm_2 _ (List.mem_of_getElem? (i := 174) (by decide +kernel))) rfl
theorem tb_499 : (Cond.static yJ0_checkBoundsBeginEnd_23922) ∈ TB := TB_mk (tm_2 _ (List.mem_of_getElem? (i := 175) (by decide +kernel))) rfl
theorem tb_500 : (Cond.code yJ0_checkBoundsBeginEnd_23922 cJ0_checkBoundsBeginEnd_23922 3 none) ∈ TB := TB_mk (tm_2 _ (List.mem_of_getElem? (i := 176) (by decide +kernel))) rfl
theorem tb_501 : (Cond.fieldLink RJ0 1053 "jdk/internal/util/Preconditions" "SIOOBE_FORMATTER" "Ljava/util/function/BiFunction;") ∈ TB := TB_mk (tm_2 _ (List.mem_of_getElem? (i := 177) (by decide +kernel))) rfl
theorem nb_502 : (Cond.laysStatic RJ3 "SIOOBE_FORMATTER" "Ljava/util/function/BiFunction;") ∈ lw_tbl := tm_2 _ (List.mem_of_getElem? (i := 178) (by decide +kernel))
theorem tb_503 : (Cond.methodLink RJ0 1062 yJ3_checkFromToIndex_8c36e) ∈ TB := TB_mk (tm_2 _ (List.mem_of_getElem? (i := 179) (by decide +kernel))) rfl
theorem tb_504 : (Cond.static yJ3_checkFromToIndex_8c36e) ∈ TB := TB_mk (tm_2 _ (List.mem_of_getElem? (i := 180) (by decide +kernel))) rfl
theorem tb_505 : (Cond.code yJ3_checkFromToIndex_8c36e cJ3_checkFromToIndex_8c36e 4 (some .int)) ∈ TB := TB_mk (tm_2 _ (List.mem_of_getElem? (i := 181) (by decide +kernel))) rfl
theorem tb_506 : (Cond.methodLink RJ2 244 yJ2_indexOfCharUnsafe_4cfef) ∈ TB := TB_mk (tm_2 _ (List.mem_of_getElem? (i := 182) (by decide +kernel))) rfl
theorem tb_507 : (Cond.static yJ2_indexOfCharUnsafe_4cfef) ∈ TB := TB_mk (tm_2 _ (List.mem_of_getElem? (i := 183) (by decide +kernel))) rfl
theorem tb_508 : (Cond.code yJ2_indexOfCharUnsafe_4cfef cJ2_indexOfCharUnsafe_4cfef 5 (some .int)) ∈ TB := TB_mk (tm_2 _ (List.mem_of_getElem? (i := 184) (by decide +kernel))) rfl
theorem tb_509 : (Cond.methodLink RJ2 71 yJ2_getChar_3b067) ∈ TB := TB_mk (tm_2 _ (List.mem_of_getElem? (i := 185) (by decide +kernel))) rfl
theorem tb_510 : (Cond.static yJ2_getChar_3b067) ∈ TB := TB_mk (tm_2 _ (List.mem_of_getElem? (i := 186) (by decide +kernel))) rfl
theorem tb_511 : (Cond.code yJ2_getChar_3b067 cJ2_getChar_3b067 2 (some .char)) ∈ TB := TB_mk (tm_2 _ (List.mem_of_getElem? (i := 187) (by decide +kernel))) rfl
theorem tb_512 : (Cond.fieldLink RJ2 44 "java/lang/StringUTF16" "$assertionsDisabled" "Z") ∈ TB := TB_mk (tm_2 _ (List.mem_of_getElem? (i := 188) (by decide +kernel))) rfl
theorem nb_513 : (Cond.laysStatic RJ2 "$assertionsDisabled" "Z") ∈ lw_tbl := tm_2 _ (List.mem_of_getElem? (i := 189) (by decide +kernel))
theorem tb_514 : (Cond.fieldLink RJ2 59 "java/lang/StringUTF16" "HI_BYTE_SHIFT" "I") ∈ TB := TB_mk (tm_2 _ (List.mem_of_getElem? (i := 190) (by decide +kernel))) rfl
theorem nb_515 : (Cond.laysStatic RJ2 "HI_BYTE_SHIFT" "I") ∈ lw_tbl := tm_2 _ (List.mem_of_getElem? (i := 191) (by decide +kernel))
theorem tb_516 : (Cond.fieldLink RJ2 63 "java/lang/StringUTF16" "LO_BYTE_SHIFT" "I") ∈ TB := TB_mk (tm_2 _ (List.mem_of_getElem? (i := 192) (by decide +kernel))) rfl
theorem nb_517 : (Cond.laysStatic RJ2 "LO_BYTE_SHIFT" "I") ∈ lw_tbl := tm_2 _ (List.mem_of_getElem? (i := 193) (by decide +kernel))
theorem tb_518 : (Cond.methodLink RJ2 232 yJ2_indexOfSupplementary_4cfef) ∈ TB := TB_mk (tm_2 _ (List.mem_of_getElem? (i := 194) (by decide +kernel))) rfl
theorem tb_519 : (Cond.static yJ2_indexOfSupplementary_4cfef) ∈ TB := TB_mk (tm_2 _ (List.mem_of_getElem? (i := 195) (by decide +kernel))) rfl
theorem tb_520 : (Cond.code yJ2_indexOfSupplementary_4cfef cJ2_indexOfSupplementary_4cfef 7 (some .int)) ∈ TB := TB_mk (tm_2 _ (List.mem_of_getElem? (i := 196) (by decide +kernel))) rfl
theorem tb_521 : (Cond.methodLink RJ2 164 yJ11_isValidCodePoint_9a6ad) ∈ TB := TB_mk (tm_2 _ (List.mem_of_getElem? (i := 197) (by decide +kernel))) rfl
