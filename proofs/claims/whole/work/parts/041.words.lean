theorem tb_522 : (Cond.static yJ11_isValidCodePoint_9a6ad) ∈ TB := TB_mk (tm_2 _ (List.mem_of_getElem? (i := 198) (by decide +kernel))) rfl
theorem tb_523 : (Cond.code yJ11_isValidCodePoint_9a6ad cJ11_isValidCodePoint_9a6ad 2 (some .boolean)) ∈ TB := TB_mk (tm_2 _ (List.mem_of_getElem? (i := 199) (by decide +kernel))) rfl
theorem tb_524 : (Cond.methodLink RJ2 157 yJ11_highSurrogate_5068e) ∈ TB := TB_mk (tm_2 _ (List.mem_of_getElem? (i := 200) (by decide +kernel))) rfl
theorem tb_525 : (Cond.static yJ11_highSurrogate_5068e) ∈ TB := TB_mk (tm_2 _ (List.mem_of_getElem? (i := 201) (by decide +kernel))) rfl
theorem tb_526 : (Cond.code yJ11_highSurrogate_5068e cJ11_highSurrogate_5068e 1 (some .char)) ∈ TB := TB_mk (tm_2 _ (List.mem_of_getElem? (i := 202) (by decide +kernel))) rfl
theorem tb_527 : (Cond.constant RJ11 110 (55232)) ∈ TB := TB_mk (tm_2 _ (List.mem_of_getElem? (i := 203) (by decide +kernel))) rfl
theorem tb_528 : (Cond.methodLink RJ2 161 yJ11_lowSurrogate_5068e) ∈ TB := TB_mk (tm_2 _ (List.mem_of_getElem? (i := 204) (by decide +kernel))) rfl
theorem tb_529 : (Cond.static yJ11_lowSurrogate_5068e) ∈ TB := TB_mk (tm_2 _ (List.mem_of_getElem? (i := 205) (by decide +kernel))) rfl
theorem tb_530 : (Cond.code yJ11_lowSurrogate_5068e cJ11_lowSurrogate_5068e 1 (some .char)) ∈ TB := TB_mk (tm_2 _ (List.mem_of_getElem? (i := 206) (by decide +kernel))) rfl
theorem tb_531 : (Cond.constant RJ11 76 (56320)) ∈ TB := TB_mk (tm_2 _ (List.mem_of_getElem? (i := 207) (by decide +kernel))) rfl
theorem tb_532 : (Cond.methodLink RX3 47 yX9_fail) ∈ TB := TB_mk (tm_2 _ (List.mem_of_getElem? (i := 208) (by decide +kernel))) rfl
theorem tb_533 : (Cond.instanceMethod yX9_fail) ∈ TB := TB_mk (tm_2 _ (List.mem_of_getElem? (i := 209) (by decide +kernel))) rfl
theorem tb_534 : (Cond.selects RX9 yX9_fail yX9_fail) ∈ TB := TB_mk (tm_2 _ (List.mem_of_getElem? (i := 210) (by decide +kernel))) rfl
theorem tb_535 : (Cond.code yX9_fail cX9_fail 3 none) ∈ TB := TB_mk (tm_2 _ (List.mem_of_getElem? (i := 211) (by decide +kernel))) rfl
theorem tb_536 : (Cond.methodLink RX3 51 yX9_choose) ∈ TB := TB_mk (tm_2 _ (List.mem_of_getElem? (i := 212) (by decide +kernel))) rfl
theorem tb_537 : (Cond.instanceMethod yX9_choose) ∈ TB := TB_mk (tm_2 _ (List.mem_of_getElem? (i := 213) (by decide +kernel))) rfl
theorem tb_538 : (Cond.selects RX9 yX9_choose yX9_choose) ∈ TB := TB_mk (tm_2 _ (List.mem_of_getElem? (i := 214) (by decide +kernel))) rfl
theorem tb_539 : (Cond.code yX9_choose cX9_choose 3 (some .int)) ∈ TB := TB_mk (tm_2 _ (List.mem_of_getElem? (i := 215) (by decide +kernel))) rfl
theorem tb_540 : (Cond.methodLink RX9 57 yX9_whichOf) ∈ TB := TB_mk (tm_2 _ (List.mem_of_getElem? (i := 216) (by decide +kernel))) rfl
theorem tb_541 : (Cond.methodLink RX9 47 yX9_fail) ∈ TB := TB_mk (tm_2 _ (List.mem_of_getElem? (i := 217) (by decide +kernel))) rfl
theorem tb_542 : (Cond.methodLink RX9 44 yX9_skip) ∈ TB := TB_mk (tm_2 _ (List.mem_of_getElem? (i := 218) (by decide +kernel))) rfl
theorem tb_543 : (Cond.instanceMethod yX9_skip) ∈ TB := TB_mk (tm_2 _ (List.mem_of_getElem? (i := 219) (by decide +kernel))) rfl
theorem tb_544 : (Cond.selects RX9 yX9_skip yX9_skip) ∈ TB := TB_mk (tm_2 _ (List.mem_of_getElem? (i := 220) (by decide +kernel))) rfl
theorem tb_545 : (Cond.code yX9_skip cX9_skip 1 none) ∈ TB := TB_mk (tm_2 _ (List.mem_of_getElem? (i := 221) (by decide +kernel))) rfl
theorem tb_546 : (Cond.methodLink RX3 54 yX2_openRule) ∈ TB := TB_mk (tm_2 _ (List.mem_of_getElem? (i := 222) (by decide +kernel))) rfl
theorem tb_547 : (Cond.instanceMethod yX2_openRule) ∈ TB := TB_mk (tm_2 _ (List.mem_of_getElem? (i := 223) (by decide +kernel))) rfl
theorem tb_548 : (Cond.selects RX2 yX2_openRule yX2_openRule) ∈ TB := TB_mk (tm_2 _ (List.mem_of_getElem? (i := 224) (by decide +kernel))) rfl
theorem tb_549 : (Cond.code yX2_openRule cX2_openRule 2 none) ∈ TB := TB_mk (tm_2 _ (List.mem_of_getElem? (i := 225) (by decide +kernel))) rfl
theorem tb_550 : (Cond.methodLink RX2 42 yX2_isFull) ∈ TB := TB_mk (tm_2 _ (List.mem_of_getElem? (i := 226) (by decide +kernel))) rfl
theorem tb_551 : (Cond.methodLink RX3 58 yX3_readSum) ∈ TB := TB_mk (tm_2 _ (List.mem_of_getElem? (i := 227) (by decide +kernel))) rfl
theorem tb_553 : (Cond.instanceMethod yX3_readSum) ∈ TB := TB_mk (tm_2 _ (List.mem_of_getElem? (i := 229) (by decide +kernel))) rfl
theorem tb_554 : (Cond.code yX3_readSum cX3_readSum 5 none) ∈ TB := TB_mk (tm_2 _ (List.mem_of_getElem? (i := 230) (by decide +kernel))) rfl
theorem tb_555 : (Cond.methodLink RX3 96 yX3_readProduct) ∈ TB := TB_mk (tm_2 _ (List.mem_of_getElem? (i := 231) (by decide +kernel))) rfl
theorem tb_557 : (Cond.instanceMethod yX3_readProduct) ∈ TB := TB_mk (tm_2 _ (List.mem_of_getElem? (i := 233) (by decide +kernel))) rfl
theorem tb_558 : (Cond.code yX3_readProduct cX3_readProduct 5 none) ∈ TB := TB_mk (tm_2 _ (List.mem_of_getElem? (i := 234) (by decide +kernel))) rfl
theorem tb_559 : (Cond.methodLink RX3 101 yX3_readFactor) ∈ TB := TB_mk (tm_2 _ (List.mem_of_getElem? (i := 235) (by decide +kernel))) rfl
theorem tb_561 : (Cond.instanceMethod yX3_readFactor) ∈ TB := TB_mk (tm_2 _ (List.mem_of_getElem? (i := 237) (by decide +kernel))) rfl
theorem tb_562 : (Cond.code yX3_readFactor cX3_readFactor 3 none) ∈ TB := TB_mk (tm_2 _ (List.mem_of_getElem? (i := 238) (by decide +kernel))) rfl
theorem tb_563 : (Cond.methodLink RX3 90 yX3_opens) ∈ TB := TB_mk (tm_2 _ (List.mem_of_getElem? (i := 239) (by decide +kernel))) rfl
theorem tb_565 : (Cond.instanceMethod yX3_opens) ∈ TB := TB_mk (tm_3 _ (List.mem_of_getElem? (i := 1) (by decide +kernel))) rfl
theorem tb_566 : (Cond.code yX3_opens cX3_opens 2 (some .boolean)) ∈ TB := TB_mk (tm_3 _ (List.mem_of_getElem? (i := 2) (by decide +kernel))) rfl
theorem tb_567 : (Cond.methodLink RX3 117 yX9_hasFault) ∈ TB := TB_mk (tm_3 _ (List.mem_of_getElem? (i := 3) (by decide +kernel))) rfl
theorem tb_568 : (Cond.methodLink RX3 120 yX9_skip) ∈ TB := TB_mk (tm_3 _ (List.mem_of_getElem? (i := 4) (by decide +kernel))) rfl
theorem tb_569 : (Cond.methodLink RX3 65 yX9_expects) ∈ TB := TB_mk (tm_3 _ (List.mem_of_getElem? (i := 5) (by decide +kernel))) rfl
theorem tb_570 : (Cond.instanceMethod yX9_expects) ∈ TB := TB_mk (tm_3 _ (List.mem_of_getElem? (i := 6) (by decide +kernel))) rfl
theorem tb_571 : (Cond.selects RX9 yX9_expects yX9_expects) ∈ TB := TB_mk (tm_3 _ (List.mem_of_getElem? (i := 7) (by decide +kernel))) rfl
theorem tb_572 : (Cond.code yX9_expects cX9_expects 2 (some .boolean)) ∈ TB := TB_mk (tm_3 _ (List.mem_of_getElem? (i := 8) (by decide +kernel))) rfl
theorem tb_573 : (Cond.methodLink RX3 106 yX9_isDigit) ∈ TB := TB_mk (tm_3 _ (List.mem_of_getElem? (i := 9) (by decide +kernel))) rfl
theorem tb_574 : (Cond.instanceMethod yX9_isDigit) ∈ TB := TB_mk (tm_3 _ (List.mem_of_getElem? (i := 10) (by decide +kernel))) rfl
theorem tb_575 : (Cond.selects RX9 yX9_isDigit yX9_isDigit) ∈ TB := TB_mk (tm_3 _ (List.mem_of_getElem? (i := 11) (by decide +kernel))) rfl
theorem tb_576 : (Cond.code yX9_isDigit cX9_isDigit 1 (some .boolean)) ∈ TB := TB_mk (tm_3 _ (List.mem_of_getElem? (i := 12) (by decide +kernel))) rfl
theorem tb_577 : (Cond.methodLink RX3 109 yX9_number) ∈ TB := TB_mk (tm_3 _ (List.mem_of_getElem? (i := 13) (by decide +kernel))) rfl
theorem tb_578 : (Cond.instanceMethod yX9_number) ∈ TB := TB_mk (tm_3 _ (List.mem_of_getElem? (i := 14) (by decide +kernel))) rfl
theorem tb_579 : (Cond.selects RX9 yX9_number yX9_number) ∈ TB := TB_mk (tm_3 _ (List.mem_of_getElem? (i := 15) (by decide +kernel))) rfl
theorem tb_580 : (Cond.code yX9_number cX9_number 4 (some .int)) ∈ TB := TB_mk (tm_3 _ (List.mem_of_getElem? (i := 16) (by decide +kernel))) rfl
theorem tb_581 : (Cond.methodLink RX9 61 yX9_isDigit) ∈ TB := TB_mk (tm_3 _ (List.mem_of_getElem? (i := 17) (by decide +kernel))) rfl
theorem tb_582 : (Cond.methodLink RX3 77 yX2_add) ∈ TB := TB_mk (tm_3 _ (List.mem_of_getElem? (i := 18) (by decide +kernel))) rfl
theorem tb_583 : (Cond.instanceMethod yX2_add) ∈ TB := TB_mk (tm_3 _ (List.mem_of_getElem? (i := 19) (by decide +kernel))) rfl
theorem tb_584 : (Cond.selects RX2 yX2_add yX2_add) ∈ TB := TB_mk (tm_3 _ (List.mem_of_getElem? (i := 20) (by decide +kernel))) rfl
theorem tb_585 : (Cond.code yX2_add cX2_add 3 (some .int)) ∈ TB := TB_mk (tm_3 _ (List.mem_of_getElem? (i := 21) (by decide +kernel))) rfl
theorem nb_586 : (Cond.stringRef RX3 115 "sftcgdwqrnmk") ∈ lw_tbl := tm_3 _ (List.mem_of_getElem? (i := 22) (by decide +kernel))
theorem nb_587 : (Cond.stringRef RX3 104 "*/%") ∈ lw_tbl := tm_3 _ (List.mem_of_getElem? (i := 23) (by decide +kernel))
theorem nb_588 : (Cond.stringRef RX3 99 "+-") ∈ lw_tbl := tm_3 _ (List.mem_of_getElem? (i := 24) (by decide +kernel))
theorem tb_589 : (Cond.methodLink RX3 62 yX2_openTest) ∈ TB := TB_mk (tm_3 _ (List.mem_of_getElem? (i := 25) (by decide +kernel))) rfl
theorem tb_590 : (Cond.instanceMethod yX2_openTest) ∈ TB := TB_mk (tm_3 _ (List.mem_of_getElem? (i := 26) (by decide +kernel))) rfl
theorem tb_591 : (Cond.selects RX2 yX2_openTest yX2_openTest) ∈ TB := TB_mk (tm_3 _ (List.mem_of_getElem? (i := 27) (by decide +kernel))) rfl
theorem tb_592 : (Cond.code yX2_openTest cX2_openTest 1 none) ∈ TB := TB_mk (tm_3 _ (List.mem_of_getElem? (i := 28) (by decide +kernel))) rfl
theorem tb_593 : (Cond.methodLink RX3 68 yX3_readAnyOf) ∈ TB := TB_mk (tm_3 _ (List.mem_of_getElem? (i := 29) (by decide +kernel))) rfl
theorem tb_595 : (Cond.instanceMethod yX3_readAnyOf) ∈ TB := TB_mk (tm_3 _ (List.mem_of_getElem? (i := 31) (by decide +kernel))) rfl
theorem tb_596 : (Cond.code yX3_readAnyOf cX3_readAnyOf 5 none) ∈ TB := TB_mk (tm_3 _ (List.mem_of_getElem? (i := 32) (by decide +kernel))) rfl
theorem tb_597 : (Cond.methodLink RX3 74 yX3_readAllOf) ∈ TB := TB_mk (tm_3 _ (List.mem_of_getElem? (i := 33) (by decide +kernel))) rfl
theorem tb_599 : (Cond.instanceMethod yX3_readAllOf) ∈ TB := TB_mk (tm_3 _ (List.mem_of_getElem? (i := 35) (by decide +kernel))) rfl
theorem tb_600 : (Cond.code yX3_readAllOf cX3_readAllOf 5 none) ∈ TB := TB_mk (tm_3 _ (List.mem_of_getElem? (i := 36) (by decide +kernel))) rfl
theorem tb_601 : (Cond.methodLink RX3 84 yX3_readTest) ∈ TB := TB_mk (tm_3 _ (List.mem_of_getElem? (i := 37) (by decide +kernel))) rfl
theorem tb_603 : (Cond.instanceMethod yX3_readTest) ∈ TB := TB_mk (tm_3 _ (List.mem_of_getElem? (i := 39) (by decide +kernel))) rfl
theorem tb_604 : (Cond.code yX3_readTest cX3_readTest 4 none) ∈ TB := TB_mk (tm_3 _ (List.mem_of_getElem? (i := 40) (by decide +kernel))) rfl
theorem nb_605 : (Cond.stringRef RX3 94 "<>=") ∈ lw_tbl := tm_3 _ (List.mem_of_getElem? (i := 41) (by decide +kernel))
theorem tb_606 : (Cond.methodLink RX3 26 yX9_passes) ∈ TB := TB_mk (tm_3 _ (List.mem_of_getElem? (i := 42) (by decide +kernel))) rfl
theorem tb_607 : (Cond.instanceMethod yX9_passes) ∈ TB := TB_mk (tm_3 _ (List.mem_of_getElem? (i := 43) (by decide +kernel))) rfl
theorem tb_608 : (Cond.selects RX9 yX9_passes yX9_passes) ∈ TB := TB_mk (tm_3 _ (List.mem_of_getElem? (i := 44) (by decide +kernel))) rfl
theorem tb_609 : (Cond.code yX9_passes cX9_passes 2 (some .boolean)) ∈ TB := TB_mk (tm_3 _ (List.mem_of_getElem? (i := 45) (by decide +kernel))) rfl
theorem tb_610 : (Cond.methodLink RX3 81 yX2_landHere) ∈ TB := TB_mk (tm_3 _ (List.mem_of_getElem? (i := 46) (by decide +kernel))) rfl
theorem tb_611 : (Cond.instanceMethod yX2_landHere) ∈ TB := TB_mk (tm_3 _ (List.mem_of_getElem? (i := 47) (by decide +kernel))) rfl
theorem tb_612 : (Cond.selects RX2 yX2_landHere yX2_landHere) ∈ TB := TB_mk (tm_3 _ (List.mem_of_getElem? (i := 48) (by decide +kernel))) rfl
theorem tb_613 : (Cond.code yX2_landHere cX2_landHere 2 none) ∈ TB := TB_mk (tm_3 _ (List.mem_of_getElem? (i := 49) (by decide +kernel))) rfl
theorem tb_614 : (Cond.methodLink RX3 71 yX2_closeRule) ∈ TB := TB_mk (tm_3 _ (List.mem_of_getElem? (i := 50) (by decide +kernel))) rfl
theorem tb_615 : (Cond.instanceMethod yX2_closeRule) ∈ TB := TB_mk (tm_3 _ (List.mem_of_getElem? (i := 51) (by decide +kernel))) rfl
theorem tb_616 : (Cond.selects RX2 yX2_closeRule yX2_closeRule) ∈ TB := TB_mk (tm_3 _ (List.mem_of_getElem? (i := 52) (by decide +kernel))) rfl
theorem tb_617 : (Cond.code yX2_closeRule cX2_closeRule 1 none) ∈ TB := TB_mk (tm_3 _ (List.mem_of_getElem? (i := 53) (by decide +kernel))) rfl
theorem tb_618 : (Cond.methodLink RX3 30 yX9_expectEnd) ∈ TB := TB_mk (tm_3 _ (List.mem_of_getElem? (i := 54) (by decide +kernel))) rfl
theorem tb_619 : (Cond.instanceMethod yX9_expectEnd) ∈ TB := TB_mk (tm_3 _ (List.mem_of_getElem? (i := 55) (by decide +kernel))) rfl
theorem tb_620 : (Cond.selects RX9 yX9_expectEnd yX9_expectEnd) ∈ TB := TB_mk (tm_3 _ (List.mem_of_getElem? (i := 56) (by decide +kernel))) rfl
theorem tb_621 : (Cond.code yX9_expectEnd cX9_expectEnd 1 none) ∈ TB := TB_mk (tm_3 _ (List.mem_of_getElem? (i := 57) (by decide +kernel))) rfl
theorem tb_622 : (Cond.methodLink RX11 130 yX8_clear) ∈ TB := TB_mk (tm_3 _ (List.mem_of_getElem? (i := 58) (by decide +kernel))) rfl
theorem tb_623 : (Cond.instanceMethod yX8_clear) ∈ TB := TB_mk (tm_3 _ (List.mem_of_getElem? (i := 59) (by decide +kernel))) rfl
theorem tb_624 : (Cond.selects RX8 yX8_clear yX8_clear) ∈ TB := TB_mk (tm_3 _ (List.mem_of_getElem? (i := 60) (by decide +kernel))) rfl
theorem tb_625 : (Cond.code yX8_clear cX8_clear 1 none) ∈ TB := TB_mk (tm_3 _ (List.mem_of_getElem? (i := 61) (by decide +kernel))) rfl
theorem tb_626 : (Cond.methodLink RX11 133 yX9_hasFault) ∈ TB := TB_mk (tm_3 _ (List.mem_of_getElem? (i := 62) (by decide +kernel))) rfl
theorem tb_627 : (Cond.methodLink RX11 136 yX9_faultAnswer) ∈ TB := TB_mk (tm_3 _ (List.mem_of_getElem? (i := 63) (by decide +kernel))) rfl
theorem tb_628 : (Cond.instanceMethod yX9_faultAnswer) ∈ TB := TB_mk (tm_3 _ (List.mem_of_getElem? (i := 64) (by decide +kernel))) rfl
theorem tb_629 : (Cond.selects RX9 yX9_faultAnswer yX9_faultAnswer) ∈ TB := TB_mk (tm_3 _ (List.mem_of_getElem? (i := 65) (by decide +kernel))) rfl
theorem tb_630 : (Cond.code yX9_faultAnswer cX9_faultAnswer 1 (some .int)) ∈ TB := TB_mk (tm_3 _ (List.mem_of_getElem? (i := 66) (by decide +kernel))) rfl
theorem tb_631 : (Cond.arrayClass .byte) ∈ TB := TB_mk (tm_3 _ (List.mem_of_getElem? (i := 67) (by decide +kernel))) rfl
theorem tb_632 : (Cond.methodLink RL 28 yX11_list) ∈ TB := TB_mk (tm_3 _ (List.mem_of_getElem? (i := 68) (by decide +kernel))) rfl
theorem tb_633 : (Cond.instanceMethod yX11_list) ∈ TB := TB_mk (tm_3 _ (List.mem_of_getElem? (i := 69) (by decide +kernel))) rfl
theorem tb_634 : (Cond.selects RX11 yX11_list yX11_list) ∈ TB := TB_mk (tm_3 _ (List.mem_of_getElem? (i := 70) (by decide +kernel))) rfl
theorem tb_635 : (Cond.code yX11_list cX11_list 3 (some .int)) ∈ TB := TB_mk (tm_3 _ (List.mem_of_getElem? (i := 71) (by decide +kernel))) rfl
theorem tb_636 : (Cond.methodLink RX11 143 yX4_readBehindLine) ∈ TB := TB_mk (tm_3 _ (List.mem_of_getElem? (i := 72) (by decide +kernel))) rfl
theorem tb_637 : (Cond.instanceMethod yX4_readBehindLine) ∈ TB := TB_mk (tm_3 _ (List.mem_of_getElem? (i := 73) (by decide +kernel))) rfl
theorem tb_638 : (Cond.selects RX4 yX4_readBehindLine yX4_readBehindLine) ∈ TB := TB_mk (tm_3 _ (List.mem_of_getElem? (i := 74) (by decide +kernel))) rfl
theorem tb_639 : (Cond.code yX4_readBehindLine cX4_readBehindLine 3 (some .int)) ∈ TB := TB_mk (tm_3 _ (List.mem_of_getElem? (i := 75) (by decide +kernel))) rfl
theorem tb_640 : (Cond.methodLink RX4 19 yX4_readPart) ∈ TB := TB_mk (tm_3 _ (List.mem_of_getElem? (i := 76) (by decide +kernel))) rfl
theorem tb_642 : (Cond.instanceMethod yX4_readPart) ∈ TB := TB_mk (tm_3 _ (List.mem_of_getElem? (i := 78) (by decide +kernel))) rfl
theorem tb_643 : (Cond.code yX4_readPart cX4_readPart 11 none) ∈ TB := TB_mk (tm_3 _ (List.mem_of_getElem? (i := 79) (by decide +kernel))) rfl
theorem nb_644 : (Cond.stringRef RX4 35 "23456789") ∈ lw_tbl := tm_3 _ (List.mem_of_getElem? (i := 80) (by decide +kernel))
theorem tb_645 : (Cond.methodLink RX4 37 yX9_whichOf) ∈ TB := TB_mk (tm_3 _ (List.mem_of_getElem? (i := 81) (by decide +kernel))) rfl
theorem tb_646 : (Cond.methodLink RX4 41 yX9_choose) ∈ TB := TB_mk (tm_3 _ (List.mem_of_getElem? (i := 82) (by decide +kernel))) rfl
theorem nb_647 : (Cond.stringRef RX4 44 "hgb") ∈ lw_tbl := tm_3 _ (List.mem_of_getElem? (i := 83) (by decide +kernel))
theorem nb_648 : (Cond.stringRef RX4 46 "abcdefghijklmnop") ∈ lw_tbl := tm_3 _ (List.mem_of_getElem? (i := 84) (by decide +kernel))
theorem nb_649 : (Cond.stringRef RX4 48 "0123456789") ∈ lw_tbl := tm_3 _ (List.mem_of_getElem? (i := 85) (by decide +kernel))
theorem tb_650 : (Cond.methodLink RX4 25 yX9_passes) ∈ TB := TB_mk (tm_3 _ (List.mem_of_getElem? (i := 86) (by decide +kernel))) rfl
theorem tb_651 : (Cond.methodLink RX4 55 yX9_fail) ∈ TB := TB_mk (tm_3 _ (List.mem_of_getElem? (i := 87) (by decide +kernel))) rfl
theorem tb_652 : (Cond.methodLink RX4 59 yX9_hasFault) ∈ TB := TB_mk (tm_3 _ (List.mem_of_getElem? (i := 88) (by decide +kernel))) rfl
theorem tb_653 : (Cond.methodLink RX4 63 yX1_of) ∈ TB := TB_mk (tm_3 _ (List.mem_of_getElem? (i := 89) (by decide +kernel))) rfl
theorem tb_654 : (Cond.static yX1_of) ∈ TB := TB_mk (tm_3 _ (List.mem_of_getElem? (i := 90) (by decide +kernel))) rfl
theorem tb_655 : (Cond.code yX1_of cX1_of 5 (some .int)) ∈ TB := TB_mk (tm_3 _ (List.mem_of_getElem? (i := 91) (by decide +kernel))) rfl
theorem tb_656 : (Cond.methodLink RX4 29 yX9_expectEnd) ∈ TB := TB_mk (tm_3 _ (List.mem_of_getElem? (i := 92) (by decide +kernel))) rfl
theorem tb_657 : (Cond.methodLink RL 32 yX11_moves) ∈ TB := TB_mk (tm_3 _ (List.mem_of_getElem? (i := 93) (by decide +kernel))) rfl
theorem tb_658 : (Cond.instanceMethod yX11_moves) ∈ TB := TB_mk (tm_3 _ (List.mem_of_getElem? (i := 94) (by decide +kernel))) rfl
theorem tb_659 : (Cond.selects RX11 yX11_moves yX11_moves) ∈ TB := TB_mk (tm_3 _ (List.mem_of_getElem? (i := 95) (by decide +kernel))) rfl
theorem tb_660 : (Cond.code yX11_moves cX11_moves 3 (some .int)) ∈ TB := TB_mk (tm_3 _ (List.mem_of_getElem? (i := 96) (by decide +kernel))) rfl
theorem tb_661 : (Cond.methodLink RX11 150 yX0_copyFrom) ∈ TB := TB_mk (tm_3 _ (List.mem_of_getElem? (i := 97) (by decide +kernel))) rfl
theorem tb_662 : (Cond.instanceMethod yX0_copyFrom) ∈ TB := TB_mk (tm_3 _ (List.mem_of_getElem? (i := 98) (by decide +kernel))) rfl
theorem tb_663 : (Cond.selects RX0 yX0_copyFrom yX0_copyFrom) ∈ TB := TB_mk (tm_3 _ (List.mem_of_getElem? (i := 99) (by decide +kernel))) rfl
theorem tb_664 : (Cond.code yX0_copyFrom cX0_copyFrom 2 none) ∈ TB := TB_mk (tm_3 _ (List.mem_of_getElem? (i := 100) (by decide +kernel))) rfl
theorem tb_665 : (Cond.methodLink RX0 48 arraycopyName) ∈ TB := TB_mk (tm_3 _ (List.mem_of_getElem? (i := 101) (by decide +kernel))) rfl
theorem tb_666 : (Cond.static arraycopyName) ∈ TB := TB_mk (tm_3 _ (List.mem_of_getElem? (i := 102) (by decide +kernel))) rfl
theorem tb_667 : (Cond.native arraycopyName) ∈ TB := TB_mk (tm_3 _ (List.mem_of_getElem? (i := 103) (by decide +kernel))) rfl
theorem tb_668 : (Cond.methodLink RX11 154 yX6_readAndMove) ∈ TB := TB_mk (tm_3 _ (List.mem_of_getElem? (i := 104) (by decide +kernel))) rfl
theorem tb_669 : (Cond.instanceMethod yX6_readAndMove) ∈ TB := TB_mk (tm_3 _ (List.mem_of_getElem? (i := 105) (by decide +kernel))) rfl
theorem tb_670 : (Cond.selects RX6 yX6_readAndMove yX6_readAndMove) ∈ TB := TB_mk (tm_3 _ (List.mem_of_getElem? (i := 106) (by decide +kernel))) rfl
theorem tb_671 : (Cond.code yX6_readAndMove cX6_readAndMove 3 (some .int)) ∈ TB := TB_mk (tm_3 _ (List.mem_of_getElem? (i := 107) (by decide +kernel))) rfl
theorem tb_672 : (Cond.methodLink RX6 19 yX6_readLine) ∈ TB := TB_mk (tm_3 _ (List.mem_of_getElem? (i := 108) (by decide +kernel))) rfl
theorem tb_674 : (Cond.instanceMethod yX6_readLine) ∈ TB := TB_mk (tm_3 _ (List.mem_of_getElem? (i := 110) (by decide +kernel))) rfl
theorem tb_675 : (Cond.code yX6_readLine cX6_readLine 5 none) ∈ TB := TB_mk (tm_3 _ (List.mem_of_getElem? (i := 111) (by decide +kernel))) rfl
theorem tb_676 : (Cond.methodLink RX6 32 yX9_isDigit) ∈ TB := TB_mk (tm_3 _ (List.mem_of_getElem? (i := 112) (by decide +kernel))) rfl
theorem tb_677 : (Cond.methodLink RX6 39 yX9_fail) ∈ TB := TB_mk (tm_3 _ (List.mem_of_getElem? (i := 113) (by decide +kernel))) rfl
theorem tb_678 : (Cond.methodLink RX6 43 yX6_readSeat) ∈ TB := TB_mk (tm_3 _ (List.mem_of_getElem? (i := 114) (by decide +kernel))) rfl
theorem tb_680 : (Cond.instanceMethod yX6_readSeat) ∈ TB := TB_mk (tm_3 _ (List.mem_of_getElem? (i := 116) (by decide +kernel))) rfl
theorem tb_681 : (Cond.code yX6_readSeat cX6_readSeat 5 (some .int)) ∈ TB := TB_mk (tm_3 _ (List.mem_of_getElem? (i := 117) (by decide +kernel))) rfl
theorem tb_682 : (Cond.methodLink RX6 59 yX9_hasFault) ∈ TB := TB_mk (tm_3 _ (List.mem_of_getElem? (i := 118) (by decide +kernel))) rfl
theorem tb_683 : (Cond.methodLink RX6 65 yX9_number) ∈ TB := TB_mk (tm_3 _ (List.mem_of_getElem? (i := 119) (by decide +kernel))) rfl
theorem tb_684 : (Cond.methodLink RX6 69 yX0_isTaken) ∈ TB := TB_mk (tm_3 _ (List.mem_of_getElem? (i := 120) (by decide +kernel))) rfl
theorem tb_685 : (Cond.instanceMethod yX0_isTaken) ∈ TB := TB_mk (tm_3 _ (List.mem_of_getElem? (i := 121) (by decide +kernel))) rfl
theorem tb_686 : (Cond.selects RX0 yX0_isTaken yX0_isTaken) ∈ TB := TB_mk (tm_3 _ (List.mem_of_getElem? (i := 122) (by decide +kernel))) rfl
theorem tb_687 : (Cond.code yX0_isTaken cX0_isTaken 2 (some .boolean)) ∈ TB := TB_mk (tm_3 _ (List.mem_of_getElem? (i := 123) (by decide +kernel))) rfl
theorem tb_688 : (Cond.methodLink RX0 55 yX0_guestOn) ∈ TB := TB_mk (tm_3 _ (List.mem_of_getElem? (i := 124) (by decide +kernel))) rfl
theorem tb_689 : (Cond.instanceMethod yX0_guestOn) ∈ TB := TB_mk (tm_3 _ (List.mem_of_getElem? (i := 125) (by decide +kernel))) rfl
theorem tb_690 : (Cond.selects RX0 yX0_guestOn yX0_guestOn) ∈ TB := TB_mk (tm_3 _ (List.mem_of_getElem? (i := 126) (by decide +kernel))) rfl
theorem tb_691 : (Cond.code yX0_guestOn cX0_guestOn 2 (some .int)) ∈ TB := TB_mk (tm_3 _ (List.mem_of_getElem? (i := 127) (by decide +kernel))) rfl
theorem nb_692 : (Cond.stringRef RX6 47 ">=!") ∈ lw_tbl := tm_3 _ (List.mem_of_getElem? (i := 128) (by decide +kernel))
theorem tb_693 : (Cond.methodLink RX6 49 yX9_choose) ∈ TB := TB_mk (tm_3 _ (List.mem_of_getElem? (i := 129) (by decide +kernel))) rfl
theorem tb_694 : (Cond.methodLink RX6 53 yX0_sendBack) ∈ TB := TB_mk (tm_3 _ (List.mem_of_getElem? (i := 130) (by decide +kernel))) rfl
theorem tb_695 : (Cond.instanceMethod yX0_sendBack) ∈ TB := TB_mk (tm_3 _ (List.mem_of_getElem? (i := 131) (by decide +kernel))) rfl
theorem tb_696 : (Cond.selects RX0 yX0_sendBack yX0_sendBack) ∈ TB := TB_mk (tm_3 _ (List.mem_of_getElem? (i := 132) (by decide +kernel))) rfl
theorem tb_697 : (Cond.code yX0_sendBack cX0_sendBack 2 none) ∈ TB := TB_mk (tm_3 _ (List.mem_of_getElem? (i := 133) (by decide +kernel))) rfl
theorem nb_698 : (Cond.methodLinkNest RX0 87 yX11_isSeat "WeddingPews") ∈ lw_tbl := tm_3 _ (List.mem_of_getElem? (i := 134) (by decide +kernel))
theorem tb_699 : (Cond.methodLink RX6 62 yX0_exchange) ∈ TB := TB_mk (tm_3 _ (List.mem_of_getElem? (i := 135) (by decide +kernel))) rfl
theorem tb_700 : (Cond.instanceMethod yX0_exchange) ∈ TB := TB_mk (tm_3 _ (List.mem_of_getElem? (i := 136) (by decide +kernel))) rfl
theorem tb_701 : (Cond.selects RX0 yX0_exchange yX0_exchange) ∈ TB := TB_mk (tm_3 _ (List.mem_of_getElem? (i := 137) (by decide +kernel))) rfl
theorem tb_702 : (Cond.code yX0_exchange cX0_exchange 5 none) ∈ TB := TB_mk (tm_3 _ (List.mem_of_getElem? (i := 138) (by decide +kernel))) rfl
theorem tb_703 : (Cond.methodLink RX6 25 yX9_passes) ∈ TB := TB_mk (tm_3 _ (List.mem_of_getElem? (i := 139) (by decide +kernel))) rfl
theorem tb_704 : (Cond.methodLink RX6 29 yX9_expectEnd) ∈ TB := TB_mk (tm_3 _ (List.mem_of_getElem? (i := 140) (by decide +kernel))) rfl
theorem tb_705 : (Cond.methodLink RL 36 yX11_come) ∈ TB := TB_mk (tm_3 _ (List.mem_of_getElem? (i := 141) (by decide +kernel))) rfl
theorem tb_706 : (Cond.instanceMethod yX11_come) ∈ TB := TB_mk (tm_3 _ (List.mem_of_getElem? (i := 142) (by decide +kernel))) rfl
theorem tb_707 : (Cond.selects RX11 yX11_come yX11_come) ∈ TB := TB_mk (tm_3 _ (List.mem_of_getElem? (i := 143) (by decide +kernel))) rfl
theorem tb_708 : (Cond.code yX11_come cX11_come 2 (some .int)) ∈ TB := TB_mk (tm_3 _ (List.mem_of_getElem? (i := 144) (by decide +kernel))) rfl
theorem tb_709 : (Cond.methodLink RX11 157 yX10_leadMany) ∈ TB := TB_mk (tm_3 _ (List.mem_of_getElem? (i := 145) (by decide +kernel))) rfl
theorem tb_710 : (Cond.instanceMethod yX10_leadMany) ∈ TB := TB_mk (tm_3 _ (List.mem_of_getElem? (i := 146) (by decide +kernel))) rfl
theorem tb_711 : (Cond.selects RX10 yX10_leadMany yX10_leadMany) ∈ TB := TB_mk (tm_3 _ (List.mem_of_getElem? (i := 147) (by decide +kernel))) rfl
theorem tb_712 : (Cond.code yX10_leadMany cX10_leadMany 7 (some .int)) ∈ TB := TB_mk (tm_3 _ (List.mem_of_getElem? (i := 148) (by decide +kernel))) rfl
theorem tb_713 : (Cond.methodLink RX10 24 Lib.Math.min.name) ∈ TB := TB_mk (tm_3 _ (List.mem_of_getElem? (i := 149) (by decide +kernel))) rfl
theorem tb_714 : (Cond.methodLink RX10 36 yX10_leadOne) ∈ TB := TB_mk (tm_3 _ (List.mem_of_getElem? (i := 150) (by decide +kernel))) rfl
theorem tb_716 : (Cond.instanceMethod yX10_leadOne) ∈ TB := TB_mk (tm_3 _ (List.mem_of_getElem? (i := 152) (by decide +kernel))) rfl
theorem tb_717 : (Cond.code yX10_leadOne cX10_leadOne 8 (some .int)) ∈ TB := TB_mk (tm_3 _ (List.mem_of_getElem? (i := 153) (by decide +kernel))) rfl
theorem tb_718 : (Cond.methodLink RX10 44 yX1_familyOf) ∈ TB := TB_mk (tm_3 _ (List.mem_of_getElem? (i := 154) (by decide +kernel))) rfl
theorem tb_719 : (Cond.static yX1_familyOf) ∈ TB := TB_mk (tm_3 _ (List.mem_of_getElem? (i := 155) (by decide +kernel))) rfl
theorem tb_720 : (Cond.code yX1_familyOf cX1_familyOf 1 (some .int)) ∈ TB := TB_mk (tm_3 _ (List.mem_of_getElem? (i := 156) (by decide +kernel))) rfl
theorem tb_721 : (Cond.methodLink RX10 50 yX10_tellGuest) ∈ TB := TB_mk (tm_3 _ (List.mem_of_getElem? (i := 157) (by decide +kernel))) rfl
theorem tb_723 : (Cond.instanceMethod yX10_tellGuest) ∈ TB := TB_mk (tm_3 _ (List.mem_of_getElem? (i := 159) (by decide +kernel))) rfl
theorem tb_724 : (Cond.code yX10_tellGuest cX10_tellGuest 4 none) ∈ TB := TB_mk (tm_3 _ (List.mem_of_getElem? (i := 160) (by decide +kernel))) rfl
theorem tb_725 : (Cond.methodLink RX10 102 yX1_sideOf) ∈ TB := TB_mk (tm_3 _ (List.mem_of_getElem? (i := 161) (by decide +kernel))) rfl
theorem tb_726 : (Cond.static yX1_sideOf) ∈ TB := TB_mk (tm_3 _ (List.mem_of_getElem? (i := 162) (by decide +kernel))) rfl
theorem tb_727 : (Cond.code yX1_sideOf cX1_sideOf 1 (some .int)) ∈ TB := TB_mk (tm_3 _ (List.mem_of_getElem? (i := 163) (by decide +kernel))) rfl
theorem tb_728 : (Cond.methodLink RX10 105 yX1_heightOf) ∈ TB := TB_mk (tm_3 _ (List.mem_of_getElem? (i := 164) (by decide +kernel))) rfl
theorem tb_729 : (Cond.static yX1_heightOf) ∈ TB := TB_mk (tm_3 _ (List.mem_of_getElem? (i := 165) (by decide +kernel))) rfl
theorem tb_730 : (Cond.code yX1_heightOf cX1_heightOf 1 (some .int)) ∈ TB := TB_mk (tm_3 _ (List.mem_of_getElem? (i := 166) (by decide +kernel))) rfl
theorem tb_731 : (Cond.methodLink RX10 108 yX1_childOf) ∈ TB := TB_mk (tm_3 _ (List.mem_of_getElem? (i := 167) (by decide +kernel))) rfl
theorem tb_732 : (Cond.static yX1_childOf) ∈ TB := TB_mk (tm_3 _ (List.mem_of_getElem? (i := 168) (by decide +kernel))) rfl
theorem tb_733 : (Cond.code yX1_childOf cX1_childOf 1 (some .int)) ∈ TB := TB_mk (tm_3 _ (List.mem_of_getElem? (i := 169) (by decide +kernel))) rfl
theorem tb_734 : (Cond.methodLink RX10 111 yX1_singerOf) ∈ TB := TB_mk (tm_3 _ (List.mem_of_getElem? (i := 170) (by decide +kernel))) rfl
theorem tb_735 : (Cond.static yX1_singerOf) ∈ TB := TB_mk (tm_3 _ (List.mem_of_getElem? (i := 171) (by decide +kernel))) rfl
theorem tb_736 : (Cond.code yX1_singerOf cX1_singerOf 1 (some .int)) ∈ TB := TB_mk (tm_3 _ (List.mem_of_getElem? (i := 172) (by decide +kernel))) rfl
theorem tb_737 : (Cond.methodLink RX10 114 yX0_moreOnHers) ∈ TB := TB_mk (tm_3 _ (List.mem_of_getElem? (i := 173) (by decide +kernel))) rfl
theorem tb_738 : (Cond.instanceMethod yX0_moreOnHers) ∈ TB := TB_mk (tm_3 _ (List.mem_of_getElem? (i := 174) (by decide +kernel))) rfl
theorem tb_739 : (Cond.selects RX0 yX0_moreOnHers yX0_moreOnHers) ∈ TB := TB_mk (tm_3 _ (List.mem_of_getElem? (i := 175) (by decide +kernel))) rfl
theorem tb_740 : (Cond.code yX0_moreOnHers cX0_moreOnHers 1 (some .int)) ∈ TB := TB_mk (tm_3 _ (List.mem_of_getElem? (i := 176) (by decide +kernel))) rfl
theorem tb_741 : (Cond.methodLink RX0 78 yX0_sittingOn) ∈ TB := TB_mk (tm_3 _ (List.mem_of_getElem? (i := 177) (by decide +kernel))) rfl
theorem tb_742 : (Cond.instanceMethod yX0_sittingOn) ∈ TB := TB_mk (tm_3 _ (List.mem_of_getElem? (i := 178) (by decide +kernel))) rfl
theorem tb_743 : (Cond.selects RX0 yX0_sittingOn yX0_sittingOn) ∈ TB := TB_mk (tm_3 _ (List.mem_of_getElem? (i := 179) (by decide +kernel))) rfl
theorem tb_744 : (Cond.code yX0_sittingOn cX0_sittingOn 2 (some .int)) ∈ TB := TB_mk (tm_3 _ (List.mem_of_getElem? (i := 180) (by decide +kernel))) rfl
theorem tb_745 : (Cond.methodLink RX0 75 yX0_sittingFrom) ∈ TB := TB_mk (tm_3 _ (List.mem_of_getElem? (i := 181) (by decide +kernel))) rfl
theorem tb_747 : (Cond.instanceMethod yX0_sittingFrom) ∈ TB := TB_mk (tm_3 _ (List.mem_of_getElem? (i := 183) (by decide +kernel))) rfl
theorem tb_748 : (Cond.code yX0_sittingFrom cX0_sittingFrom 5 (some .int)) ∈ TB := TB_mk (tm_3 _ (List.mem_of_getElem? (i := 184) (by decide +kernel))) rfl
theorem tb_749 : (Cond.methodLink RX0 69 Lib.Math.max.name) ∈ TB := TB_mk (tm_3 _ (List.mem_of_getElem? (i := 185) (by decide +kernel))) rfl
theorem tb_750 : (Cond.methodLink RX10 54 yX0_draw) ∈ TB := TB_mk (tm_3 _ (List.mem_of_getElem? (i := 186) (by decide +kernel))) rfl
theorem tb_751 : (Cond.instanceMethod yX0_draw) ∈ TB := TB_mk (tm_3 _ (List.mem_of_getElem? (i := 187) (by decide +kernel))) rfl
theorem tb_752 : (Cond.selects RX0 yX0_draw yX0_draw) ∈ TB := TB_mk (tm_3 _ (List.mem_of_getElem? (i := 188) (by decide +kernel))) rfl
theorem tb_753 : (Cond.code yX0_draw cX0_draw 1 (some .int)) ∈ TB := TB_mk (tm_3 _ (List.mem_of_getElem? (i := 189) (by decide +kernel))) rfl
theorem tb_754 : (Cond.constant RX0 54 (65536)) ∈ TB := TB_mk (tm_3 _ (List.mem_of_getElem? (i := 190) (by decide +kernel))) rfl
theorem tb_755 : (Cond.methodLink RX10 60 yX2_worth) ∈ TB := TB_mk (tm_3 _ (List.mem_of_getElem? (i := 191) (by decide +kernel))) rfl
theorem tb_756 : (Cond.instanceMethod yX2_worth) ∈ TB := TB_mk (tm_3 _ (List.mem_of_getElem? (i := 192) (by decide +kernel))) rfl
theorem tb_757 : (Cond.selects RX2 yX2_worth yX2_worth) ∈ TB := TB_mk (tm_3 _ (List.mem_of_getElem? (i := 193) (by decide +kernel))) rfl
theorem tb_758 : (Cond.code yX2_worth cX2_worth 6 (some .int)) ∈ TB := TB_mk (tm_3 _ (List.mem_of_getElem? (i := 194) (by decide +kernel))) rfl
theorem tb_759 : (Cond.methodLink RX2 46 yX2_reckon) ∈ TB := TB_mk (tm_3 _ (List.mem_of_getElem? (i := 195) (by decide +kernel))) rfl
theorem tb_761 : (Cond.instanceMethod yX2_reckon) ∈ TB := TB_mk (tm_3 _ (List.mem_of_getElem? (i := 197) (by decide +kernel))) rfl
theorem tb_762 : (Cond.code yX2_reckon cX2_reckon 9 (some .int)) ∈ TB := TB_mk (tm_3 _ (List.mem_of_getElem? (i := 198) (by decide +kernel))) rfl
theorem nb_763 : (Cond.methodLinkNest RX2 59 yX11_isWithin "WeddingPews") ∈ lw_tbl := tm_3 _ (List.mem_of_getElem? (i := 199) (by decide +kernel))
theorem tb_764 : (Cond.methodLink RX2 63 yX2_ofTwo) ∈ TB := TB_mk (tm_3 _ (List.mem_of_getElem? (i := 200) (by decide +kernel))) rfl
theorem tb_765 : (Cond.static yX2_ofTwo) ∈ TB := TB_mk (tm_3 _ (List.mem_of_getElem? (i := 201) (by decide +kernel))) rfl
theorem tb_766 : (Cond.code yX2_ofTwo cX2_ofTwo 3 (some .int)) ∈ TB := TB_mk (tm_3 _ (List.mem_of_getElem? (i := 202) (by decide +kernel))) rfl
theorem tb_767 : (Cond.methodLink RX2 50 Lib.Math.min.name) ∈ TB := TB_mk (tm_3 _ (List.mem_of_getElem? (i := 203) (by decide +kernel))) rfl
theorem tb_768 : (Cond.methodLink RX2 56 Lib.Math.max.name) ∈ TB := TB_mk (tm_3 _ (List.mem_of_getElem? (i := 204) (by decide +kernel))) rfl
theorem tb_769 : (Cond.methodLink RX10 64 yX10_emptiestPew) ∈ TB := TB_mk (tm_3 _ (List.mem_of_getElem? (i := 205) (by decide +kernel))) rfl
theorem tb_771 : (Cond.instanceMethod yX10_emptiestPew) ∈ TB := TB_mk (tm_3 _ (List.mem_of_getElem? (i := 207) (by decide +kernel))) rfl
theorem tb_772 : (Cond.code yX10_emptiestPew cX10_emptiestPew 7 (some .int)) ∈ TB := TB_mk (tm_3 _ (List.mem_of_getElem? (i := 208) (by decide +kernel))) rfl
theorem tb_773 : (Cond.methodLink RX10 85 yX0_sittingIn) ∈ TB := TB_mk (tm_3 _ (List.mem_of_getElem? (i := 209) (by decide +kernel))) rfl
theorem tb_774 : (Cond.instanceMethod yX0_sittingIn) ∈ TB := TB_mk (tm_3 _ (List.mem_of_getElem? (i := 210) (by decide +kernel))) rfl
theorem tb_775 : (Cond.selects RX0 yX0_sittingIn yX0_sittingIn) ∈ TB := TB_mk (tm_3 _ (List.mem_of_getElem? (i := 211) (by decide +kernel))) rfl
theorem tb_776 : (Cond.code yX0_sittingIn cX0_sittingIn 2 (some .int)) ∈ TB := TB_mk (tm_3 _ (List.mem_of_getElem? (i := 212) (by decide +kernel))) rfl
theorem tb_777 : (Cond.methodLink RX10 88 yX0_nearestToAisle) ∈ TB := TB_mk (tm_3 _ (List.mem_of_getElem? (i := 213) (by decide +kernel))) rfl
theorem tb_778 : (Cond.instanceMethod yX0_nearestToAisle) ∈ TB := TB_mk (tm_3 _ (List.mem_of_getElem? (i := 214) (by decide +kernel))) rfl
theorem tb_779 : (Cond.selects RX0 yX0_nearestToAisle yX0_nearestToAisle) ∈ TB := TB_mk (tm_3 _ (List.mem_of_getElem? (i := 215) (by decide +kernel))) rfl
theorem tb_780 : (Cond.code yX0_nearestToAisle cX0_nearestToAisle 4 (some .int)) ∈ TB := TB_mk (tm_3 _ (List.mem_of_getElem? (i := 216) (by decide +kernel))) rfl
theorem tb_781 : (Cond.methodLink RX0 65 yX0_isFreeFor) ∈ TB := TB_mk (tm_3 _ (List.mem_of_getElem? (i := 217) (by decide +kernel))) rfl
theorem tb_782 : (Cond.instanceMethod yX0_isFreeFor) ∈ TB := TB_mk (tm_3 _ (List.mem_of_getElem? (i := 218) (by decide +kernel))) rfl
theorem tb_783 : (Cond.selects RX0 yX0_isFreeFor yX0_isFreeFor) ∈ TB := TB_mk (tm_3 _ (List.mem_of_getElem? (i := 219) (by decide +kernel))) rfl
theorem tb_784 : (Cond.code yX0_isFreeFor cX0_isFreeFor 4 (some .boolean)) ∈ TB := TB_mk (tm_3 _ (List.mem_of_getElem? (i := 220) (by decide +kernel))) rfl
theorem tb_785 : (Cond.methodLink RX0 62 yX0_coatOn) ∈ TB := TB_mk (tm_3 _ (List.mem_of_getElem? (i := 221) (by decide +kernel))) rfl
theorem tb_786 : (Cond.instanceMethod yX0_coatOn) ∈ TB := TB_mk (tm_3 _ (List.mem_of_getElem? (i := 222) (by decide +kernel))) rfl
theorem tb_787 : (Cond.selects RX0 yX0_coatOn yX0_coatOn) ∈ TB := TB_mk (tm_3 _ (List.mem_of_getElem? (i := 223) (by decide +kernel))) rfl
theorem tb_788 : (Cond.code yX0_coatOn cX0_coatOn 2 (some .int)) ∈ TB := TB_mk (tm_3 _ (List.mem_of_getElem? (i := 224) (by decide +kernel))) rfl
theorem tb_789 : (Cond.methodLink RX10 68 yX10_fittestPew) ∈ TB := TB_mk (tm_3 _ (List.mem_of_getElem? (i := 225) (by decide +kernel))) rfl
theorem tb_791 : (Cond.instanceMethod yX10_fittestPew) ∈ TB := TB_mk (tm_3 _ (List.mem_of_getElem? (i := 227) (by decide +kernel))) rfl
theorem tb_792 : (Cond.code yX10_fittestPew cX10_fittestPew 8 (some .int)) ∈ TB := TB_mk (tm_3 _ (List.mem_of_getElem? (i := 228) (by decide +kernel))) rfl
theorem tb_793 : (Cond.methodLink RX10 91 yX10_tellPew) ∈ TB := TB_mk (tm_3 _ (List.mem_of_getElem? (i := 229) (by decide +kernel))) rfl
theorem tb_795 : (Cond.instanceMethod yX10_tellPew) ∈ TB := TB_mk (tm_3 _ (List.mem_of_getElem? (i := 231) (by decide +kernel))) rfl
theorem tb_796 : (Cond.code yX10_tellPew cX10_tellPew 4 none) ∈ TB := TB_mk (tm_3 _ (List.mem_of_getElem? (i := 232) (by decide +kernel))) rfl
theorem tb_797 : (Cond.methodLink RX10 117 yX0_sittingOfIn) ∈ TB := TB_mk (tm_3 _ (List.mem_of_getElem? (i := 233) (by decide +kernel))) rfl
theorem tb_798 : (Cond.instanceMethod yX0_sittingOfIn) ∈ TB := TB_mk (tm_3 _ (List.mem_of_getElem? (i := 234) (by decide +kernel))) rfl
theorem tb_799 : (Cond.selects RX0 yX0_sittingOfIn yX0_sittingOfIn) ∈ TB := TB_mk (tm_3 _ (List.mem_of_getElem? (i := 235) (by decide +kernel))) rfl
theorem tb_800 : (Cond.code yX0_sittingOfIn cX0_sittingOfIn 5 (some .int)) ∈ TB := TB_mk (tm_3 _ (List.mem_of_getElem? (i := 236) (by decide +kernel))) rfl
theorem tb_801 : (Cond.methodLink RX0 81 yX0_isTakenBy) ∈ TB := TB_mk (tm_3 _ (List.mem_of_getElem? (i := 237) (by decide +kernel))) rfl
theorem tb_802 : (Cond.instanceMethod yX0_isTakenBy) ∈ TB := TB_mk (tm_3 _ (List.mem_of_getElem? (i := 238) (by decide +kernel))) rfl
theorem tb_803 : (Cond.selects RX0 yX0_isTakenBy yX0_isTakenBy) ∈ TB := TB_mk (tm_3 _ (List.mem_of_getElem? (i := 239) (by decide +kernel))) rfl
theorem tb_804 : (Cond.code yX0_isTakenBy cX0_isTakenBy 4 (some .boolean)) ∈ TB := TB_mk (tm_4 _ (List.mem_of_getElem? (i := 0) (by decide +kernel))) rfl
theorem tb_805 : (Cond.methodLink RX0 59 yX1_familyOf) ∈ TB := TB_mk (tm_4 _ (List.mem_of_getElem? (i := 1) (by decide +kernel))) rfl
theorem tb_806 : (Cond.methodLink RX10 120 yX0_keptFor) ∈ TB := TB_mk (tm_4 _ (List.mem_of_getElem? (i := 2) (by decide +kernel))) rfl
theorem tb_807 : (Cond.instanceMethod yX0_keptFor) ∈ TB := TB_mk (tm_4 _ (List.mem_of_getElem? (i := 3) (by decide +kernel))) rfl
theorem tb_808 : (Cond.selects RX0 yX0_keptFor yX0_keptFor) ∈ TB := TB_mk (tm_4 _ (List.mem_of_getElem? (i := 4) (by decide +kernel))) rfl
theorem tb_809 : (Cond.code yX0_keptFor cX0_keptFor 6 (some .int)) ∈ TB := TB_mk (tm_4 _ (List.mem_of_getElem? (i := 5) (by decide +kernel))) rfl
theorem tb_810 : (Cond.methodLink RX10 71 yX10_seatIn) ∈ TB := TB_mk (tm_4 _ (List.mem_of_getElem? (i := 6) (by decide +kernel))) rfl
theorem tb_812 : (Cond.instanceMethod yX10_seatIn) ∈ TB := TB_mk (tm_4 _ (List.mem_of_getElem? (i := 8) (by decide +kernel))) rfl
theorem tb_813 : (Cond.code yX10_seatIn cX10_seatIn 6 (some .int)) ∈ TB := TB_mk (tm_4 _ (List.mem_of_getElem? (i := 9) (by decide +kernel))) rfl
theorem tb_814 : (Cond.methodLink RX10 95 yX2_anyHolds) ∈ TB := TB_mk (tm_4 _ (List.mem_of_getElem? (i := 10) (by decide +kernel))) rfl
theorem tb_815 : (Cond.instanceMethod yX2_anyHolds) ∈ TB := TB_mk (tm_4 _ (List.mem_of_getElem? (i := 11) (by decide +kernel))) rfl
theorem tb_816 : (Cond.selects RX2 yX2_anyHolds yX2_anyHolds) ∈ TB := TB_mk (tm_4 _ (List.mem_of_getElem? (i := 12) (by decide +kernel))) rfl
theorem tb_817 : (Cond.code yX2_anyHolds cX2_anyHolds 4 (some .boolean)) ∈ TB := TB_mk (tm_4 _ (List.mem_of_getElem? (i := 13) (by decide +kernel))) rfl
theorem tb_818 : (Cond.methodLink RX10 99 yX0_nearestToWall) ∈ TB := TB_mk (tm_4 _ (List.mem_of_getElem? (i := 14) (by decide +kernel))) rfl
theorem tb_819 : (Cond.instanceMethod yX0_nearestToWall) ∈ TB := TB_mk (tm_4 _ (List.mem_of_getElem? (i := 15) (by decide +kernel))) rfl
theorem tb_820 : (Cond.selects RX0 yX0_nearestToWall yX0_nearestToWall) ∈ TB := TB_mk (tm_4 _ (List.mem_of_getElem? (i := 16) (by decide +kernel))) rfl
theorem tb_821 : (Cond.code yX0_nearestToWall cX0_nearestToWall 4 (some .int)) ∈ TB := TB_mk (tm_4 _ (List.mem_of_getElem? (i := 17) (by decide +kernel))) rfl
theorem tb_822 : (Cond.methodLink RX10 78 yX0_sitDown) ∈ TB := TB_mk (tm_4 _ (List.mem_of_getElem? (i := 18) (by decide +kernel))) rfl
theorem tb_823 : (Cond.instanceMethod yX0_sitDown) ∈ TB := TB_mk (tm_4 _ (List.mem_of_getElem? (i := 19) (by decide +kernel))) rfl
theorem tb_824 : (Cond.selects RX0 yX0_sitDown yX0_sitDown) ∈ TB := TB_mk (tm_4 _ (List.mem_of_getElem? (i := 20) (by decide +kernel))) rfl
theorem tb_825 : (Cond.code yX0_sitDown cX0_sitDown 3 none) ∈ TB := TB_mk (tm_4 _ (List.mem_of_getElem? (i := 21) (by decide +kernel))) rfl
theorem tb_826 : (Cond.methodLink RX0 91 yX0_sittingAisleward) ∈ TB := TB_mk (tm_4 _ (List.mem_of_getElem? (i := 22) (by decide +kernel))) rfl
theorem tb_827 : (Cond.instanceMethod yX0_sittingAisleward) ∈ TB := TB_mk (tm_4 _ (List.mem_of_getElem? (i := 23) (by decide +kernel))) rfl
theorem tb_828 : (Cond.selects RX0 yX0_sittingAisleward yX0_sittingAisleward) ∈ TB := TB_mk (tm_4 _ (List.mem_of_getElem? (i := 24) (by decide +kernel))) rfl
theorem tb_829 : (Cond.code yX0_sittingAisleward cX0_sittingAisleward 2 (some .int)) ∈ TB := TB_mk (tm_4 _ (List.mem_of_getElem? (i := 25) (by decide +kernel))) rfl
theorem tb_830 : (Cond.methodLink RX10 40 yX0_leaveLine) ∈ TB := TB_mk (tm_4 _ (List.mem_of_getElem? (i := 26) (by decide +kernel))) rfl
theorem tb_831 : (Cond.instanceMethod yX0_leaveLine) ∈ TB := TB_mk (tm_4 _ (List.mem_of_getElem? (i := 27) (by decide +kernel))) rfl
theorem tb_832 : (Cond.selects RX0 yX0_leaveLine yX0_leaveLine) ∈ TB := TB_mk (tm_4 _ (List.mem_of_getElem? (i := 28) (by decide +kernel))) rfl
theorem tb_833 : (Cond.code yX0_leaveLine cX0_leaveLine 2 none) ∈ TB := TB_mk (tm_4 _ (List.mem_of_getElem? (i := 29) (by decide +kernel))) rfl
theorem tb_834 : (Cond.methodLink RL 40 yX11_tried) ∈ TB := TB_mk (tm_4 _ (List.mem_of_getElem? (i := 30) (by decide +kernel))) rfl
theorem tb_835 : (Cond.instanceMethod yX11_tried) ∈ TB := TB_mk (tm_4 _ (List.mem_of_getElem? (i := 31) (by decide +kernel))) rfl
theorem tb_836 : (Cond.selects RX11 yX11_tried yX11_tried) ∈ TB := TB_mk (tm_4 _ (List.mem_of_getElem? (i := 32) (by decide +kernel))) rfl
theorem tb_837 : (Cond.code yX11_tried cX11_tried 4 (some .int)) ∈ TB := TB_mk (tm_4 _ (List.mem_of_getElem? (i := 33) (by decide +kernel))) rfl
theorem tb_838 : (Cond.methodLink RX11 167 yX0_moreOnHers) ∈ TB := TB_mk (tm_4 _ (List.mem_of_getElem? (i := 34) (by decide +kernel))) rfl
theorem tb_839 : (Cond.methodLink RX11 170 yX5_tornFamilies) ∈ TB := TB_mk (tm_4 _ (List.mem_of_getElem? (i := 35) (by decide +kernel))) rfl
theorem tb_840 : (Cond.instanceMethod yX5_tornFamilies) ∈ TB := TB_mk (tm_4 _ (List.mem_of_getElem? (i := 36) (by decide +kernel))) rfl
theorem tb_841 : (Cond.selects RX5 yX5_tornFamilies yX5_tornFamilies) ∈ TB := TB_mk (tm_4 _ (List.mem_of_getElem? (i := 37) (by decide +kernel))) rfl
theorem tb_842 : (Cond.code yX5_tornFamilies cX5_tornFamilies 6 (some .int)) ∈ TB := TB_mk (tm_4 _ (List.mem_of_getElem? (i := 38) (by decide +kernel))) rfl
theorem tb_843 : (Cond.methodLink RX5 52 yX5_familiesIn) ∈ TB := TB_mk (tm_4 _ (List.mem_of_getElem? (i := 39) (by decide +kernel))) rfl
theorem tb_844 : (Cond.instanceMethod yX5_familiesIn) ∈ TB := TB_mk (tm_4 _ (List.mem_of_getElem? (i := 40) (by decide +kernel))) rfl
theorem tb_845 : (Cond.selects RX5 yX5_familiesIn yX5_familiesIn) ∈ TB := TB_mk (tm_4 _ (List.mem_of_getElem? (i := 41) (by decide +kernel))) rfl
theorem tb_846 : (Cond.code yX5_familiesIn cX5_familiesIn 6 (some .int)) ∈ TB := TB_mk (tm_4 _ (List.mem_of_getElem? (i := 42) (by decide +kernel))) rfl
theorem tb_847 : (Cond.methodLink RX5 21 yX0_guestOn) ∈ TB := TB_mk (tm_4 _ (List.mem_of_getElem? (i := 43) (by decide +kernel))) rfl
theorem tb_848 : (Cond.methodLink RX5 36 yX1_familyOf) ∈ TB := TB_mk (tm_4 _ (List.mem_of_getElem? (i := 44) (by decide +kernel))) rfl
theorem tb_849 : (Cond.methodLink RL 45 yX11_guestAt) ∈ TB := TB_mk (tm_4 _ (List.mem_of_getElem? (i := 45) (by decide +kernel))) rfl
theorem tb_850 : (Cond.instanceMethod yX11_guestAt) ∈ TB := TB_mk (tm_4 _ (List.mem_of_getElem? (i := 46) (by decide +kernel))) rfl
theorem tb_851 : (Cond.selects RX11 yX11_guestAt yX11_guestAt) ∈ TB := TB_mk (tm_4 _ (List.mem_of_getElem? (i := 47) (by decide +kernel))) rfl
theorem tb_852 : (Cond.code yX11_guestAt cX11_guestAt 4 (some .int)) ∈ TB := TB_mk (tm_4 _ (List.mem_of_getElem? (i := 48) (by decide +kernel))) rfl
theorem tb_853 : (Cond.methodLink RX11 178 yX1_sideOf) ∈ TB := TB_mk (tm_4 _ (List.mem_of_getElem? (i := 49) (by decide +kernel))) rfl
theorem tb_854 : (Cond.methodLink RX11 182 yX1_familyOf) ∈ TB := TB_mk (tm_4 _ (List.mem_of_getElem? (i := 50) (by decide +kernel))) rfl
theorem tb_855 : (Cond.methodLink RX11 185 yX1_heightOf) ∈ TB := TB_mk (tm_4 _ (List.mem_of_getElem? (i := 51) (by decide +kernel))) rfl
theorem tb_856 : (Cond.methodLink RX11 188 yX1_childOf) ∈ TB := TB_mk (tm_4 _ (List.mem_of_getElem? (i := 52) (by decide +kernel))) rfl
theorem tb_857 : (Cond.methodLink RX11 191 yX1_singerOf) ∈ TB := TB_mk (tm_4 _ (List.mem_of_getElem? (i := 53) (by decide +kernel))) rfl
theorem tb_858 : (Cond.methodLink RX11 197 yX5_view) ∈ TB := TB_mk (tm_4 _ (List.mem_of_getElem? (i := 54) (by decide +kernel))) rfl
theorem tb_859 : (Cond.instanceMethod yX5_view) ∈ TB := TB_mk (tm_4 _ (List.mem_of_getElem? (i := 55) (by decide +kernel))) rfl
theorem tb_860 : (Cond.selects RX5 yX5_view yX5_view) ∈ TB := TB_mk (tm_4 _ (List.mem_of_getElem? (i := 56) (by decide +kernel))) rfl
theorem tb_861 : (Cond.code yX5_view cX5_view 7 (some .int)) ∈ TB := TB_mk (tm_4 _ (List.mem_of_getElem? (i := 57) (by decide +kernel))) rfl
theorem tb_862 : (Cond.methodLink RX5 27 yX1_heightOf) ∈ TB := TB_mk (tm_4 _ (List.mem_of_getElem? (i := 58) (by decide +kernel))) rfl
theorem tb_863 : (Cond.methodLink RX5 32 yX0_isTaken) ∈ TB := TB_mk (tm_4 _ (List.mem_of_getElem? (i := 59) (by decide +kernel))) rfl
theorem tb_864 : (Cond.methodLink RL 49 yX11_coatAt) ∈ TB := TB_mk (tm_4 _ (List.mem_of_getElem? (i := 60) (by decide +kernel))) rfl
theorem tb_865 : (Cond.instanceMethod yX11_coatAt) ∈ TB := TB_mk (tm_4 _ (List.mem_of_getElem? (i := 61) (by decide +kernel))) rfl
theorem tb_866 : (Cond.selects RX11 yX11_coatAt yX11_coatAt) ∈ TB := TB_mk (tm_4 _ (List.mem_of_getElem? (i := 62) (by decide +kernel))) rfl
theorem tb_867 : (Cond.code yX11_coatAt cX11_coatAt 2 (some .int)) ∈ TB := TB_mk (tm_4 _ (List.mem_of_getElem? (i := 63) (by decide +kernel))) rfl
theorem tb_868 : (Cond.methodLink RL 53 yX11_pew) ∈ TB := TB_mk (tm_4 _ (List.mem_of_getElem? (i := 64) (by decide +kernel))) rfl
theorem tb_869 : (Cond.instanceMethod yX11_pew) ∈ TB := TB_mk (tm_4 _ (List.mem_of_getElem? (i := 65) (by decide +kernel))) rfl
theorem tb_870 : (Cond.selects RX11 yX11_pew yX11_pew) ∈ TB := TB_mk (tm_4 _ (List.mem_of_getElem? (i := 66) (by decide +kernel))) rfl
theorem tb_871 : (Cond.code yX11_pew cX11_pew 5 (some .int)) ∈ TB := TB_mk (tm_4 _ (List.mem_of_getElem? (i := 67) (by decide +kernel))) rfl
theorem tb_872 : (Cond.methodLink RX11 201 yX11_isPew) ∈ TB := TB_mk (tm_4 _ (List.mem_of_getElem? (i := 68) (by decide +kernel))) rfl
theorem tb_873 : (Cond.static yX11_isPew) ∈ TB := TB_mk (tm_4 _ (List.mem_of_getElem? (i := 69) (by decide +kernel))) rfl
theorem tb_874 : (Cond.code yX11_isPew cX11_isPew 2 (some .boolean)) ∈ TB := TB_mk (tm_4 _ (List.mem_of_getElem? (i := 70) (by decide +kernel))) rfl
theorem tb_875 : (Cond.methodLink RX11 242 yX11_isSide) ∈ TB := TB_mk (tm_4 _ (List.mem_of_getElem? (i := 71) (by decide +kernel))) rfl
theorem tb_876 : (Cond.static yX11_isSide) ∈ TB := TB_mk (tm_4 _ (List.mem_of_getElem? (i := 72) (by decide +kernel))) rfl
theorem tb_877 : (Cond.code yX11_isSide cX11_isSide 1 (some .boolean)) ∈ TB := TB_mk (tm_4 _ (List.mem_of_getElem? (i := 73) (by decide +kernel))) rfl
theorem tb_878 : (Cond.methodLink RX11 205 yX11_pewOf) ∈ TB := TB_mk (tm_4 _ (List.mem_of_getElem? (i := 74) (by decide +kernel))) rfl
theorem tb_879 : (Cond.static yX11_pewOf) ∈ TB := TB_mk (tm_4 _ (List.mem_of_getElem? (i := 75) (by decide +kernel))) rfl
theorem tb_880 : (Cond.code yX11_pewOf cX11_pewOf 2 (some .int)) ∈ TB := TB_mk (tm_4 _ (List.mem_of_getElem? (i := 76) (by decide +kernel))) rfl
theorem tb_881 : (Cond.methodLink RX11 209 yX0_sittingIn) ∈ TB := TB_mk (tm_4 _ (List.mem_of_getElem? (i := 77) (by decide +kernel))) rfl
theorem tb_882 : (Cond.methodLink RX11 212 yX5_familiesIn) ∈ TB := TB_mk (tm_4 _ (List.mem_of_getElem? (i := 78) (by decide +kernel))) rfl
theorem tb_883 : (Cond.methodLink RX11 215 yX5_longestTaken) ∈ TB := TB_mk (tm_4 _ (List.mem_of_getElem? (i := 79) (by decide +kernel))) rfl
theorem tb_884 : (Cond.instanceMethod yX5_longestTaken) ∈ TB := TB_mk (tm_4 _ (List.mem_of_getElem? (i := 80) (by decide +kernel))) rfl
theorem tb_885 : (Cond.selects RX5 yX5_longestTaken yX5_longestTaken) ∈ TB := TB_mk (tm_4 _ (List.mem_of_getElem? (i := 81) (by decide +kernel))) rfl
theorem tb_886 : (Cond.code yX5_longestTaken cX5_longestTaken 6 (some .int)) ∈ TB := TB_mk (tm_4 _ (List.mem_of_getElem? (i := 82) (by decide +kernel))) rfl
theorem tb_887 : (Cond.methodLink RX5 39 Lib.Math.max.name) ∈ TB := TB_mk (tm_4 _ (List.mem_of_getElem? (i := 83) (by decide +kernel))) rfl
theorem tb_888 : (Cond.methodLink RX11 218 yX5_longestOfOneFamily) ∈ TB := TB_mk (tm_4 _ (List.mem_of_getElem? (i := 84) (by decide +kernel))) rfl
theorem tb_889 : (Cond.instanceMethod yX5_longestOfOneFamily) ∈ TB := TB_mk (tm_4 _ (List.mem_of_getElem? (i := 85) (by decide +kernel))) rfl
theorem tb_890 : (Cond.selects RX5 yX5_longestOfOneFamily yX5_longestOfOneFamily) ∈ TB := TB_mk (tm_4 _ (List.mem_of_getElem? (i := 86) (by decide +kernel))) rfl
theorem tb_891 : (Cond.code yX5_longestOfOneFamily cX5_longestOfOneFamily 7 (some .int)) ∈ TB := TB_mk (tm_4 _ (List.mem_of_getElem? (i := 87) (by decide +kernel))) rfl
theorem tb_892 : (Cond.methodLink RX5 45 yX0_isTakenBy) ∈ TB := TB_mk (tm_4 _ (List.mem_of_getElem? (i := 88) (by decide +kernel))) rfl
theorem tb_893 : (Cond.methodLink RX11 221 yX5_coatsLeftIn) ∈ TB := TB_mk (tm_4 _ (List.mem_of_getElem? (i := 89) (by decide +kernel))) rfl
theorem tb_894 : (Cond.instanceMethod yX5_coatsLeftIn) ∈ TB := TB_mk (tm_4 _ (List.mem_of_getElem? (i := 90) (by decide +kernel))) rfl
theorem tb_895 : (Cond.selects RX5 yX5_coatsLeftIn yX5_coatsLeftIn) ∈ TB := TB_mk (tm_4 _ (List.mem_of_getElem? (i := 91) (by decide +kernel))) rfl
theorem tb_896 : (Cond.code yX5_coatsLeftIn cX5_coatsLeftIn 6 (some .int)) ∈ TB := TB_mk (tm_4 _ (List.mem_of_getElem? (i := 92) (by decide +kernel))) rfl
theorem tb_897 : (Cond.methodLink RX5 49 yX0_coatOn) ∈ TB := TB_mk (tm_4 _ (List.mem_of_getElem? (i := 93) (by decide +kernel))) rfl
theorem tb_898 : (Cond.methodLink RL 58 yX11_torn) ∈ TB := TB_mk (tm_4 _ (List.mem_of_getElem? (i := 94) (by decide +kernel))) rfl
theorem tb_899 : (Cond.instanceMethod yX11_torn) ∈ TB := TB_mk (tm_4 _ (List.mem_of_getElem? (i := 95) (by decide +kernel))) rfl
theorem tb_900 : (Cond.selects RX11 yX11_torn yX11_torn) ∈ TB := TB_mk (tm_4 _ (List.mem_of_getElem? (i := 96) (by decide +kernel))) rfl
theorem tb_901 : (Cond.code yX11_torn cX11_torn 1 (some .int)) ∈ TB := TB_mk (tm_4 _ (List.mem_of_getElem? (i := 97) (by decide +kernel))) rfl
theorem tb_902 : (Cond.methodLink RL 63 yX11_together) ∈ TB := TB_mk (tm_4 _ (List.mem_of_getElem? (i := 98) (by decide +kernel))) rfl
theorem tb_903 : (Cond.instanceMethod yX11_together) ∈ TB := TB_mk (tm_4 _ (List.mem_of_getElem? (i := 99) (by decide +kernel))) rfl
theorem tb_904 : (Cond.selects RX11 yX11_together yX11_together) ∈ TB := TB_mk (tm_4 _ (List.mem_of_getElem? (i := 100) (by decide +kernel))) rfl
theorem tb_905 : (Cond.code yX11_together cX11_together 3 (some .int)) ∈ TB := TB_mk (tm_4 _ (List.mem_of_getElem? (i := 101) (by decide +kernel))) rfl
theorem tb_906 : (Cond.methodLink RX11 224 yX5_gather) ∈ TB := TB_mk (tm_4 _ (List.mem_of_getElem? (i := 102) (by decide +kernel))) rfl
theorem tb_907 : (Cond.instanceMethod yX5_gather) ∈ TB := TB_mk (tm_4 _ (List.mem_of_getElem? (i := 103) (by decide +kernel))) rfl
theorem tb_908 : (Cond.selects RX5 yX5_gather yX5_gather) ∈ TB := TB_mk (tm_4 _ (List.mem_of_getElem? (i := 104) (by decide +kernel))) rfl
theorem tb_909 : (Cond.code yX5_gather cX5_gather 9 (some .int)) ∈ TB := TB_mk (tm_4 _ (List.mem_of_getElem? (i := 105) (by decide +kernel))) rfl
theorem tb_910 : (Cond.methodLink RX5 56 yX0_sittingOf) ∈ TB := TB_mk (tm_4 _ (List.mem_of_getElem? (i := 106) (by decide +kernel))) rfl
theorem tb_911 : (Cond.instanceMethod yX0_sittingOf) ∈ TB := TB_mk (tm_4 _ (List.mem_of_getElem? (i := 107) (by decide +kernel))) rfl
theorem tb_912 : (Cond.selects RX0 yX0_sittingOf yX0_sittingOf) ∈ TB := TB_mk (tm_4 _ (List.mem_of_getElem? (i := 108) (by decide +kernel))) rfl
theorem tb_913 : (Cond.code yX0_sittingOf cX0_sittingOf 4 (some .int)) ∈ TB := TB_mk (tm_4 _ (List.mem_of_getElem? (i := 109) (by decide +kernel))) rfl
theorem tb_914 : (Cond.methodLink RX0 84 yX0_sittingOfIn) ∈ TB := TB_mk (tm_4 _ (List.mem_of_getElem? (i := 110) (by decide +kernel))) rfl
theorem tb_915 : (Cond.methodLink RX5 59 yX0_sittingOfIn) ∈ TB := TB_mk (tm_4 _ (List.mem_of_getElem? (i := 111) (by decide +kernel))) rfl
theorem tb_916 : (Cond.methodLink RX5 62 yX0_sittingIn) ∈ TB := TB_mk (tm_4 _ (List.mem_of_getElem? (i := 112) (by decide +kernel))) rfl
theorem tb_917 : (Cond.methodLink RL 67 yX11_seesNothing) ∈ TB := TB_mk (tm_4 _ (List.mem_of_getElem? (i := 113) (by decide +kernel))) rfl
theorem tb_918 : (Cond.instanceMethod yX11_seesNothing) ∈ TB := TB_mk (tm_4 _ (List.mem_of_getElem? (i := 114) (by decide +kernel))) rfl
theorem tb_919 : (Cond.selects RX11 yX11_seesNothing yX11_seesNothing) ∈ TB := TB_mk (tm_4 _ (List.mem_of_getElem? (i := 115) (by decide +kernel))) rfl
theorem tb_920 : (Cond.code yX11_seesNothing cX11_seesNothing 2 (some .int)) ∈ TB := TB_mk (tm_4 _ (List.mem_of_getElem? (i := 116) (by decide +kernel))) rfl
theorem tb_921 : (Cond.methodLink RX11 228 yX5_blind) ∈ TB := TB_mk (tm_4 _ (List.mem_of_getElem? (i := 117) (by decide +kernel))) rfl
theorem tb_922 : (Cond.instanceMethod yX5_blind) ∈ TB := TB_mk (tm_4 _ (List.mem_of_getElem? (i := 118) (by decide +kernel))) rfl
theorem tb_923 : (Cond.selects RX5 yX5_blind yX5_blind) ∈ TB := TB_mk (tm_4 _ (List.mem_of_getElem? (i := 119) (by decide +kernel))) rfl
theorem tb_924 : (Cond.code yX5_blind cX5_blind 6 (some .int)) ∈ TB := TB_mk (tm_4 _ (List.mem_of_getElem? (i := 120) (by decide +kernel))) rfl
theorem tb_925 : (Cond.methodLink RX5 65 yX5_isBlind) ∈ TB := TB_mk (tm_4 _ (List.mem_of_getElem? (i := 121) (by decide +kernel))) rfl
theorem tb_927 : (Cond.instanceMethod yX5_isBlind) ∈ TB := TB_mk (tm_4 _ (List.mem_of_getElem? (i := 123) (by decide +kernel))) rfl
theorem tb_928 : (Cond.code yX5_isBlind cX5_isBlind 4 (some .boolean)) ∈ TB := TB_mk (tm_4 _ (List.mem_of_getElem? (i := 124) (by decide +kernel))) rfl
theorem tb_929 : (Cond.methodLink RL 71 yX11_even) ∈ TB := TB_mk (tm_4 _ (List.mem_of_getElem? (i := 125) (by decide +kernel))) rfl
theorem tb_930 : (Cond.instanceMethod yX11_even) ∈ TB := TB_mk (tm_4 _ (List.mem_of_getElem? (i := 126) (by decide +kernel))) rfl
theorem tb_931 : (Cond.selects RX11 yX11_even yX11_even) ∈ TB := TB_mk (tm_4 _ (List.mem_of_getElem? (i := 127) (by decide +kernel))) rfl
theorem tb_932 : (Cond.code yX11_even cX11_even 6 (some .int)) ∈ TB := TB_mk (tm_4 _ (List.mem_of_getElem? (i := 128) (by decide +kernel))) rfl
theorem tb_933 : (Cond.methodLink RX11 231 yX7_balance) ∈ TB := TB_mk (tm_4 _ (List.mem_of_getElem? (i := 129) (by decide +kernel))) rfl
theorem tb_934 : (Cond.instanceMethod yX7_balance) ∈ TB := TB_mk (tm_4 _ (List.mem_of_getElem? (i := 130) (by decide +kernel))) rfl
theorem tb_935 : (Cond.selects RX7 yX7_balance yX7_balance) ∈ TB := TB_mk (tm_4 _ (List.mem_of_getElem? (i := 131) (by decide +kernel))) rfl
theorem tb_936 : (Cond.code yX7_balance cX7_balance 13 (some .int)) ∈ TB := TB_mk (tm_4 _ (List.mem_of_getElem? (i := 132) (by decide +kernel))) rfl
theorem tb_937 : (Cond.methodLink RX7 37 Lib.Math.min.name) ∈ TB := TB_mk (tm_4 _ (List.mem_of_getElem? (i := 133) (by decide +kernel))) rfl
theorem tb_938 : (Cond.methodLink RX7 43 yX7_fillSums) ∈ TB := TB_mk (tm_4 _ (List.mem_of_getElem? (i := 134) (by decide +kernel))) rfl
theorem tb_940 : (Cond.instanceMethod yX7_fillSums) ∈ TB := TB_mk (tm_4 _ (List.mem_of_getElem? (i := 136) (by decide +kernel))) rfl
theorem tb_941 : (Cond.code yX7_fillSums cX7_fillSums 7 none) ∈ TB := TB_mk (tm_4 _ (List.mem_of_getElem? (i := 137) (by decide +kernel))) rfl
theorem tb_942 : (Cond.methodLink RX7 31 yX8_byteAt) ∈ TB := TB_mk (tm_4 _ (List.mem_of_getElem? (i := 138) (by decide +kernel))) rfl
theorem tb_943 : (Cond.instanceMethod yX8_byteAt) ∈ TB := TB_mk (tm_4 _ (List.mem_of_getElem? (i := 139) (by decide +kernel))) rfl
theorem tb_944 : (Cond.selects RX8 yX8_byteAt yX8_byteAt) ∈ TB := TB_mk (tm_4 _ (List.mem_of_getElem? (i := 140) (by decide +kernel))) rfl
theorem tb_945 : (Cond.code yX8_byteAt cX8_byteAt 2 (some .int)) ∈ TB := TB_mk (tm_4 _ (List.mem_of_getElem? (i := 141) (by decide +kernel))) rfl
theorem tb_946 : (Cond.methodLink RX7 47 yX7_sumOfFirst) ∈ TB := TB_mk (tm_4 _ (List.mem_of_getElem? (i := 142) (by decide +kernel))) rfl
theorem tb_948 : (Cond.instanceMethod yX7_sumOfFirst) ∈ TB := TB_mk (tm_4 _ (List.mem_of_getElem? (i := 144) (by decide +kernel))) rfl
theorem tb_949 : (Cond.code yX7_sumOfFirst cX7_sumOfFirst 4 (some .int)) ∈ TB := TB_mk (tm_4 _ (List.mem_of_getElem? (i := 145) (by decide +kernel))) rfl
theorem tb_950 : (Cond.constant RX7 50 (1073741824)) ∈ TB := TB_mk (tm_4 _ (List.mem_of_getElem? (i := 146) (by decide +kernel))) rfl
theorem tb_951 : (Cond.methodLink RX7 51 Lib.Math.abs.name) ∈ TB := TB_mk (tm_4 _ (List.mem_of_getElem? (i := 147) (by decide +kernel))) rfl
theorem tb_952 : (Cond.static Lib.Math.abs.name) ∈ TB := TB_mk (tm_4 _ (List.mem_of_getElem? (i := 148) (by decide +kernel))) rfl
