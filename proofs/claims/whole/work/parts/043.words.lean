theorem tb_1502 : (Cond.code yX12_tried cX12_tried 5 (some .int)) ∈ TB := TB_mk (tm_6 _ (List.mem_of_getElem? (i := 218) (by decide +kernel))) rfl
theorem tb_1503 : (Cond.methodLink RX12 307 yX12_torn) ∈ TB := TB_mk (tm_6 _ (List.mem_of_getElem? (i := 219) (by decide +kernel))) rfl
theorem tb_1504 : (Cond.instanceMethod yX12_torn) ∈ TB := TB_mk (tm_6 _ (List.mem_of_getElem? (i := 220) (by decide +kernel))) rfl
theorem tb_1505 : (Cond.selects RX12 yX12_torn yX12_torn) ∈ TB := TB_mk (tm_6 _ (List.mem_of_getElem? (i := 221) (by decide +kernel))) rfl
theorem tb_1506 : (Cond.code yX12_torn cX12_torn 4 (some .int)) ∈ TB := TB_mk (tm_6 _ (List.mem_of_getElem? (i := 222) (by decide +kernel))) rfl
theorem tb_1507 : (Cond.methodLink RX12 319 yX12_familiesIn) ∈ TB := TB_mk (tm_6 _ (List.mem_of_getElem? (i := 223) (by decide +kernel))) rfl
theorem tb_1509 : (Cond.instanceMethod yX12_familiesIn) ∈ TB := TB_mk (tm_6 _ (List.mem_of_getElem? (i := 225) (by decide +kernel))) rfl
theorem tb_1510 : (Cond.code yX12_familiesIn cX12_familiesIn 4 (some .int)) ∈ TB := TB_mk (tm_6 _ (List.mem_of_getElem? (i := 226) (by decide +kernel))) rfl
theorem tb_1511 : (Cond.methodLink RL 48 yX12_guestAt) ∈ TB := TB_mk (tm_6 _ (List.mem_of_getElem? (i := 227) (by decide +kernel))) rfl
theorem tb_1512 : (Cond.instanceMethod yX12_guestAt) ∈ TB := TB_mk (tm_6 _ (List.mem_of_getElem? (i := 228) (by decide +kernel))) rfl
theorem tb_1513 : (Cond.selects RX12 yX12_guestAt yX12_guestAt) ∈ TB := TB_mk (tm_6 _ (List.mem_of_getElem? (i := 229) (by decide +kernel))) rfl
theorem tb_1514 : (Cond.code yX12_guestAt cX12_guestAt 4 (some .int)) ∈ TB := TB_mk (tm_6 _ (List.mem_of_getElem? (i := 230) (by decide +kernel))) rfl
theorem tb_1515 : (Cond.methodLink RX12 310 yX12_viewOf) ∈ TB := TB_mk (tm_6 _ (List.mem_of_getElem? (i := 231) (by decide +kernel))) rfl
theorem tb_1517 : (Cond.instanceMethod yX12_viewOf) ∈ TB := TB_mk (tm_6 _ (List.mem_of_getElem? (i := 233) (by decide +kernel))) rfl
theorem tb_1518 : (Cond.code yX12_viewOf cX12_viewOf 5 (some .int)) ∈ TB := TB_mk (tm_6 _ (List.mem_of_getElem? (i := 234) (by decide +kernel))) rfl
theorem tb_1519 : (Cond.methodLink RL 52 yX12_coatAt) ∈ TB := TB_mk (tm_6 _ (List.mem_of_getElem? (i := 235) (by decide +kernel))) rfl
theorem tb_1520 : (Cond.instanceMethod yX12_coatAt) ∈ TB := TB_mk (tm_6 _ (List.mem_of_getElem? (i := 236) (by decide +kernel))) rfl
theorem tb_1521 : (Cond.selects RX12 yX12_coatAt yX12_coatAt) ∈ TB := TB_mk (tm_6 _ (List.mem_of_getElem? (i := 237) (by decide +kernel))) rfl
theorem tb_1522 : (Cond.code yX12_coatAt cX12_coatAt 2 (some .int)) ∈ TB := TB_mk (tm_6 _ (List.mem_of_getElem? (i := 238) (by decide +kernel))) rfl
theorem tb_1523 : (Cond.methodLink RL 57 yX12_pew) ∈ TB := TB_mk (tm_6 _ (List.mem_of_getElem? (i := 239) (by decide +kernel))) rfl
theorem tb_1524 : (Cond.instanceMethod yX12_pew) ∈ TB := TB_mk (tm_7 _ (List.mem_of_getElem? (i := 0) (by decide +kernel))) rfl
theorem tb_1525 : (Cond.selects RX12 yX12_pew yX12_pew) ∈ TB := TB_mk (tm_7 _ (List.mem_of_getElem? (i := 1) (by decide +kernel))) rfl
theorem tb_1526 : (Cond.code yX12_pew cX12_pew 5 (some .int)) ∈ TB := TB_mk (tm_7 _ (List.mem_of_getElem? (i := 2) (by decide +kernel))) rfl
theorem tb_1527 : (Cond.methodLink RX12 316 yX12_isPew) ∈ TB := TB_mk (tm_7 _ (List.mem_of_getElem? (i := 3) (by decide +kernel))) rfl
theorem tb_1528 : (Cond.static yX12_isPew) ∈ TB := TB_mk (tm_7 _ (List.mem_of_getElem? (i := 4) (by decide +kernel))) rfl
theorem tb_1529 : (Cond.code yX12_isPew cX12_isPew 2 (some .boolean)) ∈ TB := TB_mk (tm_7 _ (List.mem_of_getElem? (i := 5) (by decide +kernel))) rfl
theorem tb_1530 : (Cond.methodLink RX12 322 yX12_ringOf) ∈ TB := TB_mk (tm_7 _ (List.mem_of_getElem? (i := 6) (by decide +kernel))) rfl
theorem tb_1532 : (Cond.instanceMethod yX12_ringOf) ∈ TB := TB_mk (tm_7 _ (List.mem_of_getElem? (i := 8) (by decide +kernel))) rfl
theorem tb_1533 : (Cond.code yX12_ringOf cX12_ringOf 7 (some .int)) ∈ TB := TB_mk (tm_7 _ (List.mem_of_getElem? (i := 9) (by decide +kernel))) rfl
theorem tb_1534 : (Cond.methodLink RX12 313 yX12_max) ∈ TB := TB_mk (tm_7 _ (List.mem_of_getElem? (i := 10) (by decide +kernel))) rfl
theorem tb_1535 : (Cond.static yX12_max) ∈ TB := TB_mk (tm_7 _ (List.mem_of_getElem? (i := 11) (by decide +kernel))) rfl
theorem tb_1536 : (Cond.code yX12_max cX12_max 2 (some .int)) ∈ TB := TB_mk (tm_7 _ (List.mem_of_getElem? (i := 12) (by decide +kernel))) rfl
theorem tb_1537 : (Cond.methodLink RX12 326 yX12_coatsLeft) ∈ TB := TB_mk (tm_7 _ (List.mem_of_getElem? (i := 13) (by decide +kernel))) rfl
theorem tb_1539 : (Cond.instanceMethod yX12_coatsLeft) ∈ TB := TB_mk (tm_7 _ (List.mem_of_getElem? (i := 15) (by decide +kernel))) rfl
theorem tb_1540 : (Cond.code yX12_coatsLeft cX12_coatsLeft 4 (some .int)) ∈ TB := TB_mk (tm_7 _ (List.mem_of_getElem? (i := 16) (by decide +kernel))) rfl
theorem tb_1541 : (Cond.methodLink RL 62 yX12_torn) ∈ TB := TB_mk (tm_7 _ (List.mem_of_getElem? (i := 17) (by decide +kernel))) rfl
theorem tb_1542 : (Cond.methodLink RL 66 yX12_together) ∈ TB := TB_mk (tm_7 _ (List.mem_of_getElem? (i := 18) (by decide +kernel))) rfl
theorem tb_1543 : (Cond.instanceMethod yX12_together) ∈ TB := TB_mk (tm_7 _ (List.mem_of_getElem? (i := 19) (by decide +kernel))) rfl
theorem tb_1544 : (Cond.selects RX12 yX12_together yX12_together) ∈ TB := TB_mk (tm_7 _ (List.mem_of_getElem? (i := 20) (by decide +kernel))) rfl
theorem tb_1545 : (Cond.code yX12_together cX12_together 8 (some .int)) ∈ TB := TB_mk (tm_7 _ (List.mem_of_getElem? (i := 21) (by decide +kernel))) rfl
theorem tb_1546 : (Cond.methodLink RX12 329 yX12_familyAll) ∈ TB := TB_mk (tm_7 _ (List.mem_of_getElem? (i := 22) (by decide +kernel))) rfl
theorem tb_1548 : (Cond.instanceMethod yX12_familyAll) ∈ TB := TB_mk (tm_7 _ (List.mem_of_getElem? (i := 24) (by decide +kernel))) rfl
theorem tb_1549 : (Cond.code yX12_familyAll cX12_familyAll 4 (some .int)) ∈ TB := TB_mk (tm_7 _ (List.mem_of_getElem? (i := 25) (by decide +kernel))) rfl
theorem tb_1550 : (Cond.constant RX12 332 (1000000)) ∈ TB := TB_mk (tm_7 _ (List.mem_of_getElem? (i := 26) (by decide +kernel))) rfl
theorem tb_1551 : (Cond.methodLink RL 70 yX12_seesNothing) ∈ TB := TB_mk (tm_7 _ (List.mem_of_getElem? (i := 27) (by decide +kernel))) rfl
theorem tb_1552 : (Cond.instanceMethod yX12_seesNothing) ∈ TB := TB_mk (tm_7 _ (List.mem_of_getElem? (i := 28) (by decide +kernel))) rfl
theorem tb_1553 : (Cond.selects RX12 yX12_seesNothing yX12_seesNothing) ∈ TB := TB_mk (tm_7 _ (List.mem_of_getElem? (i := 29) (by decide +kernel))) rfl
theorem tb_1554 : (Cond.code yX12_seesNothing cX12_seesNothing 5 (some .int)) ∈ TB := TB_mk (tm_7 _ (List.mem_of_getElem? (i := 30) (by decide +kernel))) rfl
theorem tb_1555 : (Cond.methodLink RX12 333 yX12_seesNot) ∈ TB := TB_mk (tm_7 _ (List.mem_of_getElem? (i := 31) (by decide +kernel))) rfl
theorem tb_1557 : (Cond.instanceMethod yX12_seesNot) ∈ TB := TB_mk (tm_7 _ (List.mem_of_getElem? (i := 33) (by decide +kernel))) rfl
theorem tb_1558 : (Cond.code yX12_seesNot cX12_seesNot 2 (some .boolean)) ∈ TB := TB_mk (tm_7 _ (List.mem_of_getElem? (i := 34) (by decide +kernel))) rfl
theorem tb_1559 : (Cond.methodLink RL 75 yX12_even) ∈ TB := TB_mk (tm_7 _ (List.mem_of_getElem? (i := 35) (by decide +kernel))) rfl
theorem tb_1560 : (Cond.instanceMethod yX12_even) ∈ TB := TB_mk (tm_7 _ (List.mem_of_getElem? (i := 36) (by decide +kernel))) rfl
theorem tb_1561 : (Cond.selects RX12 yX12_even yX12_even) ∈ TB := TB_mk (tm_7 _ (List.mem_of_getElem? (i := 37) (by decide +kernel))) rfl
theorem tb_1562 : (Cond.code yX12_even cX12_even 10 (some .int)) ∈ TB := TB_mk (tm_7 _ (List.mem_of_getElem? (i := 38) (by decide +kernel))) rfl
theorem tb_1563 : (Cond.methodLink RX12 336 yX12_has) ∈ TB := TB_mk (tm_7 _ (List.mem_of_getElem? (i := 39) (by decide +kernel))) rfl
theorem tb_1564 : (Cond.static yX12_has) ∈ TB := TB_mk (tm_7 _ (List.mem_of_getElem? (i := 40) (by decide +kernel))) rfl
theorem tb_1565 : (Cond.code yX12_has cX12_has 2 (some .boolean)) ∈ TB := TB_mk (tm_7 _ (List.mem_of_getElem? (i := 41) (by decide +kernel))) rfl
theorem tb_1566 : (Cond.methodLink RX12 339 yX12_octet) ∈ TB := TB_mk (tm_7 _ (List.mem_of_getElem? (i := 42) (by decide +kernel))) rfl
theorem tb_1568 : (Cond.instanceMethod yX12_octet) ∈ TB := TB_mk (tm_7 _ (List.mem_of_getElem? (i := 44) (by decide +kernel))) rfl
theorem tb_1569 : (Cond.code yX12_octet cX12_octet 2 (some .int)) ∈ TB := TB_mk (tm_7 _ (List.mem_of_getElem? (i := 45) (by decide +kernel))) rfl
theorem tb_1570 : (Cond.methodLink RX12 342 yX12_size) ∈ TB := TB_mk (tm_7 _ (List.mem_of_getElem? (i := 46) (by decide +kernel))) rfl
theorem tb_1571 : (Cond.static yX12_size) ∈ TB := TB_mk (tm_7 _ (List.mem_of_getElem? (i := 47) (by decide +kernel))) rfl
theorem tb_1572 : (Cond.code yX12_size cX12_size 1 (some .int)) ∈ TB := TB_mk (tm_7 _ (List.mem_of_getElem? (i := 48) (by decide +kernel))) rfl
theorem tb_1573 : (Cond.methodLink RL 79 yX12_order) ∈ TB := TB_mk (tm_7 _ (List.mem_of_getElem? (i := 49) (by decide +kernel))) rfl
theorem tb_1574 : (Cond.instanceMethod yX12_order) ∈ TB := TB_mk (tm_7 _ (List.mem_of_getElem? (i := 50) (by decide +kernel))) rfl
theorem tb_1575 : (Cond.selects RX12 yX12_order yX12_order) ∈ TB := TB_mk (tm_7 _ (List.mem_of_getElem? (i := 51) (by decide +kernel))) rfl
theorem tb_1576 : (Cond.code yX12_order cX12_order 8 (some .int)) ∈ TB := TB_mk (tm_7 _ (List.mem_of_getElem? (i := 52) (by decide +kernel))) rfl
theorem tb_1577 : (Cond.methodLink RL 83 yX12_moreFit) ∈ TB := TB_mk (tm_7 _ (List.mem_of_getElem? (i := 53) (by decide +kernel))) rfl
theorem tb_1578 : (Cond.instanceMethod yX12_moreFit) ∈ TB := TB_mk (tm_7 _ (List.mem_of_getElem? (i := 54) (by decide +kernel))) rfl
theorem tb_1579 : (Cond.selects RX12 yX12_moreFit yX12_moreFit) ∈ TB := TB_mk (tm_7 _ (List.mem_of_getElem? (i := 55) (by decide +kernel))) rfl
theorem tb_1580 : (Cond.code yX12_moreFit cX12_moreFit 7 (some .int)) ∈ TB := TB_mk (tm_7 _ (List.mem_of_getElem? (i := 56) (by decide +kernel))) rfl
theorem tb_1581 : (Cond.methodLink RX12 345 yX12_sumOf) ∈ TB := TB_mk (tm_7 _ (List.mem_of_getElem? (i := 57) (by decide +kernel))) rfl
theorem tb_1583 : (Cond.instanceMethod yX12_sumOf) ∈ TB := TB_mk (tm_7 _ (List.mem_of_getElem? (i := 59) (by decide +kernel))) rfl
theorem tb_1584 : (Cond.code yX12_sumOf cX12_sumOf 5 (some .int)) ∈ TB := TB_mk (tm_7 _ (List.mem_of_getElem? (i := 60) (by decide +kernel))) rfl
theorem tb_1585 : (Cond.methodLink RX12 348 yX12_bits) ∈ TB := TB_mk (tm_7 _ (List.mem_of_getElem? (i := 61) (by decide +kernel))) rfl
theorem tb_1586 : (Cond.static yX12_bits) ∈ TB := TB_mk (tm_7 _ (List.mem_of_getElem? (i := 62) (by decide +kernel))) rfl
theorem tb_1587 : (Cond.code yX12_bits cX12_bits 3 (some .int)) ∈ TB := TB_mk (tm_7 _ (List.mem_of_getElem? (i := 63) (by decide +kernel))) rfl
theorem tb_1588 : (Cond.methodLink RL 87 yX12_fathers) ∈ TB := TB_mk (tm_7 _ (List.mem_of_getElem? (i := 64) (by decide +kernel))) rfl
theorem tb_1589 : (Cond.instanceMethod yX12_fathers) ∈ TB := TB_mk (tm_7 _ (List.mem_of_getElem? (i := 65) (by decide +kernel))) rfl
theorem tb_1590 : (Cond.selects RX12 yX12_fathers yX12_fathers) ∈ TB := TB_mk (tm_7 _ (List.mem_of_getElem? (i := 66) (by decide +kernel))) rfl
theorem tb_1591 : (Cond.code yX12_fathers cX12_fathers 9 (some .int)) ∈ TB := TB_mk (tm_7 _ (List.mem_of_getElem? (i := 67) (by decide +kernel))) rfl
theorem tb_1592 : (Cond.methodLink RL 91 yX12_singers) ∈ TB := TB_mk (tm_7 _ (List.mem_of_getElem? (i := 68) (by decide +kernel))) rfl
theorem tb_1593 : (Cond.instanceMethod yX12_singers) ∈ TB := TB_mk (tm_7 _ (List.mem_of_getElem? (i := 69) (by decide +kernel))) rfl
theorem tb_1594 : (Cond.selects RX12 yX12_singers yX12_singers) ∈ TB := TB_mk (tm_7 _ (List.mem_of_getElem? (i := 70) (by decide +kernel))) rfl
theorem tb_1595 : (Cond.code yX12_singers cX12_singers 7 (some .int)) ∈ TB := TB_mk (tm_7 _ (List.mem_of_getElem? (i := 71) (by decide +kernel))) rfl
theorem tb_1596 : (Cond.methodLink RL 95 yX12_strangers) ∈ TB := TB_mk (tm_7 _ (List.mem_of_getElem? (i := 72) (by decide +kernel))) rfl
theorem tb_1597 : (Cond.instanceMethod yX12_strangers) ∈ TB := TB_mk (tm_7 _ (List.mem_of_getElem? (i := 73) (by decide +kernel))) rfl
theorem tb_1598 : (Cond.selects RX12 yX12_strangers yX12_strangers) ∈ TB := TB_mk (tm_7 _ (List.mem_of_getElem? (i := 74) (by decide +kernel))) rfl
theorem tb_1599 : (Cond.code yX12_strangers cX12_strangers 5 (some .int)) ∈ TB := TB_mk (tm_7 _ (List.mem_of_getElem? (i := 75) (by decide +kernel))) rfl
theorem tb_1600 : (Cond.methodLink RX12 351 yX12_isBeside) ∈ TB := TB_mk (tm_7 _ (List.mem_of_getElem? (i := 76) (by decide +kernel))) rfl
theorem tb_1602 : (Cond.instanceMethod yX12_isBeside) ∈ TB := TB_mk (tm_7 _ (List.mem_of_getElem? (i := 78) (by decide +kernel))) rfl
theorem tb_1603 : (Cond.code yX12_isBeside cX12_isBeside 5 (some .boolean)) ∈ TB := TB_mk (tm_7 _ (List.mem_of_getElem? (i := 79) (by decide +kernel))) rfl
theorem tb_1604 : (Cond.methodLink RL 99 yX12_inLine) ∈ TB := TB_mk (tm_7 _ (List.mem_of_getElem? (i := 80) (by decide +kernel))) rfl
theorem tb_1605 : (Cond.instanceMethod yX12_inLine) ∈ TB := TB_mk (tm_7 _ (List.mem_of_getElem? (i := 81) (by decide +kernel))) rfl
theorem tb_1606 : (Cond.selects RX12 yX12_inLine yX12_inLine) ∈ TB := TB_mk (tm_7 _ (List.mem_of_getElem? (i := 82) (by decide +kernel))) rfl
theorem tb_1607 : (Cond.code yX12_inLine cX12_inLine 7 (some .int)) ∈ TB := TB_mk (tm_7 _ (List.mem_of_getElem? (i := 83) (by decide +kernel))) rfl
theorem tb_1608 : (Cond.methodLink RL 103 yX12_edge) ∈ TB := TB_mk (tm_7 _ (List.mem_of_getElem? (i := 84) (by decide +kernel))) rfl
theorem tb_1609 : (Cond.instanceMethod yX12_edge) ∈ TB := TB_mk (tm_7 _ (List.mem_of_getElem? (i := 85) (by decide +kernel))) rfl
theorem tb_1610 : (Cond.selects RX12 yX12_edge yX12_edge) ∈ TB := TB_mk (tm_7 _ (List.mem_of_getElem? (i := 86) (by decide +kernel))) rfl
theorem tb_1611 : (Cond.code yX12_edge cX12_edge 8 (some .int)) ∈ TB := TB_mk (tm_7 _ (List.mem_of_getElem? (i := 87) (by decide +kernel))) rfl
theorem tb_1612 : (Cond.methodLink RL 107 yX12_ushers) ∈ TB := TB_mk (tm_7 _ (List.mem_of_getElem? (i := 88) (by decide +kernel))) rfl
theorem tb_1613 : (Cond.instanceMethod yX12_ushers) ∈ TB := TB_mk (tm_7 _ (List.mem_of_getElem? (i := 89) (by decide +kernel))) rfl
theorem tb_1614 : (Cond.selects RX12 yX12_ushers yX12_ushers) ∈ TB := TB_mk (tm_7 _ (List.mem_of_getElem? (i := 90) (by decide +kernel))) rfl
theorem tb_1615 : (Cond.code yX12_ushers cX12_ushers 8 (some .int)) ∈ TB := TB_mk (tm_7 _ (List.mem_of_getElem? (i := 91) (by decide +kernel))) rfl
theorem tb_1616 : (Cond.methodLink RL 111 yX12_leastTime) ∈ TB := TB_mk (tm_7 _ (List.mem_of_getElem? (i := 92) (by decide +kernel))) rfl
theorem tb_1617 : (Cond.instanceMethod yX12_leastTime) ∈ TB := TB_mk (tm_7 _ (List.mem_of_getElem? (i := 93) (by decide +kernel))) rfl
theorem tb_1618 : (Cond.selects RX12 yX12_leastTime yX12_leastTime) ∈ TB := TB_mk (tm_7 _ (List.mem_of_getElem? (i := 94) (by decide +kernel))) rfl
theorem tb_1619 : (Cond.code yX12_leastTime cX12_leastTime 7 (some .int)) ∈ TB := TB_mk (tm_7 _ (List.mem_of_getElem? (i := 95) (by decide +kernel))) rfl
theorem tb_1620 : (Cond.methodLink RX12 355 yX12_min) ∈ TB := TB_mk (tm_7 _ (List.mem_of_getElem? (i := 96) (by decide +kernel))) rfl
theorem tb_1621 : (Cond.static yX12_min) ∈ TB := TB_mk (tm_7 _ (List.mem_of_getElem? (i := 97) (by decide +kernel))) rfl
theorem tb_1622 : (Cond.code yX12_min cX12_min 2 (some .int)) ∈ TB := TB_mk (tm_7 _ (List.mem_of_getElem? (i := 98) (by decide +kernel))) rfl
theorem tb_1623 : (Cond.methodLink RL 115 yX12_photo) ∈ TB := TB_mk (tm_7 _ (List.mem_of_getElem? (i := 99) (by decide +kernel))) rfl
theorem tb_1624 : (Cond.instanceMethod yX12_photo) ∈ TB := TB_mk (tm_7 _ (List.mem_of_getElem? (i := 100) (by decide +kernel))) rfl
theorem tb_1625 : (Cond.selects RX12 yX12_photo yX12_photo) ∈ TB := TB_mk (tm_7 _ (List.mem_of_getElem? (i := 101) (by decide +kernel))) rfl
theorem tb_1626 : (Cond.code yX12_photo cX12_photo 7 (some .int)) ∈ TB := TB_mk (tm_7 _ (List.mem_of_getElem? (i := 102) (by decide +kernel))) rfl
theorem tb_1627 : (Cond.methodLink RX12 358 yX12_takenIn) ∈ TB := TB_mk (tm_7 _ (List.mem_of_getElem? (i := 103) (by decide +kernel))) rfl
theorem tb_1629 : (Cond.instanceMethod yX12_takenIn) ∈ TB := TB_mk (tm_7 _ (List.mem_of_getElem? (i := 105) (by decide +kernel))) rfl
theorem tb_1630 : (Cond.code yX12_takenIn cX12_takenIn 4 (some .int)) ∈ TB := TB_mk (tm_7 _ (List.mem_of_getElem? (i := 106) (by decide +kernel))) rfl
theorem tb_1631 : (Cond.methodLink RL 119 yX12_hats) ∈ TB := TB_mk (tm_7 _ (List.mem_of_getElem? (i := 107) (by decide +kernel))) rfl
theorem tb_1632 : (Cond.instanceMethod yX12_hats) ∈ TB := TB_mk (tm_7 _ (List.mem_of_getElem? (i := 108) (by decide +kernel))) rfl
theorem tb_1633 : (Cond.selects RX12 yX12_hats yX12_hats) ∈ TB := TB_mk (tm_7 _ (List.mem_of_getElem? (i := 109) (by decide +kernel))) rfl
theorem tb_1634 : (Cond.code yX12_hats cX12_hats 9 (some .int)) ∈ TB := TB_mk (tm_7 _ (List.mem_of_getElem? (i := 110) (by decide +kernel))) rfl
theorem tb_1635 : (Cond.methodLink RL 124 yX12_seed) ∈ TB := TB_mk (tm_7 _ (List.mem_of_getElem? (i := 111) (by decide +kernel))) rfl
theorem tb_1636 : (Cond.instanceMethod yX12_seed) ∈ TB := TB_mk (tm_7 _ (List.mem_of_getElem? (i := 112) (by decide +kernel))) rfl
theorem tb_1637 : (Cond.selects RX12 yX12_seed yX12_seed) ∈ TB := TB_mk (tm_7 _ (List.mem_of_getElem? (i := 113) (by decide +kernel))) rfl
theorem tb_1638 : (Cond.code yX12_seed cX12_seed 2 (some .boolean)) ∈ TB := TB_mk (tm_7 _ (List.mem_of_getElem? (i := 114) (by decide +kernel))) rfl
theorem tb_1639 : (Cond.constant RX12 361 (65535)) ∈ TB := TB_mk (tm_7 _ (List.mem_of_getElem? (i := 115) (by decide +kernel))) rfl
theorem tb_1640 : (Cond.methodLink RL 128 yX12_keep) ∈ TB := TB_mk (tm_7 _ (List.mem_of_getElem? (i := 116) (by decide +kernel))) rfl
theorem tb_1641 : (Cond.instanceMethod yX12_keep) ∈ TB := TB_mk (tm_7 _ (List.mem_of_getElem? (i := 117) (by decide +kernel))) rfl
theorem tb_1642 : (Cond.selects RX12 yX12_keep yX12_keep) ∈ TB := TB_mk (tm_7 _ (List.mem_of_getElem? (i := 118) (by decide +kernel))) rfl
theorem tb_1643 : (Cond.code yX12_keep cX12_keep 1 (some .int)) ∈ TB := TB_mk (tm_7 _ (List.mem_of_getElem? (i := 119) (by decide +kernel))) rfl
theorem tb_1644 : (Cond.methodLink RL 133 yX12_undo) ∈ TB := TB_mk (tm_7 _ (List.mem_of_getElem? (i := 120) (by decide +kernel))) rfl
theorem tb_1645 : (Cond.instanceMethod yX12_undo) ∈ TB := TB_mk (tm_7 _ (List.mem_of_getElem? (i := 121) (by decide +kernel))) rfl
theorem tb_1646 : (Cond.selects RX12 yX12_undo yX12_undo) ∈ TB := TB_mk (tm_7 _ (List.mem_of_getElem? (i := 122) (by decide +kernel))) rfl
theorem tb_1647 : (Cond.code yX12_undo cX12_undo 1 (some .boolean)) ∈ TB := TB_mk (tm_7 _ (List.mem_of_getElem? (i := 123) (by decide +kernel))) rfl
theorem tb_1648 : (Cond.methodLink RL 137 yX12_check) ∈ TB := TB_mk (tm_7 _ (List.mem_of_getElem? (i := 124) (by decide +kernel))) rfl
theorem tb_1649 : (Cond.instanceMethod yX12_check) ∈ TB := TB_mk (tm_7 _ (List.mem_of_getElem? (i := 125) (by decide +kernel))) rfl
theorem tb_1650 : (Cond.selects RX12 yX12_check yX12_check) ∈ TB := TB_mk (tm_7 _ (List.mem_of_getElem? (i := 126) (by decide +kernel))) rfl
theorem tb_1651 : (Cond.code yX12_check cX12_check 4 (some .int)) ∈ TB := TB_mk (tm_7 _ (List.mem_of_getElem? (i := 127) (by decide +kernel))) rfl
theorem tb_1652 : (Cond.methodLink RL 141 yX12_count) ∈ TB := TB_mk (tm_7 _ (List.mem_of_getElem? (i := 128) (by decide +kernel))) rfl
theorem tb_1653 : (Cond.instanceMethod yX12_count) ∈ TB := TB_mk (tm_7 _ (List.mem_of_getElem? (i := 129) (by decide +kernel))) rfl
theorem tb_1654 : (Cond.selects RX12 yX12_count yX12_count) ∈ TB := TB_mk (tm_7 _ (List.mem_of_getElem? (i := 130) (by decide +kernel))) rfl
theorem tb_1655 : (Cond.code yX12_count cX12_count 2 (some .int)) ∈ TB := TB_mk (tm_7 _ (List.mem_of_getElem? (i := 131) (by decide +kernel))) rfl
theorem tb_1656 : (Cond.fieldLink RJ0 15 "java/lang/String" "coder" "B") ∈ TB := TB_mk (tm_7 _ (List.mem_of_getElem? (i := 132) (by decide +kernel))) rfl
theorem tb_1657 : (Cond.fieldLink RJ0 9 "java/lang/String" "value" "[B") ∈ TB := TB_mk (tm_7 _ (List.mem_of_getElem? (i := 133) (by decide +kernel))) rfl
theorem inX0 : ∀ w ∈ u_ws RX0 TX0 9, w ∈ TB := by decide +kernel
theorem inX2 : ∀ w ∈ u_ws RX2 TX2 9, w ∈ TB := by decide +kernel
theorem inX3 : ∀ w ∈ u_ws RX3 TX3 1, w ∈ TB := by decide +kernel
theorem inX4 : ∀ w ∈ u_ws RX4 TX4 2, w ∈ TB := by decide +kernel
theorem inX5 : ∀ w ∈ u_ws RX5 TX5 3, w ∈ TB := by decide +kernel
theorem inX6 : ∀ w ∈ u_ws RX6 TX6 2, w ∈ TB := by decide +kernel
theorem inX7 : ∀ w ∈ u_ws RX7 TX7 6, w ∈ TB := by decide +kernel
theorem inX8 : ∀ w ∈ u_ws RX8 TX8 2, w ∈ TB := by decide +kernel
theorem inX9 : ∀ w ∈ u_ws RX9 TX9 6, w ∈ TB := by decide +kernel
theorem inX10 : ∀ w ∈ u_ws RX10 TX10 2, w ∈ TB := by decide +kernel
theorem inX11 : ∀ w ∈ u_ws RX11 TX11 14, w ∈ TB := by decide +kernel
theorem inX12 : ∀ w ∈ u_ws RX12 TX12 43, w ∈ TB := by decide +kernel
