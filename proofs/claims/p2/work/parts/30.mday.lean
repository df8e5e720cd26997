theorem dX12_late_0 : decode cX12_late 0 = .ok (.aload_n 0, 1) := by decide +kernel
theorem tw_1511 : (Jvm.Cond.lays "MarshBellsModel" "MarshBellsModel" "thrown" "I") ∈ lw_tbl := tk_7 (List.mem_of_getElem? (i := 71) rfl)
theorem tw_1513 : (Jvm.Cond.lays "MarshBellsModel" "MarshBellsModel" "lessons" "I") ∈ lw_tbl := tk_7 (List.mem_of_getElem? (i := 73) rfl)
theorem tw_1515 : (Jvm.Cond.lays "MarshBellsModel" "MarshBellsModel" "rules" "I") ∈ lw_tbl := tk_7 (List.mem_of_getElem? (i := 75) rfl)
theorem tw_1517 : (Jvm.Cond.lays "MarshBellsModel" "MarshBellsModel" "walk" "I") ∈ lw_tbl := tk_7 (List.mem_of_getElem? (i := 77) rfl)
theorem tw_1519 : (Jvm.Cond.lays "MarshBellsModel" "MarshBellsModel" "stair" "I") ∈ lw_tbl := tk_7 (List.mem_of_getElem? (i := 79) rfl)
theorem tw_1521 : (Jvm.Cond.laysFinal "MarshBellsModel" "MarshBellsModel" "from" "[I") ∈ lw_tbl := tk_7 (List.mem_of_getElem? (i := 81) rfl)
theorem tw_1523 : (Jvm.Cond.laysFinal "MarshBellsModel" "MarshBellsModel" "to" "[I") ∈ lw_tbl := tk_7 (List.mem_of_getElem? (i := 83) rfl)
theorem tw_1525 : (Jvm.Cond.laysFinal "MarshBellsModel" "MarshBellsModel" "least" "[I") ∈ lw_tbl := tk_7 (List.mem_of_getElem? (i := 85) rfl)
theorem tw_1527 : (Jvm.Cond.laysFinal "MarshBellsModel" "MarshBellsModel" "people" "[I") ∈ lw_tbl := tk_7 (List.mem_of_getElem? (i := 87) rfl)
theorem tw_1529 : (Jvm.Cond.laysFinal "MarshBellsModel" "MarshBellsModel" "kind" "[I") ∈ lw_tbl := tk_7 (List.mem_of_getElem? (i := 89) rfl)
theorem tw_1531 : (Jvm.Cond.laysFinal "MarshBellsModel" "MarshBellsModel" "some" "[I") ∈ lw_tbl := tk_7 (List.mem_of_getElem? (i := 91) rfl)
theorem tw_1533 : (Jvm.Cond.laysFinal "MarshBellsModel" "MarshBellsModel" "maybe" "[I") ∈ lw_tbl := tk_7 (List.mem_of_getElem? (i := 93) rfl)
theorem tw_1535 : (Jvm.Cond.laysFinal "MarshBellsModel" "MarshBellsModel" "waitsMany" "[I") ∈ lw_tbl := tk_7 (List.mem_of_getElem? (i := 95) rfl)
theorem tw_1537 : (Jvm.Cond.laysFinal "MarshBellsModel" "MarshBellsModel" "waitsFor0" "[I") ∈ lw_tbl := tk_7 (List.mem_of_getElem? (i := 97) rfl)
theorem tw_1539 : (Jvm.Cond.laysFinal "MarshBellsModel" "MarshBellsModel" "ruleAt" "[I") ∈ lw_tbl := tk_7 (List.mem_of_getElem? (i := 99) rfl)
theorem tw_1541 : (Jvm.Cond.laysFinal "MarshBellsModel" "MarshBellsModel" "code" "[I") ∈ lw_tbl := tk_7 (List.mem_of_getElem? (i := 101) rfl)
theorem tw_1543 : (Jvm.Cond.laysFinal "MarshBellsModel" "MarshBellsModel" "now" "[I") ∈ lw_tbl := tk_7 (List.mem_of_getElem? (i := 103) rfl)
theorem tw_1545 : (Jvm.Cond.laysFinal "MarshBellsModel" "MarshBellsModel" "tape" "[I") ∈ lw_tbl := tk_7 (List.mem_of_getElem? (i := 105) rfl)
theorem tw_1547 : (Jvm.Cond.lays "MarshBellsModel" "MarshBellsModel" "taped" "I") ∈ lw_tbl := tk_7 (List.mem_of_getElem? (i := 107) rfl)
theorem tw_1549 : (Jvm.Cond.lays "MarshBellsModel" "MarshBellsModel" "faultKind" "I") ∈ lw_tbl := tk_7 (List.mem_of_getElem? (i := 109) rfl)
theorem tw_1551 : (Jvm.Cond.lays "MarshBellsModel" "MarshBellsModel" "faultPlace" "I") ∈ lw_tbl := tk_7 (List.mem_of_getElem? (i := 111) rfl)
theorem tw_1553 : (Jvm.Cond.laysFinal "MarshBellsModel" "MarshBellsModel" "refused" "[I") ∈ lw_tbl := tk_7 (List.mem_of_getElem? (i := 113) rfl)
theorem tw_1555 : (Jvm.Cond.lays "MarshBellsModel" "MarshBellsModel" "long1" "I") ∈ lw_tbl := tk_7 (List.mem_of_getElem? (i := 115) rfl)
theorem tw_1557 : (Jvm.Cond.lays "MarshBellsModel" "MarshBellsModel" "next" "I") ∈ lw_tbl := tk_7 (List.mem_of_getElem? (i := 117) rfl)
theorem tw_1559 : (Jvm.Cond.lays "MarshBellsModel" "MarshBellsModel" "sort" "I") ∈ lw_tbl := tk_7 (List.mem_of_getElem? (i := 119) rfl)
theorem tw_1561 : (Jvm.Cond.lays "MarshBellsModel" "MarshBellsModel" "place" "I") ∈ lw_tbl := tk_7 (List.mem_of_getElem? (i := 121) rfl)
theorem tw_1563 : (Jvm.Cond.lays "MarshBellsModel" "MarshBellsModel" "long0" "I") ∈ lw_tbl := tk_7 (List.mem_of_getElem? (i := 123) rfl)
theorem tw_1565 : (Jvm.Cond.lays "MarshBellsModel" "MarshBellsModel" "value" "I") ∈ lw_tbl := tk_7 (List.mem_of_getElem? (i := 125) rfl)
theorem tw_1567 : (Jvm.Cond.lays "MarshBellsModel" "MarshBellsModel" "sign" "I") ∈ lw_tbl := tk_7 (List.mem_of_getElem? (i := 127) rfl)
theorem tw_1569 : (Jvm.Cond.lays "MarshBellsModel" "MarshBellsModel" "word" "J") ∈ lw_tbl := tk_7 (List.mem_of_getElem? (i := 129) rfl)
theorem tw_1571 : (Jvm.Cond.lays "MarshBellsModel" "MarshBellsModel" "newLessons" "I") ∈ lw_tbl := tk_7 (List.mem_of_getElem? (i := 131) rfl)
theorem tw_1573 : (Jvm.Cond.lays "MarshBellsModel" "MarshBellsModel" "newRules" "I") ∈ lw_tbl := tk_7 (List.mem_of_getElem? (i := 133) rfl)
theorem tw_1575 : (Jvm.Cond.lays "MarshBellsModel" "MarshBellsModel" "newWalk" "I") ∈ lw_tbl := tk_7 (List.mem_of_getElem? (i := 135) rfl)
theorem tw_1577 : (Jvm.Cond.lays "MarshBellsModel" "MarshBellsModel" "newStair" "I") ∈ lw_tbl := tk_7 (List.mem_of_getElem? (i := 137) rfl)
theorem tw_1579 : (Jvm.Cond.lays "MarshBellsModel" "MarshBellsModel" "toldOnce" "I") ∈ lw_tbl := tk_7 (List.mem_of_getElem? (i := 139) rfl)
theorem tw_1581 : (Jvm.Cond.lays "MarshBellsModel" "MarshBellsModel" "top" "I") ∈ lw_tbl := tk_7 (List.mem_of_getElem? (i := 141) rfl)
theorem tw_1583 : (Jvm.Cond.lays "MarshBellsModel" "MarshBellsModel" "waiting" "I") ∈ lw_tbl := tk_7 (List.mem_of_getElem? (i := 143) rfl)
theorem tw_1585 : (Jvm.Cond.lays "MarshBellsModel" "MarshBellsModel" "depth" "I") ∈ lw_tbl := tk_7 (List.mem_of_getElem? (i := 145) rfl)
theorem tw_1587 : (Jvm.Cond.laysFinal "MarshBellsModel" "MarshBellsModel" "newFrom" "[I") ∈ lw_tbl := tk_7 (List.mem_of_getElem? (i := 147) rfl)
theorem tw_1589 : (Jvm.Cond.laysFinal "MarshBellsModel" "MarshBellsModel" "newTo" "[I") ∈ lw_tbl := tk_7 (List.mem_of_getElem? (i := 149) rfl)
theorem tw_1591 : (Jvm.Cond.laysFinal "MarshBellsModel" "MarshBellsModel" "newLeast" "[I") ∈ lw_tbl := tk_7 (List.mem_of_getElem? (i := 151) rfl)
theorem tw_1593 : (Jvm.Cond.laysFinal "MarshBellsModel" "MarshBellsModel" "newPeople" "[I") ∈ lw_tbl := tk_7 (List.mem_of_getElem? (i := 153) rfl)
theorem tw_1595 : (Jvm.Cond.laysFinal "MarshBellsModel" "MarshBellsModel" "newKind" "[I") ∈ lw_tbl := tk_7 (List.mem_of_getElem? (i := 155) rfl)
theorem tw_1597 : (Jvm.Cond.laysFinal "MarshBellsModel" "MarshBellsModel" "newSome" "[I") ∈ lw_tbl := tk_7 (List.mem_of_getElem? (i := 157) rfl)
theorem tw_1599 : (Jvm.Cond.laysFinal "MarshBellsModel" "MarshBellsModel" "newMaybe" "[I") ∈ lw_tbl := tk_7 (List.mem_of_getElem? (i := 159) rfl)
theorem tw_1601 : (Jvm.Cond.laysFinal "MarshBellsModel" "MarshBellsModel" "newMany" "[I") ∈ lw_tbl := tk_7 (List.mem_of_getElem? (i := 161) rfl)
theorem tw_1603 : (Jvm.Cond.laysFinal "MarshBellsModel" "MarshBellsModel" "newFor" "[I") ∈ lw_tbl := tk_7 (List.mem_of_getElem? (i := 163) rfl)
theorem tw_1605 : (Jvm.Cond.laysFinal "MarshBellsModel" "MarshBellsModel" "newNow" "[I") ∈ lw_tbl := tk_7 (List.mem_of_getElem? (i := 165) rfl)
theorem tw_1607 : (Jvm.Cond.laysFinal "MarshBellsModel" "MarshBellsModel" "newRuleAt" "[I") ∈ lw_tbl := tk_7 (List.mem_of_getElem? (i := 167) rfl)
theorem tw_1609 : (Jvm.Cond.laysFinal "MarshBellsModel" "MarshBellsModel" "readCode" "[I") ∈ lw_tbl := tk_7 (List.mem_of_getElem? (i := 169) rfl)
theorem tw_1611 : (Jvm.Cond.laysFinal "MarshBellsModel" "MarshBellsModel" "waits" "[I") ∈ lw_tbl := tk_7 (List.mem_of_getElem? (i := 171) rfl)
theorem tw_1613 : (Jvm.Cond.laysFinal "MarshBellsModel" "MarshBellsModel" "tested" "[Z") ∈ lw_tbl := tk_7 (List.mem_of_getElem? (i := 173) rfl)
theorem tw_1615 : (Jvm.Cond.lays "MarshBellsModel" "MarshBellsModel" "inForce" "I") ∈ lw_tbl := tk_7 (List.mem_of_getElem? (i := 175) rfl)
theorem tw_1617 : (Jvm.Cond.laysFinal "MarshBellsModel" "MarshBellsModel" "told" "[I") ∈ lw_tbl := tk_7 (List.mem_of_getElem? (i := 177) rfl)
theorem tw_1619 : (Jvm.Cond.laysFinal "MarshBellsModel" "MarshBellsModel" "pile" "[I") ∈ lw_tbl := tk_7 (List.mem_of_getElem? (i := 179) rfl)
theorem tw_1621 : (Jvm.Cond.laysFinal "MarshBellsModel" "MarshBellsModel" "begins" "[I") ∈ lw_tbl := tk_7 (List.mem_of_getElem? (i := 181) rfl)
theorem tw_1623 : (Jvm.Cond.laysFinal "MarshBellsModel" "MarshBellsModel" "ends" "[I") ∈ lw_tbl := tk_7 (List.mem_of_getElem? (i := 183) rfl)
theorem tw_1625 : (Jvm.Cond.laysFinal "MarshBellsModel" "MarshBellsModel" "runs" "[I") ∈ lw_tbl := tk_7 (List.mem_of_getElem? (i := 185) rfl)
theorem tw_1627 : (Jvm.Cond.laysFinal "MarshBellsModel" "MarshBellsModel" "byWhom" "[I") ∈ lw_tbl := tk_7 (List.mem_of_getElem? (i := 187) rfl)
theorem tw_1629 : (Jvm.Cond.laysFinal "MarshBellsModel" "MarshBellsModel" "coming" "[I") ∈ lw_tbl := tk_7 (List.mem_of_getElem? (i := 189) rfl)
theorem tw_1631 : (Jvm.Cond.lays "MarshBellsModel" "MarshBellsModel" "still" "I") ∈ lw_tbl := tk_7 (List.mem_of_getElem? (i := 191) rfl)
theorem tw_1633 : (Jvm.Cond.lays "MarshBellsModel" "MarshBellsModel" "great" "I") ∈ lw_tbl := tk_7 (List.mem_of_getElem? (i := 193) rfl)
theorem tw_1635 : (Jvm.Cond.lays "MarshBellsModel" "MarshBellsModel" "acts" "I") ∈ lw_tbl := tk_7 (List.mem_of_getElem? (i := 195) rfl)
theorem tw_1637 : (Jvm.Cond.laysFinal "MarshBellsModel" "MarshBellsModel" "act" "[I") ∈ lw_tbl := tk_7 (List.mem_of_getElem? (i := 197) rfl)
theorem tw_1639 : (Jvm.Cond.laysFinal "MarshBellsModel" "MarshBellsModel" "endsNow" "[I") ∈ lw_tbl := tk_7 (List.mem_of_getElem? (i := 199) rfl)
theorem tw_1641 : (Jvm.Cond.lays "MarshBellsModel" "MarshBellsModel" "hasGaps" "Z") ∈ lw_tbl := tk_7 (List.mem_of_getElem? (i := 201) rfl)
theorem tw_1643 : (Jvm.Cond.laysFinal "MarshBellsModel" "MarshBellsModel" "gapKept" "[I") ∈ lw_tbl := tk_7 (List.mem_of_getElem? (i := 203) rfl)
theorem tw_1645 : (Jvm.Cond.laysFinal "MarshBellsModel" "MarshBellsModel" "gapWas" "[I") ∈ lw_tbl := tk_7 (List.mem_of_getElem? (i := 205) rfl)
theorem tw_1647 : (Jvm.Cond.laysFinal "MarshBellsModel" "MarshBellsModel" "inSet" "[I") ∈ lw_tbl := tk_7 (List.mem_of_getElem? (i := 207) rfl)
theorem tw_1649 : (Jvm.Cond.laysFinal "MarshBellsModel" "MarshBellsModel" "unsure" "[I") ∈ lw_tbl := tk_7 (List.mem_of_getElem? (i := 209) rfl)
theorem tw_1651 : (Jvm.Cond.lays "MarshBellsModel" "MarshBellsModel" "unsureMany" "I") ∈ lw_tbl := tk_7 (List.mem_of_getElem? (i := 211) rfl)
theorem tw_1653 : (Jvm.Cond.lays "MarshBellsModel" "MarshBellsModel" "never" "I") ∈ lw_tbl := tk_7 (List.mem_of_getElem? (i := 213) rfl)
theorem tw_1655 : (Jvm.Cond.laysFinal "MarshBellsModel" "MarshBellsModel" "then" "[I") ∈ lw_tbl := tk_7 (List.mem_of_getElem? (i := 215) rfl)
theorem tw_1657 : (Jvm.Cond.lays "MarshBellsModel" "MarshBellsModel" "seenMany" "I") ∈ lw_tbl := tk_7 (List.mem_of_getElem? (i := 217) rfl)
theorem tw_1659 : (Jvm.Cond.laysFinal "MarshBellsModel" "MarshBellsModel" "seen" "[I") ∈ lw_tbl := tk_7 (List.mem_of_getElem? (i := 219) rfl)
theorem tw_1661 : (Jvm.Cond.laysFinal "MarshBellsModel" "MarshBellsModel" "wayOf" "[I") ∈ lw_tbl := tk_7 (List.mem_of_getElem? (i := 221) rfl)
theorem tw_1663 : (Jvm.Cond.laysFinal "MarshBellsModel" "MarshBellsModel" "wayAt" "[I") ∈ lw_tbl := tk_7 (List.mem_of_getElem? (i := 223) rfl)
theorem tw_1665 : (Jvm.Cond.laysFinal "MarshBellsModel" "MarshBellsModel" "wayLong" "[I") ∈ lw_tbl := tk_7 (List.mem_of_getElem? (i := 225) rfl)
theorem tw_1667 : (Jvm.Cond.laysFinal "MarshBellsModel" "MarshBellsModel" "wayUp" "[I") ∈ lw_tbl := tk_7 (List.mem_of_getElem? (i := 227) rfl)
theorem tw_1669 : (Jvm.Cond.lays "MarshBellsModel" "MarshBellsModel" "wayMany" "I") ∈ lw_tbl := tk_7 (List.mem_of_getElem? (i := 229) rfl)
theorem tw_1671 : (Jvm.Cond.lays "MarshBellsModel" "MarshBellsModel" "its" "I") ∈ lw_tbl := tk_7 (List.mem_of_getElem? (i := 231) rfl)
theorem tw_1673 : (Jvm.Cond.lays "MarshBellsModel" "MarshBellsModel" "hasImage" "Z") ∈ lw_tbl := tk_7 (List.mem_of_getElem? (i := 233) rfl)
theorem tw_1675 : (Jvm.Cond.lays "MarshBellsModel" "MarshBellsModel" "imageForce" "I") ∈ lw_tbl := tk_7 (List.mem_of_getElem? (i := 235) rfl)
theorem tw_1677 : (Jvm.Cond.lays "MarshBellsModel" "MarshBellsModel" "imageActs" "I") ∈ lw_tbl := tk_7 (List.mem_of_getElem? (i := 237) rfl)
theorem tw_1679 : (Jvm.Cond.lays "MarshBellsModel" "MarshBellsModel" "imageSeen" "I") ∈ lw_tbl := tk_7 (List.mem_of_getElem? (i := 239) rfl)
theorem tw_1681 : (Jvm.Cond.laysFinal "MarshBellsModel" "MarshBellsModel" "imageNow" "[I") ∈ lw_tbl := tk_8 (List.mem_of_getElem? (i := 1) rfl)
theorem tw_1683 : (Jvm.Cond.laysFinal "MarshBellsModel" "MarshBellsModel" "imageAct" "[I") ∈ lw_tbl := tk_8 (List.mem_of_getElem? (i := 3) rfl)
theorem tw_1685 : (Jvm.Cond.laysFinal "MarshBellsModel" "MarshBellsModel" "imageSees" "[I") ∈ lw_tbl := tk_8 (List.mem_of_getElem? (i := 5) rfl)
theorem inWX12 : ∀ w ∈ u_ws RX12 TX12 88, w ∈ lw_tbl := by
  have e : ∀ k, k < 88 → u_lay RX12 TX12 k ∈ lw_tbl := fun k hk => match k, hk with | 0, _ => tw_1511 | 1, _ => tw_1513 | 2, _ => tw_1515 | 3, _ => tw_1517 | 4, _ => tw_1519 | 5, _ => tw_1521 | 6, _ => tw_1523 | 7, _ => tw_1525 | 8, _ => tw_1527 | 9, _ => tw_1529 | 10, _ => tw_1531 | 11, _ => tw_1533 | 12, _ => tw_1535 | 13, _ => tw_1537 | 14, _ => tw_1539 | 15, _ => tw_1541 | 16, _ => tw_1543 | 17, _ => tw_1545 | 18, _ => tw_1547 | 19, _ => tw_1549 | 20, _ => tw_1551 | 21, _ => tw_1553 | 22, _ => tw_1555 | 23, _ => tw_1557 | 24, _ => tw_1559 | 25, _ => tw_1561 | 26, _ => tw_1563 | 27, _ => tw_1565 | 28, _ => tw_1567 | 29, _ => tw_1569 | 30, _ => tw_1571 | 31, _ => tw_1573 | 32, _ => tw_1575 | 33, _ => tw_1577 | 34, _ => tw_1579 | 35, _ => tw_1581 | 36, _ => tw_1583 | 37, _ => tw_1585 | 38, _ => tw_1587 | 39, _ => tw_1589 | 40, _ => tw_1591 | 41, _ => tw_1593 | 42, _ => tw_1595 | 43, _ => tw_1597 | 44, _ => tw_1599 | 45, _ => tw_1601 | 46, _ => tw_1603 | 47, _ => tw_1605 | 48, _ => tw_1607 | 49, _ => tw_1609 | 50, _ => tw_1611 | 51, _ => tw_1613 | 52, _ => tw_1615 | 53, _ => tw_1617 | 54, _ => tw_1619 | 55, _ => tw_1621 | 56, _ => tw_1623 | 57, _ => tw_1625 | 58, _ => tw_1627 | 59, _ => tw_1629 | 60, _ => tw_1631 | 61, _ => tw_1633 | 62, _ => tw_1635 | 63, _ => tw_1637 | 64, _ => tw_1639 | 65, _ => tw_1641 | 66, _ => tw_1643 | 67, _ => tw_1645 | 68, _ => tw_1647 | 69, _ => tw_1649 | 70, _ => tw_1651 | 71, _ => tw_1653 | 72, _ => tw_1655 | 73, _ => tw_1657 | 74, _ => tw_1659 | 75, _ => tw_1661 | 76, _ => tw_1663 | 77, _ => tw_1665 | 78, _ => tw_1667 | 79, _ => tw_1669 | 80, _ => tw_1671 | 81, _ => tw_1673 | 82, _ => tw_1675 | 83, _ => tw_1677 | 84, _ => tw_1679 | 85, _ => tw_1681 | 86, _ => tw_1683 | 87, _ => tw_1685 | k + 88, hk => absurd hk (by omega)
  intro w h
  obtain ⟨k, hk, rfl⟩ := List.mem_map.mp h
  exact e k (List.mem_range.mp hk)
theorem tw_1479 : (Jvm.Cond.fieldLink "MarshBellsModel" (117 : Nat) "MarshBellsModel" "ends" "[I") ∈ lw_tbl := tk_7 (List.mem_of_getElem? (i := 39) rfl)
theorem fl_X12_117 : kFL RX12 117 12 88 56 := ⟨RX12, TX12, rfl, by decide, inWX12, tw_1479⟩
theorem dX12_late_1 : decode cX12_late 1 = .ok (.getfield 117, 3) := by decide +kernel
theorem dX12_late_4 : decode cX12_late 4 = .ok (.iload_n 1, 1) := by decide +kernel
theorem dX12_late_5 : decode cX12_late 5 = .ok (.iaload, 1) := by decide +kernel
theorem dX12_late_6 : decode cX12_late 6 = .ok (.aload_n 0, 1) := by decide +kernel
theorem tw_1429 : (Jvm.Cond.fieldLink "MarshBellsModel" (20 : Nat) "MarshBellsModel" "to" "[I") ∈ lw_tbl := tk_6 (List.mem_of_getElem? (i := 229) rfl)
theorem fl_X12_20 : kFL RX12 20 12 88 6 := ⟨RX12, TX12, rfl, by decide, inWX12, tw_1429⟩
theorem dX12_late_7 : decode cX12_late 7 = .ok (.getfield 20, 3) := by decide +kernel
theorem dX12_late_10 : decode cX12_late 10 = .ok (.iload_n 1, 1) := by decide +kernel
theorem dX12_late_11 : decode cX12_late 11 = .ok (.iaload, 1) := by decide +kernel
theorem dX12_late_12 : decode cX12_late 12 = .ok (.isub, 1) := by decide +kernel
theorem dX12_late_13 : decode cX12_late 13 = .ok (.ireturn, 1) := by decide +kernel
theorem dX12_lates_0 : decode cX12_lates 0 = .ok (.iconst 0, 1) := by decide +kernel
theorem dX12_lates_1 : decode cX12_lates 1 = .ok (.istore_n 1, 1) := by decide +kernel
theorem dX12_lates_2 : decode cX12_lates 2 = .ok (.iconst 0, 1) := by decide +kernel
theorem dX12_lates_3 : decode cX12_lates 3 = .ok (.istore_n 2, 1) := by decide +kernel
theorem dX12_lates_4 : decode cX12_lates 4 = .ok (.iload_n 2, 1) := by decide +kernel
theorem dX12_lates_5 : decode cX12_lates 5 = .ok (.aload_n 0, 1) := by decide +kernel
theorem tw_1424 : (Jvm.Cond.fieldLink "MarshBellsModel" (335 : Nat) "MarshBellsModel" "lessons" "I") ∈ lw_tbl := tk_6 (List.mem_of_getElem? (i := 224) rfl)
theorem fl_X12_335 : kFL RX12 335 12 88 1 := ⟨RX12, TX12, rfl, by decide, inWX12, tw_1424⟩
theorem dX12_lates_6 : decode cX12_lates 6 = .ok (.getfield 335, 3) := by decide +kernel
theorem dX12_lates_9 : decode cX12_lates 9 = .ok (.if_icmp .ge 17, 3) := by decide +kernel
theorem dX12_lates_26 : decode cX12_lates 26 = .ok (.iload_n 1, 1) := by decide +kernel
theorem dX12_lates_27 : decode cX12_lates 27 = .ok (.ireturn, 1) := by decide +kernel
theorem dX12_lates_12 : decode cX12_lates 12 = .ok (.iload_n 1, 1) := by decide +kernel
theorem dX12_lates_13 : decode cX12_lates 13 = .ok (.aload_n 0, 1) := by decide +kernel
theorem dX12_lates_14 : decode cX12_lates 14 = .ok (.iload_n 2, 1) := by decide +kernel
theorem tw_1859 : (Jvm.Cond.methodLink "MarshBellsModel" (389 : Nat) ({ cls := "MarshBellsModel", name := "late", desc := "(I)I" } : Jvm.MethodName)) ∈ lw_tbl := tk_8 (List.mem_of_getElem? (i := 179) rfl)
theorem tw_13 : (Jvm.Cond.initialized "MarshBellsModel") ∈ lw_tbl := tk_1 (List.mem_of_getElem? (i := 13) rfl)
theorem tw_1862 : (Jvm.Cond.code ({ cls := "MarshBellsModel", name := "late", desc := "(I)I" } : Jvm.MethodName) prog_14_method_46_code (2 : Nat) (Option.some Jvm.ClassFile.FieldType.int)) ∈ lw_tbl := tk_8 (List.mem_of_getElem? (i := 182) rfl)
theorem tw_1861 : (Jvm.Cond.instanceMethod ({ cls := "MarshBellsModel", name := "late", desc := "(I)I" } : Jvm.MethodName)) ∈ lw_tbl := tk_8 (List.mem_of_getElem? (i := 181) rfl)
theorem se_X12_late : Cond.selects RX12 yX12_late yX12_late ∈ lw_tbl := List.mem_append_left _ (List.mem_of_getElem? (i := 139) rfl)
theorem li_X12_389 : kLV RX12 389 RX12 yX12_late cX12_late 2 (some .int) 1 := ⟨tw_1859, tw_1861, se_X12_late, tw_1862, tw_13, by decide +kernel⟩
theorem dX12_lates_15 : decode cX12_lates 15 = .ok (.invokevirtual 389, 3) := by decide +kernel
theorem dX12_lates_18 : decode cX12_lates 18 = .ok (.iadd, 1) := by decide +kernel
theorem dX12_lates_19 : decode cX12_lates 19 = .ok (.istore_n 1, 1) := by decide +kernel
theorem dX12_lates_20 : decode cX12_lates 20 = .ok (.iinc 2 1, 3) := by decide +kernel
theorem dX12_lates_23 : decode cX12_lates 23 = .ok (.goto (-19), 3) := by decide +kernel
theorem dX12_isLesson_0 : decode cX12_isLesson 0 = .ok (.aload_n 0, 1) := by decide +kernel
theorem dX12_isLesson_1 : decode cX12_isLesson 1 = .ok (.iload_n 1, 1) := by decide +kernel
theorem dX12_isLesson_2 : decode cX12_isLesson 2 = .ok (.ifCond .lt 15, 3) := by decide +kernel
theorem dX12_isLesson_5 : decode cX12_isLesson 5 = .ok (.iload_n 1, 1) := by decide +kernel
theorem dX12_isLesson_6 : decode cX12_isLesson 6 = .ok (.aload_n 0, 1) := by decide +kernel
theorem dX12_isLesson_7 : decode cX12_isLesson 7 = .ok (.getfield 335, 3) := by decide +kernel
theorem dX12_isLesson_10 : decode cX12_isLesson 10 = .ok (.if_icmp .ge 7, 3) := by decide +kernel
theorem dX12_isLesson_13 : decode cX12_isLesson 13 = .ok (.iconst 1, 1) := by decide +kernel
theorem dX12_isLesson_14 : decode cX12_isLesson 14 = .ok (.goto 4, 3) := by decide +kernel
theorem dX12_isLesson_17 : decode cX12_isLesson 17 = .ok (.iconst 0, 1) := by decide +kernel
theorem dX12_isLesson_18 : decode cX12_isLesson 18 = .ok (.iconst 1, 1) := by decide +kernel
theorem tw_1700 : (Jvm.Cond.methodLink "MarshBellsModel" (328 : Nat) ({ cls := "MarshBellsModel", name := "right", desc := "(ZI)Z" } : Jvm.MethodName)) ∈ lw_tbl := tk_8 (List.mem_of_getElem? (i := 20) rfl)
theorem tw_1703 : (Jvm.Cond.code ({ cls := "MarshBellsModel", name := "right", desc := "(ZI)Z" } : Jvm.MethodName) prog_14_method_3_code (3 : Nat) (Option.some Jvm.ClassFile.FieldType.boolean)) ∈ lw_tbl := tk_8 (List.mem_of_getElem? (i := 23) rfl)
theorem tw_1702 : (Jvm.Cond.instanceMethod ({ cls := "MarshBellsModel", name := "right", desc := "(ZI)Z" } : Jvm.MethodName)) ∈ lw_tbl := tk_8 (List.mem_of_getElem? (i := 22) rfl)
theorem se_X12_right : Cond.selects RX12 yX12_right yX12_right ∈ lw_tbl := List.mem_append_left _ (List.mem_of_getElem? (i := 109) rfl)
theorem li_X12_328 : kLV RX12 328 RX12 yX12_right cX12_right 3 (some .boolean) 2 := ⟨tw_1700, tw_1702, se_X12_right, tw_1703, tw_13, by decide +kernel⟩
theorem dX12_right_0 : decode cX12_right 0 = .ok (.aload_n 0, 1) := by decide +kernel
theorem tw_1423 : (Jvm.Cond.fieldLink "MarshBellsModel" (177 : Nat) "MarshBellsModel" "thrown" "I") ∈ lw_tbl := tk_6 (List.mem_of_getElem? (i := 223) rfl)
theorem fl_X12_177 : kFL RX12 177 12 88 0 := ⟨RX12, TX12, rfl, by decide, inWX12, tw_1423⟩
theorem dX12_right_1 : decode cX12_right 1 = .ok (.getfield 177, 3) := by decide +kernel
theorem dX12_right_4 : decode cX12_right 4 = .ok (.ifCond .ne 12, 3) := by decide +kernel
theorem dX12_right_7 : decode cX12_right 7 = .ok (.iload_n 1, 1) := by decide +kernel
theorem dX12_right_8 : decode cX12_right 8 = .ok (.ifCond .ne 8, 3) := by decide +kernel
theorem dX12_right_11 : decode cX12_right 11 = .ok (.aload_n 0, 1) := by decide +kernel
theorem dX12_right_12 : decode cX12_right 12 = .ok (.iload_n 2, 1) := by decide +kernel
theorem ft_X12_0 : kFT 12 0 .int false RX12 := ⟨RX12, TX12, 88, tyX12, rfl, tyX12_ok, nmX12, rfl, by decide +kernel, rfl⟩
theorem dX12_right_13 : decode cX12_right 13 = .ok (.putfield 177, 3) := by decide +kernel
theorem dX12_right_16 : decode cX12_right 16 = .ok (.aload_n 0, 1) := by decide +kernel
theorem dX12_right_17 : decode cX12_right 17 = .ok (.getfield 177, 3) := by decide +kernel
theorem dX12_right_20 : decode cX12_right 20 = .ok (.ifCond .ne 7, 3) := by decide +kernel
theorem dX12_right_27 : decode cX12_right 27 = .ok (.iconst 0, 1) := by decide +kernel
theorem dX12_right_23 : decode cX12_right 23 = .ok (.iconst 1, 1) := by decide +kernel
theorem dX12_right_24 : decode cX12_right 24 = .ok (.goto 4, 3) := by decide +kernel
theorem dX12_right_28 : decode cX12_right 28 = .ok (.ireturn, 1) := by decide +kernel
theorem dX12_isLesson_19 : decode cX12_isLesson 19 = .ok (.invokevirtual 328, 3) := by decide +kernel
theorem dX12_isLesson_22 : decode cX12_isLesson 22 = .ok (.ireturn, 1) := by decide +kernel
theorem dX12_isWhat_0 : decode cX12_isWhat 0 = .ok (.aload_n 0, 1) := by decide +kernel
theorem dX12_isWhat_1 : decode cX12_isWhat 1 = .ok (.iload_n 1, 1) := by decide +kernel
theorem dX12_isWhat_2 : decode cX12_isWhat 2 = .ok (.iconst 0, 1) := by decide +kernel
theorem dX12_isWhat_3 : decode cX12_isWhat 3 = .ok (.iload_n 2, 1) := by decide +kernel
theorem tw_1819 : (Jvm.Cond.methodLink "MarshBellsModel" (392 : Nat) ({ cls := "MarshBellsModel", name := "within", desc := "(III)Z" } : Jvm.MethodName)) ∈ lw_tbl := tk_8 (List.mem_of_getElem? (i := 139) rfl)
theorem tw_1821 : (Jvm.Cond.code ({ cls := "MarshBellsModel", name := "within", desc := "(III)Z" } : Jvm.MethodName) prog_14_method_4_code (3 : Nat) (Option.some Jvm.ClassFile.FieldType.boolean)) ∈ lw_tbl := tk_8 (List.mem_of_getElem? (i := 141) rfl)
theorem tw_1820 : (Jvm.Cond.static ({ cls := "MarshBellsModel", name := "within", desc := "(III)Z" } : Jvm.MethodName)) ∈ lw_tbl := tk_8 (List.mem_of_getElem? (i := 140) rfl)
theorem li_X12_392 : kLS RX12 392 yX12_within cX12_within 3 (some .boolean) 3 := ⟨tw_1819, tw_1820, tw_1821, tw_13, by decide +kernel⟩
theorem dX12_within_0 : decode cX12_within 0 = .ok (.iload_n 0, 1) := by decide +kernel
theorem dX12_within_1 : decode cX12_within 1 = .ok (.iload_n 1, 1) := by decide +kernel
theorem dX12_within_2 : decode cX12_within 2 = .ok (.if_icmp .lt 12, 3) := by decide +kernel
theorem dX12_within_5 : decode cX12_within 5 = .ok (.iload_n 0, 1) := by decide +kernel
theorem dX12_within_6 : decode cX12_within 6 = .ok (.iload_n 2, 1) := by decide +kernel
theorem dX12_within_7 : decode cX12_within 7 = .ok (.if_icmp .gt 7, 3) := by decide +kernel
theorem dX12_within_10 : decode cX12_within 10 = .ok (.iconst 1, 1) := by decide +kernel
theorem dX12_within_11 : decode cX12_within 11 = .ok (.goto 4, 3) := by decide +kernel
theorem dX12_within_14 : decode cX12_within 14 = .ok (.iconst 0, 1) := by decide +kernel
theorem dX12_within_15 : decode cX12_within 15 = .ok (.ireturn, 1) := by decide +kernel
theorem dX12_isWhat_4 : decode cX12_isWhat 4 = .ok (.invokestatic 392, 3) := by decide +kernel
theorem dX12_isWhat_7 : decode cX12_isWhat 7 = .ok (.iconst 1, 1) := by decide +kernel
theorem dX12_isWhat_8 : decode cX12_isWhat 8 = .ok (.invokevirtual 328, 3) := by decide +kernel
theorem dX12_isWhat_11 : decode cX12_isWhat 11 = .ok (.ireturn, 1) := by decide +kernel
theorem dX12_comes_0 : decode cX12_comes 0 = .ok (.aload_n 0, 1) := by decide +kernel
theorem dX12_comes_1 : decode cX12_comes 1 = .ok (.getfield 117, 3) := by decide +kernel
theorem dX12_comes_4 : decode cX12_comes 4 = .ok (.iload_n 1, 1) := by decide +kernel
theorem dX12_comes_5 : decode cX12_comes 5 = .ok (.iaload, 1) := by decide +kernel
theorem dX12_comes_6 : decode cX12_comes 6 = .ok (.aload_n 0, 1) := by decide +kernel
theorem dX12_comes_7 : decode cX12_comes 7 = .ok (.iload_n 1, 1) := by decide +kernel
theorem dX12_comes_8 : decode cX12_comes 8 = .ok (.iload_n 2, 1) := by decide +kernel
theorem tw_1838 : (Jvm.Cond.methodLink "MarshBellsModel" (368 : Nat) ({ cls := "MarshBellsModel", name := "way", desc := "(II)I" } : Jvm.MethodName)) ∈ lw_tbl := tk_8 (List.mem_of_getElem? (i := 158) rfl)
theorem tw_1841 : (Jvm.Cond.code ({ cls := "MarshBellsModel", name := "way", desc := "(II)I" } : Jvm.MethodName) prog_14_method_40_code (5 : Nat) (Option.some Jvm.ClassFile.FieldType.int)) ∈ lw_tbl := tk_8 (List.mem_of_getElem? (i := 161) rfl)
theorem tw_1840 : (Jvm.Cond.instanceMethod ({ cls := "MarshBellsModel", name := "way", desc := "(II)I" } : Jvm.MethodName)) ∈ lw_tbl := tk_8 (List.mem_of_getElem? (i := 160) rfl)
theorem se_X12_way : Cond.selects RX12 yX12_way yX12_way ∈ lw_tbl := List.mem_append_left _ (List.mem_of_getElem? (i := 136) rfl)
theorem li_X12_368 : kLV RX12 368 RX12 yX12_way cX12_way 5 (some .int) 2 := ⟨tw_1838, tw_1840, se_X12_way, tw_1841, tw_13, by decide +kernel⟩
theorem dX12_way_0 : decode cX12_way 0 = .ok (.aload_n 0, 1) := by decide +kernel
theorem tw_1439 : (Jvm.Cond.fieldLink "MarshBellsModel" (50 : Nat) "MarshBellsModel" "now" "[I") ∈ lw_tbl := tk_6 (List.mem_of_getElem? (i := 239) rfl)
theorem fl_X12_50 : kFL RX12 50 12 88 16 := ⟨RX12, TX12, rfl, by decide, inWX12, tw_1439⟩
theorem dX12_way_1 : decode cX12_way 1 = .ok (.getfield 50, 3) := by decide +kernel
theorem dX12_way_4 : decode cX12_way 4 = .ok (.bipush 24, 2) := by decide +kernel
theorem dX12_way_6 : decode cX12_way 6 = .ok (.iload_n 1, 1) := by decide +kernel
theorem dX12_way_7 : decode cX12_way 7 = .ok (.iadd, 1) := by decide +kernel
theorem dX12_way_8 : decode cX12_way 8 = .ok (.iaload, 1) := by decide +kernel
theorem dX12_way_9 : decode cX12_way 9 = .ok (.istore_n 3, 1) := by decide +kernel
theorem dX12_way_10 : decode cX12_way 10 = .ok (.aload_n 0, 1) := by decide +kernel
theorem dX12_way_11 : decode cX12_way 11 = .ok (.getfield 50, 3) := by decide +kernel
theorem dX12_way_14 : decode cX12_way 14 = .ok (.bipush 24, 2) := by decide +kernel
theorem dX12_way_16 : decode cX12_way 16 = .ok (.iload_n 2, 1) := by decide +kernel
theorem dX12_way_17 : decode cX12_way 17 = .ok (.iadd, 1) := by decide +kernel
theorem dX12_way_18 : decode cX12_way 18 = .ok (.iaload, 1) := by decide +kernel
theorem dX12_way_19 : decode cX12_way 19 = .ok (.istore 4, 2) := by decide +kernel
theorem dX12_way_21 : decode cX12_way 21 = .ok (.aload_n 0, 1) := by decide +kernel
theorem tw_1426 : (Jvm.Cond.fieldLink "MarshBellsModel" (7 : Nat) "MarshBellsModel" "walk" "I") ∈ lw_tbl := tk_6 (List.mem_of_getElem? (i := 226) rfl)
theorem fl_X12_7 : kFL RX12 7 12 88 3 := ⟨RX12, TX12, rfl, by decide, inWX12, tw_1426⟩
theorem dX12_way_22 : decode cX12_way 22 = .ok (.getfield 7, 3) := by decide +kernel
theorem dX12_way_25 : decode cX12_way 25 = .ok (.iload_n 3, 1) := by decide +kernel
theorem dX12_way_26 : decode cX12_way 26 = .ok (.iload 4, 2) := by decide +kernel
theorem tw_1842 : (Jvm.Cond.methodLink "MarshBellsModel" (361 : Nat) ({ cls := "MarshBellsModel", name := "off", desc := "(II)I" } : Jvm.MethodName)) ∈ lw_tbl := tk_8 (List.mem_of_getElem? (i := 162) rfl)
theorem tw_1844 : (Jvm.Cond.code ({ cls := "MarshBellsModel", name := "off", desc := "(II)I" } : Jvm.MethodName) prog_14_method_5_code (2 : Nat) (Option.some Jvm.ClassFile.FieldType.int)) ∈ lw_tbl := tk_8 (List.mem_of_getElem? (i := 164) rfl)
theorem tw_1843 : (Jvm.Cond.static ({ cls := "MarshBellsModel", name := "off", desc := "(II)I" } : Jvm.MethodName)) ∈ lw_tbl := tk_8 (List.mem_of_getElem? (i := 163) rfl)
theorem li_X12_361 : kLS RX12 361 yX12_off cX12_off 2 (some .int) 2 := ⟨tw_1842, tw_1843, tw_1844, tw_13, by decide +kernel⟩
theorem dX12_off_0 : decode cX12_off 0 = .ok (.iload_n 0, 1) := by decide +kernel
theorem dX12_off_1 : decode cX12_off 1 = .ok (.iload_n 1, 1) := by decide +kernel
theorem dX12_off_2 : decode cX12_off 2 = .ok (.if_icmp .ge 9, 3) := by decide +kernel
theorem dX12_off_11 : decode cX12_off 11 = .ok (.iload_n 0, 1) := by decide +kernel
theorem dX12_off_12 : decode cX12_off 12 = .ok (.iload_n 1, 1) := by decide +kernel
theorem dX12_off_13 : decode cX12_off 13 = .ok (.isub, 1) := by decide +kernel
theorem dX12_off_5 : decode cX12_off 5 = .ok (.iload_n 1, 1) := by decide +kernel
theorem dX12_off_6 : decode cX12_off 6 = .ok (.iload_n 0, 1) := by decide +kernel
theorem dX12_off_7 : decode cX12_off 7 = .ok (.isub, 1) := by decide +kernel
theorem dX12_off_8 : decode cX12_off 8 = .ok (.goto 6, 3) := by decide +kernel
theorem dX12_off_14 : decode cX12_off 14 = .ok (.ireturn, 1) := by decide +kernel
theorem dX12_way_28 : decode cX12_way 28 = .ok (.invokestatic 361, 3) := by decide +kernel
theorem dX12_way_31 : decode cX12_way 31 = .ok (.imul, 1) := by decide +kernel
theorem dX12_way_32 : decode cX12_way 32 = .ok (.iload_n 3, 1) := by decide +kernel
theorem dX12_way_33 : decode cX12_way 33 = .ok (.iload 4, 2) := by decide +kernel
theorem tw_1845 : (Jvm.Cond.methodLink "MarshBellsModel" (364 : Nat) ({ cls := "MarshBellsModel", name := "isStair", desc := "(II)Z" } : Jvm.MethodName)) ∈ lw_tbl := tk_8 (List.mem_of_getElem? (i := 165) rfl)
theorem tw_1847 : (Jvm.Cond.code ({ cls := "MarshBellsModel", name := "isStair", desc := "(II)Z" } : Jvm.MethodName) prog_14_method_41_code (2 : Nat) (Option.some Jvm.ClassFile.FieldType.boolean)) ∈ lw_tbl := tk_8 (List.mem_of_getElem? (i := 167) rfl)
theorem tw_1846 : (Jvm.Cond.static ({ cls := "MarshBellsModel", name := "isStair", desc := "(II)Z" } : Jvm.MethodName)) ∈ lw_tbl := tk_8 (List.mem_of_getElem? (i := 166) rfl)
theorem li_X12_364 : kLS RX12 364 yX12_isStair cX12_isStair 2 (some .boolean) 2 := ⟨tw_1845, tw_1846, tw_1847, tw_13, by decide +kernel⟩
theorem dX12_isStair_0 : decode cX12_isStair 0 = .ok (.iload_n 0, 1) := by decide +kernel
theorem dX12_isStair_1 : decode cX12_isStair 1 = .ok (.iconst 5, 1) := by decide +kernel
theorem dX12_isStair_2 : decode cX12_isStair 2 = .ok (.if_icmp .ge 7, 3) := by decide +kernel
theorem dX12_isStair_9 : decode cX12_isStair 9 = .ok (.iconst 0, 1) := by decide +kernel
theorem dX12_isStair_5 : decode cX12_isStair 5 = .ok (.iconst 1, 1) := by decide +kernel
theorem dX12_isStair_6 : decode cX12_isStair 6 = .ok (.goto 4, 3) := by decide +kernel
theorem dX12_isStair_10 : decode cX12_isStair 10 = .ok (.iload_n 1, 1) := by decide +kernel
theorem dX12_isStair_11 : decode cX12_isStair 11 = .ok (.iconst 5, 1) := by decide +kernel
theorem dX12_isStair_12 : decode cX12_isStair 12 = .ok (.if_icmp .ge 7, 3) := by decide +kernel
theorem dX12_isStair_19 : decode cX12_isStair 19 = .ok (.iconst 0, 1) := by decide +kernel
theorem dX12_isStair_15 : decode cX12_isStair 15 = .ok (.iconst 1, 1) := by decide +kernel
theorem dX12_isStair_16 : decode cX12_isStair 16 = .ok (.goto 4, 3) := by decide +kernel
theorem dX12_isStair_20 : decode cX12_isStair 20 = .ok (.if_icmp .eq 7, 3) := by decide +kernel
theorem dX12_isStair_27 : decode cX12_isStair 27 = .ok (.iconst 0, 1) := by decide +kernel
theorem dX12_isStair_23 : decode cX12_isStair 23 = .ok (.iconst 1, 1) := by decide +kernel
theorem dX12_isStair_24 : decode cX12_isStair 24 = .ok (.goto 4, 3) := by decide +kernel
theorem dX12_isStair_28 : decode cX12_isStair 28 = .ok (.ireturn, 1) := by decide +kernel
theorem dX12_way_35 : decode cX12_way 35 = .ok (.invokestatic 364, 3) := by decide +kernel
theorem dX12_way_38 : decode cX12_way 38 = .ok (.ifCond .eq 24, 3) := by decide +kernel
theorem dX12_way_62 : decode cX12_way 62 = .ok (.iconst 0, 1) := by decide +kernel
theorem dX12_way_41 : decode cX12_way 41 = .ok (.aload_n 0, 1) := by decide +kernel
theorem tw_1431 : (Jvm.Cond.fieldLink "MarshBellsModel" (26 : Nat) "MarshBellsModel" "people" "[I") ∈ lw_tbl := tk_6 (List.mem_of_getElem? (i := 231) rfl)
theorem fl_X12_26 : kFL RX12 26 12 88 8 := ⟨RX12, TX12, rfl, by decide, inWX12, tw_1431⟩
theorem dX12_way_42 : decode cX12_way 42 = .ok (.getfield 26, 3) := by decide +kernel
theorem dX12_way_45 : decode cX12_way 45 = .ok (.iload_n 1, 1) := by decide +kernel
theorem dX12_way_46 : decode cX12_way 46 = .ok (.iaload, 1) := by decide +kernel
theorem dX12_way_47 : decode cX12_way 47 = .ok (.aload_n 0, 1) := by decide +kernel
theorem tw_1427 : (Jvm.Cond.fieldLink "MarshBellsModel" (13 : Nat) "MarshBellsModel" "stair" "I") ∈ lw_tbl := tk_6 (List.mem_of_getElem? (i := 227) rfl)
theorem fl_X12_13 : kFL RX12 13 12 88 4 := ⟨RX12, TX12, rfl, by decide, inWX12, tw_1427⟩
theorem dX12_way_48 : decode cX12_way 48 = .ok (.getfield 13, 3) := by decide +kernel
theorem dX12_way_51 : decode cX12_way 51 = .ok (.iadd, 1) := by decide +kernel
theorem dX12_way_52 : decode cX12_way 52 = .ok (.iconst 1, 1) := by decide +kernel
theorem dX12_way_53 : decode cX12_way 53 = .ok (.isub, 1) := by decide +kernel
theorem dX12_way_54 : decode cX12_way 54 = .ok (.aload_n 0, 1) := by decide +kernel
theorem dX12_way_55 : decode cX12_way 55 = .ok (.getfield 13, 3) := by decide +kernel
theorem dX12_way_58 : decode cX12_way 58 = .ok (.idiv, 1) := by decide +kernel
theorem dX12_way_59 : decode cX12_way 59 = .ok (.goto 4, 3) := by decide +kernel
theorem dX12_way_63 : decode cX12_way 63 = .ok (.iadd, 1) := by decide +kernel
theorem dX12_way_64 : decode cX12_way 64 = .ok (.ireturn, 1) := by decide +kernel
theorem dX12_comes_9 : decode cX12_comes 9 = .ok (.invokevirtual 368, 3) := by decide +kernel
theorem dX12_comes_12 : decode cX12_comes 12 = .ok (.iadd, 1) := by decide +kernel
theorem dX12_comes_13 : decode cX12_comes 13 = .ok (.aload_n 0, 1) := by decide +kernel
theorem dX12_comes_14 : decode cX12_comes 14 = .ok (.getfield 50, 3) := by decide +kernel
theorem dX12_comes_17 : decode cX12_comes 17 = .ok (.bipush 12, 2) := by decide +kernel
theorem dX12_comes_19 : decode cX12_comes 19 = .ok (.iload_n 2, 1) := by decide +kernel
theorem dX12_comes_20 : decode cX12_comes 20 = .ok (.iadd, 1) := by decide +kernel
theorem dX12_comes_21 : decode cX12_comes 21 = .ok (.iaload, 1) := by decide +kernel
theorem dX12_comes_22 : decode cX12_comes 22 = .ok (.isub, 1) := by decide +kernel
theorem dX12_comes_23 : decode cX12_comes 23 = .ok (.ireturn, 1) := by decide +kernel
theorem dX12_waitsSet_0 : decode cX12_waitsSet 0 = .ok (.iconst 0, 1) := by decide +kernel
theorem dX12_waitsSet_1 : decode cX12_waitsSet 1 = .ok (.istore_n 2, 1) := by decide +kernel
theorem dX12_waitsSet_2 : decode cX12_waitsSet 2 = .ok (.iconst 0, 1) := by decide +kernel
theorem dX12_waitsSet_3 : decode cX12_waitsSet 3 = .ok (.istore_n 3, 1) := by decide +kernel
theorem dX12_waitsSet_4 : decode cX12_waitsSet 4 = .ok (.iload_n 3, 1) := by decide +kernel
theorem dX12_waitsSet_5 : decode cX12_waitsSet 5 = .ok (.aload_n 0, 1) := by decide +kernel
theorem tw_1435 : (Jvm.Cond.fieldLink "MarshBellsModel" (38 : Nat) "MarshBellsModel" "waitsMany" "[I") ∈ lw_tbl := tk_6 (List.mem_of_getElem? (i := 235) rfl)
theorem fl_X12_38 : kFL RX12 38 12 88 12 := ⟨RX12, TX12, rfl, by decide, inWX12, tw_1435⟩
theorem dX12_waitsSet_6 : decode cX12_waitsSet 6 = .ok (.getfield 38, 3) := by decide +kernel
theorem dX12_waitsSet_9 : decode cX12_waitsSet 9 = .ok (.iload_n 1, 1) := by decide +kernel
theorem dX12_waitsSet_10 : decode cX12_waitsSet 10 = .ok (.iaload, 1) := by decide +kernel
theorem dX12_waitsSet_11 : decode cX12_waitsSet 11 = .ok (.if_icmp .ge 25, 3) := by decide +kernel
theorem dX12_waitsSet_36 : decode cX12_waitsSet 36 = .ok (.iload_n 2, 1) := by decide +kernel
theorem dX12_waitsSet_37 : decode cX12_waitsSet 37 = .ok (.ireturn, 1) := by decide +kernel
theorem dX12_waitsSet_14 : decode cX12_waitsSet 14 = .ok (.iload_n 2, 1) := by decide +kernel
theorem dX12_waitsSet_15 : decode cX12_waitsSet 15 = .ok (.iconst 1, 1) := by decide +kernel
theorem dX12_waitsSet_16 : decode cX12_waitsSet 16 = .ok (.aload_n 0, 1) := by decide +kernel
theorem tw_1436 : (Jvm.Cond.fieldLink "MarshBellsModel" (41 : Nat) "MarshBellsModel" "waitsFor0" "[I") ∈ lw_tbl := tk_6 (List.mem_of_getElem? (i := 236) rfl)
theorem fl_X12_41 : kFL RX12 41 12 88 13 := ⟨RX12, TX12, rfl, by decide, inWX12, tw_1436⟩
theorem dX12_waitsSet_17 : decode cX12_waitsSet 17 = .ok (.getfield 41, 3) := by decide +kernel
theorem dX12_waitsSet_20 : decode cX12_waitsSet 20 = .ok (.bipush 6, 2) := by decide +kernel
theorem dX12_waitsSet_22 : decode cX12_waitsSet 22 = .ok (.iload_n 1, 1) := by decide +kernel
theorem dX12_waitsSet_23 : decode cX12_waitsSet 23 = .ok (.imul, 1) := by decide +kernel
theorem dX12_waitsSet_24 : decode cX12_waitsSet 24 = .ok (.iload_n 3, 1) := by decide +kernel
theorem dX12_waitsSet_25 : decode cX12_waitsSet 25 = .ok (.iadd, 1) := by decide +kernel
theorem dX12_waitsSet_26 : decode cX12_waitsSet 26 = .ok (.iaload, 1) := by decide +kernel
theorem dX12_waitsSet_27 : decode cX12_waitsSet 27 = .ok (.ishl, 1) := by decide +kernel
theorem dX12_waitsSet_28 : decode cX12_waitsSet 28 = .ok (.ior, 1) := by decide +kernel
theorem dX12_waitsSet_29 : decode cX12_waitsSet 29 = .ok (.istore_n 2, 1) := by decide +kernel
theorem dX12_waitsSet_30 : decode cX12_waitsSet 30 = .ok (.iinc 3 1, 3) := by decide +kernel
theorem dX12_waitsSet_33 : decode cX12_waitsSet 33 = .ok (.goto (-29), 3) := by decide +kernel
theorem dX12_later_0 : decode cX12_later 0 = .ok (.iconst 0, 1) := by decide +kernel
theorem dX12_later_1 : decode cX12_later 1 = .ok (.istore_n 1, 1) := by decide +kernel
theorem dX12_later_2 : decode cX12_later 2 = .ok (.iconst 0, 1) := by decide +kernel
theorem dX12_later_3 : decode cX12_later 3 = .ok (.istore_n 2, 1) := by decide +kernel
theorem dX12_later_4 : decode cX12_later 4 = .ok (.iload_n 2, 1) := by decide +kernel
theorem dX12_later_5 : decode cX12_later 5 = .ok (.aload_n 0, 1) := by decide +kernel
theorem dX12_later_6 : decode cX12_later 6 = .ok (.getfield 335, 3) := by decide +kernel
theorem dX12_later_9 : decode cX12_later 9 = .ok (.if_icmp .ge 34, 3) := by decide +kernel
theorem dX12_later_43 : decode cX12_later 43 = .ok (.iload_n 1, 1) := by decide +kernel
theorem dX12_later_44 : decode cX12_later 44 = .ok (.ireturn, 1) := by decide +kernel
theorem dX12_later_12 : decode cX12_later 12 = .ok (.iload_n 1, 1) := by decide +kernel
theorem dX12_later_13 : decode cX12_later 13 = .ok (.aload_n 0, 1) := by decide +kernel
theorem dX12_later_14 : decode cX12_later 14 = .ok (.getfield 117, 3) := by decide +kernel
theorem dX12_later_17 : decode cX12_later 17 = .ok (.iload_n 2, 1) := by decide +kernel
theorem dX12_later_18 : decode cX12_later 18 = .ok (.iaload, 1) := by decide +kernel
theorem dX12_later_19 : decode cX12_later 19 = .ok (.aload_n 0, 1) := by decide +kernel
theorem tw_1487 : (Jvm.Cond.fieldLink "MarshBellsModel" (135 : Nat) "MarshBellsModel" "endsNow" "[I") ∈ lw_tbl := tk_7 (List.mem_of_getElem? (i := 47) rfl)
theorem fl_X12_135 : kFL RX12 135 12 88 64 := ⟨RX12, TX12, rfl, by decide, inWX12, tw_1487⟩
theorem dX12_later_20 : decode cX12_later 20 = .ok (.getfield 135, 3) := by decide +kernel
theorem dX12_later_23 : decode cX12_later 23 = .ok (.iload_n 2, 1) := by decide +kernel
theorem dX12_later_24 : decode cX12_later 24 = .ok (.iaload, 1) := by decide +kernel
theorem dX12_later_25 : decode cX12_later 25 = .ok (.if_icmp .le 9, 3) := by decide +kernel
theorem dX12_later_34 : decode cX12_later 34 = .ok (.iconst 0, 1) := by decide +kernel
theorem dX12_later_28 : decode cX12_later 28 = .ok (.iconst 1, 1) := by decide +kernel
theorem dX12_later_29 : decode cX12_later 29 = .ok (.iload_n 2, 1) := by decide +kernel
theorem dX12_later_30 : decode cX12_later 30 = .ok (.ishl, 1) := by decide +kernel
theorem dX12_later_31 : decode cX12_later 31 = .ok (.goto 4, 3) := by decide +kernel
theorem dX12_later_35 : decode cX12_later 35 = .ok (.ior, 1) := by decide +kernel
theorem dX12_later_36 : decode cX12_later 36 = .ok (.istore_n 1, 1) := by decide +kernel
theorem dX12_later_37 : decode cX12_later 37 = .ok (.iinc 2 1, 3) := by decide +kernel
theorem dX12_later_40 : decode cX12_later 40 = .ok (.goto (-36), 3) := by decide +kernel
set_option maxHeartbeats 4000000 in
set_option maxRecDepth 100000 in
theorem zX12_late_0 (l : Launch) (G : kG) (sz : Nat) (a : Nat → Nat) (g0 : Nat → Nat → Int32) (L0 : Nat → Nat → Int64) (hI : zI MT g0) (p1 : Int32) (hp1 : 0 ≤ p1.toInt ∧ p1.toInt ≤ 11) : kM l yX12_late cX12_late 2 (some .int) { frames := 6, cells := 0, slots := 0, locals := 110 } G [.ref (a 0), .int p1] (zw G MS 51 a g0 L0) sz (kQi G (S := zS) (fun r u => zI MT u.1 ∧ u.1 0 18 = g0 0 18) (fun u => zw G MS 51 a u.1 u.2)) := by
  refine kM.of (by decide) (Nat.le_of_ble_eq_true rfl) ?_
  intro p e s m below meth c A ls H C hr hlk hnm hP hD hS hl
  have C : kC G p s m c cX12_late 2 RX12 A := C
  have hx := C.1
  have hb := C.2.1
  have hl : lv_has ls 2 [(0, .ref (a 0)), (1, .int p1)] := hl
  obtain ⟨w1, k0_0⟩ : ∃ w : Int32, g0 0 18 = w := ⟨_, rfl⟩
  have kz_0 := k0_0
  have kb_0 := hI 0 18 0 700 rfl
  rw [k0_0] at kb_0
  obtain ⟨locs, hlocs⟩ : ∃ q : List Loc, q = [] := ⟨_, rfl⟩
  rw [← hlocs] at hS
  rw [← hlocs]
  refine lv_aload_n hx hb dX12_late_0 rfl (lv_at hl 0 rfl) ?_
  refine x_getr (Or.inl fl_X12_117) C hP (by decide) ms_0 rfl dX12_late_1 ?_
  refine lv_iload_n hx hb dX12_late_4 rfl (lv_at hl 1 rfl) ?_
  refine x_ald C hP (by decide) ms_32 (by omega) (by omega) dX12_late_5 (fun x2 e3 => ?_)
  refine lv_aload_n hx hb dX12_late_6 rfl (lv_at hl 0 rfl) ?_
  refine x_getr (Or.inl fl_X12_20) C hP (by decide) ms_0 rfl dX12_late_7 ?_
  refine lv_iload_n hx hb dX12_late_10 rfl (lv_at hl 1 rfl) ?_
  refine x_ald C hP (by decide) ms_2 (by omega) (by omega) dX12_late_11 (fun x4 e5 => ?_)
  refine lv_isub hx hb dX12_late_12 ?_
  refine x_any (fun x6 => ?_)
  exact x_iret C hr hlk hP hD hS (g0, L0) rfl ⟨hI, (kz_0.trans k0_0.symm)⟩ (Nat.le_of_ble_eq_true rfl) (Nat.le_of_ble_eq_true rfl) dX12_late_13
set_option maxHeartbeats 4000000 in
set_option maxRecDepth 100000 in
theorem zX12_lates_0 (l : Launch) (G : kG) (sz : Nat) (a : Nat → Nat) (g0 : Nat → Nat → Int32) (L0 : Nat → Nat → Int64) (hI : zI MT g0) : kM l yX12_lates cX12_lates 3 (some .int) { frames := 7, cells := 0, slots := 0, locals := 131 } G [.ref (a 0)] (zw G MS 51 a g0 L0) sz (kQi G (S := zS) (fun r u => zI MT u.1 ∧ u.1 0 18 = g0 0 18) (fun u => zw G MS 51 a u.1 u.2)) := by
  refine kM.of (by decide) (Nat.le_of_ble_eq_true rfl) ?_
  intro p e s m below meth c A ls H C hr hlk hnm hP hD hS hl
  have C : kC G p s m c cX12_lates 3 RX12 A := C
  have hx := C.1
  have hb := C.2.1
  have hl : lv_has ls 3 [(0, .ref (a 0))] := hl
  obtain ⟨w1, k0_0⟩ : ∃ w : Int32, g0 0 18 = w := ⟨_, rfl⟩
  have kz_0 := k0_0
  have kb_0 := hI 0 18 0 700 rfl
  rw [k0_0] at kb_0
  obtain ⟨locs, hlocs⟩ : ∃ q : List Loc, q = [] := ⟨_, rfl⟩
  rw [← hlocs] at hS
  rw [← hlocs]
  refine lv_iconst (v := 0) hx hb dX12_lates_0 (by decide) ?_
  refine lv_istore_n (lv' := [(1, .int 0), (0, .ref (a 0))]) hx hb dX12_lates_1 rfl hl (by decide) rfl (fun ls hl => ?_)
  refine lv_iconst (v := 0) hx hb dX12_lates_2 (by decide) ?_
  refine lv_istore_n (lv' := [(2, .int 0), (1, .int 0), (0, .ref (a 0))]) hx hb dX12_lates_3 rfl hl (by decide) rfl (fun ls hl => ?_)
  have lp162 : ∀ fu : Nat, ∀ (x158 : Int32) (x159 : Int32) (g : Nat → Nat → Int32) (L : Nat → Nat → Int64) (H : Heap) (locs : List Loc) (ls : Array Slot), (0 ≤ x159.toInt ∧ x159.toInt ≤ 12) → g 0 18 = w1 → zI MT g → va_P G.1 vwCl (zw G MS 51 a g L) H → va_D A (zw G MS 51 a g L) → va_S A s.heap H locs → lv_has ls 3 [(0, .ref (a 0)), (1, .int x158), (2, .int x159)] → 12 - x159.toInt < (fu : Int) → W p l e { frames := 7, cells := 0, slots := 0, locals := 131 } s m [.ref (a 0)].toArray below meth c H locs 0 0 (MQ below ((kQi G (S := zS) (fun r u => zI MT u.1 ∧ u.1 0 18 = g0 0 18) (fun u => zw G MS 51 a u.1 u.2)) A) [.ref (a 0)].toArray s 0 0 A) (F0 m 4 ls []) := by
    intro fu
    induction fu with
    | zero => intro x158 x159 g L H locs ls b160 kf161 hI hP hD hS hl hm; exact absurd hm (by omega)
    | succ fu ih =>
      intro x158 x159 g L H locs ls b160 kf161 hI hP hD hS hl hm
      have ih163 := ih
      refine lv_iload_n hx hb dX12_lates_4 rfl (lv_at hl 2 rfl) ?_
      refine lv_aload_n hx hb dX12_lates_5 rfl (lv_at hl 0 rfl) ?_
      refine x_getT hI rfl (Or.inl fl_X12_335) C hP (by decide) ms_0 rfl dX12_lates_6 (fun x164 e165 b166 => ?_)
      refine lv_icmp_ge (x := x159) (y := x164) (tgt := 26) hx hb dX12_lates_9 (by decide) (fun c167 => ?_) (fun c167 => ?_)
      ·
        have c167 := icc_le (m := x164.toInt) (n := x159.toInt) rfl rfl c167
        refine lv_iload_n hx hb dX12_lates_26 rfl (lv_at hl 1 rfl) ?_
        exact x_iret C hr hlk hP hD hS (g, L) rfl ⟨hI, (kf161.trans k0_0.symm)⟩ (Nat.le_of_ble_eq_true rfl) (Nat.le_of_ble_eq_true rfl) dX12_lates_27
      ·
        have c167 := icc_nle (m := x164.toInt) (n := x159.toInt) rfl rfl c167
        refine lv_iload_n hx hb dX12_lates_12 rfl (lv_at hl 1 rfl) ?_
        refine lv_aload_n hx hb dX12_lates_13 rfl (lv_at hl 0 rfl) ?_
        refine lv_iload_n hx hb dX12_lates_14 rfl (lv_at hl 2 rfl) ?_
        refine x_callVi (rest := [.int x158]) li_X12_389 C (zX12_late_0 l G H.size a g L hI x159 (by omega)) (kR rfl) hP hD hS 0 12 rfl (zat (by decide) ms_0) rfl hl.1 rfl (Nat.le_of_ble_eq_true rfl) dX12_lates_15 (fun x169 u170 H locs hw168 hP hD hS => ?_)
        obtain ⟨g, L⟩ := u170
        obtain ⟨hI, kk0⟩ := hw168
        have kf161 : g 0 18 = w1 := kk0.trans kf161
        have hI : zI MT g := hI
        have hP : va_P G.1 vwCl (zw G MS 51 a g L) H := hP
        have hD : va_D A (zw G MS 51 a g L) := hD
        refine lv_iadd hx hb dX12_lates_18 ?_
        refine x_any (fun x173 => ?_)
        refine lv_istore_n (lv' := [(1, .int x173), (0, .ref (a 0)), (2, .int x159)]) hx hb dX12_lates_19 rfl hl (by decide) rfl (fun ls hl => ?_)
        obtain ⟨x174, e175q, e175⟩ : ∃ z : Int32, x159 + Int32.ofInt (1) = z ∧ z.toInt = x159.toInt + (1) := ⟨_, rfl, ic_addc rfl (by decide) (by omega) (by omega)⟩
        refine lv_iinc (v := x174) (lv' := [(2, .int x174), (1, .int x173), (0, .ref (a 0))]) hx hb dX12_lates_20 hl (k := 2) rfl e175q (by decide) rfl (fun ls hl => ?_)
        refine lv_goto (tgt := 4) hx hb dX12_lates_23 (by decide) ?_
        exact ih163 x173 x174 g L H locs ls (by omega) kf161 hI hP hD hS (lv_sub hl [2, 1, 0] rfl) (by omega)
  have hc_ : (0 : Int32).toInt = 0 := by decide
  exact lp162 14 0 0 g0 L0 H locs ls (by decide) kz_0 hI hP hD hS (lv_sub hl [2, 1, 0] rfl) (by omega)
set_option maxHeartbeats 4000000 in
set_option maxRecDepth 100000 in
theorem zX12_right_0 (l : Launch) (G : kG) (sz : Nat) (a : Nat → Nat) (g0 : Nat → Nat → Int32) (L0 : Nat → Nat → Int64) (hI : zI MT g0) (p1 : Int32) (p2 : Int32) (hp1 : 0 ≤ p1.toInt ∧ p1.toInt ≤ 1) : kM l yX12_right cX12_right 3 (some .boolean) { frames := 6, cells := 0, slots := 0, locals := 110 } G [.ref (a 0), .int p1, .int p2] (zw G MS 51 a g0 L0) sz (kQi G (S := zS) (fun r u => zI MT u.1 ∧ (0 ≤ r.toInt ∧ r.toInt ≤ 1) ∧ u.1 0 18 = g0 0 18) (fun u => zw G MS 51 a u.1 u.2)) := by
  refine kM.of (by decide) (Nat.le_of_ble_eq_true rfl) ?_
  intro p e s m below meth c A ls H C hr hlk hnm hP hD hS hl
  have C : kC G p s m c cX12_right 3 RX12 A := C
  have hx := C.1
  have hb := C.2.1
  have hl : lv_has ls 3 [(0, .ref (a 0)), (1, .int p1), (2, .int p2)] := hl
  obtain ⟨w1, k0_0⟩ : ∃ w : Int32, g0 0 18 = w := ⟨_, rfl⟩
  have kz_0 := k0_0
  have kb_0 := hI 0 18 0 700 rfl
  rw [k0_0] at kb_0
  obtain ⟨locs, hlocs⟩ : ∃ q : List Loc, q = [] := ⟨_, rfl⟩
  rw [← hlocs] at hS
  rw [← hlocs]
  refine lv_aload_n hx hb dX12_right_0 rfl (lv_at hl 0 rfl) ?_
  refine x_geti (Or.inl fl_X12_177) C hP (by decide) ms_0 rfl dX12_right_1 (fun x2 e3 => ?_)
  have J18 : ∀ (g : Nat → Nat → Int32) (L : Nat → Nat → Int64) (H : Heap) (locs : List Loc) (ls : Array Slot), g 0 18 = w1 → zI MT g → va_P G.1 vwCl (zw G MS 51 a g L) H → va_D A (zw G MS 51 a g L) → va_S A s.heap H locs → lv_has ls 3 [(0, .ref (a 0))] → W p l e { frames := 6, cells := 0, slots := 0, locals := 110 } s m [.ref (a 0), .int p1, .int p2].toArray below meth c H locs 0 0 (MQ below ((kQi G (S := zS) (fun r u => zI MT u.1 ∧ (0 ≤ r.toInt ∧ r.toInt ≤ 1) ∧ u.1 0 18 = g0 0 18) (fun u => zw G MS 51 a u.1 u.2)) A) [.ref (a 0), .int p1, .int p2].toArray s 0 0 A) (F0 m 16 ls []) := by
    intro g L H locs ls kf19 hI hP hD hS hl
    refine lv_aload_n hx hb dX12_right_16 rfl (lv_at hl 0 rfl) ?_
    refine x_geti (Or.inl fl_X12_177) C hP (by decide) ms_0 rfl dX12_right_17 (fun x20 e21 => ?_)
    have J26 : ∀ (x27 : Int32) (g : Nat → Nat → Int32) (L : Nat → Nat → Int64) (H : Heap) (locs : List Loc) (ls : Array Slot), (0 ≤ x27.toInt ∧ x27.toInt ≤ 1) → g 0 18 = w1 → zI MT g → va_P G.1 vwCl (zw G MS 51 a g L) H → va_D A (zw G MS 51 a g L) → va_S A s.heap H locs → lv_has ls 3 [] → W p l e { frames := 6, cells := 0, slots := 0, locals := 110 } s m [.ref (a 0), .int p1, .int p2].toArray below meth c H locs 0 0 (MQ below ((kQi G (S := zS) (fun r u => zI MT u.1 ∧ (0 ≤ r.toInt ∧ r.toInt ≤ 1) ∧ u.1 0 18 = g0 0 18) (fun u => zw G MS 51 a u.1 u.2)) A) [.ref (a 0), .int p1, .int p2].toArray s 0 0 A) (F0 m 28 ls [.int x27]) := by
      intro x27 g L H locs ls b28 kf29 hI hP hD hS hl
      exact x_zret C hr hlk (z_bool (by omega)) hP hD hS (g, L) rfl ⟨hI, by omega, (kf29.trans k0_0.symm)⟩ (Nat.le_of_ble_eq_true rfl) (Nat.le_of_ble_eq_true rfl) dX12_right_28
    refine lv_if_ne (x := x20) (tgt := 27) hx hb dX12_right_20 (by decide) (fun c30 => ?_) (fun c30 => ?_)
    ·
      have c30 := icc_neq (m := x20.toInt) (n := 0) rfl (by decide) c30
      refine lv_iconst (v := 0) hx hb dX12_right_27 (by decide) ?_
      exact J26 0 g L H locs ls (by decide) kf19 hI hP hD hS (lv_sub hl [] rfl)
    ·
      have c30 := icc_eq (m := x20.toInt) (n := 0) rfl (by decide) c30
      refine lv_iconst (v := 1) hx hb dX12_right_23 (by decide) ?_
      refine lv_goto (tgt := 28) hx hb dX12_right_24 (by decide) ?_
      exact J26 1 g L H locs ls (by decide) kf19 hI hP hD hS (lv_sub hl [] rfl)
  refine lv_if_ne (x := x2) (tgt := 16) hx hb dX12_right_4 (by decide) (fun c31 => ?_) (fun c31 => ?_)
  ·
    have c31 := icc_neq (m := x2.toInt) (n := 0) rfl (by decide) c31
    exact J18 g0 L0 H locs ls kz_0 hI hP hD hS (lv_sub hl [0] rfl)
  ·
    have c31 := icc_eq (m := x2.toInt) (n := 0) rfl (by decide) c31
    refine lv_iload_n hx hb dX12_right_7 rfl (lv_at hl 1 rfl) ?_
    refine lv_if_ne (x := p1) (tgt := 16) hx hb dX12_right_8 (by decide) (fun c32 => ?_) (fun c32 => ?_)
    ·
      have c32 := icc_neq (m := p1.toInt) (n := 0) rfl (by decide) c32
      exact J18 g0 L0 H locs ls kz_0 hI hP hD hS (lv_sub hl [0] rfl)
    ·
      have c32 := icc_eq (m := p1.toInt) (n := 0) rfl (by decide) c32
      refine lv_aload_n hx hb dX12_right_11 rfl (lv_at hl 0 rfl) ?_
      refine lv_iload_n hx hb dX12_right_12 rfl (lv_at hl 2 rfl) ?_
      refine x_puti (hI.updN rfl) (Or.inl fl_X12_177) ft_X12_0 C hP hD hS (by decide) ms_0 rfl rfl rfl dX12_right_13 (fun g H locs eg hI hP hD hS => ?_)
      have kz_0 : g 0 18 = w1 := by rw [eg]; exact kz_0
      exact J18 g L0 H locs ls kz_0 hI hP hD hS (lv_sub hl [0] rfl)
set_option maxHeartbeats 4000000 in
set_option maxRecDepth 100000 in
theorem zX12_isLesson_0 (l : Launch) (G : kG) (sz : Nat) (a : Nat → Nat) (g0 : Nat → Nat → Int32) (L0 : Nat → Nat → Int64) (hI : zI MT g0) (p1 : Int32) : kM l yX12_isLesson cX12_isLesson 2 (some .boolean) { frames := 7, cells := 0, slots := 0, locals := 132 } G [.ref (a 0), .int p1] (zw G MS 51 a g0 L0) sz (kQi G (S := zS) (fun r u => zI MT u.1 ∧ (0 ≤ r.toInt ∧ r.toInt ≤ 1) ∧ u.1 0 18 = g0 0 18) (fun u => zw G MS 51 a u.1 u.2)) := by
  refine kM.of (by decide) (Nat.le_of_ble_eq_true rfl) ?_
  intro p e s m below meth c A ls H C hr hlk hnm hP hD hS hl
  have C : kC G p s m c cX12_isLesson 2 RX12 A := C
  have hx := C.1
  have hb := C.2.1
  have hl : lv_has ls 2 [(0, .ref (a 0)), (1, .int p1)] := hl
  obtain ⟨w1, k0_0⟩ : ∃ w : Int32, g0 0 18 = w := ⟨_, rfl⟩
  have kz_0 := k0_0
  have kb_0 := hI 0 18 0 700 rfl
  rw [k0_0] at kb_0
  obtain ⟨locs, hlocs⟩ : ∃ q : List Loc, q = [] := ⟨_, rfl⟩
  rw [← hlocs] at hS
  rw [← hlocs]
  refine lv_aload_n hx hb dX12_isLesson_0 rfl (lv_at hl 0 rfl) ?_
  refine lv_iload_n hx hb dX12_isLesson_1 rfl (lv_at hl 1 rfl) ?_
  have J16 : ∀ (x17 : Int32) (g : Nat → Nat → Int32) (L : Nat → Nat → Int64) (H : Heap) (locs : List Loc) (ls : Array Slot), (0 ≤ x17.toInt ∧ x17.toInt ≤ 1) → g 0 18 = w1 → zI MT g → va_P G.1 vwCl (zw G MS 51 a g L) H → va_D A (zw G MS 51 a g L) → va_S A s.heap H locs → lv_has ls 2 [] → W p l e { frames := 7, cells := 0, slots := 0, locals := 132 } s m [.ref (a 0), .int p1].toArray below meth c H locs 0 0 (MQ below ((kQi G (S := zS) (fun r u => zI MT u.1 ∧ (0 ≤ r.toInt ∧ r.toInt ≤ 1) ∧ u.1 0 18 = g0 0 18) (fun u => zw G MS 51 a u.1 u.2)) A) [.ref (a 0), .int p1].toArray s 0 0 A) (F0 m 18 ls [.int x17, .ref (a 0)]) := by
    intro x17 g L H locs ls b18 kf19 hI hP hD hS hl
    refine lv_iconst (v := 1) hx hb dX12_isLesson_18 (by decide) ?_
    refine x_callVi (rest := []) li_X12_328 C (zX12_right_0 l G H.size a g L hI x17 1 (by omega)) (kR rfl) hP hD hS 0 12 rfl (zat (by decide) ms_0) rfl hl.1 rfl (Nat.le_of_ble_eq_true rfl) dX12_isLesson_19 (fun x21 u22 H locs hw20 hP hD hS => ?_)
    obtain ⟨g, L⟩ := u22
    obtain ⟨hI, b23, kk0⟩ := hw20
    have kf19 : g 0 18 = w1 := kk0.trans kf19
    have hI : zI MT g := hI
    have hP : va_P G.1 vwCl (zw G MS 51 a g L) H := hP
    have hD : va_D A (zw G MS 51 a g L) := hD
    exact x_zret C hr hlk (z_bool (by omega)) hP hD hS (g, L) rfl ⟨hI, by omega, (kf19.trans k0_0.symm)⟩ (Nat.le_of_ble_eq_true rfl) (Nat.le_of_ble_eq_true rfl) dX12_isLesson_22
  have J25 : ∀ (g : Nat → Nat → Int32) (L : Nat → Nat → Int64) (H : Heap) (locs : List Loc) (ls : Array Slot), g 0 18 = w1 → zI MT g → va_P G.1 vwCl (zw G MS 51 a g L) H → va_D A (zw G MS 51 a g L) → va_S A s.heap H locs → lv_has ls 2 [] → W p l e { frames := 7, cells := 0, slots := 0, locals := 132 } s m [.ref (a 0), .int p1].toArray below meth c H locs 0 0 (MQ below ((kQi G (S := zS) (fun r u => zI MT u.1 ∧ (0 ≤ r.toInt ∧ r.toInt ≤ 1) ∧ u.1 0 18 = g0 0 18) (fun u => zw G MS 51 a u.1 u.2)) A) [.ref (a 0), .int p1].toArray s 0 0 A) (F0 m 17 ls [.ref (a 0)]) := by
    intro g L H locs ls kf26 hI hP hD hS hl
    refine lv_iconst (v := 0) hx hb dX12_isLesson_17 (by decide) ?_
    exact J16 0 g L H locs ls (by decide) kf26 hI hP hD hS (lv_sub hl [] rfl)
  refine lv_if_lt (x := p1) (tgt := 17) hx hb dX12_isLesson_2 (by decide) (fun c27 => ?_) (fun c27 => ?_)
  ·
    have c27 := icc_lt (m := p1.toInt) (n := 0) rfl (by decide) c27
    exact J25 g0 L0 H locs ls kz_0 hI hP hD hS (lv_sub hl [] rfl)
  ·
    have c27 := icc_nlt (m := p1.toInt) (n := 0) rfl (by decide) c27
    refine lv_iload_n hx hb dX12_isLesson_5 rfl (lv_at hl 1 rfl) ?_
    refine lv_aload_n hx hb dX12_isLesson_6 rfl (lv_at hl 0 rfl) ?_
    refine x_getT hI rfl (Or.inl fl_X12_335) C hP (by decide) ms_0 rfl dX12_isLesson_7 (fun x28 e29 b30 => ?_)
    refine lv_icmp_ge (x := p1) (y := x28) (tgt := 17) hx hb dX12_isLesson_10 (by decide) (fun c31 => ?_) (fun c31 => ?_)
    ·
      have c31 := icc_le (m := x28.toInt) (n := p1.toInt) rfl rfl c31
      exact J25 g0 L0 H locs ls kz_0 hI hP hD hS (lv_sub hl [] rfl)
    ·
      have c31 := icc_nle (m := x28.toInt) (n := p1.toInt) rfl rfl c31
      refine lv_iconst (v := 1) hx hb dX12_isLesson_13 (by decide) ?_
      refine lv_goto (tgt := 18) hx hb dX12_isLesson_14 (by decide) ?_
      exact J16 1 g0 L0 H locs ls (by decide) kz_0 hI hP hD hS (lv_sub hl [] rfl)
set_option maxHeartbeats 4000000 in
set_option maxRecDepth 100000 in
theorem zX12_within (l : Launch) (G : kG) (sz : Nat) (a : Nat → Nat) (g0 : Nat → Nat → Int32) (L0 : Nat → Nat → Int64) (hI : zI MT g0) (p1 : Int32) (p2 : Int32) (p3 : Int32) : kM l yX12_within cX12_within 3 (some .boolean) { frames := 6, cells := 0, slots := 0, locals := 110 } G [.int p1, .int p2, .int p3] (zw G MS 51 a g0 L0) sz (kQi G (S := zS) (fun r u => zI MT u.1 ∧ (0 ≤ r.toInt ∧ r.toInt ≤ 1) ∧ u.1 0 18 = g0 0 18) (fun u => zw G MS 51 a u.1 u.2)) := by
  refine kM.of (by decide) (Nat.le_of_ble_eq_true rfl) ?_
  intro p e s m below meth c A ls H C hr hlk hnm hP hD hS hl
  have C : kC G p s m c cX12_within 3 RX12 A := C
  have hx := C.1
  have hb := C.2.1
  have hl : lv_has ls 3 [(0, .int p1), (1, .int p2), (2, .int p3)] := hl
  obtain ⟨w1, k0_0⟩ : ∃ w : Int32, g0 0 18 = w := ⟨_, rfl⟩
  have kz_0 := k0_0
  have kb_0 := hI 0 18 0 700 rfl
  rw [k0_0] at kb_0
  obtain ⟨locs, hlocs⟩ : ∃ q : List Loc, q = [] := ⟨_, rfl⟩
  rw [← hlocs] at hS
  rw [← hlocs]
  refine lv_iload_n hx hb dX12_within_0 rfl (lv_at hl 0 rfl) ?_
  refine lv_iload_n hx hb dX12_within_1 rfl (lv_at hl 1 rfl) ?_
  have J8 : ∀ (x9 : Int32) (g : Nat → Nat → Int32) (L : Nat → Nat → Int64) (H : Heap) (locs : List Loc) (ls : Array Slot), (0 ≤ x9.toInt ∧ x9.toInt ≤ 1) → g 0 18 = w1 → zI MT g → va_P G.1 vwCl (zw G MS 51 a g L) H → va_D A (zw G MS 51 a g L) → va_S A s.heap H locs → lv_has ls 3 [] → W p l e { frames := 6, cells := 0, slots := 0, locals := 110 } s m [.int p1, .int p2, .int p3].toArray below meth c H locs 0 0 (MQ below ((kQi G (S := zS) (fun r u => zI MT u.1 ∧ (0 ≤ r.toInt ∧ r.toInt ≤ 1) ∧ u.1 0 18 = g0 0 18) (fun u => zw G MS 51 a u.1 u.2)) A) [.int p1, .int p2, .int p3].toArray s 0 0 A) (F0 m 15 ls [.int x9]) := by
    intro x9 g L H locs ls b10 kf11 hI hP hD hS hl
    exact x_zret C hr hlk (z_bool (by omega)) hP hD hS (g, L) rfl ⟨hI, by omega, (kf11.trans k0_0.symm)⟩ (Nat.le_of_ble_eq_true rfl) (Nat.le_of_ble_eq_true rfl) dX12_within_15
  have J12 : ∀ (g : Nat → Nat → Int32) (L : Nat → Nat → Int64) (H : Heap) (locs : List Loc) (ls : Array Slot), g 0 18 = w1 → zI MT g → va_P G.1 vwCl (zw G MS 51 a g L) H → va_D A (zw G MS 51 a g L) → va_S A s.heap H locs → lv_has ls 3 [] → W p l e { frames := 6, cells := 0, slots := 0, locals := 110 } s m [.int p1, .int p2, .int p3].toArray below meth c H locs 0 0 (MQ below ((kQi G (S := zS) (fun r u => zI MT u.1 ∧ (0 ≤ r.toInt ∧ r.toInt ≤ 1) ∧ u.1 0 18 = g0 0 18) (fun u => zw G MS 51 a u.1 u.2)) A) [.int p1, .int p2, .int p3].toArray s 0 0 A) (F0 m 14 ls []) := by
    intro g L H locs ls kf13 hI hP hD hS hl
    refine lv_iconst (v := 0) hx hb dX12_within_14 (by decide) ?_
    exact J8 0 g L H locs ls (by decide) kf13 hI hP hD hS (lv_sub hl [] rfl)
  refine lv_icmp_lt (x := p1) (y := p2) (tgt := 14) hx hb dX12_within_2 (by decide) (fun c14 => ?_) (fun c14 => ?_)
  ·
    have c14 := icc_lt (m := p1.toInt) (n := p2.toInt) rfl rfl c14
    exact J12 g0 L0 H locs ls kz_0 hI hP hD hS (lv_sub hl [] rfl)
  ·
    have c14 := icc_nlt (m := p1.toInt) (n := p2.toInt) rfl rfl c14
    refine lv_iload_n hx hb dX12_within_5 rfl (lv_at hl 0 rfl) ?_
    refine lv_iload_n hx hb dX12_within_6 rfl (lv_at hl 2 rfl) ?_
    refine lv_icmp_gt (x := p1) (y := p3) (tgt := 14) hx hb dX12_within_7 (by decide) (fun c15 => ?_) (fun c15 => ?_)
    ·
      have c15 := icc_lt (m := p3.toInt) (n := p1.toInt) rfl rfl c15
      exact J12 g0 L0 H locs ls kz_0 hI hP hD hS (lv_sub hl [] rfl)
    ·
      have c15 := icc_nlt (m := p3.toInt) (n := p1.toInt) rfl rfl c15
      refine lv_iconst (v := 1) hx hb dX12_within_10 (by decide) ?_
      refine lv_goto (tgt := 15) hx hb dX12_within_11 (by decide) ?_
      exact J8 1 g0 L0 H locs ls (by decide) kz_0 hI hP hD hS (lv_sub hl [] rfl)
set_option maxHeartbeats 4000000 in
set_option maxRecDepth 100000 in
theorem zX12_isWhat_0 (l : Launch) (G : kG) (sz : Nat) (a : Nat → Nat) (g0 : Nat → Nat → Int32) (L0 : Nat → Nat → Int64) (hI : zI MT g0) (p1 : Int32) (p2 : Int32) : kM l yX12_isWhat cX12_isWhat 3 (some .boolean) { frames := 7, cells := 0, slots := 0, locals := 132 } G [.ref (a 0), .int p1, .int p2] (zw G MS 51 a g0 L0) sz (kQi G (S := zS) (fun r u => zI MT u.1 ∧ (0 ≤ r.toInt ∧ r.toInt ≤ 1) ∧ u.1 0 18 = g0 0 18) (fun u => zw G MS 51 a u.1 u.2)) := by
  refine kM.of (by decide) (Nat.le_of_ble_eq_true rfl) ?_
  intro p e s m below meth c A ls H C hr hlk hnm hP hD hS hl
  have C : kC G p s m c cX12_isWhat 3 RX12 A := C
  have hx := C.1
  have hb := C.2.1
  have hl : lv_has ls 3 [(0, .ref (a 0)), (1, .int p1), (2, .int p2)] := hl
  obtain ⟨w1, k0_0⟩ : ∃ w : Int32, g0 0 18 = w := ⟨_, rfl⟩
  have kz_0 := k0_0
  have kb_0 := hI 0 18 0 700 rfl
  rw [k0_0] at kb_0
  obtain ⟨locs, hlocs⟩ : ∃ q : List Loc, q = [] := ⟨_, rfl⟩
  rw [← hlocs] at hS
  rw [← hlocs]
  refine lv_aload_n hx hb dX12_isWhat_0 rfl (lv_at hl 0 rfl) ?_
  refine lv_iload_n hx hb dX12_isWhat_1 rfl (lv_at hl 1 rfl) ?_
  refine lv_iconst (v := 0) hx hb dX12_isWhat_2 (by decide) ?_
  refine lv_iload_n hx hb dX12_isWhat_3 rfl (lv_at hl 2 rfl) ?_
  refine x_callSi (rest := [.ref (a 0)]) li_X12_392 C (zX12_within l G H.size a g0 L0 hI p1 0 p2) (kR rfl) hP hD hS rfl hl.1 rfl (Nat.le_of_ble_eq_true rfl) dX12_isWhat_4 (fun x3 u4 H locs hw2 hP hD hS => ?_)
  obtain ⟨g, L⟩ := u4
  obtain ⟨hI, b5, kk0⟩ := hw2
  have kz_0 : g 0 18 = w1 := kk0.trans kz_0
  have hI : zI MT g := hI
  have hP : va_P G.1 vwCl (zw G MS 51 a g L) H := hP
  have hD : va_D A (zw G MS 51 a g L) := hD
  refine lv_iconst (v := 1) hx hb dX12_isWhat_7 (by decide) ?_
  refine x_callVi (rest := []) li_X12_328 C (zX12_right_0 l G H.size a g L hI x3 1 (by omega)) (kR rfl) hP hD hS 0 12 rfl (zat (by decide) ms_0) rfl hl.1 rfl (Nat.le_of_ble_eq_true rfl) dX12_isWhat_8 (fun x8 u9 H locs hw7 hP hD hS => ?_)
  obtain ⟨g, L⟩ := u9
  obtain ⟨hI, b10, kk0⟩ := hw7
  have kz_0 : g 0 18 = w1 := kk0.trans kz_0
  have hI : zI MT g := hI
  have hP : va_P G.1 vwCl (zw G MS 51 a g L) H := hP
  have hD : va_D A (zw G MS 51 a g L) := hD
  exact x_zret C hr hlk (z_bool (by omega)) hP hD hS (g, L) rfl ⟨hI, by omega, (kz_0.trans k0_0.symm)⟩ (Nat.le_of_ble_eq_true rfl) (Nat.le_of_ble_eq_true rfl) dX12_isWhat_11
set_option maxHeartbeats 4000000 in
set_option maxRecDepth 100000 in
theorem zX12_off (l : Launch) (G : kG) (sz : Nat) (a : Nat → Nat) (g0 : Nat → Nat → Int32) (L0 : Nat → Nat → Int64) (hI : zI MT g0) (p1 : Int32) (p2 : Int32) : kM l yX12_off cX12_off 2 (some .int) { frames := 6, cells := 0, slots := 0, locals := 110 } G [.int p1, .int p2] (zw G MS 51 a g0 L0) sz (kQi G (S := zS) (fun r u => zI MT u.1 ∧ u.1 0 18 = g0 0 18) (fun u => zw G MS 51 a u.1 u.2)) := by
  refine kM.of (by decide) (Nat.le_of_ble_eq_true rfl) ?_
  intro p e s m below meth c A ls H C hr hlk hnm hP hD hS hl
  have C : kC G p s m c cX12_off 2 RX12 A := C
  have hx := C.1
  have hb := C.2.1
  have hl : lv_has ls 2 [(0, .int p1), (1, .int p2)] := hl
  obtain ⟨w1, k0_0⟩ : ∃ w : Int32, g0 0 18 = w := ⟨_, rfl⟩
  have kz_0 := k0_0
  have kb_0 := hI 0 18 0 700 rfl
  rw [k0_0] at kb_0
  obtain ⟨locs, hlocs⟩ : ∃ q : List Loc, q = [] := ⟨_, rfl⟩
  rw [← hlocs] at hS
  rw [← hlocs]
  refine lv_iload_n hx hb dX12_off_0 rfl (lv_at hl 0 rfl) ?_
  refine lv_iload_n hx hb dX12_off_1 rfl (lv_at hl 1 rfl) ?_
  have J7 : ∀ (x8 : Int32) (g : Nat → Nat → Int32) (L : Nat → Nat → Int64) (H : Heap) (locs : List Loc) (ls : Array Slot), g 0 18 = w1 → zI MT g → va_P G.1 vwCl (zw G MS 51 a g L) H → va_D A (zw G MS 51 a g L) → va_S A s.heap H locs → lv_has ls 2 [] → W p l e { frames := 6, cells := 0, slots := 0, locals := 110 } s m [.int p1, .int p2].toArray below meth c H locs 0 0 (MQ below ((kQi G (S := zS) (fun r u => zI MT u.1 ∧ u.1 0 18 = g0 0 18) (fun u => zw G MS 51 a u.1 u.2)) A) [.int p1, .int p2].toArray s 0 0 A) (F0 m 14 ls [.int x8]) := by
    intro x8 g L H locs ls kf9 hI hP hD hS hl
    exact x_iret C hr hlk hP hD hS (g, L) rfl ⟨hI, (kf9.trans k0_0.symm)⟩ (Nat.le_of_ble_eq_true rfl) (Nat.le_of_ble_eq_true rfl) dX12_off_14
  refine lv_icmp_ge (x := p1) (y := p2) (tgt := 11) hx hb dX12_off_2 (by decide) (fun c10 => ?_) (fun c10 => ?_)
  ·
    have c10 := icc_le (m := p2.toInt) (n := p1.toInt) rfl rfl c10
    refine lv_iload_n hx hb dX12_off_11 rfl (lv_at hl 0 rfl) ?_
    refine lv_iload_n hx hb dX12_off_12 rfl (lv_at hl 1 rfl) ?_
    refine lv_isub hx hb dX12_off_13 ?_
    refine x_any (fun x11 => ?_)
    exact J7 x11 g0 L0 H locs ls kz_0 hI hP hD hS (lv_sub hl [] rfl)
  ·
    have c10 := icc_nle (m := p2.toInt) (n := p1.toInt) rfl rfl c10
    refine lv_iload_n hx hb dX12_off_5 rfl (lv_at hl 1 rfl) ?_
    refine lv_iload_n hx hb dX12_off_6 rfl (lv_at hl 0 rfl) ?_
    refine lv_isub hx hb dX12_off_7 ?_
    refine x_any (fun x12 => ?_)
    refine lv_goto (tgt := 14) hx hb dX12_off_8 (by decide) ?_
    exact J7 x12 g0 L0 H locs ls kz_0 hI hP hD hS (lv_sub hl [] rfl)
set_option maxHeartbeats 4000000 in
set_option maxRecDepth 100000 in
theorem zX12_isStair (l : Launch) (G : kG) (sz : Nat) (a : Nat → Nat) (g0 : Nat → Nat → Int32) (L0 : Nat → Nat → Int64) (hI : zI MT g0) (p1 : Int32) (p2 : Int32) : kM l yX12_isStair cX12_isStair 2 (some .boolean) { frames := 6, cells := 0, slots := 0, locals := 110 } G [.int p1, .int p2] (zw G MS 51 a g0 L0) sz (kQi G (S := zS) (fun r u => zI MT u.1 ∧ (0 ≤ r.toInt ∧ r.toInt ≤ 1) ∧ u.1 0 18 = g0 0 18) (fun u => zw G MS 51 a u.1 u.2)) := by
  refine kM.of (by decide) (Nat.le_of_ble_eq_true rfl) ?_
  intro p e s m below meth c A ls H C hr hlk hnm hP hD hS hl
  have C : kC G p s m c cX12_isStair 2 RX12 A := C
  have hx := C.1
  have hb := C.2.1
  have hl : lv_has ls 2 [(0, .int p1), (1, .int p2)] := hl
  obtain ⟨w1, k0_0⟩ : ∃ w : Int32, g0 0 18 = w := ⟨_, rfl⟩
  have kz_0 := k0_0
  have kb_0 := hI 0 18 0 700 rfl
  rw [k0_0] at kb_0
  obtain ⟨locs, hlocs⟩ : ∃ q : List Loc, q = [] := ⟨_, rfl⟩
  rw [← hlocs] at hS
  rw [← hlocs]
  refine lv_iload_n hx hb dX12_isStair_0 rfl (lv_at hl 0 rfl) ?_
  refine lv_iconst (v := 5) hx hb dX12_isStair_1 (by decide) ?_
  have J33 : ∀ (x34 : Int32) (g : Nat → Nat → Int32) (L : Nat → Nat → Int64) (H : Heap) (locs : List Loc) (ls : Array Slot), (0 ≤ x34.toInt ∧ x34.toInt ≤ 1) → g 0 18 = w1 → zI MT g → va_P G.1 vwCl (zw G MS 51 a g L) H → va_D A (zw G MS 51 a g L) → va_S A s.heap H locs → lv_has ls 2 [(1, .int p2)] → W p l e { frames := 6, cells := 0, slots := 0, locals := 110 } s m [.int p1, .int p2].toArray below meth c H locs 0 0 (MQ below ((kQi G (S := zS) (fun r u => zI MT u.1 ∧ (0 ≤ r.toInt ∧ r.toInt ≤ 1) ∧ u.1 0 18 = g0 0 18) (fun u => zw G MS 51 a u.1 u.2)) A) [.int p1, .int p2].toArray s 0 0 A) (F0 m 10 ls [.int x34]) := by
    intro x34 g L H locs ls b35 kf36 hI hP hD hS hl
    refine lv_iload_n hx hb dX12_isStair_10 rfl (lv_at hl 0 rfl) ?_
    refine lv_iconst (v := 5) hx hb dX12_isStair_11 (by decide) ?_
    have J50 : ∀ (x51 : Int32) (g : Nat → Nat → Int32) (L : Nat → Nat → Int64) (H : Heap) (locs : List Loc) (ls : Array Slot), (0 ≤ x51.toInt ∧ x51.toInt ≤ 1) → g 0 18 = w1 → zI MT g → va_P G.1 vwCl (zw G MS 51 a g L) H → va_D A (zw G MS 51 a g L) → va_S A s.heap H locs → lv_has ls 2 [] → W p l e { frames := 6, cells := 0, slots := 0, locals := 110 } s m [.int p1, .int p2].toArray below meth c H locs 0 0 (MQ below ((kQi G (S := zS) (fun r u => zI MT u.1 ∧ (0 ≤ r.toInt ∧ r.toInt ≤ 1) ∧ u.1 0 18 = g0 0 18) (fun u => zw G MS 51 a u.1 u.2)) A) [.int p1, .int p2].toArray s 0 0 A) (F0 m 20 ls [.int x51, .int x34]) := by
      intro x51 g L H locs ls b52 kf53 hI hP hD hS hl
      have J58 : ∀ (x59 : Int32) (g : Nat → Nat → Int32) (L : Nat → Nat → Int64) (H : Heap) (locs : List Loc) (ls : Array Slot), (0 ≤ x59.toInt ∧ x59.toInt ≤ 1) → g 0 18 = w1 → zI MT g → va_P G.1 vwCl (zw G MS 51 a g L) H → va_D A (zw G MS 51 a g L) → va_S A s.heap H locs → lv_has ls 2 [] → W p l e { frames := 6, cells := 0, slots := 0, locals := 110 } s m [.int p1, .int p2].toArray below meth c H locs 0 0 (MQ below ((kQi G (S := zS) (fun r u => zI MT u.1 ∧ (0 ≤ r.toInt ∧ r.toInt ≤ 1) ∧ u.1 0 18 = g0 0 18) (fun u => zw G MS 51 a u.1 u.2)) A) [.int p1, .int p2].toArray s 0 0 A) (F0 m 28 ls [.int x59]) := by
        intro x59 g L H locs ls b60 kf61 hI hP hD hS hl
        exact x_zret C hr hlk (z_bool (by omega)) hP hD hS (g, L) rfl ⟨hI, by omega, (kf61.trans k0_0.symm)⟩ (Nat.le_of_ble_eq_true rfl) (Nat.le_of_ble_eq_true rfl) dX12_isStair_28
      refine lv_icmp_eq (x := x34) (y := x51) (tgt := 27) hx hb dX12_isStair_20 (by decide) (fun c62 => ?_) (fun c62 => ?_)
      ·
        have c62 := icc_eq (m := x34.toInt) (n := x51.toInt) rfl rfl c62
        refine lv_iconst (v := 0) hx hb dX12_isStair_27 (by decide) ?_
        exact J58 0 g L H locs ls (by decide) kf53 hI hP hD hS (lv_sub hl [] rfl)
      ·
        have c62 := icc_neq (m := x34.toInt) (n := x51.toInt) rfl rfl c62
        refine lv_iconst (v := 1) hx hb dX12_isStair_23 (by decide) ?_
        refine lv_goto (tgt := 28) hx hb dX12_isStair_24 (by decide) ?_
        exact J58 1 g L H locs ls (by decide) kf53 hI hP hD hS (lv_sub hl [] rfl)
    refine lv_icmp_ge (x := p2) (y := 5) (tgt := 19) hx hb dX12_isStair_12 (by decide) (fun c63 => ?_) (fun c63 => ?_)
    ·
      have c63 := icc_le (m := 5) (n := p2.toInt) (by decide) rfl c63
      refine lv_iconst (v := 0) hx hb dX12_isStair_19 (by decide) ?_
      exact J50 0 g L H locs ls (by decide) kf36 hI hP hD hS (lv_sub hl [] rfl)
    ·
      have c63 := icc_nle (m := 5) (n := p2.toInt) (by decide) rfl c63
      refine lv_iconst (v := 1) hx hb dX12_isStair_15 (by decide) ?_
      refine lv_goto (tgt := 20) hx hb dX12_isStair_16 (by decide) ?_
      exact J50 1 g L H locs ls (by decide) kf36 hI hP hD hS (lv_sub hl [] rfl)
  refine lv_icmp_ge (x := p1) (y := 5) (tgt := 9) hx hb dX12_isStair_2 (by decide) (fun c64 => ?_) (fun c64 => ?_)
  ·
    have c64 := icc_le (m := 5) (n := p1.toInt) (by decide) rfl c64
    refine lv_iconst (v := 0) hx hb dX12_isStair_9 (by decide) ?_
    exact J33 0 g0 L0 H locs ls (by decide) kz_0 hI hP hD hS (lv_sub hl [1] rfl)
  ·
    have c64 := icc_nle (m := 5) (n := p1.toInt) (by decide) rfl c64
    refine lv_iconst (v := 1) hx hb dX12_isStair_5 (by decide) ?_
    refine lv_goto (tgt := 10) hx hb dX12_isStair_6 (by decide) ?_
    exact J33 1 g0 L0 H locs ls (by decide) kz_0 hI hP hD hS (lv_sub hl [1] rfl)
set_option maxHeartbeats 4000000 in
set_option maxRecDepth 100000 in
theorem zX12_way_0 (l : Launch) (G : kG) (sz : Nat) (a : Nat → Nat) (g0 : Nat → Nat → Int32) (L0 : Nat → Nat → Int64) (hI : zI MT g0) (p1 : Int32) (p2 : Int32) (hp1 : 0 ≤ p1.toInt ∧ p1.toInt ≤ 11) (hp2 : 0 ≤ p2.toInt ∧ p2.toInt ≤ 11) : kM l yX12_way cX12_way 5 (some .int) { frames := 7, cells := 0, slots := 0, locals := 131 } G [.ref (a 0), .int p1, .int p2] (zw G MS 51 a g0 L0) sz (kQi G (S := zS) (fun r u => zI MT u.1 ∧ u.1 0 18 = g0 0 18) (fun u => zw G MS 51 a u.1 u.2)) := by
  refine kM.of (by decide) (Nat.le_of_ble_eq_true rfl) ?_
  intro p e s m below meth c A ls H C hr hlk hnm hP hD hS hl
  have C : kC G p s m c cX12_way 5 RX12 A := C
  have hx := C.1
  have hb := C.2.1
  have hl : lv_has ls 5 [(0, .ref (a 0)), (1, .int p1), (2, .int p2)] := hl
  obtain ⟨w1, k0_0⟩ : ∃ w : Int32, g0 0 18 = w := ⟨_, rfl⟩
  have kz_0 := k0_0
  have kb_0 := hI 0 18 0 700 rfl
  rw [k0_0] at kb_0
  obtain ⟨locs, hlocs⟩ : ∃ q : List Loc, q = [] := ⟨_, rfl⟩
  rw [← hlocs] at hS
  rw [← hlocs]
  refine lv_aload_n hx hb dX12_way_0 rfl (lv_at hl 0 rfl) ?_
  refine x_getr (Or.inl fl_X12_50) C hP (by decide) ms_0 rfl dX12_way_1 ?_
  refine lv_bipush (v := 24) hx hb dX12_way_4 (by decide) ?_
  refine lv_iload_n hx hb dX12_way_6 rfl (lv_at hl 1 rfl) ?_
  refine lv_iadd hx hb dX12_way_7 ?_
  refine x_val (ic_addc (m := 24) (n := p1.toInt) (by decide) rfl (by omega) (by omega)) (fun x2 e3 => ?_)
  refine x_ald C hP (by decide) ms_12 (by omega) (by omega) dX12_way_8 (fun x4 e5 => ?_)
  refine lv_istore_n (lv' := [(3, .int x4), (0, .ref (a 0)), (1, .int p1), (2, .int p2)]) hx hb dX12_way_9 rfl hl (by decide) rfl (fun ls hl => ?_)
  refine lv_aload_n hx hb dX12_way_10 rfl (lv_at hl 1 rfl) ?_
  refine x_getr (Or.inl fl_X12_50) C hP (by decide) ms_0 rfl dX12_way_11 ?_
  refine lv_bipush (v := 24) hx hb dX12_way_14 (by decide) ?_
  refine lv_iload_n hx hb dX12_way_16 rfl (lv_at hl 3 rfl) ?_
  refine lv_iadd hx hb dX12_way_17 ?_
  refine x_val (ic_addc (m := 24) (n := p2.toInt) (by decide) rfl (by omega) (by omega)) (fun x6 e7 => ?_)
  refine x_ald C hP (by decide) ms_12 (by omega) (by omega) dX12_way_18 (fun x8 e9 => ?_)
  refine lv_istore (lv' := [(4, .int x8), (3, .int x4), (0, .ref (a 0)), (1, .int p1), (2, .int p2)]) hx hb dX12_way_19 hl (by decide) rfl (fun ls hl => ?_)
  refine lv_aload_n hx hb dX12_way_21 rfl (lv_at hl 2 rfl) ?_
  refine x_geti (Or.inl fl_X12_7) C hP (by decide) ms_0 rfl dX12_way_22 (fun x10 e11 => ?_)
  refine lv_iload_n hx hb dX12_way_25 rfl (lv_at hl 1 rfl) ?_
  refine lv_iload hx hb dX12_way_26 (lv_at hl 0 rfl) ?_
  refine x_callSi (rest := [.int x10]) li_X12_361 C (zX12_off l G H.size a g0 L0 hI x4 x8) (kR rfl) hP hD hS rfl hl.1 rfl (Nat.le_of_ble_eq_true rfl) dX12_way_28 (fun x13 u14 H locs hw12 hP hD hS => ?_)
  obtain ⟨g, L⟩ := u14
  obtain ⟨hI, kk0⟩ := hw12
  have kz_0 : g 0 18 = w1 := kk0.trans kz_0
  have hI : zI MT g := hI
  have hP : va_P G.1 vwCl (zw G MS 51 a g L) H := hP
  have hD : va_D A (zw G MS 51 a g L) := hD
  refine lv_imul hx hb dX12_way_31 ?_
  refine x_any (fun x17 => ?_)
  refine lv_iload_n hx hb dX12_way_32 rfl (lv_at hl 1 rfl) ?_
  refine lv_iload hx hb dX12_way_33 (lv_at hl 0 rfl) ?_
  refine x_callSi (rest := [.int x17]) li_X12_364 C (zX12_isStair l G H.size a g L hI x4 x8) (kR rfl) hP hD hS rfl hl.1 rfl (Nat.le_of_ble_eq_true rfl) dX12_way_35 (fun x19 u20 H locs hw18 hP hD hS => ?_)
  obtain ⟨g, L⟩ := u20
  obtain ⟨hI, b21, kk0⟩ := hw18
  have kz_0 : g 0 18 = w1 := kk0.trans kz_0
  have hI : zI MT g := hI
  have hP : va_P G.1 vwCl (zw G MS 51 a g L) H := hP
  have hD : va_D A (zw G MS 51 a g L) := hD
  have J38 : ∀ (x39 : Int32) (g : Nat → Nat → Int32) (L : Nat → Nat → Int64) (H : Heap) (locs : List Loc) (ls : Array Slot), g 0 18 = w1 → zI MT g → va_P G.1 vwCl (zw G MS 51 a g L) H → va_D A (zw G MS 51 a g L) → va_S A s.heap H locs → lv_has ls 5 [] → W p l e { frames := 7, cells := 0, slots := 0, locals := 131 } s m [.ref (a 0), .int p1, .int p2].toArray below meth c H locs 0 0 (MQ below ((kQi G (S := zS) (fun r u => zI MT u.1 ∧ u.1 0 18 = g0 0 18) (fun u => zw G MS 51 a u.1 u.2)) A) [.ref (a 0), .int p1, .int p2].toArray s 0 0 A) (F0 m 63 ls [.int x39, .int x17]) := by
    intro x39 g L H locs ls kf40 hI hP hD hS hl
    refine lv_iadd hx hb dX12_way_63 ?_
    refine x_any (fun x41 => ?_)
    exact x_iret C hr hlk hP hD hS (g, L) rfl ⟨hI, (kf40.trans k0_0.symm)⟩ (Nat.le_of_ble_eq_true rfl) (Nat.le_of_ble_eq_true rfl) dX12_way_64
  refine lv_if_eq (x := x19) (tgt := 62) hx hb dX12_way_38 (by decide) (fun c42 => ?_) (fun c42 => ?_)
  ·
    have c42 := icc_eq (m := x19.toInt) (n := 0) rfl (by decide) c42
    refine lv_iconst (v := 0) hx hb dX12_way_62 (by decide) ?_
    exact J38 0 g L H locs ls kz_0 hI hP hD hS (lv_sub hl [] rfl)
  ·
    have c42 := icc_neq (m := x19.toInt) (n := 0) rfl (by decide) c42
    refine lv_aload_n hx hb dX12_way_41 rfl (lv_at hl 2 rfl) ?_
    refine x_getr (Or.inl fl_X12_26) C hP (by decide) ms_0 rfl dX12_way_42 ?_
    refine lv_iload_n hx hb dX12_way_45 rfl (lv_at hl 3 rfl) ?_
    refine x_ald C hP (by decide) ms_4 (by omega) (by omega) dX12_way_46 (fun x43 e44 => ?_)
    refine lv_aload_n hx hb dX12_way_47 rfl (lv_at hl 2 rfl) ?_
    refine x_getT hI rfl (Or.inl fl_X12_13) C hP (by decide) ms_0 rfl dX12_way_48 (fun x45 e46 b47 => ?_)
    refine lv_iadd hx hb dX12_way_51 ?_
    refine x_any (fun x48 => ?_)
    refine lv_iconst (v := 1) hx hb dX12_way_52 (by decide) ?_
    refine lv_isub hx hb dX12_way_53 ?_
    refine x_any (fun x49 => ?_)
    refine lv_aload_n hx hb dX12_way_54 rfl (lv_at hl 2 rfl) ?_
    refine x_getT hI rfl (Or.inl fl_X12_13) C hP (by decide) ms_0 rfl dX12_way_55 (fun x50 e51 b52 => ?_)
    refine lv_idiv hx hb dX12_way_58 (fun h => absurd (icc_eq (n := 0) rfl (by decide) h) (by omega)) ?_
    refine x_any (fun x53 => ?_)
    refine lv_goto (tgt := 63) hx hb dX12_way_59 (by decide) ?_
    exact J38 x53 g L H locs ls kz_0 hI hP hD hS (lv_sub hl [] rfl)
set_option maxHeartbeats 4000000 in
set_option maxRecDepth 100000 in
theorem zX12_comes_0 (l : Launch) (G : kG) (sz : Nat) (a : Nat → Nat) (g0 : Nat → Nat → Int32) (L0 : Nat → Nat → Int64) (hI : zI MT g0) (p1 : Int32) (p2 : Int32) (hp1 : 0 ≤ p1.toInt ∧ p1.toInt ≤ 11) (hp2 : 0 ≤ p2.toInt ∧ p2.toInt ≤ 11) : kM l yX12_comes cX12_comes 3 (some .int) { frames := 8, cells := 0, slots := 0, locals := 155 } G [.ref (a 0), .int p1, .int p2] (zw G MS 51 a g0 L0) sz (kQi G (S := zS) (fun r u => zI MT u.1 ∧ u.1 0 18 = g0 0 18) (fun u => zw G MS 51 a u.1 u.2)) := by
  refine kM.of (by decide) (Nat.le_of_ble_eq_true rfl) ?_
  intro p e s m below meth c A ls H C hr hlk hnm hP hD hS hl
  have C : kC G p s m c cX12_comes 3 RX12 A := C
  have hx := C.1
  have hb := C.2.1
  have hl : lv_has ls 3 [(0, .ref (a 0)), (1, .int p1), (2, .int p2)] := hl
  obtain ⟨w1, k0_0⟩ : ∃ w : Int32, g0 0 18 = w := ⟨_, rfl⟩
  have kz_0 := k0_0
  have kb_0 := hI 0 18 0 700 rfl
  rw [k0_0] at kb_0
  obtain ⟨locs, hlocs⟩ : ∃ q : List Loc, q = [] := ⟨_, rfl⟩
  rw [← hlocs] at hS
  rw [← hlocs]
  refine lv_aload_n hx hb dX12_comes_0 rfl (lv_at hl 0 rfl) ?_
  refine x_getr (Or.inl fl_X12_117) C hP (by decide) ms_0 rfl dX12_comes_1 ?_
  refine lv_iload_n hx hb dX12_comes_4 rfl (lv_at hl 1 rfl) ?_
  refine x_ald C hP (by decide) ms_32 (by omega) (by omega) dX12_comes_5 (fun x2 e3 => ?_)
  refine lv_aload_n hx hb dX12_comes_6 rfl (lv_at hl 0 rfl) ?_
  refine lv_iload_n hx hb dX12_comes_7 rfl (lv_at hl 1 rfl) ?_
  refine lv_iload_n hx hb dX12_comes_8 rfl (lv_at hl 2 rfl) ?_
  refine x_callVi (rest := [.int x2]) li_X12_368 C (zX12_way_0 l G H.size a g0 L0 hI p1 p2 (by omega) (by omega)) (kR rfl) hP hD hS 0 12 rfl (zat (by decide) ms_0) rfl hl.1 rfl (Nat.le_of_ble_eq_true rfl) dX12_comes_9 (fun x5 u6 H locs hw4 hP hD hS => ?_)
  obtain ⟨g, L⟩ := u6
  obtain ⟨hI, kk0⟩ := hw4
  have kz_0 : g 0 18 = w1 := kk0.trans kz_0
  have hI : zI MT g := hI
  have hP : va_P G.1 vwCl (zw G MS 51 a g L) H := hP
  have hD : va_D A (zw G MS 51 a g L) := hD
  refine lv_iadd hx hb dX12_comes_12 ?_
  refine x_any (fun x9 => ?_)
  refine lv_aload_n hx hb dX12_comes_13 rfl (lv_at hl 0 rfl) ?_
  refine x_getr (Or.inl fl_X12_50) C hP (by decide) ms_0 rfl dX12_comes_14 ?_
  refine lv_bipush (v := 12) hx hb dX12_comes_17 (by decide) ?_
  refine lv_iload_n hx hb dX12_comes_19 rfl (lv_at hl 2 rfl) ?_
  refine lv_iadd hx hb dX12_comes_20 ?_
  refine x_val (ic_addc (m := 12) (n := p2.toInt) (by decide) rfl (by omega) (by omega)) (fun x10 e11 => ?_)
  refine x_ald C hP (by decide) ms_12 (by omega) (by omega) dX12_comes_21 (fun x12 e13 => ?_)
  refine lv_isub hx hb dX12_comes_22 ?_
  refine x_any (fun x14 => ?_)
  exact x_iret C hr hlk hP hD hS (g, L) rfl ⟨hI, (kz_0.trans k0_0.symm)⟩ (Nat.le_of_ble_eq_true rfl) (Nat.le_of_ble_eq_true rfl) dX12_comes_23
set_option maxHeartbeats 4000000 in
set_option maxRecDepth 100000 in
theorem zX12_waitsSet_0 (l : Launch) (G : kG) (sz : Nat) (a : Nat → Nat) (g0 : Nat → Nat → Int32) (L0 : Nat → Nat → Int64) (hI : zI MT g0) (p1 : Int32) (hp1 : 0 ≤ p1.toInt ∧ p1.toInt ≤ 11) : kM l yX12_waitsSet cX12_waitsSet 4 (some .int) { frames := 6, cells := 0, slots := 0, locals := 110 } G [.ref (a 0), .int p1] (zw G MS 51 a g0 L0) sz (kQi G (S := zS) (fun r u => zI MT u.1 ∧ u.1 0 18 = g0 0 18) (fun u => zw G MS 51 a u.1 u.2)) := by
  refine kM.of (by decide) (Nat.le_of_ble_eq_true rfl) ?_
  intro p e s m below meth c A ls H C hr hlk hnm hP hD hS hl
  have C : kC G p s m c cX12_waitsSet 4 RX12 A := C
  have hx := C.1
  have hb := C.2.1
  have hl : lv_has ls 4 [(0, .ref (a 0)), (1, .int p1)] := hl
  obtain ⟨w1, k0_0⟩ : ∃ w : Int32, g0 0 18 = w := ⟨_, rfl⟩
  have kz_0 := k0_0
  have kb_0 := hI 0 18 0 700 rfl
  rw [k0_0] at kb_0
  obtain ⟨locs, hlocs⟩ : ∃ q : List Loc, q = [] := ⟨_, rfl⟩
  rw [← hlocs] at hS
  rw [← hlocs]
  refine lv_iconst (v := 0) hx hb dX12_waitsSet_0 (by decide) ?_
  refine lv_istore_n (lv' := [(2, .int 0), (0, .ref (a 0)), (1, .int p1)]) hx hb dX12_waitsSet_1 rfl hl (by decide) rfl (fun ls hl => ?_)
  refine lv_iconst (v := 0) hx hb dX12_waitsSet_2 (by decide) ?_
  refine lv_istore_n (lv' := [(3, .int 0), (2, .int 0), (0, .ref (a 0)), (1, .int p1)]) hx hb dX12_waitsSet_3 rfl hl (by decide) rfl (fun ls hl => ?_)
  have lp134 : ∀ fu : Nat, ∀ (x130 : Int32) (x131 : Int32) (g : Nat → Nat → Int32) (L : Nat → Nat → Int64) (H : Heap) (locs : List Loc) (ls : Array Slot), (0 ≤ x131.toInt ∧ x131.toInt ≤ 6) → g 0 18 = w1 → zI MT g → va_P G.1 vwCl (zw G MS 51 a g L) H → va_D A (zw G MS 51 a g L) → va_S A s.heap H locs → lv_has ls 4 [(0, .ref (a 0)), (1, .int p1), (2, .int x130), (3, .int x131)] → 6 - x131.toInt < (fu : Int) → W p l e { frames := 6, cells := 0, slots := 0, locals := 110 } s m [.ref (a 0), .int p1].toArray below meth c H locs 0 0 (MQ below ((kQi G (S := zS) (fun r u => zI MT u.1 ∧ u.1 0 18 = g0 0 18) (fun u => zw G MS 51 a u.1 u.2)) A) [.ref (a 0), .int p1].toArray s 0 0 A) (F0 m 4 ls []) := by
    intro fu
    induction fu with
    | zero => intro x130 x131 g L H locs ls b132 kf133 hI hP hD hS hl hm; exact absurd hm (by omega)
    | succ fu ih =>
      intro x130 x131 g L H locs ls b132 kf133 hI hP hD hS hl hm
      have ih135 := ih
      refine lv_iload_n hx hb dX12_waitsSet_4 rfl (lv_at hl 3 rfl) ?_
      refine lv_aload_n hx hb dX12_waitsSet_5 rfl (lv_at hl 0 rfl) ?_
      refine x_getr (Or.inl fl_X12_38) C hP (by decide) ms_0 rfl dX12_waitsSet_6 ?_
      refine lv_iload_n hx hb dX12_waitsSet_9 rfl (lv_at hl 1 rfl) ?_
      refine x_aldT hI rfl C hP (by decide) ms_8 (by omega) (by omega) dX12_waitsSet_10 (fun x136 e137 b138 => ?_)
      refine lv_icmp_ge (x := x131) (y := x136) (tgt := 36) hx hb dX12_waitsSet_11 (by decide) (fun c139 => ?_) (fun c139 => ?_)
      ·
        have c139 := icc_le (m := x136.toInt) (n := x131.toInt) rfl rfl c139
        refine lv_iload_n hx hb dX12_waitsSet_36 rfl (lv_at hl 2 rfl) ?_
        exact x_iret C hr hlk hP hD hS (g, L) rfl ⟨hI, (kf133.trans k0_0.symm)⟩ (Nat.le_of_ble_eq_true rfl) (Nat.le_of_ble_eq_true rfl) dX12_waitsSet_37
      ·
        have c139 := icc_nle (m := x136.toInt) (n := x131.toInt) rfl rfl c139
        refine lv_iload_n hx hb dX12_waitsSet_14 rfl (lv_at hl 2 rfl) ?_
        refine lv_iconst (v := 1) hx hb dX12_waitsSet_15 (by decide) ?_
        refine lv_aload_n hx hb dX12_waitsSet_16 rfl (lv_at hl 0 rfl) ?_
        refine x_getr (Or.inl fl_X12_41) C hP (by decide) ms_0 rfl dX12_waitsSet_17 ?_
        refine lv_bipush (v := 6) hx hb dX12_waitsSet_20 (by decide) ?_
        refine lv_iload_n hx hb dX12_waitsSet_22 rfl (lv_at hl 1 rfl) ?_
        refine lv_imul hx hb dX12_waitsSet_23 ?_
        refine x_val (ic_mulc (m := 6) (n := p1.toInt) (by decide) rfl (by omega) (by omega)) (fun x140 e141 => ?_)
        refine lv_iload_n hx hb dX12_waitsSet_24 rfl (lv_at hl 3 rfl) ?_
        refine lv_iadd hx hb dX12_waitsSet_25 ?_
        refine x_val (ic_addc (m := x140.toInt) (n := x131.toInt) rfl rfl (by omega) (by omega)) (fun x142 e143 => ?_)
        refine x_aldT hI rfl C hP (by decide) ms_9 (by omega) (by omega) dX12_waitsSet_26 (fun x144 e145 b146 => ?_)
        refine lv_ishl hx hb dX12_waitsSet_27 ?_
        refine x_any (fun x147 => ?_)
        refine lv_ior hx hb dX12_waitsSet_28 ?_
        refine x_any (fun x148 => ?_)
        refine lv_istore_n (lv' := [(2, .int x148), (0, .ref (a 0)), (1, .int p1), (3, .int x131)]) hx hb dX12_waitsSet_29 rfl hl (by decide) rfl (fun ls hl => ?_)
        obtain ⟨x149, e150q, e150⟩ : ∃ z : Int32, x131 + Int32.ofInt (1) = z ∧ z.toInt = x131.toInt + (1) := ⟨_, rfl, ic_addc rfl (by decide) (by omega) (by omega)⟩
        refine lv_iinc (v := x149) (lv' := [(3, .int x149), (2, .int x148), (0, .ref (a 0)), (1, .int p1)]) hx hb dX12_waitsSet_30 hl (k := 3) rfl e150q (by decide) rfl (fun ls hl => ?_)
        refine lv_goto (tgt := 4) hx hb dX12_waitsSet_33 (by decide) ?_
        exact ih135 x148 x149 g L H locs ls (by omega) kf133 hI hP hD hS (lv_sub hl [2, 3, 1, 0] rfl) (by omega)
  have hc_ : (0 : Int32).toInt = 0 := by decide
  exact lp134 8 0 0 g0 L0 H locs ls (by decide) kz_0 hI hP hD hS (lv_sub hl [2, 3, 1, 0] rfl) (by omega)
set_option maxHeartbeats 4000000 in
set_option maxRecDepth 100000 in
theorem zX12_later_0 (l : Launch) (G : kG) (sz : Nat) (a : Nat → Nat) (g0 : Nat → Nat → Int32) (L0 : Nat → Nat → Int64) (hI : zI MT g0) : kM l yX12_later cX12_later 3 (some .int) { frames := 6, cells := 0, slots := 0, locals := 110 } G [.ref (a 0)] (zw G MS 51 a g0 L0) sz (kQi G (S := zS) (fun r u => zI MT u.1 ∧ u.1 0 18 = g0 0 18) (fun u => zw G MS 51 a u.1 u.2)) := by
  refine kM.of (by decide) (Nat.le_of_ble_eq_true rfl) ?_
  intro p e s m below meth c A ls H C hr hlk hnm hP hD hS hl
  have C : kC G p s m c cX12_later 3 RX12 A := C
  have hx := C.1
  have hb := C.2.1
  have hl : lv_has ls 3 [(0, .ref (a 0))] := hl
  obtain ⟨w1, k0_0⟩ : ∃ w : Int32, g0 0 18 = w := ⟨_, rfl⟩
  have kz_0 := k0_0
  have kb_0 := hI 0 18 0 700 rfl
  rw [k0_0] at kb_0
  obtain ⟨locs, hlocs⟩ : ∃ q : List Loc, q = [] := ⟨_, rfl⟩
  rw [← hlocs] at hS
  rw [← hlocs]
  refine lv_iconst (v := 0) hx hb dX12_later_0 (by decide) ?_
  refine lv_istore_n (lv' := [(1, .int 0), (0, .ref (a 0))]) hx hb dX12_later_1 rfl hl (by decide) rfl (fun ls hl => ?_)
  refine lv_iconst (v := 0) hx hb dX12_later_2 (by decide) ?_
  refine lv_istore_n (lv' := [(2, .int 0), (1, .int 0), (0, .ref (a 0))]) hx hb dX12_later_3 rfl hl (by decide) rfl (fun ls hl => ?_)
  have lp293 : ∀ fu : Nat, ∀ (x289 : Int32) (x290 : Int32) (g : Nat → Nat → Int32) (L : Nat → Nat → Int64) (H : Heap) (locs : List Loc) (ls : Array Slot), (0 ≤ x290.toInt ∧ x290.toInt ≤ 12) → g 0 18 = w1 → zI MT g → va_P G.1 vwCl (zw G MS 51 a g L) H → va_D A (zw G MS 51 a g L) → va_S A s.heap H locs → lv_has ls 3 [(0, .ref (a 0)), (1, .int x289), (2, .int x290)] → 12 - x290.toInt < (fu : Int) → W p l e { frames := 6, cells := 0, slots := 0, locals := 110 } s m [.ref (a 0)].toArray below meth c H locs 0 0 (MQ below ((kQi G (S := zS) (fun r u => zI MT u.1 ∧ u.1 0 18 = g0 0 18) (fun u => zw G MS 51 a u.1 u.2)) A) [.ref (a 0)].toArray s 0 0 A) (F0 m 4 ls []) := by
    intro fu
    induction fu with
    | zero => intro x289 x290 g L H locs ls b291 kf292 hI hP hD hS hl hm; exact absurd hm (by omega)
    | succ fu ih =>
      intro x289 x290 g L H locs ls b291 kf292 hI hP hD hS hl hm
      have ih294 := ih
      refine lv_iload_n hx hb dX12_later_4 rfl (lv_at hl 2 rfl) ?_
      refine lv_aload_n hx hb dX12_later_5 rfl (lv_at hl 0 rfl) ?_
      refine x_getT hI rfl (Or.inl fl_X12_335) C hP (by decide) ms_0 rfl dX12_later_6 (fun x295 e296 b297 => ?_)
      refine lv_icmp_ge (x := x290) (y := x295) (tgt := 43) hx hb dX12_later_9 (by decide) (fun c298 => ?_) (fun c298 => ?_)
      ·
        have c298 := icc_le (m := x295.toInt) (n := x290.toInt) rfl rfl c298
        refine lv_iload_n hx hb dX12_later_43 rfl (lv_at hl 1 rfl) ?_
        exact x_iret C hr hlk hP hD hS (g, L) rfl ⟨hI, (kf292.trans k0_0.symm)⟩ (Nat.le_of_ble_eq_true rfl) (Nat.le_of_ble_eq_true rfl) dX12_later_44
      ·
        have c298 := icc_nle (m := x295.toInt) (n := x290.toInt) rfl rfl c298
        refine lv_iload_n hx hb dX12_later_12 rfl (lv_at hl 1 rfl) ?_
        refine lv_aload_n hx hb dX12_later_13 rfl (lv_at hl 0 rfl) ?_
        refine x_getr (Or.inl fl_X12_117) C hP (by decide) ms_0 rfl dX12_later_14 ?_
        refine lv_iload_n hx hb dX12_later_17 rfl (lv_at hl 2 rfl) ?_
        refine x_ald C hP (by decide) ms_32 (by omega) (by omega) dX12_later_18 (fun x299 e300 => ?_)
        refine lv_aload_n hx hb dX12_later_19 rfl (lv_at hl 0 rfl) ?_
        refine x_getr (Or.inl fl_X12_135) C hP (by decide) ms_0 rfl dX12_later_20 ?_
        refine lv_iload_n hx hb dX12_later_23 rfl (lv_at hl 2 rfl) ?_
        refine x_ald C hP (by decide) ms_37 (by omega) (by omega) dX12_later_24 (fun x301 e302 => ?_)
        have J310 : ∀ (x311 : Int32) (g : Nat → Nat → Int32) (L : Nat → Nat → Int64) (H : Heap) (locs : List Loc) (ls : Array Slot), g 0 18 = w1 → zI MT g → va_P G.1 vwCl (zw G MS 51 a g L) H → va_D A (zw G MS 51 a g L) → va_S A s.heap H locs → lv_has ls 3 [(0, .ref (a 0)), (2, .int x290)] → W p l e { frames := 6, cells := 0, slots := 0, locals := 110 } s m [.ref (a 0)].toArray below meth c H locs 0 0 (MQ below ((kQi G (S := zS) (fun r u => zI MT u.1 ∧ u.1 0 18 = g0 0 18) (fun u => zw G MS 51 a u.1 u.2)) A) [.ref (a 0)].toArray s 0 0 A) (F0 m 35 ls [.int x311, .int x289]) := by
          intro x311 g L H locs ls kf312 hI hP hD hS hl
          refine lv_ior hx hb dX12_later_35 ?_
          refine x_any (fun x313 => ?_)
          refine lv_istore_n (lv' := [(1, .int x313), (0, .ref (a 0)), (2, .int x290)]) hx hb dX12_later_36 rfl hl (by decide) rfl (fun ls hl => ?_)
          obtain ⟨x314, e315q, e315⟩ : ∃ z : Int32, x290 + Int32.ofInt (1) = z ∧ z.toInt = x290.toInt + (1) := ⟨_, rfl, ic_addc rfl (by decide) (by omega) (by omega)⟩
          refine lv_iinc (v := x314) (lv' := [(2, .int x314), (1, .int x313), (0, .ref (a 0))]) hx hb dX12_later_37 hl (k := 2) rfl e315q (by decide) rfl (fun ls hl => ?_)
          refine lv_goto (tgt := 4) hx hb dX12_later_40 (by decide) ?_
          exact ih294 x313 x314 g L H locs ls (by omega) kf312 hI hP hD hS (lv_sub hl [2, 1, 0] rfl) (by omega)
        refine lv_icmp_le (x := x299) (y := x301) (tgt := 34) hx hb dX12_later_25 (by decide) (fun c316 => ?_) (fun c316 => ?_)
        ·
          have c316 := icc_le (m := x299.toInt) (n := x301.toInt) rfl rfl c316
          refine lv_iconst (v := 0) hx hb dX12_later_34 (by decide) ?_
          exact J310 0 g L H locs ls kf292 hI hP hD hS (lv_sub hl [0, 2] rfl)
        ·
          have c316 := icc_nle (m := x299.toInt) (n := x301.toInt) rfl rfl c316
          refine lv_iconst (v := 1) hx hb dX12_later_28 (by decide) ?_
          refine lv_iload_n hx hb dX12_later_29 rfl (lv_at hl 2 rfl) ?_
          refine lv_ishl hx hb dX12_later_30 ?_
          refine x_any (fun x317 => ?_)
          refine lv_goto (tgt := 35) hx hb dX12_later_31 (by decide) ?_
          exact J310 x317 g L H locs ls kf292 hI hP hD hS (lv_sub hl [0, 2] rfl)
  have hc_ : (0 : Int32).toInt = 0 := by decide
  exact lp293 14 0 0 g0 L0 H locs ls (by decide) kz_0 hI hP hD hS (lv_sub hl [2, 1, 0] rfl) (by omega)
