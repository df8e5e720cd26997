theorem tw_1511 : (Jvm.Cond.lays "MarshBellsModel" "MarshBellsModel" "thrown" "I") ∈ lw_tbl := tk_7 (List.mem_of_getElem? (i := 71) rfl)
theorem tw_1513 : (Jvm.Cond.lays "MarshBellsModel" "MarshBellsModel" "lessons" "I") ∈ lw_tbl := tk_7 (List.mem_of_getElem? (i := 73) rfl)
theorem tw_1515 : (Jvm.Cond.lays "MarshBellsModel" "MarshBellsModel" "rules" "I") ∈ lw_tbl := tk_7 (List.mem_of_getElem? (i := 75) rfl)
theorem tw_1517 : (Jvm.Cond.lays "MarshBellsModel" "MarshBellsModel" "walk" "I") ∈ lw_tbl := tk_7 (List.mem_of_getElem? (i := 77) rfl)
theorem tw_1519 : (Jvm.Cond.lays "MarshBellsModel" "MarshBellsModel" "stair" "I") ∈ lw_tbl := tk_7 (List.mem_of_getElem? (i := 79) rfl)
theorem tw_1521 : (Jvm.Cond.laysFinal "MarshBellsModel" "MarshBellsModel" "from" "[I") ∈ lw_tbl := tk_7 (List.mem_of_getElem? (i := 81) rfl)
theorem tw_1523 : (Jvm.Cond.laysFinal "MarshBellsModel" "MarshBellsModel" "to" "[I") ∈ lw_tbl := tk_7 (List.mem_of_getElem? (i := 83) rfl)
theorem tw_1525 : (Jvm.Cond.laysFinal "MarshBellsModel" "MarshBellsModel" "least" "[I") ∈ lw_tbl := tk_7 (List.mem_of_getElem? (i := 85) rfl)
theorem tw_1527 : (Jvm.Cond.laysFinal "MarshBellsModel" "MarshBellsModel" "people" "[I") ∈ lw_tbl := tk_7 (List.mem_of_getElem? (i := 87) rfl)
theorem tw_1529 : (Jvm.Cond.laysFinal "MarshBellsModel" "MarshBellsModel" "kind" "[I") ∈ lw_tbl := tk_7 (List.mem_of_getElem? (i := 89) rfl)
theorem tw_1531 : (Jvm.Cond.laysFinal "MarshBellsModel" "MarshBellsModel" "some" "[I") ∈ lw_tbl := tk_7 (List.mem_of_getElem? (i := 91) rfl)
theorem tw_1533 : (Jvm.Cond.laysFinal "MarshBellsModel" "MarshBellsModel" "maybe" "[I") ∈ lw_tbl := tk_7 (List.mem_of_getElem? (i := 93) rfl)
theorem tw_1535 : (Jvm.Cond.laysFinal "MarshBellsModel" "MarshBellsModel" "waitsMany" "[I") ∈ lw_tbl := tk_7 (List.mem_of_getElem? (i := 95) rfl)
theorem tw_1537 : (Jvm.Cond.laysFinal "MarshBellsModel" "MarshBellsModel" "waitsFor0" "[I") ∈ lw_tbl := tk_7 (List.mem_of_getElem? (i := 97) rfl)
theorem tw_1539 : (Jvm.Cond.laysFinal "MarshBellsModel" "MarshBellsModel" "ruleAt" "[I") ∈ lw_tbl := tk_7 (List.mem_of_getElem? (i := 99) rfl)
theorem tw_1541 : (Jvm.Cond.laysFinal "MarshBellsModel" "MarshBellsModel" "code" "[I") ∈ lw_tbl := tk_7 (List.mem_of_getElem? (i := 101) rfl)
theorem tw_1543 : (Jvm.Cond.laysFinal "MarshBellsModel" "MarshBellsModel" "now" "[I") ∈ lw_tbl := tk_7 (List.mem_of_getElem? (i := 103) rfl)
theorem tw_1545 : (Jvm.Cond.laysFinal "MarshBellsModel" "MarshBellsModel" "tape" "[I") ∈ lw_tbl := tk_7 (List.mem_of_getElem? (i := 105) rfl)
theorem tw_1547 : (Jvm.Cond.lays "MarshBellsModel" "MarshBellsModel" "taped" "I") ∈ lw_tbl := tk_7 (List.mem_of_getElem? (i := 107) rfl)
theorem tw_1549 : (Jvm.Cond.lays "MarshBellsModel" "MarshBellsModel" "faultKind" "I") ∈ lw_tbl := tk_7 (List.mem_of_getElem? (i := 109) rfl)
theorem tw_1551 : (Jvm.Cond.lays "MarshBellsModel" "MarshBellsModel" "faultPlace" "I") ∈ lw_tbl := tk_7 (List.mem_of_getElem? (i := 111) rfl)
theorem tw_1553 : (Jvm.Cond.laysFinal "MarshBellsModel" "MarshBellsModel" "refused" "[I") ∈ lw_tbl := tk_7 (List.mem_of_getElem? (i := 113) rfl)
theorem tw_1555 : (Jvm.Cond.lays "MarshBellsModel" "MarshBellsModel" "long1" "I") ∈ lw_tbl := tk_7 (List.mem_of_getElem? (i := 115) rfl)
theorem tw_1557 : (Jvm.Cond.lays "MarshBellsModel" "MarshBellsModel" "next" "I") ∈ lw_tbl := tk_7 (List.mem_of_getElem? (i := 117) rfl)
theorem tw_1559 : (Jvm.Cond.lays "MarshBellsModel" "MarshBellsModel" "sort" "I") ∈ lw_tbl := tk_7 (List.mem_of_getElem? (i := 119) rfl)
theorem tw_1561 : (Jvm.Cond.lays "MarshBellsModel" "MarshBellsModel" "place" "I") ∈ lw_tbl := tk_7 (List.mem_of_getElem? (i := 121) rfl)
theorem tw_1563 : (Jvm.Cond.lays "MarshBellsModel" "MarshBellsModel" "long0" "I") ∈ lw_tbl := tk_7 (List.mem_of_getElem? (i := 123) rfl)
theorem tw_1565 : (Jvm.Cond.lays "MarshBellsModel" "MarshBellsModel" "value" "I") ∈ lw_tbl := tk_7 (List.mem_of_getElem? (i := 125) rfl)
theorem tw_1567 : (Jvm.Cond.lays "MarshBellsModel" "MarshBellsModel" "sign" "I") ∈ lw_tbl := tk_7 (List.mem_of_getElem? (i := 127) rfl)
theorem tw_1569 : (Jvm.Cond.lays "MarshBellsModel" "MarshBellsModel" "word" "J") ∈ lw_tbl := tk_7 (List.mem_of_getElem? (i := 129) rfl)
theorem tw_1571 : (Jvm.Cond.lays "MarshBellsModel" "MarshBellsModel" "newLessons" "I") ∈ lw_tbl := tk_7 (List.mem_of_getElem? (i := 131) rfl)
theorem tw_1573 : (Jvm.Cond.lays "MarshBellsModel" "MarshBellsModel" "newRules" "I") ∈ lw_tbl := tk_7 (List.mem_of_getElem? (i := 133) rfl)
theorem tw_1575 : (Jvm.Cond.lays "MarshBellsModel" "MarshBellsModel" "newWalk" "I") ∈ lw_tbl := tk_7 (List.mem_of_getElem? (i := 135) rfl)
theorem tw_1577 : (Jvm.Cond.lays "MarshBellsModel" "MarshBellsModel" "newStair" "I") ∈ lw_tbl := tk_7 (List.mem_of_getElem? (i := 137) rfl)
theorem tw_1579 : (Jvm.Cond.lays "MarshBellsModel" "MarshBellsModel" "toldOnce" "I") ∈ lw_tbl := tk_7 (List.mem_of_getElem? (i := 139) rfl)
theorem tw_1581 : (Jvm.Cond.lays "MarshBellsModel" "MarshBellsModel" "top" "I") ∈ lw_tbl := tk_7 (List.mem_of_getElem? (i := 141) rfl)
theorem tw_1583 : (Jvm.Cond.lays "MarshBellsModel" "MarshBellsModel" "waiting" "I") ∈ lw_tbl := tk_7 (List.mem_of_getElem? (i := 143) rfl)
theorem tw_1585 : (Jvm.Cond.lays "MarshBellsModel" "MarshBellsModel" "depth" "I") ∈ lw_tbl := tk_7 (List.mem_of_getElem? (i := 145) rfl)
theorem tw_1587 : (Jvm.Cond.laysFinal "MarshBellsModel" "MarshBellsModel" "newFrom" "[I") ∈ lw_tbl := tk_7 (List.mem_of_getElem? (i := 147) rfl)
theorem tw_1589 : (Jvm.Cond.laysFinal "MarshBellsModel" "MarshBellsModel" "newTo" "[I") ∈ lw_tbl := tk_7 (List.mem_of_getElem? (i := 149) rfl)
theorem tw_1591 : (Jvm.Cond.laysFinal "MarshBellsModel" "MarshBellsModel" "newLeast" "[I") ∈ lw_tbl := tk_7 (List.mem_of_getElem? (i := 151) rfl)
theorem tw_1593 : (Jvm.Cond.laysFinal "MarshBellsModel" "MarshBellsModel" "newPeople" "[I") ∈ lw_tbl := tk_7 (List.mem_of_getElem? (i := 153) rfl)
theorem tw_1595 : (Jvm.Cond.laysFinal "MarshBellsModel" "MarshBellsModel" "newKind" "[I") ∈ lw_tbl := tk_7 (List.mem_of_getElem? (i := 155) rfl)
theorem tw_1597 : (Jvm.Cond.laysFinal "MarshBellsModel" "MarshBellsModel" "newSome" "[I") ∈ lw_tbl := tk_7 (List.mem_of_getElem? (i := 157) rfl)
theorem tw_1599 : (Jvm.Cond.laysFinal "MarshBellsModel" "MarshBellsModel" "newMaybe" "[I") ∈ lw_tbl := tk_7 (List.mem_of_getElem? (i := 159) rfl)
theorem tw_1601 : (Jvm.Cond.laysFinal "MarshBellsModel" "MarshBellsModel" "newMany" "[I") ∈ lw_tbl := tk_7 (List.mem_of_getElem? (i := 161) rfl)
theorem tw_1603 : (Jvm.Cond.laysFinal "MarshBellsModel" "MarshBellsModel" "newFor" "[I") ∈ lw_tbl := tk_7 (List.mem_of_getElem? (i := 163) rfl)
theorem tw_1605 : (Jvm.Cond.laysFinal "MarshBellsModel" "MarshBellsModel" "newNow" "[I") ∈ lw_tbl := tk_7 (List.mem_of_getElem? (i := 165) rfl)
theorem tw_1607 : (Jvm.Cond.laysFinal "MarshBellsModel" "MarshBellsModel" "newRuleAt" "[I") ∈ lw_tbl := tk_7 (List.mem_of_getElem? (i := 167) rfl)
theorem tw_1609 : (Jvm.Cond.laysFinal "MarshBellsModel" "MarshBellsModel" "readCode" "[I") ∈ lw_tbl := tk_7 (List.mem_of_getElem? (i := 169) rfl)
theorem tw_1611 : (Jvm.Cond.laysFinal "MarshBellsModel" "MarshBellsModel" "waits" "[I") ∈ lw_tbl := tk_7 (List.mem_of_getElem? (i := 171) rfl)
theorem tw_1613 : (Jvm.Cond.laysFinal "MarshBellsModel" "MarshBellsModel" "tested" "[Z") ∈ lw_tbl := tk_7 (List.mem_of_getElem? (i := 173) rfl)
theorem tw_1615 : (Jvm.Cond.lays "MarshBellsModel" "MarshBellsModel" "inForce" "I") ∈ lw_tbl := tk_7 (List.mem_of_getElem? (i := 175) rfl)
theorem tw_1617 : (Jvm.Cond.laysFinal "MarshBellsModel" "MarshBellsModel" "told" "[I") ∈ lw_tbl := tk_7 (List.mem_of_getElem? (i := 177) rfl)
theorem tw_1619 : (Jvm.Cond.laysFinal "MarshBellsModel" "MarshBellsModel" "pile" "[I") ∈ lw_tbl := tk_7 (List.mem_of_getElem? (i := 179) rfl)
theorem tw_1621 : (Jvm.Cond.laysFinal "MarshBellsModel" "MarshBellsModel" "begins" "[I") ∈ lw_tbl := tk_7 (List.mem_of_getElem? (i := 181) rfl)
theorem tw_1623 : (Jvm.Cond.laysFinal "MarshBellsModel" "MarshBellsModel" "ends" "[I") ∈ lw_tbl := tk_7 (List.mem_of_getElem? (i := 183) rfl)
theorem tw_1625 : (Jvm.Cond.laysFinal "MarshBellsModel" "MarshBellsModel" "runs" "[I") ∈ lw_tbl := tk_7 (List.mem_of_getElem? (i := 185) rfl)
theorem tw_1627 : (Jvm.Cond.laysFinal "MarshBellsModel" "MarshBellsModel" "byWhom" "[I") ∈ lw_tbl := tk_7 (List.mem_of_getElem? (i := 187) rfl)
theorem tw_1629 : (Jvm.Cond.laysFinal "MarshBellsModel" "MarshBellsModel" "coming" "[I") ∈ lw_tbl := tk_7 (List.mem_of_getElem? (i := 189) rfl)
theorem tw_1631 : (Jvm.Cond.lays "MarshBellsModel" "MarshBellsModel" "still" "I") ∈ lw_tbl := tk_7 (List.mem_of_getElem? (i := 191) rfl)
theorem tw_1633 : (Jvm.Cond.lays "MarshBellsModel" "MarshBellsModel" "great" "I") ∈ lw_tbl := tk_7 (List.mem_of_getElem? (i := 193) rfl)
theorem tw_1635 : (Jvm.Cond.lays "MarshBellsModel" "MarshBellsModel" "acts" "I") ∈ lw_tbl := tk_7 (List.mem_of_getElem? (i := 195) rfl)
theorem tw_1637 : (Jvm.Cond.laysFinal "MarshBellsModel" "MarshBellsModel" "act" "[I") ∈ lw_tbl := tk_7 (List.mem_of_getElem? (i := 197) rfl)
theorem tw_1639 : (Jvm.Cond.laysFinal "MarshBellsModel" "MarshBellsModel" "endsNow" "[I") ∈ lw_tbl := tk_7 (List.mem_of_getElem? (i := 199) rfl)
theorem tw_1641 : (Jvm.Cond.lays "MarshBellsModel" "MarshBellsModel" "hasGaps" "Z") ∈ lw_tbl := tk_7 (List.mem_of_getElem? (i := 201) rfl)
theorem tw_1643 : (Jvm.Cond.laysFinal "MarshBellsModel" "MarshBellsModel" "gapKept" "[I") ∈ lw_tbl := tk_7 (List.mem_of_getElem? (i := 203) rfl)
theorem tw_1645 : (Jvm.Cond.laysFinal "MarshBellsModel" "MarshBellsModel" "gapWas" "[I") ∈ lw_tbl := tk_7 (List.mem_of_getElem? (i := 205) rfl)
theorem tw_1647 : (Jvm.Cond.laysFinal "MarshBellsModel" "MarshBellsModel" "inSet" "[I") ∈ lw_tbl := tk_7 (List.mem_of_getElem? (i := 207) rfl)
theorem tw_1649 : (Jvm.Cond.laysFinal "MarshBellsModel" "MarshBellsModel" "unsure" "[I") ∈ lw_tbl := tk_7 (List.mem_of_getElem? (i := 209) rfl)
theorem tw_1651 : (Jvm.Cond.lays "MarshBellsModel" "MarshBellsModel" "unsureMany" "I") ∈ lw_tbl := tk_7 (List.mem_of_getElem? (i := 211) rfl)
theorem tw_1653 : (Jvm.Cond.lays "MarshBellsModel" "MarshBellsModel" "never" "I") ∈ lw_tbl := tk_7 (List.mem_of_getElem? (i := 213) rfl)
theorem tw_1655 : (Jvm.Cond.laysFinal "MarshBellsModel" "MarshBellsModel" "then" "[I") ∈ lw_tbl := tk_7 (List.mem_of_getElem? (i := 215) rfl)
theorem tw_1657 : (Jvm.Cond.lays "MarshBellsModel" "MarshBellsModel" "seenMany" "I") ∈ lw_tbl := tk_7 (List.mem_of_getElem? (i := 217) rfl)
theorem tw_1659 : (Jvm.Cond.laysFinal "MarshBellsModel" "MarshBellsModel" "seen" "[I") ∈ lw_tbl := tk_7 (List.mem_of_getElem? (i := 219) rfl)
theorem tw_1661 : (Jvm.Cond.laysFinal "MarshBellsModel" "MarshBellsModel" "wayOf" "[I") ∈ lw_tbl := tk_7 (List.mem_of_getElem? (i := 221) rfl)
theorem tw_1663 : (Jvm.Cond.laysFinal "MarshBellsModel" "MarshBellsModel" "wayAt" "[I") ∈ lw_tbl := tk_7 (List.mem_of_getElem? (i := 223) rfl)
theorem tw_1665 : (Jvm.Cond.laysFinal "MarshBellsModel" "MarshBellsModel" "wayLong" "[I") ∈ lw_tbl := tk_7 (List.mem_of_getElem? (i := 225) rfl)
theorem tw_1667 : (Jvm.Cond.laysFinal "MarshBellsModel" "MarshBellsModel" "wayUp" "[I") ∈ lw_tbl := tk_7 (List.mem_of_getElem? (i := 227) rfl)
theorem tw_1669 : (Jvm.Cond.lays "MarshBellsModel" "MarshBellsModel" "wayMany" "I") ∈ lw_tbl := tk_7 (List.mem_of_getElem? (i := 229) rfl)
theorem tw_1671 : (Jvm.Cond.lays "MarshBellsModel" "MarshBellsModel" "its" "I") ∈ lw_tbl := tk_7 (List.mem_of_getElem? (i := 231) rfl)
theorem tw_1673 : (Jvm.Cond.lays "MarshBellsModel" "MarshBellsModel" "hasImage" "Z") ∈ lw_tbl := tk_7 (List.mem_of_getElem? (i := 233) rfl)
theorem tw_1675 : (Jvm.Cond.lays "MarshBellsModel" "MarshBellsModel" "imageForce" "I") ∈ lw_tbl := tk_7 (List.mem_of_getElem? (i := 235) rfl)
theorem tw_1677 : (Jvm.Cond.lays "MarshBellsModel" "MarshBellsModel" "imageActs" "I") ∈ lw_tbl := tk_7 (List.mem_of_getElem? (i := 237) rfl)
theorem tw_1679 : (Jvm.Cond.lays "MarshBellsModel" "MarshBellsModel" "imageSeen" "I") ∈ lw_tbl := tk_7 (List.mem_of_getElem? (i := 239) rfl)
theorem tw_1681 : (Jvm.Cond.laysFinal "MarshBellsModel" "MarshBellsModel" "imageNow" "[I") ∈ lw_tbl := tk_8 (List.mem_of_getElem? (i := 1) rfl)
theorem tw_1683 : (Jvm.Cond.laysFinal "MarshBellsModel" "MarshBellsModel" "imageAct" "[I") ∈ lw_tbl := tk_8 (List.mem_of_getElem? (i := 3) rfl)
theorem tw_1685 : (Jvm.Cond.laysFinal "MarshBellsModel" "MarshBellsModel" "imageSees" "[I") ∈ lw_tbl := tk_8 (List.mem_of_getElem? (i := 5) rfl)
theorem inWX12 : ∀ w ∈ u_ws RX12 TX12 88, w ∈ lw_tbl := by
  have e : ∀ k, k < 88 → u_lay RX12 TX12 k ∈ lw_tbl := fun k hk => match k, hk with | 0, _ => tw_1511 | 1, _ => tw_1513 | 2, _ => tw_1515 | 3, _ => tw_1517 | 4, _ => tw_1519 | 5, _ => tw_1521 | 6, _ => tw_1523 | 7, _ => tw_1525 | 8, _ => tw_1527 | 9, _ => tw_1529 | 10, _ => tw_1531 | 11, _ => tw_1533 | 12, _ => tw_1535 | 13, _ => tw_1537 | 14, _ => tw_1539 | 15, _ => tw_1541 | 16, _ => tw_1543 | 17, _ => tw_1545 | 18, _ => tw_1547 | 19, _ => tw_1549 | 20, _ => tw_1551 | 21, _ => tw_1553 | 22, _ => tw_1555 | 23, _ => tw_1557 | 24, _ => tw_1559 | 25, _ => tw_1561 | 26, _ => tw_1563 | 27, _ => tw_1565 | 28, _ => tw_1567 | 29, _ => tw_1569 | 30, _ => tw_1571 | 31, _ => tw_1573 | 32, _ => tw_1575 | 33, _ => tw_1577 | 34, _ => tw_1579 | 35, _ => tw_1581 | 36, _ => tw_1583 | 37, _ => tw_1585 | 38, _ => tw_1587 | 39, _ => tw_1589 | 40, _ => tw_1591 | 41, _ => tw_1593 | 42, _ => tw_1595 | 43, _ => tw_1597 | 44, _ => tw_1599 | 45, _ => tw_1601 | 46, _ => tw_1603 | 47, _ => tw_1605 | 48, _ => tw_1607 | 49, _ => tw_1609 | 50, _ => tw_1611 | 51, _ => tw_1613 | 52, _ => tw_1615 | 53, _ => tw_1617 | 54, _ => tw_1619 | 55, _ => tw_1621 | 56, _ => tw_1623 | 57, _ => tw_1625 | 58, _ => tw_1627 | 59, _ => tw_1629 | 60, _ => tw_1631 | 61, _ => tw_1633 | 62, _ => tw_1635 | 63, _ => tw_1637 | 64, _ => tw_1639 | 65, _ => tw_1641 | 66, _ => tw_1643 | 67, _ => tw_1645 | 68, _ => tw_1647 | 69, _ => tw_1649 | 70, _ => tw_1651 | 71, _ => tw_1653 | 72, _ => tw_1655 | 73, _ => tw_1657 | 74, _ => tw_1659 | 75, _ => tw_1661 | 76, _ => tw_1663 | 77, _ => tw_1665 | 78, _ => tw_1667 | 79, _ => tw_1669 | 80, _ => tw_1671 | 81, _ => tw_1673 | 82, _ => tw_1675 | 83, _ => tw_1677 | 84, _ => tw_1679 | 85, _ => tw_1681 | 86, _ => tw_1683 | 87, _ => tw_1685 | k + 88, hk => absurd hk (by omega)
  intro w h
  obtain ⟨k, hk, rfl⟩ := List.mem_map.mp h
  exact e k (List.mem_range.mp hk)
theorem tw_1445 : (Jvm.Cond.fieldLink "MarshBellsModel" (187 : Nat) "MarshBellsModel" "long1" "I") ∈ lw_tbl := tk_7 (List.mem_of_getElem? (i := 5) rfl)
theorem fl_X12_187 : kFL RX12 187 12 88 22 := ⟨RX12, TX12, rfl, by decide, inWX12, tw_1445⟩
theorem tw_1440 : (Jvm.Cond.fieldLink "MarshBellsModel" (53 : Nat) "MarshBellsModel" "tape" "[I") ∈ lw_tbl := tk_7 (List.mem_of_getElem? (i := 0) rfl)
theorem fl_X12_53 : kFL RX12 53 12 88 17 := ⟨RX12, TX12, rfl, by decide, inWX12, tw_1440⟩
theorem dX12_byteAt_0 : decode cX12_byteAt 0 = .ok (.iload_n 1, 1) := by decide +kernel
theorem dX12_byteAt_1 : decode cX12_byteAt 1 = .ok (.aload_n 0, 1) := by decide +kernel
theorem dX12_byteAt_2 : decode cX12_byteAt 2 = .ok (.getfield 187, 3) := by decide +kernel
theorem dX12_byteAt_18 : decode cX12_byteAt 18 = .ok (.ireturn, 1) := by decide +kernel
theorem dX12_byteAt_5 : decode cX12_byteAt 5 = .ok (.if_icmp .ge 12, 3) := by decide +kernel
theorem dX12_byteAt_17 : decode cX12_byteAt 17 = .ok (.iconst 0, 1) := by decide +kernel
theorem dX12_byteAt_8 : decode cX12_byteAt 8 = .ok (.aload_n 0, 1) := by decide +kernel
theorem dX12_byteAt_9 : decode cX12_byteAt 9 = .ok (.getfield 53, 3) := by decide +kernel
theorem dX12_byteAt_12 : decode cX12_byteAt 12 = .ok (.iload_n 1, 1) := by decide +kernel
theorem dX12_byteAt_13 : decode cX12_byteAt 13 = .ok (.iaload, 1) := by decide +kernel
theorem dX12_byteAt_14 : decode cX12_byteAt 14 = .ok (.goto 4, 3) := by decide +kernel
theorem dX12_isLetter_0 : decode cX12_isLetter 0 = .ok (.iload_n 0, 1) := by decide +kernel
theorem dX12_isLetter_1 : decode cX12_isLetter 1 = .ok (.bipush 97, 2) := by decide +kernel
theorem dX12_isLetter_17 : decode cX12_isLetter 17 = .ok (.ireturn, 1) := by decide +kernel
theorem dX12_isLetter_16 : decode cX12_isLetter 16 = .ok (.iconst 0, 1) := by decide +kernel
theorem dX12_isLetter_3 : decode cX12_isLetter 3 = .ok (.if_icmp .lt 13, 3) := by decide +kernel
theorem dX12_isLetter_6 : decode cX12_isLetter 6 = .ok (.iload_n 0, 1) := by decide +kernel
theorem dX12_isLetter_7 : decode cX12_isLetter 7 = .ok (.bipush 122, 2) := by decide +kernel
theorem dX12_isLetter_9 : decode cX12_isLetter 9 = .ok (.if_icmp .gt 7, 3) := by decide +kernel
theorem dX12_isLetter_12 : decode cX12_isLetter 12 = .ok (.iconst 1, 1) := by decide +kernel
theorem dX12_isLetter_13 : decode cX12_isLetter 13 = .ok (.goto 4, 3) := by decide +kernel
theorem dX12_isDigit_0 : decode cX12_isDigit 0 = .ok (.iload_n 0, 1) := by decide +kernel
theorem dX12_isDigit_1 : decode cX12_isDigit 1 = .ok (.bipush 48, 2) := by decide +kernel
theorem dX12_isDigit_17 : decode cX12_isDigit 17 = .ok (.ireturn, 1) := by decide +kernel
theorem dX12_isDigit_16 : decode cX12_isDigit 16 = .ok (.iconst 0, 1) := by decide +kernel
theorem dX12_isDigit_3 : decode cX12_isDigit 3 = .ok (.if_icmp .lt 13, 3) := by decide +kernel
theorem dX12_isDigit_6 : decode cX12_isDigit 6 = .ok (.iload_n 0, 1) := by decide +kernel
theorem dX12_isDigit_7 : decode cX12_isDigit 7 = .ok (.bipush 57, 2) := by decide +kernel
theorem dX12_isDigit_9 : decode cX12_isDigit 9 = .ok (.if_icmp .gt 7, 3) := by decide +kernel
theorem dX12_isDigit_12 : decode cX12_isDigit 12 = .ok (.iconst 1, 1) := by decide +kernel
theorem dX12_isDigit_13 : decode cX12_isDigit 13 = .ok (.goto 4, 3) := by decide +kernel
theorem tw_1446 : (Jvm.Cond.fieldLink "MarshBellsModel" (190 : Nat) "MarshBellsModel" "next" "I") ∈ lw_tbl := tk_7 (List.mem_of_getElem? (i := 6) rfl)
theorem fl_X12_190 : kFL RX12 190 12 88 23 := ⟨RX12, TX12, rfl, by decide, inWX12, tw_1446⟩
theorem tw_1448 : (Jvm.Cond.fieldLink "MarshBellsModel" (197 : Nat) "MarshBellsModel" "place" "I") ∈ lw_tbl := tk_7 (List.mem_of_getElem? (i := 8) rfl)
theorem fl_X12_197 : kFL RX12 197 12 88 25 := ⟨RX12, TX12, rfl, by decide, inWX12, tw_1448⟩
theorem tw_1452 : (Jvm.Cond.fieldLink "MarshBellsModel" (200 : Nat) "MarshBellsModel" "word" "J") ∈ lw_tbl := tk_7 (List.mem_of_getElem? (i := 12) rfl)
theorem fl_X12_200 : kFL RX12 200 12 88 29 := ⟨RX12, TX12, rfl, by decide, inWX12, tw_1452⟩
theorem tw_1450 : (Jvm.Cond.fieldLink "MarshBellsModel" (204 : Nat) "MarshBellsModel" "value" "I") ∈ lw_tbl := tk_7 (List.mem_of_getElem? (i := 10) rfl)
theorem fl_X12_204 : kFL RX12 204 12 88 27 := ⟨RX12, TX12, rfl, by decide, inWX12, tw_1450⟩
theorem dX12_goes_0 : decode cX12_goes 0 = .ok (.aload_n 0, 1) := by decide +kernel
theorem dX12_goes_1 : decode cX12_goes 1 = .ok (.getfield 190, 3) := by decide +kernel
theorem dX12_goes_4 : decode cX12_goes 4 = .ok (.aload_n 0, 1) := by decide +kernel
theorem dX12_goes_5 : decode cX12_goes 5 = .ok (.getfield 187, 3) := by decide +kernel
theorem dX12_goes_50 : decode cX12_goes 50 = .ok (.aload_n 0, 1) := by decide +kernel
theorem dX12_goes_51 : decode cX12_goes 51 = .ok (.aload_n 0, 1) := by decide +kernel
theorem dX12_goes_52 : decode cX12_goes 52 = .ok (.getfield 190, 3) := by decide +kernel
theorem ft_X12_25 : kFT 12 25 .int false RX12 := ⟨RX12, TX12, 88, tyX12, rfl, tyX12_ok, nmX12, rfl, by decide +kernel, rfl⟩
theorem dX12_goes_55 : decode cX12_goes 55 = .ok (.putfield 197, 3) := by decide +kernel
theorem dX12_goes_58 : decode cX12_goes 58 = .ok (.aload_n 0, 1) := by decide +kernel
theorem dX12_goes_59 : decode cX12_goes 59 = .ok (.lconst 0, 1) := by decide +kernel
theorem ft_X12_29 : kFT 12 29 .long false RX12 := ⟨RX12, TX12, 88, tyX12, rfl, tyX12_ok, nmX12, rfl, by decide +kernel, rfl⟩
theorem dX12_goes_60 : decode cX12_goes 60 = .ok (.putfield 200, 3) := by decide +kernel
theorem dX12_goes_63 : decode cX12_goes 63 = .ok (.aload_n 0, 1) := by decide +kernel
theorem dX12_goes_64 : decode cX12_goes 64 = .ok (.iconst 0, 1) := by decide +kernel
theorem ft_X12_27 : kFT 12 27 .int false RX12 := ⟨RX12, TX12, 88, tyX12, rfl, tyX12_ok, nmX12, rfl, by decide +kernel, rfl⟩
theorem dX12_goes_65 : decode cX12_goes 65 = .ok (.putfield 204, 3) := by decide +kernel
theorem dX12_goes_68 : decode cX12_goes 68 = .ok (.aload_n 0, 1) := by decide +kernel
theorem dX12_goes_69 : decode cX12_goes 69 = .ok (.aload_n 0, 1) := by decide +kernel
theorem dX12_goes_70 : decode cX12_goes 70 = .ok (.getfield 190, 3) := by decide +kernel
theorem tw_1712 : (Jvm.Cond.methodLink "MarshBellsModel" (193 : Nat) ({ cls := "MarshBellsModel", name := "byteAt", desc := "(I)I" } : Jvm.MethodName)) ∈ lw_tbl := tk_8 (List.mem_of_getElem? (i := 32) rfl)
theorem tw_13 : (Jvm.Cond.initialized "MarshBellsModel") ∈ lw_tbl := tk_1 (List.mem_of_getElem? (i := 13) rfl)
theorem tw_1715 : (Jvm.Cond.code ({ cls := "MarshBellsModel", name := "byteAt", desc := "(I)I" } : Jvm.MethodName) prog_14_method_9_code (2 : Nat) (Option.some Jvm.ClassFile.FieldType.int)) ∈ lw_tbl := tk_8 (List.mem_of_getElem? (i := 35) rfl)
theorem tw_1714 : (Jvm.Cond.instanceMethod ({ cls := "MarshBellsModel", name := "byteAt", desc := "(I)I" } : Jvm.MethodName)) ∈ lw_tbl := tk_8 (List.mem_of_getElem? (i := 34) rfl)
theorem se_X12_byteAt : Cond.selects RX12 yX12_byteAt yX12_byteAt ∈ lw_tbl := List.mem_append_left _ (List.mem_of_getElem? (i := 111) rfl)
theorem li_X12_193 : kLV RX12 193 RX12 yX12_byteAt cX12_byteAt 2 (some .int) 1 := ⟨tw_1712, tw_1714, se_X12_byteAt, tw_1715, tw_13, by decide +kernel⟩
theorem dX12_goes_73 : decode cX12_goes 73 = .ok (.invokevirtual 193, 3) := by decide +kernel
theorem dX12_goes_76 : decode cX12_goes 76 = .ok (.istore_n 1, 1) := by decide +kernel
theorem dX12_goes_77 : decode cX12_goes 77 = .ok (.aload_n 0, 1) := by decide +kernel
theorem dX12_goes_78 : decode cX12_goes 78 = .ok (.iload_n 1, 1) := by decide +kernel
theorem tw_1451 : (Jvm.Cond.fieldLink "MarshBellsModel" (207 : Nat) "MarshBellsModel" "sign" "I") ∈ lw_tbl := tk_7 (List.mem_of_getElem? (i := 11) rfl)
theorem fl_X12_207 : kFL RX12 207 12 88 28 := ⟨RX12, TX12, rfl, by decide, inWX12, tw_1451⟩
theorem ft_X12_28 : kFT 12 28 .int false RX12 := ⟨RX12, TX12, 88, tyX12, rfl, tyX12_ok, nmX12, rfl, by decide +kernel, rfl⟩
theorem dX12_goes_79 : decode cX12_goes 79 = .ok (.putfield 207, 3) := by decide +kernel
theorem dX12_goes_82 : decode cX12_goes 82 = .ok (.aload_n 0, 1) := by decide +kernel
theorem dX12_goes_83 : decode cX12_goes 83 = .ok (.getfield 190, 3) := by decide +kernel
theorem dX12_goes_86 : decode cX12_goes 86 = .ok (.aload_n 0, 1) := by decide +kernel
theorem dX12_goes_87 : decode cX12_goes 87 = .ok (.getfield 187, 3) := by decide +kernel
theorem dX12_goes_331 : decode cX12_goes 331 = .ok (.aload_n 0, 1) := by decide +kernel
theorem dX12_goes_332 : decode cX12_goes 332 = .ok (.aload_n 0, 1) := by decide +kernel
theorem dX12_goes_333 : decode cX12_goes 333 = .ok (.getfield 190, 3) := by decide +kernel
theorem dX12_goes_336 : decode cX12_goes 336 = .ok (.aload_n 0, 1) := by decide +kernel
theorem dX12_goes_337 : decode cX12_goes 337 = .ok (.getfield 197, 3) := by decide +kernel
theorem dX12_goes_340 : decode cX12_goes 340 = .ok (.isub, 1) := by decide +kernel
theorem tw_1449 : (Jvm.Cond.fieldLink "MarshBellsModel" (220 : Nat) "MarshBellsModel" "long0" "I") ∈ lw_tbl := tk_7 (List.mem_of_getElem? (i := 9) rfl)
theorem fl_X12_220 : kFL RX12 220 12 88 26 := ⟨RX12, TX12, rfl, by decide, inWX12, tw_1449⟩
theorem ft_X12_26 : kFT 12 26 .int false RX12 := ⟨RX12, TX12, 88, tyX12, rfl, tyX12_ok, nmX12, rfl, by decide +kernel, rfl⟩
theorem dX12_goes_341 : decode cX12_goes 341 = .ok (.putfield 220, 3) := by decide +kernel
theorem dX12_goes_344 : decode cX12_goes 344 = .ok (.return_, 1) := by decide +kernel
theorem dX12_goes_90 : decode cX12_goes 90 = .ok (.if_icmp .lt 11, 3) := by decide +kernel
theorem dX12_goes_101 : decode cX12_goes 101 = .ok (.iload_n 1, 1) := by decide +kernel
theorem tw_1716 : (Jvm.Cond.methodLink "MarshBellsModel" (213 : Nat) ({ cls := "MarshBellsModel", name := "isLetter", desc := "(I)Z" } : Jvm.MethodName)) ∈ lw_tbl := tk_8 (List.mem_of_getElem? (i := 36) rfl)
theorem tw_1718 : (Jvm.Cond.code ({ cls := "MarshBellsModel", name := "isLetter", desc := "(I)Z" } : Jvm.MethodName) prog_14_method_10_code (1 : Nat) (Option.some Jvm.ClassFile.FieldType.boolean)) ∈ lw_tbl := tk_8 (List.mem_of_getElem? (i := 38) rfl)
theorem tw_1717 : (Jvm.Cond.static ({ cls := "MarshBellsModel", name := "isLetter", desc := "(I)Z" } : Jvm.MethodName)) ∈ lw_tbl := tk_8 (List.mem_of_getElem? (i := 37) rfl)
theorem li_X12_213 : kLS RX12 213 yX12_isLetter cX12_isLetter 1 (some .boolean) 1 := ⟨tw_1716, tw_1717, tw_1718, tw_13, by decide +kernel⟩
theorem dX12_goes_102 : decode cX12_goes 102 = .ok (.invokestatic 213, 3) := by decide +kernel
theorem dX12_goes_105 : decode cX12_goes 105 = .ok (.ifCond .eq 75, 3) := by decide +kernel
theorem dX12_goes_180 : decode cX12_goes 180 = .ok (.iload_n 1, 1) := by decide +kernel
theorem tw_1719 : (Jvm.Cond.methodLink "MarshBellsModel" (217 : Nat) ({ cls := "MarshBellsModel", name := "isDigit", desc := "(I)Z" } : Jvm.MethodName)) ∈ lw_tbl := tk_8 (List.mem_of_getElem? (i := 39) rfl)
theorem tw_1721 : (Jvm.Cond.code ({ cls := "MarshBellsModel", name := "isDigit", desc := "(I)Z" } : Jvm.MethodName) prog_14_method_11_code (1 : Nat) (Option.some Jvm.ClassFile.FieldType.boolean)) ∈ lw_tbl := tk_8 (List.mem_of_getElem? (i := 41) rfl)
theorem tw_1720 : (Jvm.Cond.static ({ cls := "MarshBellsModel", name := "isDigit", desc := "(I)Z" } : Jvm.MethodName)) ∈ lw_tbl := tk_8 (List.mem_of_getElem? (i := 40) rfl)
theorem li_X12_217 : kLS RX12 217 yX12_isDigit cX12_isDigit 1 (some .boolean) 1 := ⟨tw_1719, tw_1720, tw_1721, tw_13, by decide +kernel⟩
theorem dX12_goes_181 : decode cX12_goes 181 = .ok (.invokestatic 217, 3) := by decide +kernel
theorem dX12_goes_184 : decode cX12_goes 184 = .ok (.ifCond .eq 74, 3) := by decide +kernel
theorem dX12_goes_258 : decode cX12_goes 258 = .ok (.aload_n 0, 1) := by decide +kernel
theorem dX12_goes_259 : decode cX12_goes 259 = .ok (.dup, 1) := by decide +kernel
theorem dX12_goes_260 : decode cX12_goes 260 = .ok (.getfield 190, 3) := by decide +kernel
theorem dX12_goes_263 : decode cX12_goes 263 = .ok (.iconst 1, 1) := by decide +kernel
theorem dX12_goes_264 : decode cX12_goes 264 = .ok (.iadd, 1) := by decide +kernel
theorem ft_X12_23 : kFT 12 23 .int false RX12 := ⟨RX12, TX12, 88, tyX12, rfl, tyX12_ok, nmX12, rfl, by decide +kernel, rfl⟩
theorem dX12_goes_265 : decode cX12_goes 265 = .ok (.putfield 190, 3) := by decide +kernel
theorem dX12_goes_268 : decode cX12_goes 268 = .ok (.aload_n 0, 1) := by decide +kernel
theorem dX12_goes_269 : decode cX12_goes 269 = .ok (.iload_n 1, 1) := by decide +kernel
theorem dX12_goes_270 : decode cX12_goes 270 = .ok (.bipush 59, 2) := by decide +kernel
theorem tw_1447 : (Jvm.Cond.fieldLink "MarshBellsModel" (210 : Nat) "MarshBellsModel" "sort" "I") ∈ lw_tbl := tk_7 (List.mem_of_getElem? (i := 7) rfl)
theorem fl_X12_210 : kFL RX12 210 12 88 24 := ⟨RX12, TX12, rfl, by decide, inWX12, tw_1447⟩
theorem ft_X12_24 : kFT 12 24 .int false RX12 := ⟨RX12, TX12, 88, tyX12, rfl, tyX12_ok, nmX12, rfl, by decide +kernel, rfl⟩
theorem dX12_goes_328 : decode cX12_goes 328 = .ok (.putfield 210, 3) := by decide +kernel
theorem dX12_goes_323 : decode cX12_goes 323 = .ok (.iconst 3, 1) := by decide +kernel
theorem dX12_goes_324 : decode cX12_goes 324 = .ok (.goto 4, 3) := by decide +kernel
theorem dX12_goes_272 : decode cX12_goes 272 = .ok (.if_icmp .eq 51, 3) := by decide +kernel
theorem dX12_goes_275 : decode cX12_goes 275 = .ok (.iload_n 1, 1) := by decide +kernel
theorem dX12_goes_276 : decode cX12_goes 276 = .ok (.bipush 40, 2) := by decide +kernel
theorem dX12_goes_278 : decode cX12_goes 278 = .ok (.if_icmp .eq 45, 3) := by decide +kernel
theorem dX12_goes_281 : decode cX12_goes 281 = .ok (.iload_n 1, 1) := by decide +kernel
theorem dX12_goes_282 : decode cX12_goes 282 = .ok (.bipush 41, 2) := by decide +kernel
theorem dX12_goes_284 : decode cX12_goes 284 = .ok (.if_icmp .eq 39, 3) := by decide +kernel
theorem dX12_goes_287 : decode cX12_goes 287 = .ok (.iload_n 1, 1) := by decide +kernel
theorem dX12_goes_288 : decode cX12_goes 288 = .ok (.bipush 43, 2) := by decide +kernel
theorem dX12_goes_290 : decode cX12_goes 290 = .ok (.if_icmp .eq 33, 3) := by decide +kernel
theorem dX12_goes_293 : decode cX12_goes 293 = .ok (.iload_n 1, 1) := by decide +kernel
theorem dX12_goes_294 : decode cX12_goes 294 = .ok (.bipush 45, 2) := by decide +kernel
theorem dX12_goes_296 : decode cX12_goes 296 = .ok (.if_icmp .eq 27, 3) := by decide +kernel
theorem dX12_goes_299 : decode cX12_goes 299 = .ok (.iload_n 1, 1) := by decide +kernel
theorem dX12_goes_300 : decode cX12_goes 300 = .ok (.bipush 42, 2) := by decide +kernel
theorem dX12_goes_302 : decode cX12_goes 302 = .ok (.if_icmp .eq 21, 3) := by decide +kernel
theorem dX12_goes_305 : decode cX12_goes 305 = .ok (.iload_n 1, 1) := by decide +kernel
theorem dX12_goes_306 : decode cX12_goes 306 = .ok (.bipush 47, 2) := by decide +kernel
theorem dX12_goes_308 : decode cX12_goes 308 = .ok (.if_icmp .eq 15, 3) := by decide +kernel
theorem dX12_goes_311 : decode cX12_goes 311 = .ok (.iload_n 1, 1) := by decide +kernel
theorem dX12_goes_312 : decode cX12_goes 312 = .ok (.bipush 60, 2) := by decide +kernel
theorem dX12_goes_314 : decode cX12_goes 314 = .ok (.if_icmp .eq 9, 3) := by decide +kernel
theorem dX12_goes_317 : decode cX12_goes 317 = .ok (.iload_n 1, 1) := by decide +kernel
theorem dX12_goes_318 : decode cX12_goes 318 = .ok (.bipush 61, 2) := by decide +kernel
theorem dX12_goes_320 : decode cX12_goes 320 = .ok (.if_icmp .ne 7, 3) := by decide +kernel
theorem dX12_goes_327 : decode cX12_goes 327 = .ok (.iconst 4, 1) := by decide +kernel
theorem dX12_goes_187 : decode cX12_goes 187 = .ok (.aload_n 0, 1) := by decide +kernel
theorem dX12_goes_188 : decode cX12_goes 188 = .ok (.aload_n 0, 1) := by decide +kernel
theorem dX12_goes_189 : decode cX12_goes 189 = .ok (.getfield 190, 3) := by decide +kernel
theorem dX12_goes_192 : decode cX12_goes 192 = .ok (.invokevirtual 193, 3) := by decide +kernel
theorem dX12_goes_195 : decode cX12_goes 195 = .ok (.invokestatic 217, 3) := by decide +kernel
theorem dX12_goes_198 : decode cX12_goes 198 = .ok (.ifCond .eq 52, 3) := by decide +kernel
theorem dX12_goes_250 : decode cX12_goes 250 = .ok (.aload_n 0, 1) := by decide +kernel
theorem dX12_goes_251 : decode cX12_goes 251 = .ok (.iconst 2, 1) := by decide +kernel
theorem dX12_goes_252 : decode cX12_goes 252 = .ok (.putfield 210, 3) := by decide +kernel
theorem dX12_goes_255 : decode cX12_goes 255 = .ok (.goto 76, 3) := by decide +kernel
theorem dX12_goes_201 : decode cX12_goes 201 = .ok (.aload_n 0, 1) := by decide +kernel
theorem dX12_goes_202 : decode cX12_goes 202 = .ok (.getfield 190, 3) := by decide +kernel
theorem dX12_goes_205 : decode cX12_goes 205 = .ok (.aload_n 0, 1) := by decide +kernel
theorem dX12_goes_206 : decode cX12_goes 206 = .ok (.getfield 197, 3) := by decide +kernel
theorem dX12_goes_209 : decode cX12_goes 209 = .ok (.isub, 1) := by decide +kernel
theorem dX12_goes_210 : decode cX12_goes 210 = .ok (.iconst 4, 1) := by decide +kernel
theorem dX12_goes_237 : decode cX12_goes 237 = .ok (.aload_n 0, 1) := by decide +kernel
theorem dX12_goes_238 : decode cX12_goes 238 = .ok (.dup, 1) := by decide +kernel
theorem dX12_goes_239 : decode cX12_goes 239 = .ok (.getfield 190, 3) := by decide +kernel
theorem dX12_goes_242 : decode cX12_goes 242 = .ok (.iconst 1, 1) := by decide +kernel
theorem dX12_goes_243 : decode cX12_goes 243 = .ok (.iadd, 1) := by decide +kernel
theorem dX12_goes_244 : decode cX12_goes 244 = .ok (.putfield 190, 3) := by decide +kernel
theorem dX12_goes_247 : decode cX12_goes 247 = .ok (.goto (-60), 3) := by decide +kernel
theorem dX12_goes_211 : decode cX12_goes 211 = .ok (.if_icmp .ge 26, 3) := by decide +kernel
theorem dX12_goes_214 : decode cX12_goes 214 = .ok (.aload_n 0, 1) := by decide +kernel
theorem dX12_goes_215 : decode cX12_goes 215 = .ok (.bipush 10, 2) := by decide +kernel
theorem dX12_goes_217 : decode cX12_goes 217 = .ok (.aload_n 0, 1) := by decide +kernel
theorem dX12_goes_218 : decode cX12_goes 218 = .ok (.getfield 204, 3) := by decide +kernel
theorem dX12_goes_221 : decode cX12_goes 221 = .ok (.imul, 1) := by decide +kernel
theorem dX12_goes_222 : decode cX12_goes 222 = .ok (.aload_n 0, 1) := by decide +kernel
theorem dX12_goes_223 : decode cX12_goes 223 = .ok (.aload_n 0, 1) := by decide +kernel
theorem dX12_goes_224 : decode cX12_goes 224 = .ok (.getfield 190, 3) := by decide +kernel
theorem dX12_goes_227 : decode cX12_goes 227 = .ok (.invokevirtual 193, 3) := by decide +kernel
theorem dX12_goes_230 : decode cX12_goes 230 = .ok (.iadd, 1) := by decide +kernel
theorem dX12_goes_231 : decode cX12_goes 231 = .ok (.bipush 48, 2) := by decide +kernel
theorem dX12_goes_233 : decode cX12_goes 233 = .ok (.isub, 1) := by decide +kernel
theorem dX12_goes_234 : decode cX12_goes 234 = .ok (.putfield 204, 3) := by decide +kernel
theorem dX12_goes_108 : decode cX12_goes 108 = .ok (.aload_n 0, 1) := by decide +kernel
theorem dX12_goes_109 : decode cX12_goes 109 = .ok (.aload_n 0, 1) := by decide +kernel
theorem dX12_goes_110 : decode cX12_goes 110 = .ok (.getfield 190, 3) := by decide +kernel
theorem dX12_goes_113 : decode cX12_goes 113 = .ok (.invokevirtual 193, 3) := by decide +kernel
theorem dX12_goes_116 : decode cX12_goes 116 = .ok (.invokestatic 213, 3) := by decide +kernel
theorem dX12_goes_119 : decode cX12_goes 119 = .ok (.ifCond .eq 53, 3) := by decide +kernel
theorem dX12_goes_172 : decode cX12_goes 172 = .ok (.aload_n 0, 1) := by decide +kernel
theorem dX12_goes_173 : decode cX12_goes 173 = .ok (.iconst 1, 1) := by decide +kernel
theorem dX12_goes_174 : decode cX12_goes 174 = .ok (.putfield 210, 3) := by decide +kernel
theorem dX12_goes_177 : decode cX12_goes 177 = .ok (.goto 154, 3) := by decide +kernel
theorem dX12_goes_122 : decode cX12_goes 122 = .ok (.aload_n 0, 1) := by decide +kernel
theorem dX12_goes_123 : decode cX12_goes 123 = .ok (.getfield 190, 3) := by decide +kernel
theorem dX12_goes_126 : decode cX12_goes 126 = .ok (.aload_n 0, 1) := by decide +kernel
theorem dX12_goes_127 : decode cX12_goes 127 = .ok (.getfield 197, 3) := by decide +kernel
theorem dX12_goes_130 : decode cX12_goes 130 = .ok (.isub, 1) := by decide +kernel
theorem dX12_goes_131 : decode cX12_goes 131 = .ok (.bipush 6, 2) := by decide +kernel
theorem dX12_goes_159 : decode cX12_goes 159 = .ok (.aload_n 0, 1) := by decide +kernel
theorem dX12_goes_160 : decode cX12_goes 160 = .ok (.dup, 1) := by decide +kernel
theorem dX12_goes_161 : decode cX12_goes 161 = .ok (.getfield 190, 3) := by decide +kernel
theorem dX12_goes_164 : decode cX12_goes 164 = .ok (.iconst 1, 1) := by decide +kernel
theorem dX12_goes_165 : decode cX12_goes 165 = .ok (.iadd, 1) := by decide +kernel
theorem dX12_goes_166 : decode cX12_goes 166 = .ok (.putfield 190, 3) := by decide +kernel
theorem dX12_goes_169 : decode cX12_goes 169 = .ok (.goto (-61), 3) := by decide +kernel
theorem dX12_goes_133 : decode cX12_goes 133 = .ok (.if_icmp .ge 26, 3) := by decide +kernel
theorem dX12_goes_136 : decode cX12_goes 136 = .ok (.aload_n 0, 1) := by decide +kernel
theorem dX12_goes_137 : decode cX12_goes 137 = .ok (.aload_n 0, 1) := by decide +kernel
theorem dX12_goes_138 : decode cX12_goes 138 = .ok (.getfield 200, 3) := by decide +kernel
theorem dX12_goes_141 : decode cX12_goes 141 = .ok (.iconst 5, 1) := by decide +kernel
theorem dX12_goes_142 : decode cX12_goes 142 = .ok (.lshl, 1) := by decide +kernel
theorem dX12_goes_143 : decode cX12_goes 143 = .ok (.aload_n 0, 1) := by decide +kernel
theorem dX12_goes_144 : decode cX12_goes 144 = .ok (.aload_n 0, 1) := by decide +kernel
theorem dX12_goes_145 : decode cX12_goes 145 = .ok (.getfield 190, 3) := by decide +kernel
theorem dX12_goes_148 : decode cX12_goes 148 = .ok (.invokevirtual 193, 3) := by decide +kernel
theorem dX12_goes_151 : decode cX12_goes 151 = .ok (.bipush 96, 2) := by decide +kernel
theorem dX12_goes_153 : decode cX12_goes 153 = .ok (.isub, 1) := by decide +kernel
theorem dX12_goes_154 : decode cX12_goes 154 = .ok (.i2l, 1) := by decide +kernel
theorem dX12_goes_155 : decode cX12_goes 155 = .ok (.lor, 1) := by decide +kernel
theorem dX12_goes_156 : decode cX12_goes 156 = .ok (.putfield 200, 3) := by decide +kernel
theorem dX12_goes_93 : decode cX12_goes 93 = .ok (.aload_n 0, 1) := by decide +kernel
theorem dX12_goes_94 : decode cX12_goes 94 = .ok (.iconst 0, 1) := by decide +kernel
theorem dX12_goes_95 : decode cX12_goes 95 = .ok (.putfield 210, 3) := by decide +kernel
theorem dX12_goes_98 : decode cX12_goes 98 = .ok (.goto 233, 3) := by decide +kernel
theorem dX12_goes_8 : decode cX12_goes 8 = .ok (.if_icmp .ge 42, 3) := by decide +kernel
theorem dX12_goes_11 : decode cX12_goes 11 = .ok (.aload_n 0, 1) := by decide +kernel
theorem dX12_goes_12 : decode cX12_goes 12 = .ok (.aload_n 0, 1) := by decide +kernel
theorem dX12_goes_13 : decode cX12_goes 13 = .ok (.getfield 190, 3) := by decide +kernel
theorem dX12_goes_16 : decode cX12_goes 16 = .ok (.invokevirtual 193, 3) := by decide +kernel
theorem dX12_goes_19 : decode cX12_goes 19 = .ok (.bipush 32, 2) := by decide +kernel
theorem dX12_goes_37 : decode cX12_goes 37 = .ok (.aload_n 0, 1) := by decide +kernel
theorem dX12_goes_38 : decode cX12_goes 38 = .ok (.dup, 1) := by decide +kernel
theorem dX12_goes_39 : decode cX12_goes 39 = .ok (.getfield 190, 3) := by decide +kernel
theorem dX12_goes_42 : decode cX12_goes 42 = .ok (.iconst 1, 1) := by decide +kernel
theorem dX12_goes_43 : decode cX12_goes 43 = .ok (.iadd, 1) := by decide +kernel
theorem dX12_goes_44 : decode cX12_goes 44 = .ok (.putfield 190, 3) := by decide +kernel
theorem dX12_goes_47 : decode cX12_goes 47 = .ok (.goto (-47), 3) := by decide +kernel
theorem dX12_goes_21 : decode cX12_goes 21 = .ok (.if_icmp .eq 16, 3) := by decide +kernel
theorem dX12_goes_24 : decode cX12_goes 24 = .ok (.aload_n 0, 1) := by decide +kernel
theorem dX12_goes_25 : decode cX12_goes 25 = .ok (.aload_n 0, 1) := by decide +kernel
theorem dX12_goes_26 : decode cX12_goes 26 = .ok (.getfield 190, 3) := by decide +kernel
theorem dX12_goes_29 : decode cX12_goes 29 = .ok (.invokevirtual 193, 3) := by decide +kernel
theorem dX12_goes_32 : decode cX12_goes 32 = .ok (.bipush 10, 2) := by decide +kernel
theorem dX12_goes_34 : decode cX12_goes 34 = .ok (.if_icmp .ne 16, 3) := by decide +kernel
theorem dX12_spelled_0 : decode cX12_spelled 0 = .ok (.iload_n 0, 1) := by decide +kernel
theorem dX12_spelled_1 : decode cX12_spelled 1 = .ok (.i2l, 1) := by decide +kernel
theorem tw_1740 : (Jvm.Cond.constantLong "MarshBellsModel" (223 : Nat) (96 : Int64)) ∈ lw_tbl := tk_8 (List.mem_of_getElem? (i := 60) rfl)
theorem dX12_spelled_2 : decode cX12_spelled 2 = .ok (.ldc2_w 223, 3) := by decide +kernel
theorem dX12_spelled_5 : decode cX12_spelled 5 = .ok (.lsub, 1) := by decide +kernel
theorem dX12_spelled_6 : decode cX12_spelled 6 = .ok (.iconst 5, 1) := by decide +kernel
theorem dX12_spelled_7 : decode cX12_spelled 7 = .ok (.lshl, 1) := by decide +kernel
theorem dX12_spelled_8 : decode cX12_spelled 8 = .ok (.iload_n 1, 1) := by decide +kernel
theorem dX12_spelled_9 : decode cX12_spelled 9 = .ok (.bipush 96, 2) := by decide +kernel
theorem dX12_spelled_11 : decode cX12_spelled 11 = .ok (.isub, 1) := by decide +kernel
theorem dX12_spelled_12 : decode cX12_spelled 12 = .ok (.i2l, 1) := by decide +kernel
theorem dX12_spelled_13 : decode cX12_spelled 13 = .ok (.lor, 1) := by decide +kernel
theorem dX12_spelled_14 : decode cX12_spelled 14 = .ok (.lstore 6, 2) := by decide +kernel
theorem dX12_spelled_16 : decode cX12_spelled 16 = .ok (.iload_n 2, 1) := by decide +kernel
theorem dX12_spelled_32 : decode cX12_spelled 32 = .ok (.iload_n 3, 1) := by decide +kernel
theorem dX12_spelled_48 : decode cX12_spelled 48 = .ok (.iload 4, 2) := by decide +kernel
theorem dX12_spelled_66 : decode cX12_spelled 66 = .ok (.iload 5, 2) := by decide +kernel
theorem dX12_spelled_84 : decode cX12_spelled 84 = .ok (.lload 6, 2) := by decide +kernel
theorem dX12_spelled_86 : decode cX12_spelled 86 = .ok (.lreturn, 1) := by decide +kernel
theorem dX12_spelled_68 : decode cX12_spelled 68 = .ok (.ifCond .eq 16, 3) := by decide +kernel
theorem dX12_spelled_71 : decode cX12_spelled 71 = .ok (.lload 6, 2) := by decide +kernel
theorem dX12_spelled_73 : decode cX12_spelled 73 = .ok (.iconst 5, 1) := by decide +kernel
theorem dX12_spelled_74 : decode cX12_spelled 74 = .ok (.lshl, 1) := by decide +kernel
theorem dX12_spelled_75 : decode cX12_spelled 75 = .ok (.iload 5, 2) := by decide +kernel
theorem dX12_spelled_77 : decode cX12_spelled 77 = .ok (.bipush 96, 2) := by decide +kernel
theorem dX12_spelled_79 : decode cX12_spelled 79 = .ok (.isub, 1) := by decide +kernel
theorem dX12_spelled_80 : decode cX12_spelled 80 = .ok (.i2l, 1) := by decide +kernel
theorem dX12_spelled_81 : decode cX12_spelled 81 = .ok (.lor, 1) := by decide +kernel
theorem dX12_spelled_82 : decode cX12_spelled 82 = .ok (.lstore 6, 2) := by decide +kernel
theorem dX12_spelled_50 : decode cX12_spelled 50 = .ok (.ifCond .eq 16, 3) := by decide +kernel
theorem dX12_spelled_53 : decode cX12_spelled 53 = .ok (.lload 6, 2) := by decide +kernel
theorem dX12_spelled_55 : decode cX12_spelled 55 = .ok (.iconst 5, 1) := by decide +kernel
theorem dX12_spelled_56 : decode cX12_spelled 56 = .ok (.lshl, 1) := by decide +kernel
theorem dX12_spelled_57 : decode cX12_spelled 57 = .ok (.iload 4, 2) := by decide +kernel
theorem dX12_spelled_59 : decode cX12_spelled 59 = .ok (.bipush 96, 2) := by decide +kernel
theorem dX12_spelled_61 : decode cX12_spelled 61 = .ok (.isub, 1) := by decide +kernel
theorem dX12_spelled_62 : decode cX12_spelled 62 = .ok (.i2l, 1) := by decide +kernel
theorem dX12_spelled_63 : decode cX12_spelled 63 = .ok (.lor, 1) := by decide +kernel
theorem dX12_spelled_64 : decode cX12_spelled 64 = .ok (.lstore 6, 2) := by decide +kernel
theorem dX12_spelled_33 : decode cX12_spelled 33 = .ok (.ifCond .eq 15, 3) := by decide +kernel
theorem dX12_spelled_36 : decode cX12_spelled 36 = .ok (.lload 6, 2) := by decide +kernel
theorem dX12_spelled_38 : decode cX12_spelled 38 = .ok (.iconst 5, 1) := by decide +kernel
theorem dX12_spelled_39 : decode cX12_spelled 39 = .ok (.lshl, 1) := by decide +kernel
theorem dX12_spelled_40 : decode cX12_spelled 40 = .ok (.iload_n 3, 1) := by decide +kernel
theorem dX12_spelled_41 : decode cX12_spelled 41 = .ok (.bipush 96, 2) := by decide +kernel
theorem dX12_spelled_43 : decode cX12_spelled 43 = .ok (.isub, 1) := by decide +kernel
theorem dX12_spelled_44 : decode cX12_spelled 44 = .ok (.i2l, 1) := by decide +kernel
theorem dX12_spelled_45 : decode cX12_spelled 45 = .ok (.lor, 1) := by decide +kernel
theorem dX12_spelled_46 : decode cX12_spelled 46 = .ok (.lstore 6, 2) := by decide +kernel
theorem dX12_spelled_17 : decode cX12_spelled 17 = .ok (.ifCond .eq 15, 3) := by decide +kernel
theorem dX12_spelled_20 : decode cX12_spelled 20 = .ok (.lload 6, 2) := by decide +kernel
theorem dX12_spelled_22 : decode cX12_spelled 22 = .ok (.iconst 5, 1) := by decide +kernel
theorem dX12_spelled_23 : decode cX12_spelled 23 = .ok (.lshl, 1) := by decide +kernel
theorem dX12_spelled_24 : decode cX12_spelled 24 = .ok (.iload_n 2, 1) := by decide +kernel
theorem dX12_spelled_25 : decode cX12_spelled 25 = .ok (.bipush 96, 2) := by decide +kernel
theorem dX12_spelled_27 : decode cX12_spelled 27 = .ok (.isub, 1) := by decide +kernel
theorem dX12_spelled_28 : decode cX12_spelled 28 = .ok (.i2l, 1) := by decide +kernel
theorem dX12_spelled_29 : decode cX12_spelled 29 = .ok (.lor, 1) := by decide +kernel
theorem dX12_spelled_30 : decode cX12_spelled 30 = .ok (.lstore 6, 2) := by decide +kernel
theorem dX12_letters_0 : decode cX12_letters 0 = .ok (.iload_n 0, 1) := by decide +kernel
theorem dX12_letters_1 : decode cX12_letters 1 = .ok (.tableswitch 306 0 15 #[79, 93, 107, 122, 136, 152, 168, 181, 195, 210, 225, 238, 252, 267, 281, 294], 79) := by decide +kernel
theorem dX12_letters_80 : decode cX12_letters 80 = .ok (.bipush 111, 2) := by decide +kernel
theorem dX12_letters_82 : decode cX12_letters 82 = .ok (.bipush 118, 2) := by decide +kernel
theorem dX12_letters_84 : decode cX12_letters 84 = .ok (.bipush 101, 2) := by decide +kernel
theorem dX12_letters_86 : decode cX12_letters 86 = .ok (.bipush 114, 2) := by decide +kernel
theorem dX12_letters_88 : decode cX12_letters 88 = .ok (.iconst 0, 1) := by decide +kernel
theorem dX12_letters_89 : decode cX12_letters 89 = .ok (.iconst 0, 1) := by decide +kernel
theorem tw_1737 : (Jvm.Cond.methodLink "MarshBellsModel" (225 : Nat) ({ cls := "MarshBellsModel", name := "spelled", desc := "(IIIIII)J" } : Jvm.MethodName)) ∈ lw_tbl := tk_8 (List.mem_of_getElem? (i := 57) rfl)
theorem tw_1739 : (Jvm.Cond.code ({ cls := "MarshBellsModel", name := "spelled", desc := "(IIIIII)J" } : Jvm.MethodName) prog_14_method_13_code (8 : Nat) (Option.some Jvm.ClassFile.FieldType.long)) ∈ lw_tbl := tk_8 (List.mem_of_getElem? (i := 59) rfl)
theorem tw_1738 : (Jvm.Cond.static ({ cls := "MarshBellsModel", name := "spelled", desc := "(IIIIII)J" } : Jvm.MethodName)) ∈ lw_tbl := tk_8 (List.mem_of_getElem? (i := 58) rfl)
theorem li_X12_225 : kLS RX12 225 yX12_spelled cX12_spelled 8 (some .long) 6 := ⟨tw_1737, tw_1738, tw_1739, tw_13, by decide +kernel⟩
theorem dX12_letters_90 : decode cX12_letters 90 = .ok (.invokestatic 225, 3) := by decide +kernel
theorem dX12_letters_93 : decode cX12_letters 93 = .ok (.lreturn, 1) := by decide +kernel
theorem dX12_letters_94 : decode cX12_letters 94 = .ok (.bipush 108, 2) := by decide +kernel
theorem dX12_letters_96 : decode cX12_letters 96 = .ok (.bipush 97, 2) := by decide +kernel
theorem dX12_letters_98 : decode cX12_letters 98 = .ok (.bipush 116, 2) := by decide +kernel
theorem dX12_letters_100 : decode cX12_letters 100 = .ok (.bipush 101, 2) := by decide +kernel
theorem dX12_letters_102 : decode cX12_letters 102 = .ok (.iconst 0, 1) := by decide +kernel
theorem dX12_letters_103 : decode cX12_letters 103 = .ok (.iconst 0, 1) := by decide +kernel
theorem dX12_letters_104 : decode cX12_letters 104 = .ok (.invokestatic 225, 3) := by decide +kernel
theorem dX12_letters_107 : decode cX12_letters 107 = .ok (.lreturn, 1) := by decide +kernel
theorem dX12_letters_108 : decode cX12_letters 108 = .ok (.bipush 99, 2) := by decide +kernel
theorem dX12_letters_110 : decode cX12_letters 110 = .ok (.bipush 108, 2) := by decide +kernel
theorem dX12_letters_112 : decode cX12_letters 112 = .ok (.bipush 111, 2) := by decide +kernel
theorem dX12_letters_114 : decode cX12_letters 114 = .ok (.bipush 99, 2) := by decide +kernel
theorem dX12_letters_116 : decode cX12_letters 116 = .ok (.bipush 107, 2) := by decide +kernel
theorem dX12_letters_118 : decode cX12_letters 118 = .ok (.iconst 0, 1) := by decide +kernel
theorem dX12_letters_119 : decode cX12_letters 119 = .ok (.invokestatic 225, 3) := by decide +kernel
theorem dX12_letters_122 : decode cX12_letters 122 = .ok (.lreturn, 1) := by decide +kernel
theorem dX12_letters_123 : decode cX12_letters 123 = .ok (.bipush 114, 2) := by decide +kernel
theorem dX12_letters_125 : decode cX12_letters 125 = .ok (.bipush 111, 2) := by decide +kernel
theorem dX12_letters_127 : decode cX12_letters 127 = .ok (.bipush 111, 2) := by decide +kernel
theorem dX12_letters_129 : decode cX12_letters 129 = .ok (.bipush 109, 2) := by decide +kernel
theorem dX12_letters_131 : decode cX12_letters 131 = .ok (.iconst 0, 1) := by decide +kernel
theorem dX12_letters_132 : decode cX12_letters 132 = .ok (.iconst 0, 1) := by decide +kernel
theorem dX12_letters_133 : decode cX12_letters 133 = .ok (.invokestatic 225, 3) := by decide +kernel
theorem dX12_letters_136 : decode cX12_letters 136 = .ok (.lreturn, 1) := by decide +kernel
theorem dX12_letters_137 : decode cX12_letters 137 = .ok (.bipush 112, 2) := by decide +kernel
theorem dX12_letters_139 : decode cX12_letters 139 = .ok (.bipush 101, 2) := by decide +kernel
theorem dX12_letters_141 : decode cX12_letters 141 = .ok (.bipush 111, 2) := by decide +kernel
theorem dX12_letters_143 : decode cX12_letters 143 = .ok (.bipush 112, 2) := by decide +kernel
theorem dX12_letters_145 : decode cX12_letters 145 = .ok (.bipush 108, 2) := by decide +kernel
theorem dX12_letters_147 : decode cX12_letters 147 = .ok (.bipush 101, 2) := by decide +kernel
theorem dX12_letters_149 : decode cX12_letters 149 = .ok (.invokestatic 225, 3) := by decide +kernel
theorem dX12_letters_152 : decode cX12_letters 152 = .ok (.lreturn, 1) := by decide +kernel
theorem dX12_letters_153 : decode cX12_letters 153 = .ok (.bipush 108, 2) := by decide +kernel
theorem dX12_letters_155 : decode cX12_letters 155 = .ok (.bipush 101, 2) := by decide +kernel
theorem dX12_letters_157 : decode cX12_letters 157 = .ok (.bipush 115, 2) := by decide +kernel
theorem dX12_letters_159 : decode cX12_letters 159 = .ok (.bipush 115, 2) := by decide +kernel
theorem dX12_letters_161 : decode cX12_letters 161 = .ok (.bipush 111, 2) := by decide +kernel
theorem dX12_letters_163 : decode cX12_letters 163 = .ok (.bipush 110, 2) := by decide +kernel
theorem dX12_letters_165 : decode cX12_letters 165 = .ok (.invokestatic 225, 3) := by decide +kernel
theorem dX12_letters_168 : decode cX12_letters 168 = .ok (.lreturn, 1) := by decide +kernel
theorem dX12_letters_169 : decode cX12_letters 169 = .ok (.bipush 97, 2) := by decide +kernel
theorem dX12_letters_171 : decode cX12_letters 171 = .ok (.bipush 108, 2) := by decide +kernel
theorem dX12_letters_173 : decode cX12_letters 173 = .ok (.bipush 108, 2) := by decide +kernel
theorem dX12_letters_175 : decode cX12_letters 175 = .ok (.iconst 0, 1) := by decide +kernel
theorem dX12_letters_176 : decode cX12_letters 176 = .ok (.iconst 0, 1) := by decide +kernel
theorem dX12_letters_177 : decode cX12_letters 177 = .ok (.iconst 0, 1) := by decide +kernel
theorem dX12_letters_178 : decode cX12_letters 178 = .ok (.invokestatic 225, 3) := by decide +kernel
theorem dX12_letters_181 : decode cX12_letters 181 = .ok (.lreturn, 1) := by decide +kernel
theorem dX12_letters_182 : decode cX12_letters 182 = .ok (.bipush 115, 2) := by decide +kernel
theorem dX12_letters_184 : decode cX12_letters 184 = .ok (.bipush 111, 2) := by decide +kernel
theorem dX12_letters_186 : decode cX12_letters 186 = .ok (.bipush 109, 2) := by decide +kernel
theorem dX12_letters_188 : decode cX12_letters 188 = .ok (.bipush 101, 2) := by decide +kernel
theorem dX12_letters_190 : decode cX12_letters 190 = .ok (.iconst 0, 1) := by decide +kernel
theorem dX12_letters_191 : decode cX12_letters 191 = .ok (.iconst 0, 1) := by decide +kernel
theorem dX12_letters_192 : decode cX12_letters 192 = .ok (.invokestatic 225, 3) := by decide +kernel
theorem dX12_letters_195 : decode cX12_letters 195 = .ok (.lreturn, 1) := by decide +kernel
theorem dX12_letters_196 : decode cX12_letters 196 = .ok (.bipush 108, 2) := by decide +kernel
theorem dX12_letters_198 : decode cX12_letters 198 = .ok (.bipush 105, 2) := by decide +kernel
theorem dX12_letters_200 : decode cX12_letters 200 = .ok (.bipush 109, 2) := by decide +kernel
theorem dX12_letters_202 : decode cX12_letters 202 = .ok (.bipush 105, 2) := by decide +kernel
theorem dX12_letters_204 : decode cX12_letters 204 = .ok (.bipush 116, 2) := by decide +kernel
theorem dX12_letters_206 : decode cX12_letters 206 = .ok (.iconst 0, 1) := by decide +kernel
theorem dX12_letters_207 : decode cX12_letters 207 = .ok (.invokestatic 225, 3) := by decide +kernel
theorem dX12_letters_210 : decode cX12_letters 210 = .ok (.lreturn, 1) := by decide +kernel
theorem dX12_letters_211 : decode cX12_letters 211 = .ok (.bipush 109, 2) := by decide +kernel
theorem dX12_letters_213 : decode cX12_letters 213 = .ok (.bipush 97, 2) := by decide +kernel
theorem dX12_letters_215 : decode cX12_letters 215 = .ok (.bipush 121, 2) := by decide +kernel
theorem dX12_letters_217 : decode cX12_letters 217 = .ok (.bipush 98, 2) := by decide +kernel
theorem dX12_letters_219 : decode cX12_letters 219 = .ok (.bipush 101, 2) := by decide +kernel
theorem dX12_letters_221 : decode cX12_letters 221 = .ok (.iconst 0, 1) := by decide +kernel
theorem dX12_letters_222 : decode cX12_letters 222 = .ok (.invokestatic 225, 3) := by decide +kernel
theorem dX12_letters_225 : decode cX12_letters 225 = .ok (.lreturn, 1) := by decide +kernel
theorem dX12_letters_226 : decode cX12_letters 226 = .ok (.bipush 103, 2) := by decide +kernel
theorem dX12_letters_228 : decode cX12_letters 228 = .ok (.bipush 97, 2) := by decide +kernel
theorem dX12_letters_230 : decode cX12_letters 230 = .ok (.bipush 112, 2) := by decide +kernel
theorem dX12_letters_232 : decode cX12_letters 232 = .ok (.iconst 0, 1) := by decide +kernel
theorem dX12_letters_233 : decode cX12_letters 233 = .ok (.iconst 0, 1) := by decide +kernel
theorem dX12_letters_234 : decode cX12_letters 234 = .ok (.iconst 0, 1) := by decide +kernel
theorem dX12_letters_235 : decode cX12_letters 235 = .ok (.invokestatic 225, 3) := by decide +kernel
theorem dX12_letters_238 : decode cX12_letters 238 = .ok (.lreturn, 1) := by decide +kernel
theorem dX12_letters_239 : decode cX12_letters 239 = .ok (.bipush 119, 2) := by decide +kernel
theorem dX12_letters_241 : decode cX12_letters 241 = .ok (.bipush 97, 2) := by decide +kernel
theorem dX12_letters_243 : decode cX12_letters 243 = .ok (.bipush 108, 2) := by decide +kernel
theorem dX12_letters_245 : decode cX12_letters 245 = .ok (.bipush 107, 2) := by decide +kernel
theorem dX12_letters_247 : decode cX12_letters 247 = .ok (.iconst 0, 1) := by decide +kernel
theorem dX12_letters_248 : decode cX12_letters 248 = .ok (.iconst 0, 1) := by decide +kernel
theorem dX12_letters_249 : decode cX12_letters 249 = .ok (.invokestatic 225, 3) := by decide +kernel
theorem dX12_letters_252 : decode cX12_letters 252 = .ok (.lreturn, 1) := by decide +kernel
theorem dX12_letters_253 : decode cX12_letters 253 = .ok (.bipush 115, 2) := by decide +kernel
theorem dX12_letters_255 : decode cX12_letters 255 = .ok (.bipush 116, 2) := by decide +kernel
theorem dX12_letters_257 : decode cX12_letters 257 = .ok (.bipush 97, 2) := by decide +kernel
theorem dX12_letters_259 : decode cX12_letters 259 = .ok (.bipush 105, 2) := by decide +kernel
theorem dX12_letters_261 : decode cX12_letters 261 = .ok (.bipush 114, 2) := by decide +kernel
theorem dX12_letters_263 : decode cX12_letters 263 = .ok (.iconst 0, 1) := by decide +kernel
theorem dX12_letters_264 : decode cX12_letters 264 = .ok (.invokestatic 225, 3) := by decide +kernel
theorem dX12_letters_267 : decode cX12_letters 267 = .ok (.lreturn, 1) := by decide +kernel
theorem dX12_letters_268 : decode cX12_letters 268 = .ok (.bipush 114, 2) := by decide +kernel
theorem dX12_letters_270 : decode cX12_letters 270 = .ok (.bipush 117, 2) := by decide +kernel
theorem dX12_letters_272 : decode cX12_letters 272 = .ok (.bipush 108, 2) := by decide +kernel
theorem dX12_letters_274 : decode cX12_letters 274 = .ok (.bipush 101, 2) := by decide +kernel
theorem dX12_letters_276 : decode cX12_letters 276 = .ok (.iconst 0, 1) := by decide +kernel
theorem dX12_letters_277 : decode cX12_letters 277 = .ok (.iconst 0, 1) := by decide +kernel
theorem dX12_letters_278 : decode cX12_letters 278 = .ok (.invokestatic 225, 3) := by decide +kernel
theorem dX12_letters_281 : decode cX12_letters 281 = .ok (.lreturn, 1) := by decide +kernel
theorem dX12_letters_282 : decode cX12_letters 282 = .ok (.bipush 97, 2) := by decide +kernel
theorem dX12_letters_284 : decode cX12_letters 284 = .ok (.bipush 110, 2) := by decide +kernel
theorem dX12_letters_286 : decode cX12_letters 286 = .ok (.bipush 100, 2) := by decide +kernel
theorem dX12_letters_288 : decode cX12_letters 288 = .ok (.iconst 0, 1) := by decide +kernel
theorem dX12_letters_289 : decode cX12_letters 289 = .ok (.iconst 0, 1) := by decide +kernel
theorem dX12_letters_290 : decode cX12_letters 290 = .ok (.iconst 0, 1) := by decide +kernel
theorem dX12_letters_291 : decode cX12_letters 291 = .ok (.invokestatic 225, 3) := by decide +kernel
theorem dX12_letters_294 : decode cX12_letters 294 = .ok (.lreturn, 1) := by decide +kernel
theorem dX12_letters_295 : decode cX12_letters 295 = .ok (.bipush 111, 2) := by decide +kernel
theorem dX12_letters_297 : decode cX12_letters 297 = .ok (.bipush 114, 2) := by decide +kernel
theorem dX12_letters_299 : decode cX12_letters 299 = .ok (.iconst 0, 1) := by decide +kernel
theorem dX12_letters_300 : decode cX12_letters 300 = .ok (.iconst 0, 1) := by decide +kernel
theorem dX12_letters_301 : decode cX12_letters 301 = .ok (.iconst 0, 1) := by decide +kernel
theorem dX12_letters_302 : decode cX12_letters 302 = .ok (.iconst 0, 1) := by decide +kernel
theorem dX12_letters_303 : decode cX12_letters 303 = .ok (.invokestatic 225, 3) := by decide +kernel
theorem dX12_letters_306 : decode cX12_letters 306 = .ok (.lreturn, 1) := by decide +kernel
theorem dX12_letters_307 : decode cX12_letters 307 = .ok (.bipush 110, 2) := by decide +kernel
theorem dX12_letters_309 : decode cX12_letters 309 = .ok (.bipush 111, 2) := by decide +kernel
theorem dX12_letters_311 : decode cX12_letters 311 = .ok (.bipush 116, 2) := by decide +kernel
theorem dX12_letters_313 : decode cX12_letters 313 = .ok (.iconst 0, 1) := by decide +kernel
theorem dX12_letters_314 : decode cX12_letters 314 = .ok (.iconst 0, 1) := by decide +kernel
theorem dX12_letters_315 : decode cX12_letters 315 = .ok (.iconst 0, 1) := by decide +kernel
theorem dX12_letters_316 : decode cX12_letters 316 = .ok (.invokestatic 225, 3) := by decide +kernel
theorem dX12_letters_319 : decode cX12_letters 319 = .ok (.lreturn, 1) := by decide +kernel
theorem dX12_knownWord_0 : decode cX12_knownWord 0 = .ok (.aload_n 0, 1) := by decide +kernel
theorem dX12_knownWord_1 : decode cX12_knownWord 1 = .ok (.getfield 210, 3) := by decide +kernel
theorem dX12_knownWord_4 : decode cX12_knownWord 4 = .ok (.iconst 1, 1) := by decide +kernel
theorem dX12_knownWord_17 : decode cX12_knownWord 17 = .ok (.iconst (-1), 1) := by decide +kernel
theorem dX12_knownWord_18 : decode cX12_knownWord 18 = .ok (.ireturn, 1) := by decide +kernel
theorem dX12_knownWord_5 : decode cX12_knownWord 5 = .ok (.if_icmp .ne 12, 3) := by decide +kernel
theorem dX12_knownWord_8 : decode cX12_knownWord 8 = .ok (.aload_n 0, 1) := by decide +kernel
theorem dX12_knownWord_9 : decode cX12_knownWord 9 = .ok (.getfield 220, 3) := by decide +kernel
theorem dX12_knownWord_12 : decode cX12_knownWord 12 = .ok (.bipush 6, 2) := by decide +kernel
theorem dX12_knownWord_14 : decode cX12_knownWord 14 = .ok (.if_icmp .le 5, 3) := by decide +kernel
theorem dX12_knownWord_19 : decode cX12_knownWord 19 = .ok (.iconst 0, 1) := by decide +kernel
theorem dX12_knownWord_20 : decode cX12_knownWord 20 = .ok (.istore_n 1, 1) := by decide +kernel
theorem dX12_knownWord_21 : decode cX12_knownWord 21 = .ok (.iload_n 1, 1) := by decide +kernel
theorem dX12_knownWord_22 : decode cX12_knownWord 22 = .ok (.bipush 17, 2) := by decide +kernel
theorem dX12_knownWord_24 : decode cX12_knownWord 24 = .ok (.if_icmp .ge 23, 3) := by decide +kernel
theorem dX12_knownWord_47 : decode cX12_knownWord 47 = .ok (.iconst (-1), 1) := by decide +kernel
theorem dX12_knownWord_48 : decode cX12_knownWord 48 = .ok (.ireturn, 1) := by decide +kernel
theorem dX12_knownWord_27 : decode cX12_knownWord 27 = .ok (.iload_n 1, 1) := by decide +kernel
theorem tw_1734 : (Jvm.Cond.methodLink "MarshBellsModel" (229 : Nat) ({ cls := "MarshBellsModel", name := "letters", desc := "(I)J" } : Jvm.MethodName)) ∈ lw_tbl := tk_8 (List.mem_of_getElem? (i := 54) rfl)
theorem tw_1736 : (Jvm.Cond.code ({ cls := "MarshBellsModel", name := "letters", desc := "(I)J" } : Jvm.MethodName) prog_14_method_14_code (1 : Nat) (Option.some Jvm.ClassFile.FieldType.long)) ∈ lw_tbl := tk_8 (List.mem_of_getElem? (i := 56) rfl)
theorem tw_1735 : (Jvm.Cond.static ({ cls := "MarshBellsModel", name := "letters", desc := "(I)J" } : Jvm.MethodName)) ∈ lw_tbl := tk_8 (List.mem_of_getElem? (i := 55) rfl)
theorem li_X12_229 : kLS RX12 229 yX12_letters cX12_letters 1 (some .long) 1 := ⟨tw_1734, tw_1735, tw_1736, tw_13, by decide +kernel⟩
theorem dX12_knownWord_28 : decode cX12_knownWord 28 = .ok (.invokestatic 229, 3) := by decide +kernel
theorem dX12_knownWord_31 : decode cX12_knownWord 31 = .ok (.aload_n 0, 1) := by decide +kernel
theorem dX12_knownWord_32 : decode cX12_knownWord 32 = .ok (.getfield 200, 3) := by decide +kernel
theorem dX12_knownWord_35 : decode cX12_knownWord 35 = .ok (.lcmp, 1) := by decide +kernel
theorem dX12_knownWord_36 : decode cX12_knownWord 36 = .ok (.ifCond .ne 5, 3) := by decide +kernel
theorem dX12_knownWord_41 : decode cX12_knownWord 41 = .ok (.iinc 1 1, 3) := by decide +kernel
theorem dX12_knownWord_44 : decode cX12_knownWord 44 = .ok (.goto (-23), 3) := by decide +kernel
theorem dX12_knownWord_39 : decode cX12_knownWord 39 = .ok (.iload_n 1, 1) := by decide +kernel
theorem dX12_knownWord_40 : decode cX12_knownWord 40 = .ok (.ireturn, 1) := by decide +kernel
theorem tw_1442 : (Jvm.Cond.fieldLink "MarshBellsModel" (233 : Nat) "MarshBellsModel" "faultKind" "I") ∈ lw_tbl := tk_7 (List.mem_of_getElem? (i := 2) rfl)
theorem fl_X12_233 : kFL RX12 233 12 88 19 := ⟨RX12, TX12, rfl, by decide, inWX12, tw_1442⟩
theorem dX12_wrong_0 : decode cX12_wrong 0 = .ok (.aload_n 0, 1) := by decide +kernel
theorem dX12_wrong_1 : decode cX12_wrong 1 = .ok (.getfield 233, 3) := by decide +kernel
theorem dX12_wrong_4 : decode cX12_wrong 4 = .ok (.ifCond .eq 4, 3) := by decide +kernel
theorem dX12_wrong_8 : decode cX12_wrong 8 = .ok (.aload_n 0, 1) := by decide +kernel
theorem dX12_wrong_9 : decode cX12_wrong 9 = .ok (.iload_n 1, 1) := by decide +kernel
theorem ft_X12_19 : kFT 12 19 .int false RX12 := ⟨RX12, TX12, 88, tyX12, rfl, tyX12_ok, nmX12, rfl, by decide +kernel, rfl⟩
theorem dX12_wrong_10 : decode cX12_wrong 10 = .ok (.putfield 233, 3) := by decide +kernel
theorem dX12_wrong_13 : decode cX12_wrong 13 = .ok (.aload_n 0, 1) := by decide +kernel
theorem dX12_wrong_14 : decode cX12_wrong 14 = .ok (.aload_n 0, 1) := by decide +kernel
theorem dX12_wrong_15 : decode cX12_wrong 15 = .ok (.getfield 197, 3) := by decide +kernel
theorem tw_1443 : (Jvm.Cond.fieldLink "MarshBellsModel" (56 : Nat) "MarshBellsModel" "faultPlace" "I") ∈ lw_tbl := tk_7 (List.mem_of_getElem? (i := 3) rfl)
theorem fl_X12_56 : kFL RX12 56 12 88 20 := ⟨RX12, TX12, rfl, by decide, inWX12, tw_1443⟩
theorem ft_X12_20 : kFT 12 20 .int false RX12 := ⟨RX12, TX12, 88, tyX12, rfl, tyX12_ok, nmX12, rfl, by decide +kernel, rfl⟩
theorem dX12_wrong_18 : decode cX12_wrong 18 = .ok (.putfield 56, 3) := by decide +kernel
theorem dX12_wrong_21 : decode cX12_wrong 21 = .ok (.return_, 1) := by decide +kernel
theorem dX12_wrong_7 : decode cX12_wrong 7 = .ok (.return_, 1) := by decide +kernel
theorem dX12_isGood_0 : decode cX12_isGood 0 = .ok (.aload_n 0, 1) := by decide +kernel
theorem dX12_isGood_1 : decode cX12_isGood 1 = .ok (.getfield 233, 3) := by decide +kernel
theorem dX12_isGood_12 : decode cX12_isGood 12 = .ok (.ireturn, 1) := by decide +kernel
theorem dX12_isGood_4 : decode cX12_isGood 4 = .ok (.ifCond .ne 7, 3) := by decide +kernel
theorem dX12_isGood_11 : decode cX12_isGood 11 = .ok (.iconst 0, 1) := by decide +kernel
theorem dX12_isGood_7 : decode cX12_isGood 7 = .ok (.iconst 1, 1) := by decide +kernel
theorem dX12_isGood_8 : decode cX12_isGood 8 = .ok (.goto 4, 3) := by decide +kernel
theorem dX12_isSign_0 : decode cX12_isSign 0 = .ok (.aload_n 0, 1) := by decide +kernel
theorem dX12_isSign_1 : decode cX12_isSign 1 = .ok (.getfield 210, 3) := by decide +kernel
theorem dX12_isSign_4 : decode cX12_isSign 4 = .ok (.iconst 3, 1) := by decide +kernel
theorem dX12_isSign_21 : decode cX12_isSign 21 = .ok (.ireturn, 1) := by decide +kernel
theorem dX12_isSign_20 : decode cX12_isSign 20 = .ok (.iconst 0, 1) := by decide +kernel
theorem dX12_isSign_5 : decode cX12_isSign 5 = .ok (.if_icmp .ne 15, 3) := by decide +kernel
theorem dX12_isSign_8 : decode cX12_isSign 8 = .ok (.aload_n 0, 1) := by decide +kernel
theorem dX12_isSign_9 : decode cX12_isSign 9 = .ok (.getfield 207, 3) := by decide +kernel
theorem dX12_isSign_12 : decode cX12_isSign 12 = .ok (.iload_n 1, 1) := by decide +kernel
theorem dX12_isSign_13 : decode cX12_isSign 13 = .ok (.if_icmp .ne 7, 3) := by decide +kernel
theorem dX12_isSign_16 : decode cX12_isSign 16 = .ok (.iconst 1, 1) := by decide +kernel
theorem dX12_isSign_17 : decode cX12_isSign 17 = .ok (.goto 4, 3) := by decide +kernel
theorem dX12_need_0 : decode cX12_need 0 = .ok (.aload_n 0, 1) := by decide +kernel
theorem tw_1722 : (Jvm.Cond.methodLink "MarshBellsModel" (236 : Nat) ({ cls := "MarshBellsModel", name := "isGood", desc := "()Z" } : Jvm.MethodName)) ∈ lw_tbl := tk_8 (List.mem_of_getElem? (i := 42) rfl)
theorem tw_1725 : (Jvm.Cond.code ({ cls := "MarshBellsModel", name := "isGood", desc := "()Z" } : Jvm.MethodName) prog_14_method_17_code (1 : Nat) (Option.some Jvm.ClassFile.FieldType.boolean)) ∈ lw_tbl := tk_8 (List.mem_of_getElem? (i := 45) rfl)
theorem tw_1724 : (Jvm.Cond.instanceMethod ({ cls := "MarshBellsModel", name := "isGood", desc := "()Z" } : Jvm.MethodName)) ∈ lw_tbl := tk_8 (List.mem_of_getElem? (i := 44) rfl)
theorem se_X12_isGood : Cond.selects RX12 yX12_isGood yX12_isGood ∈ lw_tbl := List.mem_append_left _ (List.mem_of_getElem? (i := 112) rfl)
theorem li_X12_236 : kLV RX12 236 RX12 yX12_isGood cX12_isGood 1 (some .boolean) 0 := ⟨tw_1722, tw_1724, se_X12_isGood, tw_1725, tw_13, by decide +kernel⟩
theorem dX12_need_1 : decode cX12_need 1 = .ok (.invokevirtual 236, 3) := by decide +kernel
theorem dX12_need_4 : decode cX12_need 4 = .ok (.ifCond .ne 4, 3) := by decide +kernel
theorem dX12_need_8 : decode cX12_need 8 = .ok (.iload_n 1, 1) := by decide +kernel
theorem dX12_need_24 : decode cX12_need 24 = .ok (.return_, 1) := by decide +kernel
theorem dX12_need_9 : decode cX12_need 9 = .ok (.ifCond .eq 10, 3) := by decide +kernel
theorem dX12_need_19 : decode cX12_need 19 = .ok (.aload_n 0, 1) := by decide +kernel
theorem dX12_need_20 : decode cX12_need 20 = .ok (.iconst 1, 1) := by decide +kernel
theorem tw_1745 : (Jvm.Cond.methodLink "MarshBellsModel" (243 : Nat) ({ cls := "MarshBellsModel", name := "wrong", desc := "(I)V" } : Jvm.MethodName)) ∈ lw_tbl := tk_8 (List.mem_of_getElem? (i := 65) rfl)
theorem tw_1748 : (Jvm.Cond.code ({ cls := "MarshBellsModel", name := "wrong", desc := "(I)V" } : Jvm.MethodName) prog_14_method_16_code (2 : Nat) (Option.none : Option Jvm.ClassFile.FieldType)) ∈ lw_tbl := tk_8 (List.mem_of_getElem? (i := 68) rfl)
theorem tw_1747 : (Jvm.Cond.instanceMethod ({ cls := "MarshBellsModel", name := "wrong", desc := "(I)V" } : Jvm.MethodName)) ∈ lw_tbl := tk_8 (List.mem_of_getElem? (i := 67) rfl)
theorem se_X12_wrong : Cond.selects RX12 yX12_wrong yX12_wrong ∈ lw_tbl := List.mem_append_left _ (List.mem_of_getElem? (i := 116) rfl)
theorem li_X12_243 : kLV RX12 243 RX12 yX12_wrong cX12_wrong 2 none 1 := ⟨tw_1745, tw_1747, se_X12_wrong, tw_1748, tw_13, by decide +kernel⟩
theorem dX12_need_21 : decode cX12_need 21 = .ok (.invokevirtual 243, 3) := by decide +kernel
theorem dX12_need_12 : decode cX12_need 12 = .ok (.aload_n 0, 1) := by decide +kernel
theorem tw_1708 : (Jvm.Cond.methodLink "MarshBellsModel" (240 : Nat) ({ cls := "MarshBellsModel", name := "goes", desc := "()V" } : Jvm.MethodName)) ∈ lw_tbl := tk_8 (List.mem_of_getElem? (i := 28) rfl)
theorem tw_1711 : (Jvm.Cond.code ({ cls := "MarshBellsModel", name := "goes", desc := "()V" } : Jvm.MethodName) prog_14_method_12_code (2 : Nat) (Option.none : Option Jvm.ClassFile.FieldType)) ∈ lw_tbl := tk_8 (List.mem_of_getElem? (i := 31) rfl)
theorem tw_1710 : (Jvm.Cond.instanceMethod ({ cls := "MarshBellsModel", name := "goes", desc := "()V" } : Jvm.MethodName)) ∈ lw_tbl := tk_8 (List.mem_of_getElem? (i := 30) rfl)
theorem se_X12_goes : Cond.selects RX12 yX12_goes yX12_goes ∈ lw_tbl := List.mem_append_left _ (List.mem_of_getElem? (i := 110) rfl)
theorem li_X12_240 : kLV RX12 240 RX12 yX12_goes cX12_goes 2 none 0 := ⟨tw_1708, tw_1710, se_X12_goes, tw_1711, tw_13, by decide +kernel⟩
theorem dX12_need_13 : decode cX12_need 13 = .ok (.invokevirtual 240, 3) := by decide +kernel
theorem dX12_need_16 : decode cX12_need 16 = .ok (.goto 8, 3) := by decide +kernel
theorem dX12_need_7 : decode cX12_need 7 = .ok (.return_, 1) := by decide +kernel
theorem dX12_number_0 : decode cX12_number 0 = .ok (.aload_n 0, 1) := by decide +kernel
theorem dX12_number_1 : decode cX12_number 1 = .ok (.invokevirtual 236, 3) := by decide +kernel
theorem dX12_number_4 : decode cX12_number 4 = .ok (.ifCond .ne 5, 3) := by decide +kernel
theorem dX12_number_9 : decode cX12_number 9 = .ok (.aload_n 0, 1) := by decide +kernel
theorem dX12_number_10 : decode cX12_number 10 = .ok (.getfield 210, 3) := by decide +kernel
theorem dX12_number_13 : decode cX12_number 13 = .ok (.iconst 2, 1) := by decide +kernel
theorem dX12_number_54 : decode cX12_number 54 = .ok (.aload_n 0, 1) := by decide +kernel
theorem dX12_number_55 : decode cX12_number 55 = .ok (.getfield 204, 3) := by decide +kernel
theorem dX12_number_58 : decode cX12_number 58 = .ok (.istore_n 3, 1) := by decide +kernel
theorem dX12_number_59 : decode cX12_number 59 = .ok (.aload_n 0, 1) := by decide +kernel
theorem dX12_number_60 : decode cX12_number 60 = .ok (.invokevirtual 236, 3) := by decide +kernel
theorem dX12_number_70 : decode cX12_number 70 = .ok (.iload_n 3, 1) := by decide +kernel
theorem dX12_number_71 : decode cX12_number 71 = .ok (.ireturn, 1) := by decide +kernel
theorem dX12_number_63 : decode cX12_number 63 = .ok (.ifCond .eq 7, 3) := by decide +kernel
theorem dX12_number_66 : decode cX12_number 66 = .ok (.aload_n 0, 1) := by decide +kernel
theorem dX12_number_67 : decode cX12_number 67 = .ok (.invokevirtual 240, 3) := by decide +kernel
theorem dX12_number_14 : decode cX12_number 14 = .ok (.if_icmp .eq 11, 3) := by decide +kernel
theorem dX12_number_25 : decode cX12_number 25 = .ok (.aload_n 0, 1) := by decide +kernel
theorem dX12_number_26 : decode cX12_number 26 = .ok (.getfield 220, 3) := by decide +kernel
theorem dX12_number_29 : decode cX12_number 29 = .ok (.iconst 4, 1) := by decide +kernel
theorem dX12_number_49 : decode cX12_number 49 = .ok (.aload_n 0, 1) := by decide +kernel
theorem dX12_number_50 : decode cX12_number 50 = .ok (.iconst 2, 1) := by decide +kernel
theorem dX12_number_51 : decode cX12_number 51 = .ok (.invokevirtual 243, 3) := by decide +kernel
theorem dX12_number_30 : decode cX12_number 30 = .ok (.if_icmp .gt 19, 3) := by decide +kernel
theorem dX12_number_33 : decode cX12_number 33 = .ok (.aload_n 0, 1) := by decide +kernel
theorem dX12_number_34 : decode cX12_number 34 = .ok (.getfield 204, 3) := by decide +kernel
theorem dX12_number_37 : decode cX12_number 37 = .ok (.iload_n 1, 1) := by decide +kernel
theorem dX12_number_38 : decode cX12_number 38 = .ok (.if_icmp .lt 11, 3) := by decide +kernel
theorem dX12_number_41 : decode cX12_number 41 = .ok (.aload_n 0, 1) := by decide +kernel
theorem dX12_number_42 : decode cX12_number 42 = .ok (.getfield 204, 3) := by decide +kernel
theorem dX12_number_45 : decode cX12_number 45 = .ok (.iload_n 2, 1) := by decide +kernel
theorem dX12_number_46 : decode cX12_number 46 = .ok (.if_icmp .le 8, 3) := by decide +kernel
theorem dX12_number_17 : decode cX12_number 17 = .ok (.aload_n 0, 1) := by decide +kernel
theorem dX12_number_18 : decode cX12_number 18 = .ok (.iconst 1, 1) := by decide +kernel
theorem dX12_number_19 : decode cX12_number 19 = .ok (.invokevirtual 243, 3) := by decide +kernel
theorem dX12_number_22 : decode cX12_number 22 = .ok (.goto 32, 3) := by decide +kernel
theorem dX12_number_7 : decode cX12_number 7 = .ok (.iconst 0, 1) := by decide +kernel
theorem dX12_number_8 : decode cX12_number 8 = .ok (.ireturn, 1) := by decide +kernel
def fX12_byteAt_p18 (fu : Nat) (t0 : Int32) (g : Nat → Nat → Int32) (L : Nat → Nat → Int64) : Option ((Int32) × zS) :=
  some (t0, (g, L))
def fX12_byteAt (fu : Nat) (p1 : Int32) (g : Nat → Nat → Int32) (L : Nat → Nat → Int64) : Option ((Int32) × zS) :=
  if (g 0 22) ≤ p1 then fX12_byteAt_p18 fu 0 g L
  else ck p1 700 (
  fX12_byteAt_p18 fu (g 13 (Int32.toNatClampNeg p1)) g L)
set_option maxHeartbeats 4000000 in
set_option maxRecDepth 100000 in
theorem rX12_byteAt (l : Launch) (G : kG) (sz : Nat) (a : Nat → Nat) (fu : Nat) (g : Nat → Nat → Int32) (L : Nat → Nat → Int64) (p1 : Int32) (res : Int32) (s9 : zS) (h : fX12_byteAt fu p1 g L = some (res, s9)) : kM l yX12_byteAt cX12_byteAt 2 (some .int) { frames := 6, cells := 0, slots := 0, locals := 110 } G [.ref (a 0), .int p1] (zw G MS 51 a g L) sz (kQi G (S := Unit) (fun r' _ => r' = res) (fun _ => zw G MS 51 a s9.1 s9.2)) := by
  refine kM.of (by decide) (Nat.le_of_ble_eq_true rfl) ?_
  intro p e s m below meth c A ls H C hr hlk hnm hP hD hS hl
  have C : kC G p s m c cX12_byteAt 2 RX12 A := C
  have hx := C.1
  have hb := C.2.1
  have hl : lv_has ls 2 [(0, .ref (a 0)), (1, .int p1)] := hl
  obtain ⟨locs, hlocs⟩ : ∃ q : List Loc, q = [] := ⟨_, rfl⟩
  rw [← hlocs] at hS
  rw [← hlocs]
  unfold fX12_byteAt at h
  refine lv_iload_n hx hb dX12_byteAt_0 rfl (lv_at hl 1 rfl) ?_
  refine lv_aload_n hx hb dX12_byteAt_1 rfl (lv_at hl 0 rfl) ?_
  refine x_getv (v := .int (g 0 22)) (Or.inl fl_X12_187) C hP (by decide) ms_0 rfl dX12_byteAt_2 ?_
  have J18 : ∀ (t0 : Int32) (g : Nat → Nat → Int32) (L : Nat → Nat → Int64) (H : Heap) (locs : List Loc) (ls : Array Slot), fX12_byteAt_p18 fu t0 g L = some (res, s9) → va_P G.1 vwCl (zw G MS 51 a g L) H → va_D A (zw G MS 51 a g L) → va_S A s.heap H locs → lv_has ls 2 [] → W p l e { frames := 6, cells := 0, slots := 0, locals := 110 } s m [.ref (a 0), .int p1].toArray below meth c H locs 0 0 (MQ below ((kQi G (S := Unit) (fun r' _ => r' = res) (fun _ => zw G MS 51 a s9.1 s9.2)) A) [.ref (a 0), .int p1].toArray s 0 0 A) (F0 m 18 ls [.int t0]) := by
    intro t0 g L H locs ls h hP hD hS hl
    unfold fX12_byteAt_p18 at h
    exact y_iret C hr hlk hP hD hS h (Nat.le_of_ble_eq_true rfl) (Nat.le_of_ble_eq_true rfl) dX12_byteAt_18
  refine lv_icmp_ge (x := p1) (y := (g 0 22)) (tgt := 17) hx hb dX12_byteAt_5 (by decide) (fun c1 => ?_) (fun c1 => ?_)
  ·
    have h := ite_t c1 h
    refine lv_iconst (v := 0) hx hb dX12_byteAt_17 (by decide) ?_
    exact J18 0 g L H locs ls h hP hD hS (lv_sub hl [] rfl)
  ·
    have h := ite_e c1 h
    refine lv_aload_n hx hb dX12_byteAt_8 rfl (lv_at hl 0 rfl) ?_
    refine x_getr (Or.inl fl_X12_53) C hP (by decide) ms_0 rfl dX12_byteAt_9 ?_
    refine lv_iload_n hx hb dX12_byteAt_12 rfl (lv_at hl 1 rfl) ?_
    refine y_ald C hP (by decide) ms_13 dX12_byteAt_13 h (fun h => ?_)
    refine lv_goto (tgt := 18) hx hb dX12_byteAt_14 (by decide) ?_
    exact J18 (g 13 (Int32.toNatClampNeg p1)) g L H locs ls h hP hD hS (lv_sub hl [] rfl)
def fX12_isLetter_p17 (fu : Nat) (t0 : Int32) (g : Nat → Nat → Int32) (L : Nat → Nat → Int64) : Option ((Int32) × zS) :=
  ckb t0 (some (t0, (g, L)))
def fX12_isLetter_p16 (fu : Nat) (g : Nat → Nat → Int32) (L : Nat → Nat → Int64) : Option ((Int32) × zS) :=
  fX12_isLetter_p17 fu 0 g L
def fX12_isLetter (fu : Nat) (p1 : Int32) (g : Nat → Nat → Int32) (L : Nat → Nat → Int64) : Option ((Int32) × zS) :=
  if (p1 : Int32) < 97 then fX12_isLetter_p16 fu g L
  else if 122 < (p1 : Int32) then fX12_isLetter_p16 fu g L
  else fX12_isLetter_p17 fu 1 g L
set_option maxHeartbeats 4000000 in
set_option maxRecDepth 100000 in
theorem rX12_isLetter (l : Launch) (G : kG) (sz : Nat) (a : Nat → Nat) (fu : Nat) (g : Nat → Nat → Int32) (L : Nat → Nat → Int64) (p1 : Int32) (res : Int32) (s9 : zS) (h : fX12_isLetter fu p1 g L = some (res, s9)) : kM l yX12_isLetter cX12_isLetter 1 (some .boolean) { frames := 6, cells := 0, slots := 0, locals := 110 } G [.int p1] (zw G MS 51 a g L) sz (kQi G (S := Unit) (fun r' _ => r' = res) (fun _ => zw G MS 51 a s9.1 s9.2)) := by
  refine kM.of (by decide) (Nat.le_of_ble_eq_true rfl) ?_
  intro p e s m below meth c A ls H C hr hlk hnm hP hD hS hl
  have C : kC G p s m c cX12_isLetter 1 RX12 A := C
  have hx := C.1
  have hb := C.2.1
  have hl : lv_has ls 1 [(0, .int p1)] := hl
  obtain ⟨locs, hlocs⟩ : ∃ q : List Loc, q = [] := ⟨_, rfl⟩
  rw [← hlocs] at hS
  rw [← hlocs]
  unfold fX12_isLetter at h
  refine lv_iload_n hx hb dX12_isLetter_0 rfl (lv_at hl 0 rfl) ?_
  refine lv_bipush (v := 97) hx hb dX12_isLetter_1 (by decide) ?_
  have J17 : ∀ (t0 : Int32) (g : Nat → Nat → Int32) (L : Nat → Nat → Int64) (H : Heap) (locs : List Loc) (ls : Array Slot), fX12_isLetter_p17 fu t0 g L = some (res, s9) → va_P G.1 vwCl (zw G MS 51 a g L) H → va_D A (zw G MS 51 a g L) → va_S A s.heap H locs → lv_has ls 1 [] → W p l e { frames := 6, cells := 0, slots := 0, locals := 110 } s m [.int p1].toArray below meth c H locs 0 0 (MQ below ((kQi G (S := Unit) (fun r' _ => r' = res) (fun _ => zw G MS 51 a s9.1 s9.2)) A) [.int p1].toArray s 0 0 A) (F0 m 17 ls [.int t0]) := by
    intro t0 g L H locs ls h hP hD hS hl
    unfold fX12_isLetter_p17 at h
    exact y_zret C hr hlk hP hD hS h (Nat.le_of_ble_eq_true rfl) (Nat.le_of_ble_eq_true rfl) dX12_isLetter_17
  have J16 : ∀ (g : Nat → Nat → Int32) (L : Nat → Nat → Int64) (H : Heap) (locs : List Loc) (ls : Array Slot), fX12_isLetter_p16 fu g L = some (res, s9) → va_P G.1 vwCl (zw G MS 51 a g L) H → va_D A (zw G MS 51 a g L) → va_S A s.heap H locs → lv_has ls 1 [] → W p l e { frames := 6, cells := 0, slots := 0, locals := 110 } s m [.int p1].toArray below meth c H locs 0 0 (MQ below ((kQi G (S := Unit) (fun r' _ => r' = res) (fun _ => zw G MS 51 a s9.1 s9.2)) A) [.int p1].toArray s 0 0 A) (F0 m 16 ls []) := by
    intro g L H locs ls h hP hD hS hl
    unfold fX12_isLetter_p16 at h
    refine lv_iconst (v := 0) hx hb dX12_isLetter_16 (by decide) ?_
    exact J17 0 g L H locs ls h hP hD hS (lv_sub hl [] rfl)
  refine lv_icmp_lt (x := p1) (y := 97) (tgt := 16) hx hb dX12_isLetter_3 (by decide) (fun c1 => ?_) (fun c1 => ?_)
  ·
    have h := ite_t c1 h
    exact J16 g L H locs ls h hP hD hS (lv_sub hl [] rfl)
  ·
    have h := ite_e c1 h
    refine lv_iload_n hx hb dX12_isLetter_6 rfl (lv_at hl 0 rfl) ?_
    refine lv_bipush (v := 122) hx hb dX12_isLetter_7 (by decide) ?_
    refine lv_icmp_gt (x := p1) (y := 122) (tgt := 16) hx hb dX12_isLetter_9 (by decide) (fun c2 => ?_) (fun c2 => ?_)
    ·
      have h := ite_t c2 h
      exact J16 g L H locs ls h hP hD hS (lv_sub hl [] rfl)
    ·
      have h := ite_e c2 h
      refine lv_iconst (v := 1) hx hb dX12_isLetter_12 (by decide) ?_
      refine lv_goto (tgt := 17) hx hb dX12_isLetter_13 (by decide) ?_
      exact J17 1 g L H locs ls h hP hD hS (lv_sub hl [] rfl)
def fX12_isDigit_p17 (fu : Nat) (t0 : Int32) (g : Nat → Nat → Int32) (L : Nat → Nat → Int64) : Option ((Int32) × zS) :=
  ckb t0 (some (t0, (g, L)))
def fX12_isDigit_p16 (fu : Nat) (g : Nat → Nat → Int32) (L : Nat → Nat → Int64) : Option ((Int32) × zS) :=
  fX12_isDigit_p17 fu 0 g L
def fX12_isDigit (fu : Nat) (p1 : Int32) (g : Nat → Nat → Int32) (L : Nat → Nat → Int64) : Option ((Int32) × zS) :=
  if (p1 : Int32) < 48 then fX12_isDigit_p16 fu g L
  else if 57 < (p1 : Int32) then fX12_isDigit_p16 fu g L
  else fX12_isDigit_p17 fu 1 g L
set_option maxHeartbeats 4000000 in
set_option maxRecDepth 100000 in
theorem rX12_isDigit (l : Launch) (G : kG) (sz : Nat) (a : Nat → Nat) (fu : Nat) (g : Nat → Nat → Int32) (L : Nat → Nat → Int64) (p1 : Int32) (res : Int32) (s9 : zS) (h : fX12_isDigit fu p1 g L = some (res, s9)) : kM l yX12_isDigit cX12_isDigit 1 (some .boolean) { frames := 6, cells := 0, slots := 0, locals := 110 } G [.int p1] (zw G MS 51 a g L) sz (kQi G (S := Unit) (fun r' _ => r' = res) (fun _ => zw G MS 51 a s9.1 s9.2)) := by
  refine kM.of (by decide) (Nat.le_of_ble_eq_true rfl) ?_
  intro p e s m below meth c A ls H C hr hlk hnm hP hD hS hl
  have C : kC G p s m c cX12_isDigit 1 RX12 A := C
  have hx := C.1
  have hb := C.2.1
  have hl : lv_has ls 1 [(0, .int p1)] := hl
  obtain ⟨locs, hlocs⟩ : ∃ q : List Loc, q = [] := ⟨_, rfl⟩
  rw [← hlocs] at hS
  rw [← hlocs]
  unfold fX12_isDigit at h
  refine lv_iload_n hx hb dX12_isDigit_0 rfl (lv_at hl 0 rfl) ?_
  refine lv_bipush (v := 48) hx hb dX12_isDigit_1 (by decide) ?_
  have J17 : ∀ (t0 : Int32) (g : Nat → Nat → Int32) (L : Nat → Nat → Int64) (H : Heap) (locs : List Loc) (ls : Array Slot), fX12_isDigit_p17 fu t0 g L = some (res, s9) → va_P G.1 vwCl (zw G MS 51 a g L) H → va_D A (zw G MS 51 a g L) → va_S A s.heap H locs → lv_has ls 1 [] → W p l e { frames := 6, cells := 0, slots := 0, locals := 110 } s m [.int p1].toArray below meth c H locs 0 0 (MQ below ((kQi G (S := Unit) (fun r' _ => r' = res) (fun _ => zw G MS 51 a s9.1 s9.2)) A) [.int p1].toArray s 0 0 A) (F0 m 17 ls [.int t0]) := by
    intro t0 g L H locs ls h hP hD hS hl
    unfold fX12_isDigit_p17 at h
    exact y_zret C hr hlk hP hD hS h (Nat.le_of_ble_eq_true rfl) (Nat.le_of_ble_eq_true rfl) dX12_isDigit_17
  have J16 : ∀ (g : Nat → Nat → Int32) (L : Nat → Nat → Int64) (H : Heap) (locs : List Loc) (ls : Array Slot), fX12_isDigit_p16 fu g L = some (res, s9) → va_P G.1 vwCl (zw G MS 51 a g L) H → va_D A (zw G MS 51 a g L) → va_S A s.heap H locs → lv_has ls 1 [] → W p l e { frames := 6, cells := 0, slots := 0, locals := 110 } s m [.int p1].toArray below meth c H locs 0 0 (MQ below ((kQi G (S := Unit) (fun r' _ => r' = res) (fun _ => zw G MS 51 a s9.1 s9.2)) A) [.int p1].toArray s 0 0 A) (F0 m 16 ls []) := by
    intro g L H locs ls h hP hD hS hl
    unfold fX12_isDigit_p16 at h
    refine lv_iconst (v := 0) hx hb dX12_isDigit_16 (by decide) ?_
    exact J17 0 g L H locs ls h hP hD hS (lv_sub hl [] rfl)
  refine lv_icmp_lt (x := p1) (y := 48) (tgt := 16) hx hb dX12_isDigit_3 (by decide) (fun c1 => ?_) (fun c1 => ?_)
  ·
    have h := ite_t c1 h
    exact J16 g L H locs ls h hP hD hS (lv_sub hl [] rfl)
  ·
    have h := ite_e c1 h
    refine lv_iload_n hx hb dX12_isDigit_6 rfl (lv_at hl 0 rfl) ?_
    refine lv_bipush (v := 57) hx hb dX12_isDigit_7 (by decide) ?_
    refine lv_icmp_gt (x := p1) (y := 57) (tgt := 16) hx hb dX12_isDigit_9 (by decide) (fun c2 => ?_) (fun c2 => ?_)
    ·
      have h := ite_t c2 h
      exact J16 g L H locs ls h hP hD hS (lv_sub hl [] rfl)
    ·
      have h := ite_e c2 h
      refine lv_iconst (v := 1) hx hb dX12_isDigit_12 (by decide) ?_
      refine lv_goto (tgt := 17) hx hb dX12_isDigit_13 (by decide) ?_
      exact J17 1 g L H locs ls h hP hD hS (lv_sub hl [] rfl)
def fX12_goes_p331 (fu : Nat) (g : Nat → Nat → Int32) (L : Nat → Nat → Int64) : Option ((Unit) × zS) :=
  sti g 0 26 ((g 0 23) - (g 0 25)) (fun g9 =>
  some ((), (g9, L)))
def fX12_goes_p328 (fu : Nat) (t0 : Int32) (g : Nat → Nat → Int32) (L : Nat → Nat → Int64) : Option ((Unit) × zS) :=
  sti g 0 24 t0 (fun g22 =>
  fX12_goes_p331 fu g22 L)
def fX12_goes_p323 (fu : Nat) (g : Nat → Nat → Int32) (L : Nat → Nat → Int64) : Option ((Unit) × zS) :=
  fX12_goes_p328 fu 3 g L
def fX12_goes_p237 (fu : Nat) (k187 : (Nat → Nat → Int32) × (Nat → Nat → Int64) → Option ((Unit) × zS)) (g : Nat → Nat → Int32) (L : Nat → Nat → Int64) : Option ((Unit) × zS) :=
  sti g 0 23 ((g 0 23) + 1) (fun g42 =>
  k187 (g42, L))
def fX12_goes_s187 (fu : Nat) (k187 : (Nat → Nat → Int32) × (Nat → Nat → Int64) → Option ((Unit) × zS)) (g : Nat → Nat → Int32) (L : Nat → Nat → Int64) : Option ((Unit) × zS) :=
  cb (fX12_byteAt fu (g 0 23) g L) (fun x32 g33 L34 =>
  cb (fX12_isDigit fu x32 g33 L34) (fun x36 g37 L38 =>
  if x36 = 0 then sti g37 0 24 2 (fun g41 =>
  fX12_goes_p331 fu g41 L38)
  else if 4 ≤ ((g37 0 23) - (g37 0 25)) then fX12_goes_p237 fu k187 g37 L38
  else cb (fX12_byteAt fu (g37 0 23) g37 L38) (fun x44 g45 L46 =>
  sti g45 0 27 (((10 * (g37 0 27)) + x44) - 48) (fun g48 =>
  fX12_goes_p237 fu k187 g48 L46))))
def fX12_goes_l187 (fu : Nat) (g : Nat → Nat → Int32) (L : Nat → Nat → Int64) : Option ((Unit) × zS) :=
  whileK (fun k v => fX12_goes_s187 fu k v.1 v.2) fu (g, L)
def fX12_goes_p159 (fu : Nat) (k108 : (Nat → Nat → Int32) × (Nat → Nat → Int64) → Option ((Unit) × zS)) (g : Nat → Nat → Int32) (L : Nat → Nat → Int64) : Option ((Unit) × zS) :=
  sti g 0 23 ((g 0 23) + 1) (fun g59 =>
  k108 (g59, L))
def fX12_goes_s108 (fu : Nat) (k108 : (Nat → Nat → Int32) × (Nat → Nat → Int64) → Option ((Unit) × zS)) (g : Nat → Nat → Int32) (L : Nat → Nat → Int64) : Option ((Unit) × zS) :=
  cb (fX12_byteAt fu (g 0 23) g L) (fun x49 g50 L51 =>
  cb (fX12_isLetter fu x49 g50 L51) (fun x53 g54 L55 =>
  if x53 = 0 then sti g54 0 24 1 (fun g58 =>
  fX12_goes_p331 fu g58 L55)
  else if 6 ≤ ((g54 0 23) - (g54 0 25)) then fX12_goes_p159 fu k108 g54 L55
  else cb (fX12_byteAt fu (g54 0 23) g54 L55) (fun x61 g62 L63 =>
  stl L63 0 29 (((L55 0 29) <<< (Int32.toInt64 5 &&& 63)) ||| (Int32.toInt64 (x61 - 96))) (fun L65 =>
  fX12_goes_p159 fu k108 g62 L65))))
def fX12_goes_l108 (fu : Nat) (g : Nat → Nat → Int32) (L : Nat → Nat → Int64) : Option ((Unit) × zS) :=
  whileK (fun k v => fX12_goes_s108 fu k v.1 v.2) fu (g, L)
def fX12_goes_p50 (fu : Nat) (g : Nat → Nat → Int32) (L : Nat → Nat → Int64) : Option ((Unit) × zS) :=
  sti g 0 25 (g 0 23) (fun g1 =>
  stl L 0 29 0 (fun L2 =>
  sti g1 0 27 0 (fun g3 =>
  cb (fX12_byteAt fu (g3 0 23) g3 L2) (fun x4 g5 L6 =>
  sti g5 0 28 x4 (fun g8 =>
  if (g8 0 23) < (g8 0 22) then cb (fX12_isLetter fu x4 g8 L6) (fun x11 g12 L13 =>
  if x11 = 0 then cb (fX12_isDigit fu x4 g12 L13) (fun x16 g17 L18 =>
  if x16 = 0 then sti g17 0 23 ((g17 0 23) + 1) (fun g21 =>
  if (x4 : Int32) = 59 then fX12_goes_p323 fu g21 L18
  else if (x4 : Int32) = 40 then fX12_goes_p323 fu g21 L18
  else if (x4 : Int32) = 41 then fX12_goes_p323 fu g21 L18
  else if (x4 : Int32) = 43 then fX12_goes_p323 fu g21 L18
  else if (x4 : Int32) = 45 then fX12_goes_p323 fu g21 L18
  else if (x4 : Int32) = 42 then fX12_goes_p323 fu g21 L18
  else if (x4 : Int32) = 47 then fX12_goes_p323 fu g21 L18
  else if (x4 : Int32) = 60 then fX12_goes_p323 fu g21 L18
  else if (x4 : Int32) = 61 then fX12_goes_p323 fu g21 L18
  else fX12_goes_p328 fu 4 g21 L18)
  else fX12_goes_l187 fu g17 L18)
  else fX12_goes_l108 fu g12 L13)
  else sti g8 0 24 0 (fun g66 =>
  fX12_goes_p331 fu g66 L6))))))
def fX12_goes_p37 (fu : Nat) (k0 : (Nat → Nat → Int32) × (Nat → Nat → Int64) → Option ((Unit) × zS)) (g : Nat → Nat → Int32) (L : Nat → Nat → Int64) : Option ((Unit) × zS) :=
  sti g 0 23 ((g 0 23) + 1) (fun g72 =>
  k0 (g72, L))
def fX12_goes_s0 (fu : Nat) (k0 : (Nat → Nat → Int32) × (Nat → Nat → Int64) → Option ((Unit) × zS)) (g : Nat → Nat → Int32) (L : Nat → Nat → Int64) : Option ((Unit) × zS) :=
  if (g 0 22) ≤ (g 0 23) then fX12_goes_p50 fu g L
  else cb (fX12_byteAt fu (g 0 23) g L) (fun x68 g69 L70 =>
  if (x68 : Int32) = 32 then fX12_goes_p37 fu k0 g69 L70
  else cb (fX12_byteAt fu (g69 0 23) g69 L70) (fun x74 g75 L76 =>
  if (x74 : Int32) = 10 then fX12_goes_p37 fu k0 g75 L76
  else fX12_goes_p50 fu g75 L76))
def fX12_goes_l0 (fu : Nat) (g : Nat → Nat → Int32) (L : Nat → Nat → Int64) : Option ((Unit) × zS) :=
  whileK (fun k v => fX12_goes_s0 fu k v.1 v.2) fu (g, L)
def fX12_goes (fu : Nat) (g : Nat → Nat → Int32) (L : Nat → Nat → Int64) : Option ((Unit) × zS) :=
  fX12_goes_l0 fu g L
set_option maxHeartbeats 4000000 in
set_option maxRecDepth 100000 in
theorem rX12_goes (l : Launch) (G : kG) (sz : Nat) (a : Nat → Nat) (fu : Nat) (g : Nat → Nat → Int32) (L : Nat → Nat → Int64) (res : Unit) (s9 : zS) (h : fX12_goes fu g L = some (res, s9)) : kM l yX12_goes cX12_goes 2 none { frames := 7, cells := 0, slots := 0, locals := 131 } G [.ref (a 0)] (zw G MS 51 a g L) sz (kQv G (S := Unit) (fun _ => True) (fun _ => zw G MS 51 a s9.1 s9.2)) := by
  refine kM.of (by decide) (Nat.le_of_ble_eq_true rfl) ?_
  intro p e s m below meth c A ls H C hr hlk hnm hP hD hS hl
  have C : kC G p s m c cX12_goes 2 RX12 A := C
  have hx := C.1
  have hb := C.2.1
  have hl : lv_has ls 2 [(0, .ref (a 0))] := hl
  obtain ⟨locs, hlocs⟩ : ∃ q : List Loc, q = [] := ⟨_, rfl⟩
  rw [← hlocs] at hS
  rw [← hlocs]
  unfold fX12_goes at h
  have lp0 : ∀ (_ : True), ∀ (n : Nat) (v : (Nat → Nat → Int32) × (Nat → Nat → Int64)), whileK (fun k v => fX12_goes_s0 fu k v.1 v.2) n v = some (res, s9) → ∀ (H : Heap) (locs : List Loc) (ls : Array Slot), va_P G.1 vwCl (zw G MS 51 a (v.1) (v.2)) H → va_D A (zw G MS 51 a (v.1) (v.2)) → va_S A s.heap H locs → lv_has ls 2 [(0, .ref (a 0))] → W p l e { frames := 7, cells := 0, slots := 0, locals := 131 } s m [.ref (a 0)].toArray below meth c H locs 0 0 (MQ below ((kQv G (S := Unit) (fun _ => True) (fun _ => zw G MS 51 a s9.1 s9.2)) A) [.ref (a 0)].toArray s 0 0 A) (F0 m 0 ls []) := by
    intro _
    refine while_ind (fun k0 ih0 v h => ?_)
    obtain ⟨g, L⟩ := v
    intro H locs ls hP hD hS hl
    have h : fX12_goes_s0 fu k0 g L = some (res, s9) := h
    have hP : va_P G.1 vwCl (zw G MS 51 a g L) H := hP
    have hD : va_D A (zw G MS 51 a g L) := hD
    have hl : lv_has ls 2 [(0, .ref (a 0))] := hl
    show W p l e { frames := 7, cells := 0, slots := 0, locals := 131 } s m [.ref (a 0)].toArray below meth c H locs 0 0 (MQ below ((kQv G (S := Unit) (fun _ => True) (fun _ => zw G MS 51 a s9.1 s9.2)) A) [.ref (a 0)].toArray s 0 0 A) (F0 m 0 ls [])
    unfold fX12_goes_s0 at h
    refine lv_aload_n hx hb dX12_goes_0 rfl (lv_at hl 0 rfl) ?_
    refine x_getv (v := .int (g 0 23)) (Or.inl fl_X12_190) C hP (by decide) ms_0 rfl dX12_goes_1 ?_
    refine lv_aload_n hx hb dX12_goes_4 rfl (lv_at hl 0 rfl) ?_
    refine x_getv (v := .int (g 0 22)) (Or.inl fl_X12_187) C hP (by decide) ms_0 rfl dX12_goes_5 ?_
    have J50 : ∀ (g : Nat → Nat → Int32) (L : Nat → Nat → Int64) (H : Heap) (locs : List Loc) (ls : Array Slot), fX12_goes_p50 fu g L = some (res, s9) → va_P G.1 vwCl (zw G MS 51 a g L) H → va_D A (zw G MS 51 a g L) → va_S A s.heap H locs → lv_has ls 2 [(0, .ref (a 0))] → W p l e { frames := 7, cells := 0, slots := 0, locals := 131 } s m [.ref (a 0)].toArray below meth c H locs 0 0 (MQ below ((kQv G (S := Unit) (fun _ => True) (fun _ => zw G MS 51 a s9.1 s9.2)) A) [.ref (a 0)].toArray s 0 0 A) (F0 m 50 ls []) := by
      intro g L H locs ls h hP hD hS hl
      unfold fX12_goes_p50 at h
      refine lv_aload_n hx hb dX12_goes_50 rfl (lv_at hl 0 rfl) ?_
      refine lv_aload_n hx hb dX12_goes_51 rfl (lv_at hl 0 rfl) ?_
      refine x_getv (v := .int (g 0 23)) (Or.inl fl_X12_190) C hP (by decide) ms_0 rfl dX12_goes_52 ?_
      refine y_puti (Or.inl fl_X12_197) ft_X12_25 C hP hD hS (by decide) ms_0 rfl rfl rfl dX12_goes_55 h (fun g1 H locs h hP hD hS => ?_)
      refine lv_aload_n hx hb dX12_goes_58 rfl (lv_at hl 0 rfl) ?_
      refine lv_lconst (v := 0) hx hb dX12_goes_59 (by decide) ?_
      refine y_putl (Or.inl fl_X12_200) ft_X12_29 C hP hD hS (by decide) ms_0 rfl dX12_goes_60 h (fun L2 H locs h hP hD hS => ?_)
      refine lv_aload_n hx hb dX12_goes_63 rfl (lv_at hl 0 rfl) ?_
      refine lv_iconst (v := 0) hx hb dX12_goes_64 (by decide) ?_
      refine y_puti (Or.inl fl_X12_204) ft_X12_27 C hP hD hS (by decide) ms_0 rfl rfl rfl dX12_goes_65 h (fun g3 H locs h hP hD hS => ?_)
      refine lv_aload_n hx hb dX12_goes_68 rfl (lv_at hl 0 rfl) ?_
      refine lv_aload_n hx hb dX12_goes_69 rfl (lv_at hl 0 rfl) ?_
      refine x_getv (v := .int (g3 0 23)) (Or.inl fl_X12_190) C hP (by decide) ms_0 rfl dX12_goes_70 ?_
      obtain ⟨z_, g5, L6, hf7, h⟩ := cb_some h
      refine x_callVi (rest := []) li_X12_193 C (rX12_byteAt l G H.size a fu g3 L2 (g3 0 23) z_ (g5, L6) hf7) (kR rfl) hP hD hS 0 12 rfl (zat (by decide) ms_0) rfl hl.1 rfl (Nat.le_of_ble_eq_true rfl) dX12_goes_73 (fun x4 u_ H locs e_ hP hD hS => ?_)
      have e_ : x4 = z_ := e_
      subst e_
      have hP : va_P G.1 vwCl (zw G MS 51 a g5 L6) H := hP
      have hD : va_D A (zw G MS 51 a g5 L6) := hD
      refine lv_istore_n (lv' := [(1, .int x4), (0, .ref (a 0))]) hx hb dX12_goes_76 rfl hl (by decide) rfl (fun ls hl => ?_)
      refine lv_aload_n hx hb dX12_goes_77 rfl (lv_at hl 1 rfl) ?_
      refine lv_iload_n hx hb dX12_goes_78 rfl (lv_at hl 0 rfl) ?_
      refine y_puti (Or.inl fl_X12_207) ft_X12_28 C hP hD hS (by decide) ms_0 rfl rfl rfl dX12_goes_79 h (fun g8 H locs h hP hD hS => ?_)
      refine lv_aload_n hx hb dX12_goes_82 rfl (lv_at hl 1 rfl) ?_
      refine x_getv (v := .int (g8 0 23)) (Or.inl fl_X12_190) C hP (by decide) ms_0 rfl dX12_goes_83 ?_
      refine lv_aload_n hx hb dX12_goes_86 rfl (lv_at hl 1 rfl) ?_
      refine x_getv (v := .int (g8 0 22)) (Or.inl fl_X12_187) C hP (by decide) ms_0 rfl dX12_goes_87 ?_
      have J331 : ∀ (g : Nat → Nat → Int32) (L : Nat → Nat → Int64) (H : Heap) (locs : List Loc) (ls : Array Slot), fX12_goes_p331 fu g L = some (res, s9) → va_P G.1 vwCl (zw G MS 51 a g L) H → va_D A (zw G MS 51 a g L) → va_S A s.heap H locs → lv_has ls 2 [(0, .ref (a 0))] → W p l e { frames := 7, cells := 0, slots := 0, locals := 131 } s m [.ref (a 0)].toArray below meth c H locs 0 0 (MQ below ((kQv G (S := Unit) (fun _ => True) (fun _ => zw G MS 51 a s9.1 s9.2)) A) [.ref (a 0)].toArray s 0 0 A) (F0 m 331 ls []) := by
        intro g L H locs ls h hP hD hS hl
        unfold fX12_goes_p331 at h
        refine lv_aload_n hx hb dX12_goes_331 rfl (lv_at hl 0 rfl) ?_
        refine lv_aload_n hx hb dX12_goes_332 rfl (lv_at hl 0 rfl) ?_
        refine x_getv (v := .int (g 0 23)) (Or.inl fl_X12_190) C hP (by decide) ms_0 rfl dX12_goes_333 ?_
        refine lv_aload_n hx hb dX12_goes_336 rfl (lv_at hl 0 rfl) ?_
        refine x_getv (v := .int (g 0 25)) (Or.inl fl_X12_197) C hP (by decide) ms_0 rfl dX12_goes_337 ?_
        refine lv_isub hx hb dX12_goes_340 ?_
        refine y_puti (Or.inl fl_X12_220) ft_X12_26 C hP hD hS (by decide) ms_0 rfl rfl rfl dX12_goes_341 h (fun g9 H locs h hP hD hS => ?_)
        exact y_vret C hr hlk hP hD hS h (Nat.le_of_ble_eq_true rfl) (Nat.le_of_ble_eq_true rfl) dX12_goes_344
      refine lv_icmp_lt (x := (g8 0 23)) (y := (g8 0 22)) (tgt := 101) hx hb dX12_goes_90 (by decide) (fun c10 => ?_) (fun c10 => ?_)
      ·
        have h := ite_t c10 h
        refine lv_iload_n hx hb dX12_goes_101 rfl (lv_at hl 0 rfl) ?_
        obtain ⟨z_, g12, L13, hf14, h⟩ := cb_some h
        refine x_callSi (rest := []) li_X12_213 C (rX12_isLetter l G H.size a fu g8 L6 x4 z_ (g12, L13) hf14) (kR rfl) hP hD hS rfl hl.1 rfl (Nat.le_of_ble_eq_true rfl) dX12_goes_102 (fun x11 u_ H locs e_ hP hD hS => ?_)
        have e_ : x11 = z_ := e_
        subst e_
        have hP : va_P G.1 vwCl (zw G MS 51 a g12 L13) H := hP
        have hD : va_D A (zw G MS 51 a g12 L13) := hD
        refine lv_if_eq (x := x11) (tgt := 180) hx hb dX12_goes_105 (by decide) (fun c15 => ?_) (fun c15 => ?_)
        ·
          have h := ite_t c15 h
          refine lv_iload_n hx hb dX12_goes_180 rfl (lv_at hl 0 rfl) ?_
          obtain ⟨z_, g17, L18, hf19, h⟩ := cb_some h
          refine x_callSi (rest := []) li_X12_217 C (rX12_isDigit l G H.size a fu g12 L13 x4 z_ (g17, L18) hf19) (kR rfl) hP hD hS rfl hl.1 rfl (Nat.le_of_ble_eq_true rfl) dX12_goes_181 (fun x16 u_ H locs e_ hP hD hS => ?_)
          have e_ : x16 = z_ := e_
          subst e_
          have hP : va_P G.1 vwCl (zw G MS 51 a g17 L18) H := hP
          have hD : va_D A (zw G MS 51 a g17 L18) := hD
          refine lv_if_eq (x := x16) (tgt := 258) hx hb dX12_goes_184 (by decide) (fun c20 => ?_) (fun c20 => ?_)
          ·
            have h := ite_t c20 h
            refine lv_aload_n hx hb dX12_goes_258 rfl (lv_at hl 1 rfl) ?_
            refine lv_dup hx hb dX12_goes_259 rfl ?_
            refine x_getv (v := .int (g17 0 23)) (Or.inl fl_X12_190) C hP (by decide) ms_0 rfl dX12_goes_260 ?_
            refine lv_iconst (v := 1) hx hb dX12_goes_263 (by decide) ?_
            refine lv_iadd hx hb dX12_goes_264 ?_
            refine y_puti (Or.inl fl_X12_190) ft_X12_23 C hP hD hS (by decide) ms_0 rfl rfl rfl dX12_goes_265 h (fun g21 H locs h hP hD hS => ?_)
            refine lv_aload_n hx hb dX12_goes_268 rfl (lv_at hl 1 rfl) ?_
            refine lv_iload_n hx hb dX12_goes_269 rfl (lv_at hl 0 rfl) ?_
            refine lv_bipush (v := 59) hx hb dX12_goes_270 (by decide) ?_
            have J328 : ∀ (t0 : Int32) (g : Nat → Nat → Int32) (L : Nat → Nat → Int64) (H : Heap) (locs : List Loc) (ls : Array Slot), fX12_goes_p328 fu t0 g L = some (res, s9) → va_P G.1 vwCl (zw G MS 51 a g L) H → va_D A (zw G MS 51 a g L) → va_S A s.heap H locs → lv_has ls 2 [(0, .ref (a 0))] → W p l e { frames := 7, cells := 0, slots := 0, locals := 131 } s m [.ref (a 0)].toArray below meth c H locs 0 0 (MQ below ((kQv G (S := Unit) (fun _ => True) (fun _ => zw G MS 51 a s9.1 s9.2)) A) [.ref (a 0)].toArray s 0 0 A) (F0 m 328 ls [.int t0, .ref (a 0)]) := by
              intro t0 g L H locs ls h hP hD hS hl
              unfold fX12_goes_p328 at h
              refine y_puti (Or.inl fl_X12_210) ft_X12_24 C hP hD hS (by decide) ms_0 rfl rfl rfl dX12_goes_328 h (fun g22 H locs h hP hD hS => ?_)
              exact J331 g22 L H locs ls h hP hD hS (lv_sub hl [0] rfl)
            have J323 : ∀ (g : Nat → Nat → Int32) (L : Nat → Nat → Int64) (H : Heap) (locs : List Loc) (ls : Array Slot), fX12_goes_p323 fu g L = some (res, s9) → va_P G.1 vwCl (zw G MS 51 a g L) H → va_D A (zw G MS 51 a g L) → va_S A s.heap H locs → lv_has ls 2 [(0, .ref (a 0))] → W p l e { frames := 7, cells := 0, slots := 0, locals := 131 } s m [.ref (a 0)].toArray below meth c H locs 0 0 (MQ below ((kQv G (S := Unit) (fun _ => True) (fun _ => zw G MS 51 a s9.1 s9.2)) A) [.ref (a 0)].toArray s 0 0 A) (F0 m 323 ls [.ref (a 0)]) := by
              intro g L H locs ls h hP hD hS hl
              unfold fX12_goes_p323 at h
              refine lv_iconst (v := 3) hx hb dX12_goes_323 (by decide) ?_
              refine lv_goto (tgt := 328) hx hb dX12_goes_324 (by decide) ?_
              exact J328 3 g L H locs ls h hP hD hS (lv_sub hl [0] rfl)
            refine lv_icmp_eq (x := x4) (y := 59) (tgt := 323) hx hb dX12_goes_272 (by decide) (fun c23 => ?_) (fun c23 => ?_)
            ·
              have h := ite_t c23 h
              exact J323 g21 L18 H locs ls h hP hD hS (lv_sub hl [1] rfl)
            ·
              have h := ite_e c23 h
              refine lv_iload_n hx hb dX12_goes_275 rfl (lv_at hl 0 rfl) ?_
              refine lv_bipush (v := 40) hx hb dX12_goes_276 (by decide) ?_
              refine lv_icmp_eq (x := x4) (y := 40) (tgt := 323) hx hb dX12_goes_278 (by decide) (fun c24 => ?_) (fun c24 => ?_)
              ·
                have h := ite_t c24 h
                exact J323 g21 L18 H locs ls h hP hD hS (lv_sub hl [1] rfl)
              ·
                have h := ite_e c24 h
                refine lv_iload_n hx hb dX12_goes_281 rfl (lv_at hl 0 rfl) ?_
                refine lv_bipush (v := 41) hx hb dX12_goes_282 (by decide) ?_
                refine lv_icmp_eq (x := x4) (y := 41) (tgt := 323) hx hb dX12_goes_284 (by decide) (fun c25 => ?_) (fun c25 => ?_)
                ·
                  have h := ite_t c25 h
                  exact J323 g21 L18 H locs ls h hP hD hS (lv_sub hl [1] rfl)
                ·
                  have h := ite_e c25 h
                  refine lv_iload_n hx hb dX12_goes_287 rfl (lv_at hl 0 rfl) ?_
                  refine lv_bipush (v := 43) hx hb dX12_goes_288 (by decide) ?_
                  refine lv_icmp_eq (x := x4) (y := 43) (tgt := 323) hx hb dX12_goes_290 (by decide) (fun c26 => ?_) (fun c26 => ?_)
                  ·
                    have h := ite_t c26 h
                    exact J323 g21 L18 H locs ls h hP hD hS (lv_sub hl [1] rfl)
                  ·
                    have h := ite_e c26 h
                    refine lv_iload_n hx hb dX12_goes_293 rfl (lv_at hl 0 rfl) ?_
                    refine lv_bipush (v := 45) hx hb dX12_goes_294 (by decide) ?_
                    refine lv_icmp_eq (x := x4) (y := 45) (tgt := 323) hx hb dX12_goes_296 (by decide) (fun c27 => ?_) (fun c27 => ?_)
                    ·
                      have h := ite_t c27 h
                      exact J323 g21 L18 H locs ls h hP hD hS (lv_sub hl [1] rfl)
                    ·
                      have h := ite_e c27 h
                      refine lv_iload_n hx hb dX12_goes_299 rfl (lv_at hl 0 rfl) ?_
                      refine lv_bipush (v := 42) hx hb dX12_goes_300 (by decide) ?_
                      refine lv_icmp_eq (x := x4) (y := 42) (tgt := 323) hx hb dX12_goes_302 (by decide) (fun c28 => ?_) (fun c28 => ?_)
                      ·
                        have h := ite_t c28 h
                        exact J323 g21 L18 H locs ls h hP hD hS (lv_sub hl [1] rfl)
                      ·
                        have h := ite_e c28 h
                        refine lv_iload_n hx hb dX12_goes_305 rfl (lv_at hl 0 rfl) ?_
                        refine lv_bipush (v := 47) hx hb dX12_goes_306 (by decide) ?_
                        refine lv_icmp_eq (x := x4) (y := 47) (tgt := 323) hx hb dX12_goes_308 (by decide) (fun c29 => ?_) (fun c29 => ?_)
                        ·
                          have h := ite_t c29 h
                          exact J323 g21 L18 H locs ls h hP hD hS (lv_sub hl [1] rfl)
                        ·
                          have h := ite_e c29 h
                          refine lv_iload_n hx hb dX12_goes_311 rfl (lv_at hl 0 rfl) ?_
                          refine lv_bipush (v := 60) hx hb dX12_goes_312 (by decide) ?_
                          refine lv_icmp_eq (x := x4) (y := 60) (tgt := 323) hx hb dX12_goes_314 (by decide) (fun c30 => ?_) (fun c30 => ?_)
                          ·
                            have h := ite_t c30 h
                            exact J323 g21 L18 H locs ls h hP hD hS (lv_sub hl [1] rfl)
                          ·
                            have h := ite_e c30 h
                            refine lv_iload_n hx hb dX12_goes_317 rfl (lv_at hl 0 rfl) ?_
                            refine lv_bipush (v := 61) hx hb dX12_goes_318 (by decide) ?_
                            refine lv_icmp_ne (x := x4) (y := 61) (tgt := 327) hx hb dX12_goes_320 (by decide) (fun c31 => ?_) (fun c31 => ?_)
                            ·
                              have h := ite_e c31 h
                              refine lv_iconst (v := 4) hx hb dX12_goes_327 (by decide) ?_
                              exact J328 4 g21 L18 H locs ls h hP hD hS (lv_sub hl [1] rfl)
                            ·
                              have h := ite_t c31 h
                              exact J323 g21 L18 H locs ls h hP hD hS (lv_sub hl [1] rfl)
          ·
            have h := ite_e c20 h
            have lp187 : ∀ (_ : True), ∀ (n : Nat) (v : (Nat → Nat → Int32) × (Nat → Nat → Int64)), whileK (fun k v => fX12_goes_s187 fu k v.1 v.2) n v = some (res, s9) → ∀ (H : Heap) (locs : List Loc) (ls : Array Slot), va_P G.1 vwCl (zw G MS 51 a (v.1) (v.2)) H → va_D A (zw G MS 51 a (v.1) (v.2)) → va_S A s.heap H locs → lv_has ls 2 [(0, .ref (a 0))] → W p l e { frames := 7, cells := 0, slots := 0, locals := 131 } s m [.ref (a 0)].toArray below meth c H locs 0 0 (MQ below ((kQv G (S := Unit) (fun _ => True) (fun _ => zw G MS 51 a s9.1 s9.2)) A) [.ref (a 0)].toArray s 0 0 A) (F0 m 187 ls []) := by
              intro _
              refine while_ind (fun k187 ih187 v h => ?_)
              obtain ⟨g, L⟩ := v
              intro H locs ls hP hD hS hl
              have h : fX12_goes_s187 fu k187 g L = some (res, s9) := h
              have hP : va_P G.1 vwCl (zw G MS 51 a g L) H := hP
              have hD : va_D A (zw G MS 51 a g L) := hD
              have hl : lv_has ls 2 [(0, .ref (a 0))] := hl
              show W p l e { frames := 7, cells := 0, slots := 0, locals := 131 } s m [.ref (a 0)].toArray below meth c H locs 0 0 (MQ below ((kQv G (S := Unit) (fun _ => True) (fun _ => zw G MS 51 a s9.1 s9.2)) A) [.ref (a 0)].toArray s 0 0 A) (F0 m 187 ls [])
              unfold fX12_goes_s187 at h
              refine lv_aload_n hx hb dX12_goes_187 rfl (lv_at hl 0 rfl) ?_
              refine lv_aload_n hx hb dX12_goes_188 rfl (lv_at hl 0 rfl) ?_
              refine x_getv (v := .int (g 0 23)) (Or.inl fl_X12_190) C hP (by decide) ms_0 rfl dX12_goes_189 ?_
              obtain ⟨z_, g33, L34, hf35, h⟩ := cb_some h
              refine x_callVi (rest := []) li_X12_193 C (rX12_byteAt l G H.size a fu g L (g 0 23) z_ (g33, L34) hf35) (kR rfl) hP hD hS 0 12 rfl (zat (by decide) ms_0) rfl hl.1 rfl (Nat.le_of_ble_eq_true rfl) dX12_goes_192 (fun x32 u_ H locs e_ hP hD hS => ?_)
              have e_ : x32 = z_ := e_
              subst e_
              have hP : va_P G.1 vwCl (zw G MS 51 a g33 L34) H := hP
              have hD : va_D A (zw G MS 51 a g33 L34) := hD
              obtain ⟨z_, g37, L38, hf39, h⟩ := cb_some h
              refine x_callSi (rest := []) li_X12_217 C (rX12_isDigit l G H.size a fu g33 L34 x32 z_ (g37, L38) hf39) (kR rfl) hP hD hS rfl hl.1 rfl (Nat.le_of_ble_eq_true rfl) dX12_goes_195 (fun x36 u_ H locs e_ hP hD hS => ?_)
              have e_ : x36 = z_ := e_
              subst e_
              have hP : va_P G.1 vwCl (zw G MS 51 a g37 L38) H := hP
              have hD : va_D A (zw G MS 51 a g37 L38) := hD
              refine lv_if_eq (x := x36) (tgt := 250) hx hb dX12_goes_198 (by decide) (fun c40 => ?_) (fun c40 => ?_)
              ·
                have h := ite_t c40 h
                refine lv_aload_n hx hb dX12_goes_250 rfl (lv_at hl 0 rfl) ?_
                refine lv_iconst (v := 2) hx hb dX12_goes_251 (by decide) ?_
                refine y_puti (Or.inl fl_X12_210) ft_X12_24 C hP hD hS (by decide) ms_0 rfl rfl rfl dX12_goes_252 h (fun g41 H locs h hP hD hS => ?_)
                refine lv_goto (tgt := 331) hx hb dX12_goes_255 (by decide) ?_
                exact J331 g41 L38 H locs ls h hP hD hS (lv_sub hl [0] rfl)
              ·
                have h := ite_e c40 h
                refine lv_aload_n hx hb dX12_goes_201 rfl (lv_at hl 0 rfl) ?_
                refine x_getv (v := .int (g37 0 23)) (Or.inl fl_X12_190) C hP (by decide) ms_0 rfl dX12_goes_202 ?_
                refine lv_aload_n hx hb dX12_goes_205 rfl (lv_at hl 0 rfl) ?_
                refine x_getv (v := .int (g37 0 25)) (Or.inl fl_X12_197) C hP (by decide) ms_0 rfl dX12_goes_206 ?_
                refine lv_isub hx hb dX12_goes_209 ?_
                refine lv_iconst (v := 4) hx hb dX12_goes_210 (by decide) ?_
                have J237 : ∀ (g : Nat → Nat → Int32) (L : Nat → Nat → Int64) (H : Heap) (locs : List Loc) (ls : Array Slot), fX12_goes_p237 fu k187 g L = some (res, s9) → va_P G.1 vwCl (zw G MS 51 a g L) H → va_D A (zw G MS 51 a g L) → va_S A s.heap H locs → lv_has ls 2 [(0, .ref (a 0))] → W p l e { frames := 7, cells := 0, slots := 0, locals := 131 } s m [.ref (a 0)].toArray below meth c H locs 0 0 (MQ below ((kQv G (S := Unit) (fun _ => True) (fun _ => zw G MS 51 a s9.1 s9.2)) A) [.ref (a 0)].toArray s 0 0 A) (F0 m 237 ls []) := by
                  intro g L H locs ls h hP hD hS hl
                  unfold fX12_goes_p237 at h
                  refine lv_aload_n hx hb dX12_goes_237 rfl (lv_at hl 0 rfl) ?_
                  refine lv_dup hx hb dX12_goes_238 rfl ?_
                  refine x_getv (v := .int (g 0 23)) (Or.inl fl_X12_190) C hP (by decide) ms_0 rfl dX12_goes_239 ?_
                  refine lv_iconst (v := 1) hx hb dX12_goes_242 (by decide) ?_
                  refine lv_iadd hx hb dX12_goes_243 ?_
                  refine y_puti (Or.inl fl_X12_190) ft_X12_23 C hP hD hS (by decide) ms_0 rfl rfl rfl dX12_goes_244 h (fun g42 H locs h hP hD hS => ?_)
                  refine lv_goto (tgt := 187) hx hb dX12_goes_247 (by decide) ?_
                  exact ih187 (g42, L) h H locs ls hP hD hS (lv_sub hl [0] rfl)
                refine lv_icmp_ge (x := ((g37 0 23) - (g37 0 25))) (y := 4) (tgt := 237) hx hb dX12_goes_211 (by decide) (fun c43 => ?_) (fun c43 => ?_)
                ·
                  have h := ite_t c43 h
                  exact J237 g37 L38 H locs ls h hP hD hS (lv_sub hl [0] rfl)
                ·
                  have h := ite_e c43 h
                  refine lv_aload_n hx hb dX12_goes_214 rfl (lv_at hl 0 rfl) ?_
                  refine lv_bipush (v := 10) hx hb dX12_goes_215 (by decide) ?_
                  refine lv_aload_n hx hb dX12_goes_217 rfl (lv_at hl 0 rfl) ?_
                  refine x_getv (v := .int (g37 0 27)) (Or.inl fl_X12_204) C hP (by decide) ms_0 rfl dX12_goes_218 ?_
                  refine lv_imul hx hb dX12_goes_221 ?_
                  refine lv_aload_n hx hb dX12_goes_222 rfl (lv_at hl 0 rfl) ?_
                  refine lv_aload_n hx hb dX12_goes_223 rfl (lv_at hl 0 rfl) ?_
                  refine x_getv (v := .int (g37 0 23)) (Or.inl fl_X12_190) C hP (by decide) ms_0 rfl dX12_goes_224 ?_
                  obtain ⟨z_, g45, L46, hf47, h⟩ := cb_some h
                  refine x_callVi (rest := [.int (10 * (g37 0 27)), .ref (a 0)]) li_X12_193 C (rX12_byteAt l G H.size a fu g37 L38 (g37 0 23) z_ (g45, L46) hf47) (kR rfl) hP hD hS 0 12 rfl (zat (by decide) ms_0) rfl hl.1 rfl (Nat.le_of_ble_eq_true rfl) dX12_goes_227 (fun x44 u_ H locs e_ hP hD hS => ?_)
                  have e_ : x44 = z_ := e_
                  subst e_
                  have hP : va_P G.1 vwCl (zw G MS 51 a g45 L46) H := hP
                  have hD : va_D A (zw G MS 51 a g45 L46) := hD
                  refine lv_iadd hx hb dX12_goes_230 ?_
                  refine lv_bipush (v := 48) hx hb dX12_goes_231 (by decide) ?_
                  refine lv_isub hx hb dX12_goes_233 ?_
                  refine y_puti (Or.inl fl_X12_204) ft_X12_27 C hP hD hS (by decide) ms_0 rfl rfl rfl dX12_goes_234 h (fun g48 H locs h hP hD hS => ?_)
                  exact J237 g48 L46 H locs ls h hP hD hS (lv_sub hl [0] rfl)
            exact lp187 trivial fu (g17, L18) h H locs ls hP hD hS (lv_sub hl [1] rfl)
        ·
          have h := ite_e c15 h
          have lp108 : ∀ (_ : True), ∀ (n : Nat) (v : (Nat → Nat → Int32) × (Nat → Nat → Int64)), whileK (fun k v => fX12_goes_s108 fu k v.1 v.2) n v = some (res, s9) → ∀ (H : Heap) (locs : List Loc) (ls : Array Slot), va_P G.1 vwCl (zw G MS 51 a (v.1) (v.2)) H → va_D A (zw G MS 51 a (v.1) (v.2)) → va_S A s.heap H locs → lv_has ls 2 [(0, .ref (a 0))] → W p l e { frames := 7, cells := 0, slots := 0, locals := 131 } s m [.ref (a 0)].toArray below meth c H locs 0 0 (MQ below ((kQv G (S := Unit) (fun _ => True) (fun _ => zw G MS 51 a s9.1 s9.2)) A) [.ref (a 0)].toArray s 0 0 A) (F0 m 108 ls []) := by
            intro _
            refine while_ind (fun k108 ih108 v h => ?_)
            obtain ⟨g, L⟩ := v
            intro H locs ls hP hD hS hl
            have h : fX12_goes_s108 fu k108 g L = some (res, s9) := h
            have hP : va_P G.1 vwCl (zw G MS 51 a g L) H := hP
            have hD : va_D A (zw G MS 51 a g L) := hD
            have hl : lv_has ls 2 [(0, .ref (a 0))] := hl
            show W p l e { frames := 7, cells := 0, slots := 0, locals := 131 } s m [.ref (a 0)].toArray below meth c H locs 0 0 (MQ below ((kQv G (S := Unit) (fun _ => True) (fun _ => zw G MS 51 a s9.1 s9.2)) A) [.ref (a 0)].toArray s 0 0 A) (F0 m 108 ls [])
            unfold fX12_goes_s108 at h
            refine lv_aload_n hx hb dX12_goes_108 rfl (lv_at hl 0 rfl) ?_
            refine lv_aload_n hx hb dX12_goes_109 rfl (lv_at hl 0 rfl) ?_
            refine x_getv (v := .int (g 0 23)) (Or.inl fl_X12_190) C hP (by decide) ms_0 rfl dX12_goes_110 ?_
            obtain ⟨z_, g50, L51, hf52, h⟩ := cb_some h
            refine x_callVi (rest := []) li_X12_193 C (rX12_byteAt l G H.size a fu g L (g 0 23) z_ (g50, L51) hf52) (kR rfl) hP hD hS 0 12 rfl (zat (by decide) ms_0) rfl hl.1 rfl (Nat.le_of_ble_eq_true rfl) dX12_goes_113 (fun x49 u_ H locs e_ hP hD hS => ?_)
            have e_ : x49 = z_ := e_
            subst e_
            have hP : va_P G.1 vwCl (zw G MS 51 a g50 L51) H := hP
            have hD : va_D A (zw G MS 51 a g50 L51) := hD
            obtain ⟨z_, g54, L55, hf56, h⟩ := cb_some h
            refine x_callSi (rest := []) li_X12_213 C (rX12_isLetter l G H.size a fu g50 L51 x49 z_ (g54, L55) hf56) (kR rfl) hP hD hS rfl hl.1 rfl (Nat.le_of_ble_eq_true rfl) dX12_goes_116 (fun x53 u_ H locs e_ hP hD hS => ?_)
            have e_ : x53 = z_ := e_
            subst e_
            have hP : va_P G.1 vwCl (zw G MS 51 a g54 L55) H := hP
            have hD : va_D A (zw G MS 51 a g54 L55) := hD
            refine lv_if_eq (x := x53) (tgt := 172) hx hb dX12_goes_119 (by decide) (fun c57 => ?_) (fun c57 => ?_)
            ·
              have h := ite_t c57 h
              refine lv_aload_n hx hb dX12_goes_172 rfl (lv_at hl 0 rfl) ?_
              refine lv_iconst (v := 1) hx hb dX12_goes_173 (by decide) ?_
              refine y_puti (Or.inl fl_X12_210) ft_X12_24 C hP hD hS (by decide) ms_0 rfl rfl rfl dX12_goes_174 h (fun g58 H locs h hP hD hS => ?_)
              refine lv_goto (tgt := 331) hx hb dX12_goes_177 (by decide) ?_
              exact J331 g58 L55 H locs ls h hP hD hS (lv_sub hl [0] rfl)
            ·
              have h := ite_e c57 h
              refine lv_aload_n hx hb dX12_goes_122 rfl (lv_at hl 0 rfl) ?_
              refine x_getv (v := .int (g54 0 23)) (Or.inl fl_X12_190) C hP (by decide) ms_0 rfl dX12_goes_123 ?_
              refine lv_aload_n hx hb dX12_goes_126 rfl (lv_at hl 0 rfl) ?_
              refine x_getv (v := .int (g54 0 25)) (Or.inl fl_X12_197) C hP (by decide) ms_0 rfl dX12_goes_127 ?_
              refine lv_isub hx hb dX12_goes_130 ?_
              refine lv_bipush (v := 6) hx hb dX12_goes_131 (by decide) ?_
              have J159 : ∀ (g : Nat → Nat → Int32) (L : Nat → Nat → Int64) (H : Heap) (locs : List Loc) (ls : Array Slot), fX12_goes_p159 fu k108 g L = some (res, s9) → va_P G.1 vwCl (zw G MS 51 a g L) H → va_D A (zw G MS 51 a g L) → va_S A s.heap H locs → lv_has ls 2 [(0, .ref (a 0))] → W p l e { frames := 7, cells := 0, slots := 0, locals := 131 } s m [.ref (a 0)].toArray below meth c H locs 0 0 (MQ below ((kQv G (S := Unit) (fun _ => True) (fun _ => zw G MS 51 a s9.1 s9.2)) A) [.ref (a 0)].toArray s 0 0 A) (F0 m 159 ls []) := by
                intro g L H locs ls h hP hD hS hl
                unfold fX12_goes_p159 at h
                refine lv_aload_n hx hb dX12_goes_159 rfl (lv_at hl 0 rfl) ?_
                refine lv_dup hx hb dX12_goes_160 rfl ?_
                refine x_getv (v := .int (g 0 23)) (Or.inl fl_X12_190) C hP (by decide) ms_0 rfl dX12_goes_161 ?_
                refine lv_iconst (v := 1) hx hb dX12_goes_164 (by decide) ?_
                refine lv_iadd hx hb dX12_goes_165 ?_
                refine y_puti (Or.inl fl_X12_190) ft_X12_23 C hP hD hS (by decide) ms_0 rfl rfl rfl dX12_goes_166 h (fun g59 H locs h hP hD hS => ?_)
                refine lv_goto (tgt := 108) hx hb dX12_goes_169 (by decide) ?_
                exact ih108 (g59, L) h H locs ls hP hD hS (lv_sub hl [0] rfl)
              refine lv_icmp_ge (x := ((g54 0 23) - (g54 0 25))) (y := 6) (tgt := 159) hx hb dX12_goes_133 (by decide) (fun c60 => ?_) (fun c60 => ?_)
              ·
                have h := ite_t c60 h
                exact J159 g54 L55 H locs ls h hP hD hS (lv_sub hl [0] rfl)
              ·
                have h := ite_e c60 h
                refine lv_aload_n hx hb dX12_goes_136 rfl (lv_at hl 0 rfl) ?_
                refine lv_aload_n hx hb dX12_goes_137 rfl (lv_at hl 0 rfl) ?_
                refine x_getv (v := .long (L55 0 29)) (Or.inl fl_X12_200) C hP (by decide) ms_0 rfl dX12_goes_138 ?_
                refine lv_iconst (v := 5) hx hb dX12_goes_141 (by decide) ?_
                refine lv_lshl hx hb dX12_goes_142 rfl ?_
                refine lv_aload_n hx hb dX12_goes_143 rfl (lv_at hl 0 rfl) ?_
                refine lv_aload_n hx hb dX12_goes_144 rfl (lv_at hl 0 rfl) ?_
                refine x_getv (v := .int (g54 0 23)) (Or.inl fl_X12_190) C hP (by decide) ms_0 rfl dX12_goes_145 ?_
                obtain ⟨z_, g62, L63, hf64, h⟩ := cb_some h
                refine x_callVi (rest := [.long ((L55 0 29) <<< (Int32.toInt64 5 &&& 63)), .ref (a 0)]) li_X12_193 C (rX12_byteAt l G H.size a fu g54 L55 (g54 0 23) z_ (g62, L63) hf64) (kR rfl) hP hD hS 0 12 rfl (zat (by decide) ms_0) rfl hl.1 rfl (Nat.le_of_ble_eq_true rfl) dX12_goes_148 (fun x61 u_ H locs e_ hP hD hS => ?_)
                have e_ : x61 = z_ := e_
                subst e_
                have hP : va_P G.1 vwCl (zw G MS 51 a g62 L63) H := hP
                have hD : va_D A (zw G MS 51 a g62 L63) := hD
                refine lv_bipush (v := 96) hx hb dX12_goes_151 (by decide) ?_
                refine lv_isub hx hb dX12_goes_153 ?_
                refine lv_i2l hx hb dX12_goes_154 rfl ?_
                refine lv_lor hx hb dX12_goes_155 ?_
                refine y_putl (Or.inl fl_X12_200) ft_X12_29 C hP hD hS (by decide) ms_0 rfl dX12_goes_156 h (fun L65 H locs h hP hD hS => ?_)
                exact J159 g62 L65 H locs ls h hP hD hS (lv_sub hl [0] rfl)
          exact lp108 trivial fu (g12, L13) h H locs ls hP hD hS (lv_sub hl [1] rfl)
      ·
        have h := ite_e c10 h
        refine lv_aload_n hx hb dX12_goes_93 rfl (lv_at hl 1 rfl) ?_
        refine lv_iconst (v := 0) hx hb dX12_goes_94 (by decide) ?_
        refine y_puti (Or.inl fl_X12_210) ft_X12_24 C hP hD hS (by decide) ms_0 rfl rfl rfl dX12_goes_95 h (fun g66 H locs h hP hD hS => ?_)
        refine lv_goto (tgt := 331) hx hb dX12_goes_98 (by decide) ?_
        exact J331 g66 L6 H locs ls h hP hD hS (lv_sub hl [1] rfl)
    refine lv_icmp_ge (x := (g 0 23)) (y := (g 0 22)) (tgt := 50) hx hb dX12_goes_8 (by decide) (fun c67 => ?_) (fun c67 => ?_)
    ·
      have h := ite_t c67 h
      exact J50 g L H locs ls h hP hD hS (lv_sub hl [0] rfl)
    ·
      have h := ite_e c67 h
      refine lv_aload_n hx hb dX12_goes_11 rfl (lv_at hl 0 rfl) ?_
      refine lv_aload_n hx hb dX12_goes_12 rfl (lv_at hl 0 rfl) ?_
      refine x_getv (v := .int (g 0 23)) (Or.inl fl_X12_190) C hP (by decide) ms_0 rfl dX12_goes_13 ?_
      obtain ⟨z_, g69, L70, hf71, h⟩ := cb_some h
      refine x_callVi (rest := []) li_X12_193 C (rX12_byteAt l G H.size a fu g L (g 0 23) z_ (g69, L70) hf71) (kR rfl) hP hD hS 0 12 rfl (zat (by decide) ms_0) rfl hl.1 rfl (Nat.le_of_ble_eq_true rfl) dX12_goes_16 (fun x68 u_ H locs e_ hP hD hS => ?_)
      have e_ : x68 = z_ := e_
      subst e_
      have hP : va_P G.1 vwCl (zw G MS 51 a g69 L70) H := hP
      have hD : va_D A (zw G MS 51 a g69 L70) := hD
      refine lv_bipush (v := 32) hx hb dX12_goes_19 (by decide) ?_
      have J37 : ∀ (g : Nat → Nat → Int32) (L : Nat → Nat → Int64) (H : Heap) (locs : List Loc) (ls : Array Slot), fX12_goes_p37 fu k0 g L = some (res, s9) → va_P G.1 vwCl (zw G MS 51 a g L) H → va_D A (zw G MS 51 a g L) → va_S A s.heap H locs → lv_has ls 2 [(0, .ref (a 0))] → W p l e { frames := 7, cells := 0, slots := 0, locals := 131 } s m [.ref (a 0)].toArray below meth c H locs 0 0 (MQ below ((kQv G (S := Unit) (fun _ => True) (fun _ => zw G MS 51 a s9.1 s9.2)) A) [.ref (a 0)].toArray s 0 0 A) (F0 m 37 ls []) := by
        intro g L H locs ls h hP hD hS hl
        unfold fX12_goes_p37 at h
        refine lv_aload_n hx hb dX12_goes_37 rfl (lv_at hl 0 rfl) ?_
        refine lv_dup hx hb dX12_goes_38 rfl ?_
        refine x_getv (v := .int (g 0 23)) (Or.inl fl_X12_190) C hP (by decide) ms_0 rfl dX12_goes_39 ?_
        refine lv_iconst (v := 1) hx hb dX12_goes_42 (by decide) ?_
        refine lv_iadd hx hb dX12_goes_43 ?_
        refine y_puti (Or.inl fl_X12_190) ft_X12_23 C hP hD hS (by decide) ms_0 rfl rfl rfl dX12_goes_44 h (fun g72 H locs h hP hD hS => ?_)
        refine lv_goto (tgt := 0) hx hb dX12_goes_47 (by decide) ?_
        exact ih0 (g72, L) h H locs ls hP hD hS (lv_sub hl [0] rfl)
      refine lv_icmp_eq (x := x68) (y := 32) (tgt := 37) hx hb dX12_goes_21 (by decide) (fun c73 => ?_) (fun c73 => ?_)
      ·
        have h := ite_t c73 h
        exact J37 g69 L70 H locs ls h hP hD hS (lv_sub hl [0] rfl)
      ·
        have h := ite_e c73 h
        refine lv_aload_n hx hb dX12_goes_24 rfl (lv_at hl 0 rfl) ?_
        refine lv_aload_n hx hb dX12_goes_25 rfl (lv_at hl 0 rfl) ?_
        refine x_getv (v := .int (g69 0 23)) (Or.inl fl_X12_190) C hP (by decide) ms_0 rfl dX12_goes_26 ?_
        obtain ⟨z_, g75, L76, hf77, h⟩ := cb_some h
        refine x_callVi (rest := []) li_X12_193 C (rX12_byteAt l G H.size a fu g69 L70 (g69 0 23) z_ (g75, L76) hf77) (kR rfl) hP hD hS 0 12 rfl (zat (by decide) ms_0) rfl hl.1 rfl (Nat.le_of_ble_eq_true rfl) dX12_goes_29 (fun x74 u_ H locs e_ hP hD hS => ?_)
        have e_ : x74 = z_ := e_
        subst e_
        have hP : va_P G.1 vwCl (zw G MS 51 a g75 L76) H := hP
        have hD : va_D A (zw G MS 51 a g75 L76) := hD
        refine lv_bipush (v := 10) hx hb dX12_goes_32 (by decide) ?_
        refine lv_icmp_ne (x := x74) (y := 10) (tgt := 50) hx hb dX12_goes_34 (by decide) (fun c78 => ?_) (fun c78 => ?_)
        ·
          have h := ite_e c78 h
          exact J50 g75 L76 H locs ls h hP hD hS (lv_sub hl [0] rfl)
        ·
          have h := ite_t c78 h
          exact J37 g75 L76 H locs ls h hP hD hS (lv_sub hl [0] rfl)
  exact lp0 trivial fu (g, L) h H locs ls hP hD hS (lv_sub hl [0] rfl)
def fX12_spelled_p84 (fu : Nat) (v6 : Int64) (g : Nat → Nat → Int32) (L : Nat → Nat → Int64) : Option ((Int64) × zS) :=
  some (v6, (g, L))
def fX12_spelled_p66 (fu : Nat) (v5 : Int32) (v6 : Int64) (g : Nat → Nat → Int32) (L : Nat → Nat → Int64) : Option ((Int64) × zS) :=
  if v5 = 0 then fX12_spelled_p84 fu v6 g L
  else ltl ((v6 <<< (Int32.toInt64 5 &&& 63)) ||| (Int32.toInt64 (v5 - 96))) (fun y3 =>
  fX12_spelled_p84 fu y3 g L)
def fX12_spelled_p48 (fu : Nat) (v4 : Int32) (v5 : Int32) (v6 : Int64) (g : Nat → Nat → Int32) (L : Nat → Nat → Int64) : Option ((Int64) × zS) :=
  if v4 = 0 then fX12_spelled_p66 fu v5 v6 g L
  else ltl ((v6 <<< (Int32.toInt64 5 &&& 63)) ||| (Int32.toInt64 (v4 - 96))) (fun y5 =>
  fX12_spelled_p66 fu v5 y5 g L)
def fX12_spelled_p32 (fu : Nat) (v3 : Int32) (v4 : Int32) (v5 : Int32) (v6 : Int64) (g : Nat → Nat → Int32) (L : Nat → Nat → Int64) : Option ((Int64) × zS) :=
  if v3 = 0 then fX12_spelled_p48 fu v4 v5 v6 g L
  else ltl ((v6 <<< (Int32.toInt64 5 &&& 63)) ||| (Int32.toInt64 (v3 - 96))) (fun y7 =>
  fX12_spelled_p48 fu v4 v5 y7 g L)
def fX12_spelled (fu : Nat) (p1 : Int32) (p2 : Int32) (p3 : Int32) (p4 : Int32) (p5 : Int32) (p6 : Int32) (g : Nat → Nat → Int32) (L : Nat → Nat → Int64) : Option ((Int64) × zS) :=
  ltl ((((Int32.toInt64 p1) - 96) <<< (Int32.toInt64 5 &&& 63)) ||| (Int32.toInt64 (p2 - 96))) (fun y1 =>
  if p3 = 0 then fX12_spelled_p32 fu p4 p5 p6 y1 g L
  else ltl ((y1 <<< (Int32.toInt64 5 &&& 63)) ||| (Int32.toInt64 (p3 - 96))) (fun y9 =>
  fX12_spelled_p32 fu p4 p5 p6 y9 g L))
set_option maxHeartbeats 4000000 in
set_option maxRecDepth 100000 in
theorem rX12_spelled (l : Launch) (G : kG) (sz : Nat) (a : Nat → Nat) (fu : Nat) (g : Nat → Nat → Int32) (L : Nat → Nat → Int64) (p1 : Int32) (p2 : Int32) (p3 : Int32) (p4 : Int32) (p5 : Int32) (p6 : Int32) (res : Int64) (s9 : zS) (h : fX12_spelled fu p1 p2 p3 p4 p5 p6 g L = some (res, s9)) : kM l yX12_spelled cX12_spelled 8 (some .long) { frames := 6, cells := 0, slots := 0, locals := 110 } G [.int p1, .int p2, .int p3, .int p4, .int p5, .int p6] (zw G MS 51 a g L) sz (kQl G (S := Unit) (fun r' _ => r' = res) (fun _ => zw G MS 51 a s9.1 s9.2)) := by
  refine kM.of (by decide) (Nat.le_of_ble_eq_true rfl) ?_
  intro p e s m below meth c A ls H C hr hlk hnm hP hD hS hl
  have C : kC G p s m c cX12_spelled 8 RX12 A := C
  have hx := C.1
  have hb := C.2.1
  have hl : lv_has ls 8 [(0, .int p1), (1, .int p2), (2, .int p3), (3, .int p4), (4, .int p5), (5, .int p6)] := hl
  obtain ⟨locs, hlocs⟩ : ∃ q : List Loc, q = [] := ⟨_, rfl⟩
  rw [← hlocs] at hS
  rw [← hlocs]
  unfold fX12_spelled at h
  refine lv_iload_n hx hb dX12_spelled_0 rfl (lv_at hl 0 rfl) ?_
  refine lv_i2l hx hb dX12_spelled_1 rfl ?_
  refine lv_ldc2 (v := 96) hx hb C.2.2.2.1 (C.2.2.2.2.1.w tw_1740 rfl) dX12_spelled_2 ?_
  refine lv_lsub hx hb dX12_spelled_5 ?_
  refine lv_iconst (v := 5) hx hb dX12_spelled_6 (by decide) ?_
  refine lv_lshl hx hb dX12_spelled_7 rfl ?_
  refine lv_iload_n hx hb dX12_spelled_8 rfl (lv_at hl 1 rfl) ?_
  refine lv_bipush (v := 96) hx hb dX12_spelled_9 (by decide) ?_
  refine lv_isub hx hb dX12_spelled_11 ?_
  refine lv_i2l hx hb dX12_spelled_12 rfl ?_
  refine lv_lor hx hb dX12_spelled_13 ?_
  refine y_letL h (fun y1 h => ?_)
  refine lv_lstore (lv' := [(6, .long y1), (0, .int p1), (1, .int p2), (2, .int p3), (3, .int p4), (4, .int p5), (5, .int p6)]) hx hb dX12_spelled_14 hl (by decide) rfl (fun ls hl => ?_)
  refine lv_iload_n hx hb dX12_spelled_16 rfl (lv_at hl 3 rfl) ?_
  have J32 : ∀ (v3 : Int32) (v4 : Int32) (v5 : Int32) (v6 : Int64) (g : Nat → Nat → Int32) (L : Nat → Nat → Int64) (H : Heap) (locs : List Loc) (ls : Array Slot), fX12_spelled_p32 fu v3 v4 v5 v6 g L = some (res, s9) → va_P G.1 vwCl (zw G MS 51 a g L) H → va_D A (zw G MS 51 a g L) → va_S A s.heap H locs → lv_has ls 8 [(3, .int v3), (4, .int v4), (5, .int v5), (6, .long v6)] → W p l e { frames := 6, cells := 0, slots := 0, locals := 110 } s m [.int p1, .int p2, .int p3, .int p4, .int p5, .int p6].toArray below meth c H locs 0 0 (MQ below ((kQl G (S := Unit) (fun r' _ => r' = res) (fun _ => zw G MS 51 a s9.1 s9.2)) A) [.int p1, .int p2, .int p3, .int p4, .int p5, .int p6].toArray s 0 0 A) (F0 m 32 ls []) := by
    intro v3 v4 v5 v6 g L H locs ls h hP hD hS hl
    unfold fX12_spelled_p32 at h
    refine lv_iload_n hx hb dX12_spelled_32 rfl (lv_at hl 0 rfl) ?_
    have J48 : ∀ (v4 : Int32) (v5 : Int32) (v6 : Int64) (g : Nat → Nat → Int32) (L : Nat → Nat → Int64) (H : Heap) (locs : List Loc) (ls : Array Slot), fX12_spelled_p48 fu v4 v5 v6 g L = some (res, s9) → va_P G.1 vwCl (zw G MS 51 a g L) H → va_D A (zw G MS 51 a g L) → va_S A s.heap H locs → lv_has ls 8 [(4, .int v4), (5, .int v5), (6, .long v6)] → W p l e { frames := 6, cells := 0, slots := 0, locals := 110 } s m [.int p1, .int p2, .int p3, .int p4, .int p5, .int p6].toArray below meth c H locs 0 0 (MQ below ((kQl G (S := Unit) (fun r' _ => r' = res) (fun _ => zw G MS 51 a s9.1 s9.2)) A) [.int p1, .int p2, .int p3, .int p4, .int p5, .int p6].toArray s 0 0 A) (F0 m 48 ls []) := by
      intro v4 v5 v6 g L H locs ls h hP hD hS hl
      unfold fX12_spelled_p48 at h
      refine lv_iload hx hb dX12_spelled_48 (lv_at hl 0 rfl) ?_
      have J66 : ∀ (v5 : Int32) (v6 : Int64) (g : Nat → Nat → Int32) (L : Nat → Nat → Int64) (H : Heap) (locs : List Loc) (ls : Array Slot), fX12_spelled_p66 fu v5 v6 g L = some (res, s9) → va_P G.1 vwCl (zw G MS 51 a g L) H → va_D A (zw G MS 51 a g L) → va_S A s.heap H locs → lv_has ls 8 [(5, .int v5), (6, .long v6)] → W p l e { frames := 6, cells := 0, slots := 0, locals := 110 } s m [.int p1, .int p2, .int p3, .int p4, .int p5, .int p6].toArray below meth c H locs 0 0 (MQ below ((kQl G (S := Unit) (fun r' _ => r' = res) (fun _ => zw G MS 51 a s9.1 s9.2)) A) [.int p1, .int p2, .int p3, .int p4, .int p5, .int p6].toArray s 0 0 A) (F0 m 66 ls []) := by
        intro v5 v6 g L H locs ls h hP hD hS hl
        unfold fX12_spelled_p66 at h
        refine lv_iload hx hb dX12_spelled_66 (lv_at hl 0 rfl) ?_
        have J84 : ∀ (v6 : Int64) (g : Nat → Nat → Int32) (L : Nat → Nat → Int64) (H : Heap) (locs : List Loc) (ls : Array Slot), fX12_spelled_p84 fu v6 g L = some (res, s9) → va_P G.1 vwCl (zw G MS 51 a g L) H → va_D A (zw G MS 51 a g L) → va_S A s.heap H locs → lv_has ls 8 [(6, .long v6)] → W p l e { frames := 6, cells := 0, slots := 0, locals := 110 } s m [.int p1, .int p2, .int p3, .int p4, .int p5, .int p6].toArray below meth c H locs 0 0 (MQ below ((kQl G (S := Unit) (fun r' _ => r' = res) (fun _ => zw G MS 51 a s9.1 s9.2)) A) [.int p1, .int p2, .int p3, .int p4, .int p5, .int p6].toArray s 0 0 A) (F0 m 84 ls []) := by
          intro v6 g L H locs ls h hP hD hS hl
          unfold fX12_spelled_p84 at h
          refine lv_lload hx hb dX12_spelled_84 (lv_at hl 0 rfl) ?_
          exact y_lret C hr hlk hP hD hS h (Nat.le_of_ble_eq_true rfl) (Nat.le_of_ble_eq_true rfl) dX12_spelled_86
        refine lv_if_eq (x := v5) (tgt := 84) hx hb dX12_spelled_68 (by decide) (fun c2 => ?_) (fun c2 => ?_)
        ·
          have h := ite_t c2 h
          exact J84 v6 g L H locs ls h hP hD hS (lv_sub hl [1] rfl)
        ·
          have h := ite_e c2 h
          refine lv_lload hx hb dX12_spelled_71 (lv_at hl 1 rfl) ?_
          refine lv_iconst (v := 5) hx hb dX12_spelled_73 (by decide) ?_
          refine lv_lshl hx hb dX12_spelled_74 rfl ?_
          refine lv_iload hx hb dX12_spelled_75 (lv_at hl 0 rfl) ?_
          refine lv_bipush (v := 96) hx hb dX12_spelled_77 (by decide) ?_
          refine lv_isub hx hb dX12_spelled_79 ?_
          refine lv_i2l hx hb dX12_spelled_80 rfl ?_
          refine lv_lor hx hb dX12_spelled_81 ?_
          refine y_letL h (fun y3 h => ?_)
          refine lv_lstore (lv' := [(6, .long y3), (5, .int v5)]) hx hb dX12_spelled_82 hl (by decide) rfl (fun ls hl => ?_)
          exact J84 y3 g L H locs ls h hP hD hS (lv_sub hl [0] rfl)
      refine lv_if_eq (x := v4) (tgt := 66) hx hb dX12_spelled_50 (by decide) (fun c4 => ?_) (fun c4 => ?_)
      ·
        have h := ite_t c4 h
        exact J66 v5 v6 g L H locs ls h hP hD hS (lv_sub hl [1, 2] rfl)
      ·
        have h := ite_e c4 h
        refine lv_lload hx hb dX12_spelled_53 (lv_at hl 2 rfl) ?_
        refine lv_iconst (v := 5) hx hb dX12_spelled_55 (by decide) ?_
        refine lv_lshl hx hb dX12_spelled_56 rfl ?_
        refine lv_iload hx hb dX12_spelled_57 (lv_at hl 0 rfl) ?_
        refine lv_bipush (v := 96) hx hb dX12_spelled_59 (by decide) ?_
        refine lv_isub hx hb dX12_spelled_61 ?_
        refine lv_i2l hx hb dX12_spelled_62 rfl ?_
        refine lv_lor hx hb dX12_spelled_63 ?_
        refine y_letL h (fun y5 h => ?_)
        refine lv_lstore (lv' := [(6, .long y5), (4, .int v4), (5, .int v5)]) hx hb dX12_spelled_64 hl (by decide) rfl (fun ls hl => ?_)
        exact J66 v5 y5 g L H locs ls h hP hD hS (lv_sub hl [2, 0] rfl)
    refine lv_if_eq (x := v3) (tgt := 48) hx hb dX12_spelled_33 (by decide) (fun c6 => ?_) (fun c6 => ?_)
    ·
      have h := ite_t c6 h
      exact J48 v4 v5 v6 g L H locs ls h hP hD hS (lv_sub hl [1, 2, 3] rfl)
    ·
      have h := ite_e c6 h
      refine lv_lload hx hb dX12_spelled_36 (lv_at hl 3 rfl) ?_
      refine lv_iconst (v := 5) hx hb dX12_spelled_38 (by decide) ?_
      refine lv_lshl hx hb dX12_spelled_39 rfl ?_
      refine lv_iload_n hx hb dX12_spelled_40 rfl (lv_at hl 0 rfl) ?_
      refine lv_bipush (v := 96) hx hb dX12_spelled_41 (by decide) ?_
      refine lv_isub hx hb dX12_spelled_43 ?_
      refine lv_i2l hx hb dX12_spelled_44 rfl ?_
      refine lv_lor hx hb dX12_spelled_45 ?_
      refine y_letL h (fun y7 h => ?_)
      refine lv_lstore (lv' := [(6, .long y7), (3, .int v3), (4, .int v4), (5, .int v5)]) hx hb dX12_spelled_46 hl (by decide) rfl (fun ls hl => ?_)
      exact J48 v4 v5 y7 g L H locs ls h hP hD hS (lv_sub hl [2, 3, 0] rfl)
  refine lv_if_eq (x := p3) (tgt := 32) hx hb dX12_spelled_17 (by decide) (fun c8 => ?_) (fun c8 => ?_)
  ·
    have h := ite_t c8 h
    exact J32 p4 p5 p6 y1 g L H locs ls h hP hD hS (lv_sub hl [4, 5, 6, 0] rfl)
  ·
    have h := ite_e c8 h
    refine lv_lload hx hb dX12_spelled_20 (lv_at hl 0 rfl) ?_
    refine lv_iconst (v := 5) hx hb dX12_spelled_22 (by decide) ?_
    refine lv_lshl hx hb dX12_spelled_23 rfl ?_
    refine lv_iload_n hx hb dX12_spelled_24 rfl (lv_at hl 3 rfl) ?_
    refine lv_bipush (v := 96) hx hb dX12_spelled_25 (by decide) ?_
    refine lv_isub hx hb dX12_spelled_27 ?_
    refine lv_i2l hx hb dX12_spelled_28 rfl ?_
    refine lv_lor hx hb dX12_spelled_29 ?_
    refine y_letL h (fun y9 h => ?_)
    refine lv_lstore (lv' := [(6, .long y9), (0, .int p1), (1, .int p2), (2, .int p3), (3, .int p4), (4, .int p5), (5, .int p6)]) hx hb dX12_spelled_30 hl (by decide) rfl (fun ls hl => ?_)
    exact J32 p4 p5 p6 y9 g L H locs ls h hP hD hS (lv_sub hl [4, 5, 6, 0] rfl)
def fX12_letters (fu : Nat) (p1 : Int32) (g : Nat → Nat → Int32) (L : Nat → Nat → Int64) : Option ((Int64) × zS) :=
  if (Int32.toInt p1) = 0 then (cb (fX12_spelled fu 111 118 101 114 0 0 g L) (fun x2 g3 L4 =>
  some (x2, (g3, L4)))) else
  if (Int32.toInt p1) = 1 then (cb (fX12_spelled fu 108 97 116 101 0 0 g L) (fun x7 g8 L9 =>
  some (x7, (g8, L9)))) else
  if (Int32.toInt p1) = 2 then (cb (fX12_spelled fu 99 108 111 99 107 0 g L) (fun x12 g13 L14 =>
  some (x12, (g13, L14)))) else
  if (Int32.toInt p1) = 3 then (cb (fX12_spelled fu 114 111 111 109 0 0 g L) (fun x17 g18 L19 =>
  some (x17, (g18, L19)))) else
  if (Int32.toInt p1) = 4 then (cb (fX12_spelled fu 112 101 111 112 108 101 g L) (fun x22 g23 L24 =>
  some (x22, (g23, L24)))) else
  if (Int32.toInt p1) = 5 then (cb (fX12_spelled fu 108 101 115 115 111 110 g L) (fun x27 g28 L29 =>
  some (x27, (g28, L29)))) else
  if (Int32.toInt p1) = 6 then (cb (fX12_spelled fu 97 108 108 0 0 0 g L) (fun x32 g33 L34 =>
  some (x32, (g33, L34)))) else
  if (Int32.toInt p1) = 7 then (cb (fX12_spelled fu 115 111 109 101 0 0 g L) (fun x37 g38 L39 =>
  some (x37, (g38, L39)))) else
  if (Int32.toInt p1) = 8 then (cb (fX12_spelled fu 108 105 109 105 116 0 g L) (fun x42 g43 L44 =>
  some (x42, (g43, L44)))) else
  if (Int32.toInt p1) = 9 then (cb (fX12_spelled fu 109 97 121 98 101 0 g L) (fun x47 g48 L49 =>
  some (x47, (g48, L49)))) else
  if (Int32.toInt p1) = 10 then (cb (fX12_spelled fu 103 97 112 0 0 0 g L) (fun x52 g53 L54 =>
  some (x52, (g53, L54)))) else
  if (Int32.toInt p1) = 11 then (cb (fX12_spelled fu 119 97 108 107 0 0 g L) (fun x57 g58 L59 =>
  some (x57, (g58, L59)))) else
  if (Int32.toInt p1) = 12 then (cb (fX12_spelled fu 115 116 97 105 114 0 g L) (fun x62 g63 L64 =>
  some (x62, (g63, L64)))) else
  if (Int32.toInt p1) = 13 then (cb (fX12_spelled fu 114 117 108 101 0 0 g L) (fun x67 g68 L69 =>
  some (x67, (g68, L69)))) else
  if (Int32.toInt p1) = 14 then (cb (fX12_spelled fu 97 110 100 0 0 0 g L) (fun x72 g73 L74 =>
  some (x72, (g73, L74)))) else
  if (Int32.toInt p1) = 15 then (cb (fX12_spelled fu 111 114 0 0 0 0 g L) (fun x77 g78 L79 =>
  some (x77, (g78, L79)))) else
  cb (fX12_spelled fu 110 111 116 0 0 0 g L) (fun x81 g82 L83 =>
  some (x81, (g82, L83)))
set_option maxHeartbeats 4000000 in
set_option maxRecDepth 100000 in
theorem rX12_letters (l : Launch) (G : kG) (sz : Nat) (a : Nat → Nat) (fu : Nat) (g : Nat → Nat → Int32) (L : Nat → Nat → Int64) (p1 : Int32) (res : Int64) (s9 : zS) (h : fX12_letters fu p1 g L = some (res, s9)) : kM l yX12_letters cX12_letters 1 (some .long) { frames := 7, cells := 0, slots := 0, locals := 137 } G [.int p1] (zw G MS 51 a g L) sz (kQl G (S := Unit) (fun r' _ => r' = res) (fun _ => zw G MS 51 a s9.1 s9.2)) := by
  refine kM.of (by decide) (Nat.le_of_ble_eq_true rfl) ?_
  intro p e s m below meth c A ls H C hr hlk hnm hP hD hS hl
  have C : kC G p s m c cX12_letters 1 RX12 A := C
  have hx := C.1
  have hb := C.2.1
  have hl : lv_has ls 1 [(0, .int p1)] := hl
  obtain ⟨locs, hlocs⟩ : ∃ q : List Loc, q = [] := ⟨_, rfl⟩
  rw [← hlocs] at hS
  rw [← hlocs]
  unfold fX12_letters at h
  refine lv_iload_n hx hb dX12_letters_0 rfl (lv_at hl 0 rfl) ?_
  by_cases c1 : (Int32.toInt p1) = 0
  ·
    have h := ite_t c1 h
    refine lv_tableIn (off := 79) (tgt := 80) hx hb dX12_letters_1 (by omega) (by omega) (by rw [c1]; rfl) (by decide) ?_
    refine lv_bipush (v := 111) hx hb dX12_letters_80 (by decide) ?_
    refine lv_bipush (v := 118) hx hb dX12_letters_82 (by decide) ?_
    refine lv_bipush (v := 101) hx hb dX12_letters_84 (by decide) ?_
    refine lv_bipush (v := 114) hx hb dX12_letters_86 (by decide) ?_
    refine lv_iconst (v := 0) hx hb dX12_letters_88 (by decide) ?_
    refine lv_iconst (v := 0) hx hb dX12_letters_89 (by decide) ?_
    obtain ⟨z_, g3, L4, hf5, h⟩ := cb_some h
    refine x_callSl (rest := []) li_X12_225 C (rX12_spelled l G H.size a fu g L 111 118 101 114 0 0 z_ (g3, L4) hf5) (kR rfl) hP hD hS rfl hl.1 rfl (Nat.le_of_ble_eq_true rfl) dX12_letters_90 (fun x2 u_ H locs e_ hP hD hS => ?_)
    have e_ : x2 = z_ := e_
    subst e_
    have hP : va_P G.1 vwCl (zw G MS 51 a g3 L4) H := hP
    have hD : va_D A (zw G MS 51 a g3 L4) := hD
    exact y_lret C hr hlk hP hD hS h (Nat.le_of_ble_eq_true rfl) (Nat.le_of_ble_eq_true rfl) dX12_letters_93
  have h := ite_e c1 h
  by_cases c6 : (Int32.toInt p1) = 1
  ·
    have h := ite_t c6 h
    refine lv_tableIn (off := 93) (tgt := 94) hx hb dX12_letters_1 (by omega) (by omega) (by rw [c6]; rfl) (by decide) ?_
    refine lv_bipush (v := 108) hx hb dX12_letters_94 (by decide) ?_
    refine lv_bipush (v := 97) hx hb dX12_letters_96 (by decide) ?_
    refine lv_bipush (v := 116) hx hb dX12_letters_98 (by decide) ?_
    refine lv_bipush (v := 101) hx hb dX12_letters_100 (by decide) ?_
    refine lv_iconst (v := 0) hx hb dX12_letters_102 (by decide) ?_
    refine lv_iconst (v := 0) hx hb dX12_letters_103 (by decide) ?_
    obtain ⟨z_, g8, L9, hf10, h⟩ := cb_some h
    refine x_callSl (rest := []) li_X12_225 C (rX12_spelled l G H.size a fu g L 108 97 116 101 0 0 z_ (g8, L9) hf10) (kR rfl) hP hD hS rfl hl.1 rfl (Nat.le_of_ble_eq_true rfl) dX12_letters_104 (fun x7 u_ H locs e_ hP hD hS => ?_)
    have e_ : x7 = z_ := e_
    subst e_
    have hP : va_P G.1 vwCl (zw G MS 51 a g8 L9) H := hP
    have hD : va_D A (zw G MS 51 a g8 L9) := hD
    exact y_lret C hr hlk hP hD hS h (Nat.le_of_ble_eq_true rfl) (Nat.le_of_ble_eq_true rfl) dX12_letters_107
  have h := ite_e c6 h
  by_cases c11 : (Int32.toInt p1) = 2
  ·
    have h := ite_t c11 h
    refine lv_tableIn (off := 107) (tgt := 108) hx hb dX12_letters_1 (by omega) (by omega) (by rw [c11]; rfl) (by decide) ?_
    refine lv_bipush (v := 99) hx hb dX12_letters_108 (by decide) ?_
    refine lv_bipush (v := 108) hx hb dX12_letters_110 (by decide) ?_
    refine lv_bipush (v := 111) hx hb dX12_letters_112 (by decide) ?_
    refine lv_bipush (v := 99) hx hb dX12_letters_114 (by decide) ?_
    refine lv_bipush (v := 107) hx hb dX12_letters_116 (by decide) ?_
    refine lv_iconst (v := 0) hx hb dX12_letters_118 (by decide) ?_
    obtain ⟨z_, g13, L14, hf15, h⟩ := cb_some h
    refine x_callSl (rest := []) li_X12_225 C (rX12_spelled l G H.size a fu g L 99 108 111 99 107 0 z_ (g13, L14) hf15) (kR rfl) hP hD hS rfl hl.1 rfl (Nat.le_of_ble_eq_true rfl) dX12_letters_119 (fun x12 u_ H locs e_ hP hD hS => ?_)
    have e_ : x12 = z_ := e_
    subst e_
    have hP : va_P G.1 vwCl (zw G MS 51 a g13 L14) H := hP
    have hD : va_D A (zw G MS 51 a g13 L14) := hD
    exact y_lret C hr hlk hP hD hS h (Nat.le_of_ble_eq_true rfl) (Nat.le_of_ble_eq_true rfl) dX12_letters_122
  have h := ite_e c11 h
  by_cases c16 : (Int32.toInt p1) = 3
  ·
    have h := ite_t c16 h
    refine lv_tableIn (off := 122) (tgt := 123) hx hb dX12_letters_1 (by omega) (by omega) (by rw [c16]; rfl) (by decide) ?_
    refine lv_bipush (v := 114) hx hb dX12_letters_123 (by decide) ?_
    refine lv_bipush (v := 111) hx hb dX12_letters_125 (by decide) ?_
    refine lv_bipush (v := 111) hx hb dX12_letters_127 (by decide) ?_
    refine lv_bipush (v := 109) hx hb dX12_letters_129 (by decide) ?_
    refine lv_iconst (v := 0) hx hb dX12_letters_131 (by decide) ?_
    refine lv_iconst (v := 0) hx hb dX12_letters_132 (by decide) ?_
    obtain ⟨z_, g18, L19, hf20, h⟩ := cb_some h
    refine x_callSl (rest := []) li_X12_225 C (rX12_spelled l G H.size a fu g L 114 111 111 109 0 0 z_ (g18, L19) hf20) (kR rfl) hP hD hS rfl hl.1 rfl (Nat.le_of_ble_eq_true rfl) dX12_letters_133 (fun x17 u_ H locs e_ hP hD hS => ?_)
    have e_ : x17 = z_ := e_
    subst e_
    have hP : va_P G.1 vwCl (zw G MS 51 a g18 L19) H := hP
    have hD : va_D A (zw G MS 51 a g18 L19) := hD
    exact y_lret C hr hlk hP hD hS h (Nat.le_of_ble_eq_true rfl) (Nat.le_of_ble_eq_true rfl) dX12_letters_136
  have h := ite_e c16 h
  by_cases c21 : (Int32.toInt p1) = 4
  ·
    have h := ite_t c21 h
    refine lv_tableIn (off := 136) (tgt := 137) hx hb dX12_letters_1 (by omega) (by omega) (by rw [c21]; rfl) (by decide) ?_
    refine lv_bipush (v := 112) hx hb dX12_letters_137 (by decide) ?_
    refine lv_bipush (v := 101) hx hb dX12_letters_139 (by decide) ?_
    refine lv_bipush (v := 111) hx hb dX12_letters_141 (by decide) ?_
    refine lv_bipush (v := 112) hx hb dX12_letters_143 (by decide) ?_
    refine lv_bipush (v := 108) hx hb dX12_letters_145 (by decide) ?_
    refine lv_bipush (v := 101) hx hb dX12_letters_147 (by decide) ?_
    obtain ⟨z_, g23, L24, hf25, h⟩ := cb_some h
    refine x_callSl (rest := []) li_X12_225 C (rX12_spelled l G H.size a fu g L 112 101 111 112 108 101 z_ (g23, L24) hf25) (kR rfl) hP hD hS rfl hl.1 rfl (Nat.le_of_ble_eq_true rfl) dX12_letters_149 (fun x22 u_ H locs e_ hP hD hS => ?_)
    have e_ : x22 = z_ := e_
    subst e_
    have hP : va_P G.1 vwCl (zw G MS 51 a g23 L24) H := hP
    have hD : va_D A (zw G MS 51 a g23 L24) := hD
    exact y_lret C hr hlk hP hD hS h (Nat.le_of_ble_eq_true rfl) (Nat.le_of_ble_eq_true rfl) dX12_letters_152
  have h := ite_e c21 h
  by_cases c26 : (Int32.toInt p1) = 5
  ·
    have h := ite_t c26 h
    refine lv_tableIn (off := 152) (tgt := 153) hx hb dX12_letters_1 (by omega) (by omega) (by rw [c26]; rfl) (by decide) ?_
    refine lv_bipush (v := 108) hx hb dX12_letters_153 (by decide) ?_
    refine lv_bipush (v := 101) hx hb dX12_letters_155 (by decide) ?_
    refine lv_bipush (v := 115) hx hb dX12_letters_157 (by decide) ?_
    refine lv_bipush (v := 115) hx hb dX12_letters_159 (by decide) ?_
    refine lv_bipush (v := 111) hx hb dX12_letters_161 (by decide) ?_
    refine lv_bipush (v := 110) hx hb dX12_letters_163 (by decide) ?_
    obtain ⟨z_, g28, L29, hf30, h⟩ := cb_some h
    refine x_callSl (rest := []) li_X12_225 C (rX12_spelled l G H.size a fu g L 108 101 115 115 111 110 z_ (g28, L29) hf30) (kR rfl) hP hD hS rfl hl.1 rfl (Nat.le_of_ble_eq_true rfl) dX12_letters_165 (fun x27 u_ H locs e_ hP hD hS => ?_)
    have e_ : x27 = z_ := e_
    subst e_
    have hP : va_P G.1 vwCl (zw G MS 51 a g28 L29) H := hP
    have hD : va_D A (zw G MS 51 a g28 L29) := hD
    exact y_lret C hr hlk hP hD hS h (Nat.le_of_ble_eq_true rfl) (Nat.le_of_ble_eq_true rfl) dX12_letters_168
  have h := ite_e c26 h
  by_cases c31 : (Int32.toInt p1) = 6
  ·
    have h := ite_t c31 h
    refine lv_tableIn (off := 168) (tgt := 169) hx hb dX12_letters_1 (by omega) (by omega) (by rw [c31]; rfl) (by decide) ?_
    refine lv_bipush (v := 97) hx hb dX12_letters_169 (by decide) ?_
    refine lv_bipush (v := 108) hx hb dX12_letters_171 (by decide) ?_
    refine lv_bipush (v := 108) hx hb dX12_letters_173 (by decide) ?_
    refine lv_iconst (v := 0) hx hb dX12_letters_175 (by decide) ?_
    refine lv_iconst (v := 0) hx hb dX12_letters_176 (by decide) ?_
    refine lv_iconst (v := 0) hx hb dX12_letters_177 (by decide) ?_
    obtain ⟨z_, g33, L34, hf35, h⟩ := cb_some h
    refine x_callSl (rest := []) li_X12_225 C (rX12_spelled l G H.size a fu g L 97 108 108 0 0 0 z_ (g33, L34) hf35) (kR rfl) hP hD hS rfl hl.1 rfl (Nat.le_of_ble_eq_true rfl) dX12_letters_178 (fun x32 u_ H locs e_ hP hD hS => ?_)
    have e_ : x32 = z_ := e_
    subst e_
    have hP : va_P G.1 vwCl (zw G MS 51 a g33 L34) H := hP
    have hD : va_D A (zw G MS 51 a g33 L34) := hD
    exact y_lret C hr hlk hP hD hS h (Nat.le_of_ble_eq_true rfl) (Nat.le_of_ble_eq_true rfl) dX12_letters_181
  have h := ite_e c31 h
  by_cases c36 : (Int32.toInt p1) = 7
  ·
    have h := ite_t c36 h
    refine lv_tableIn (off := 181) (tgt := 182) hx hb dX12_letters_1 (by omega) (by omega) (by rw [c36]; rfl) (by decide) ?_
    refine lv_bipush (v := 115) hx hb dX12_letters_182 (by decide) ?_
    refine lv_bipush (v := 111) hx hb dX12_letters_184 (by decide) ?_
    refine lv_bipush (v := 109) hx hb dX12_letters_186 (by decide) ?_
    refine lv_bipush (v := 101) hx hb dX12_letters_188 (by decide) ?_
    refine lv_iconst (v := 0) hx hb dX12_letters_190 (by decide) ?_
    refine lv_iconst (v := 0) hx hb dX12_letters_191 (by decide) ?_
    obtain ⟨z_, g38, L39, hf40, h⟩ := cb_some h
    refine x_callSl (rest := []) li_X12_225 C (rX12_spelled l G H.size a fu g L 115 111 109 101 0 0 z_ (g38, L39) hf40) (kR rfl) hP hD hS rfl hl.1 rfl (Nat.le_of_ble_eq_true rfl) dX12_letters_192 (fun x37 u_ H locs e_ hP hD hS => ?_)
    have e_ : x37 = z_ := e_
    subst e_
    have hP : va_P G.1 vwCl (zw G MS 51 a g38 L39) H := hP
    have hD : va_D A (zw G MS 51 a g38 L39) := hD
    exact y_lret C hr hlk hP hD hS h (Nat.le_of_ble_eq_true rfl) (Nat.le_of_ble_eq_true rfl) dX12_letters_195
  have h := ite_e c36 h
  by_cases c41 : (Int32.toInt p1) = 8
  ·
    have h := ite_t c41 h
    refine lv_tableIn (off := 195) (tgt := 196) hx hb dX12_letters_1 (by omega) (by omega) (by rw [c41]; rfl) (by decide) ?_
    refine lv_bipush (v := 108) hx hb dX12_letters_196 (by decide) ?_
    refine lv_bipush (v := 105) hx hb dX12_letters_198 (by decide) ?_
    refine lv_bipush (v := 109) hx hb dX12_letters_200 (by decide) ?_
    refine lv_bipush (v := 105) hx hb dX12_letters_202 (by decide) ?_
    refine lv_bipush (v := 116) hx hb dX12_letters_204 (by decide) ?_
    refine lv_iconst (v := 0) hx hb dX12_letters_206 (by decide) ?_
    obtain ⟨z_, g43, L44, hf45, h⟩ := cb_some h
    refine x_callSl (rest := []) li_X12_225 C (rX12_spelled l G H.size a fu g L 108 105 109 105 116 0 z_ (g43, L44) hf45) (kR rfl) hP hD hS rfl hl.1 rfl (Nat.le_of_ble_eq_true rfl) dX12_letters_207 (fun x42 u_ H locs e_ hP hD hS => ?_)
    have e_ : x42 = z_ := e_
    subst e_
    have hP : va_P G.1 vwCl (zw G MS 51 a g43 L44) H := hP
    have hD : va_D A (zw G MS 51 a g43 L44) := hD
    exact y_lret C hr hlk hP hD hS h (Nat.le_of_ble_eq_true rfl) (Nat.le_of_ble_eq_true rfl) dX12_letters_210
  have h := ite_e c41 h
  by_cases c46 : (Int32.toInt p1) = 9
  ·
    have h := ite_t c46 h
    refine lv_tableIn (off := 210) (tgt := 211) hx hb dX12_letters_1 (by omega) (by omega) (by rw [c46]; rfl) (by decide) ?_
    refine lv_bipush (v := 109) hx hb dX12_letters_211 (by decide) ?_
    refine lv_bipush (v := 97) hx hb dX12_letters_213 (by decide) ?_
    refine lv_bipush (v := 121) hx hb dX12_letters_215 (by decide) ?_
    refine lv_bipush (v := 98) hx hb dX12_letters_217 (by decide) ?_
    refine lv_bipush (v := 101) hx hb dX12_letters_219 (by decide) ?_
    refine lv_iconst (v := 0) hx hb dX12_letters_221 (by decide) ?_
    obtain ⟨z_, g48, L49, hf50, h⟩ := cb_some h
    refine x_callSl (rest := []) li_X12_225 C (rX12_spelled l G H.size a fu g L 109 97 121 98 101 0 z_ (g48, L49) hf50) (kR rfl) hP hD hS rfl hl.1 rfl (Nat.le_of_ble_eq_true rfl) dX12_letters_222 (fun x47 u_ H locs e_ hP hD hS => ?_)
    have e_ : x47 = z_ := e_
    subst e_
    have hP : va_P G.1 vwCl (zw G MS 51 a g48 L49) H := hP
    have hD : va_D A (zw G MS 51 a g48 L49) := hD
    exact y_lret C hr hlk hP hD hS h (Nat.le_of_ble_eq_true rfl) (Nat.le_of_ble_eq_true rfl) dX12_letters_225
  have h := ite_e c46 h
  by_cases c51 : (Int32.toInt p1) = 10
  ·
    have h := ite_t c51 h
    refine lv_tableIn (off := 225) (tgt := 226) hx hb dX12_letters_1 (by omega) (by omega) (by rw [c51]; rfl) (by decide) ?_
    refine lv_bipush (v := 103) hx hb dX12_letters_226 (by decide) ?_
    refine lv_bipush (v := 97) hx hb dX12_letters_228 (by decide) ?_
    refine lv_bipush (v := 112) hx hb dX12_letters_230 (by decide) ?_
    refine lv_iconst (v := 0) hx hb dX12_letters_232 (by decide) ?_
    refine lv_iconst (v := 0) hx hb dX12_letters_233 (by decide) ?_
    refine lv_iconst (v := 0) hx hb dX12_letters_234 (by decide) ?_
    obtain ⟨z_, g53, L54, hf55, h⟩ := cb_some h
    refine x_callSl (rest := []) li_X12_225 C (rX12_spelled l G H.size a fu g L 103 97 112 0 0 0 z_ (g53, L54) hf55) (kR rfl) hP hD hS rfl hl.1 rfl (Nat.le_of_ble_eq_true rfl) dX12_letters_235 (fun x52 u_ H locs e_ hP hD hS => ?_)
    have e_ : x52 = z_ := e_
    subst e_
    have hP : va_P G.1 vwCl (zw G MS 51 a g53 L54) H := hP
    have hD : va_D A (zw G MS 51 a g53 L54) := hD
    exact y_lret C hr hlk hP hD hS h (Nat.le_of_ble_eq_true rfl) (Nat.le_of_ble_eq_true rfl) dX12_letters_238
  have h := ite_e c51 h
  by_cases c56 : (Int32.toInt p1) = 11
  ·
    have h := ite_t c56 h
    refine lv_tableIn (off := 238) (tgt := 239) hx hb dX12_letters_1 (by omega) (by omega) (by rw [c56]; rfl) (by decide) ?_
    refine lv_bipush (v := 119) hx hb dX12_letters_239 (by decide) ?_
    refine lv_bipush (v := 97) hx hb dX12_letters_241 (by decide) ?_
    refine lv_bipush (v := 108) hx hb dX12_letters_243 (by decide) ?_
    refine lv_bipush (v := 107) hx hb dX12_letters_245 (by decide) ?_
    refine lv_iconst (v := 0) hx hb dX12_letters_247 (by decide) ?_
    refine lv_iconst (v := 0) hx hb dX12_letters_248 (by decide) ?_
    obtain ⟨z_, g58, L59, hf60, h⟩ := cb_some h
    refine x_callSl (rest := []) li_X12_225 C (rX12_spelled l G H.size a fu g L 119 97 108 107 0 0 z_ (g58, L59) hf60) (kR rfl) hP hD hS rfl hl.1 rfl (Nat.le_of_ble_eq_true rfl) dX12_letters_249 (fun x57 u_ H locs e_ hP hD hS => ?_)
    have e_ : x57 = z_ := e_
    subst e_
    have hP : va_P G.1 vwCl (zw G MS 51 a g58 L59) H := hP
    have hD : va_D A (zw G MS 51 a g58 L59) := hD
    exact y_lret C hr hlk hP hD hS h (Nat.le_of_ble_eq_true rfl) (Nat.le_of_ble_eq_true rfl) dX12_letters_252
  have h := ite_e c56 h
  by_cases c61 : (Int32.toInt p1) = 12
  ·
    have h := ite_t c61 h
    refine lv_tableIn (off := 252) (tgt := 253) hx hb dX12_letters_1 (by omega) (by omega) (by rw [c61]; rfl) (by decide) ?_
    refine lv_bipush (v := 115) hx hb dX12_letters_253 (by decide) ?_
    refine lv_bipush (v := 116) hx hb dX12_letters_255 (by decide) ?_
    refine lv_bipush (v := 97) hx hb dX12_letters_257 (by decide) ?_
    refine lv_bipush (v := 105) hx hb dX12_letters_259 (by decide) ?_
    refine lv_bipush (v := 114) hx hb dX12_letters_261 (by decide) ?_
    refine lv_iconst (v := 0) hx hb dX12_letters_263 (by decide) ?_
    obtain ⟨z_, g63, L64, hf65, h⟩ := cb_some h
    refine x_callSl (rest := []) li_X12_225 C (rX12_spelled l G H.size a fu g L 115 116 97 105 114 0 z_ (g63, L64) hf65) (kR rfl) hP hD hS rfl hl.1 rfl (Nat.le_of_ble_eq_true rfl) dX12_letters_264 (fun x62 u_ H locs e_ hP hD hS => ?_)
    have e_ : x62 = z_ := e_
    subst e_
    have hP : va_P G.1 vwCl (zw G MS 51 a g63 L64) H := hP
    have hD : va_D A (zw G MS 51 a g63 L64) := hD
    exact y_lret C hr hlk hP hD hS h (Nat.le_of_ble_eq_true rfl) (Nat.le_of_ble_eq_true rfl) dX12_letters_267
  have h := ite_e c61 h
  by_cases c66 : (Int32.toInt p1) = 13
  ·
    have h := ite_t c66 h
    refine lv_tableIn (off := 267) (tgt := 268) hx hb dX12_letters_1 (by omega) (by omega) (by rw [c66]; rfl) (by decide) ?_
    refine lv_bipush (v := 114) hx hb dX12_letters_268 (by decide) ?_
    refine lv_bipush (v := 117) hx hb dX12_letters_270 (by decide) ?_
    refine lv_bipush (v := 108) hx hb dX12_letters_272 (by decide) ?_
    refine lv_bipush (v := 101) hx hb dX12_letters_274 (by decide) ?_
    refine lv_iconst (v := 0) hx hb dX12_letters_276 (by decide) ?_
    refine lv_iconst (v := 0) hx hb dX12_letters_277 (by decide) ?_
    obtain ⟨z_, g68, L69, hf70, h⟩ := cb_some h
    refine x_callSl (rest := []) li_X12_225 C (rX12_spelled l G H.size a fu g L 114 117 108 101 0 0 z_ (g68, L69) hf70) (kR rfl) hP hD hS rfl hl.1 rfl (Nat.le_of_ble_eq_true rfl) dX12_letters_278 (fun x67 u_ H locs e_ hP hD hS => ?_)
    have e_ : x67 = z_ := e_
    subst e_
    have hP : va_P G.1 vwCl (zw G MS 51 a g68 L69) H := hP
    have hD : va_D A (zw G MS 51 a g68 L69) := hD
    exact y_lret C hr hlk hP hD hS h (Nat.le_of_ble_eq_true rfl) (Nat.le_of_ble_eq_true rfl) dX12_letters_281
  have h := ite_e c66 h
  by_cases c71 : (Int32.toInt p1) = 14
  ·
    have h := ite_t c71 h
    refine lv_tableIn (off := 281) (tgt := 282) hx hb dX12_letters_1 (by omega) (by omega) (by rw [c71]; rfl) (by decide) ?_
    refine lv_bipush (v := 97) hx hb dX12_letters_282 (by decide) ?_
    refine lv_bipush (v := 110) hx hb dX12_letters_284 (by decide) ?_
    refine lv_bipush (v := 100) hx hb dX12_letters_286 (by decide) ?_
    refine lv_iconst (v := 0) hx hb dX12_letters_288 (by decide) ?_
    refine lv_iconst (v := 0) hx hb dX12_letters_289 (by decide) ?_
    refine lv_iconst (v := 0) hx hb dX12_letters_290 (by decide) ?_
    obtain ⟨z_, g73, L74, hf75, h⟩ := cb_some h
    refine x_callSl (rest := []) li_X12_225 C (rX12_spelled l G H.size a fu g L 97 110 100 0 0 0 z_ (g73, L74) hf75) (kR rfl) hP hD hS rfl hl.1 rfl (Nat.le_of_ble_eq_true rfl) dX12_letters_291 (fun x72 u_ H locs e_ hP hD hS => ?_)
    have e_ : x72 = z_ := e_
    subst e_
    have hP : va_P G.1 vwCl (zw G MS 51 a g73 L74) H := hP
    have hD : va_D A (zw G MS 51 a g73 L74) := hD
    exact y_lret C hr hlk hP hD hS h (Nat.le_of_ble_eq_true rfl) (Nat.le_of_ble_eq_true rfl) dX12_letters_294
  have h := ite_e c71 h
  by_cases c76 : (Int32.toInt p1) = 15
  ·
    have h := ite_t c76 h
    refine lv_tableIn (off := 294) (tgt := 295) hx hb dX12_letters_1 (by omega) (by omega) (by rw [c76]; rfl) (by decide) ?_
    refine lv_bipush (v := 111) hx hb dX12_letters_295 (by decide) ?_
    refine lv_bipush (v := 114) hx hb dX12_letters_297 (by decide) ?_
    refine lv_iconst (v := 0) hx hb dX12_letters_299 (by decide) ?_
    refine lv_iconst (v := 0) hx hb dX12_letters_300 (by decide) ?_
    refine lv_iconst (v := 0) hx hb dX12_letters_301 (by decide) ?_
    refine lv_iconst (v := 0) hx hb dX12_letters_302 (by decide) ?_
    obtain ⟨z_, g78, L79, hf80, h⟩ := cb_some h
    refine x_callSl (rest := []) li_X12_225 C (rX12_spelled l G H.size a fu g L 111 114 0 0 0 0 z_ (g78, L79) hf80) (kR rfl) hP hD hS rfl hl.1 rfl (Nat.le_of_ble_eq_true rfl) dX12_letters_303 (fun x77 u_ H locs e_ hP hD hS => ?_)
    have e_ : x77 = z_ := e_
    subst e_
    have hP : va_P G.1 vwCl (zw G MS 51 a g78 L79) H := hP
    have hD : va_D A (zw G MS 51 a g78 L79) := hD
    exact y_lret C hr hlk hP hD hS h (Nat.le_of_ble_eq_true rfl) (Nat.le_of_ble_eq_true rfl) dX12_letters_306
  have h := ite_e c76 h
  refine lv_tableOut (tgt := 307) hx hb dX12_letters_1 (by omega) (by decide) ?_
  refine lv_bipush (v := 110) hx hb dX12_letters_307 (by decide) ?_
  refine lv_bipush (v := 111) hx hb dX12_letters_309 (by decide) ?_
  refine lv_bipush (v := 116) hx hb dX12_letters_311 (by decide) ?_
  refine lv_iconst (v := 0) hx hb dX12_letters_313 (by decide) ?_
  refine lv_iconst (v := 0) hx hb dX12_letters_314 (by decide) ?_
  refine lv_iconst (v := 0) hx hb dX12_letters_315 (by decide) ?_
  obtain ⟨z_, g82, L83, hf84, h⟩ := cb_some h
  refine x_callSl (rest := []) li_X12_225 C (rX12_spelled l G H.size a fu g L 110 111 116 0 0 0 z_ (g82, L83) hf84) (kR rfl) hP hD hS rfl hl.1 rfl (Nat.le_of_ble_eq_true rfl) dX12_letters_316 (fun x81 u_ H locs e_ hP hD hS => ?_)
  have e_ : x81 = z_ := e_
  subst e_
  have hP : va_P G.1 vwCl (zw G MS 51 a g82 L83) H := hP
  have hD : va_D A (zw G MS 51 a g82 L83) := hD
  exact y_lret C hr hlk hP hD hS h (Nat.le_of_ble_eq_true rfl) (Nat.le_of_ble_eq_true rfl) dX12_letters_319
def fX12_knownWord_p17 (fu : Nat) (g : Nat → Nat → Int32) (L : Nat → Nat → Int64) : Option ((Int32) × zS) :=
  some ((-1), (g, L))
def fX12_knownWord_s21 (fu : Nat) (k21 : Int32 × (Nat → Nat → Int32) × (Nat → Nat → Int64) → Option ((Int32) × zS)) (v1 : Int32) (g : Nat → Nat → Int32) (L : Nat → Nat → Int64) : Option ((Int32) × zS) :=
  if 17 ≤ (v1 : Int32) then some ((-1), (g, L))
  else cb (fX12_letters fu v1 g L) (fun x4 g5 L6 =>
  if (lg_cmp x4 (L6 0 29)) = 0 then some (v1, (g5, L6))
  else k21 ((v1 + 1), g5, L6))
def fX12_knownWord_l21 (fu : Nat) (v1 : Int32) (g : Nat → Nat → Int32) (L : Nat → Nat → Int64) : Option ((Int32) × zS) :=
  whileK (fun k v => fX12_knownWord_s21 fu k v.1 v.2.1 v.2.2) fu (v1, g, L)
def fX12_knownWord (fu : Nat) (g : Nat → Nat → Int32) (L : Nat → Nat → Int64) : Option ((Int32) × zS) :=
  if (g 0 24) = 1 then (if (g 0 26) ≤ 6 then fX12_knownWord_l21 fu 0 g L
  else fX12_knownWord_p17 fu g L)
  else fX12_knownWord_p17 fu g L
set_option maxHeartbeats 4000000 in
set_option maxRecDepth 100000 in
theorem rX12_knownWord (l : Launch) (G : kG) (sz : Nat) (a : Nat → Nat) (fu : Nat) (g : Nat → Nat → Int32) (L : Nat → Nat → Int64) (res : Int32) (s9 : zS) (h : fX12_knownWord fu g L = some (res, s9)) : kM l yX12_knownWord cX12_knownWord 2 (some .int) { frames := 8, cells := 0, slots := 0, locals := 157 } G [.ref (a 0)] (zw G MS 51 a g L) sz (kQi G (S := Unit) (fun r' _ => r' = res) (fun _ => zw G MS 51 a s9.1 s9.2)) := by
  refine kM.of (by decide) (Nat.le_of_ble_eq_true rfl) ?_
  intro p e s m below meth c A ls H C hr hlk hnm hP hD hS hl
  have C : kC G p s m c cX12_knownWord 2 RX12 A := C
  have hx := C.1
  have hb := C.2.1
  have hl : lv_has ls 2 [(0, .ref (a 0))] := hl
  obtain ⟨locs, hlocs⟩ : ∃ q : List Loc, q = [] := ⟨_, rfl⟩
  rw [← hlocs] at hS
  rw [← hlocs]
  unfold fX12_knownWord at h
  refine lv_aload_n hx hb dX12_knownWord_0 rfl (lv_at hl 0 rfl) ?_
  refine x_getv (v := .int (g 0 24)) (Or.inl fl_X12_210) C hP (by decide) ms_0 rfl dX12_knownWord_1 ?_
  refine lv_iconst (v := 1) hx hb dX12_knownWord_4 (by decide) ?_
  have J17 : ∀ (g : Nat → Nat → Int32) (L : Nat → Nat → Int64) (H : Heap) (locs : List Loc) (ls : Array Slot), fX12_knownWord_p17 fu g L = some (res, s9) → va_P G.1 vwCl (zw G MS 51 a g L) H → va_D A (zw G MS 51 a g L) → va_S A s.heap H locs → lv_has ls 2 [] → W p l e { frames := 8, cells := 0, slots := 0, locals := 157 } s m [.ref (a 0)].toArray below meth c H locs 0 0 (MQ below ((kQi G (S := Unit) (fun r' _ => r' = res) (fun _ => zw G MS 51 a s9.1 s9.2)) A) [.ref (a 0)].toArray s 0 0 A) (F0 m 17 ls []) := by
    intro g L H locs ls h hP hD hS hl
    unfold fX12_knownWord_p17 at h
    refine lv_iconst (v := -1) hx hb dX12_knownWord_17 (by decide) ?_
    exact y_iret C hr hlk hP hD hS h (Nat.le_of_ble_eq_true rfl) (Nat.le_of_ble_eq_true rfl) dX12_knownWord_18
  refine lv_icmp_ne (x := (g 0 24)) (y := 1) (tgt := 17) hx hb dX12_knownWord_5 (by decide) (fun c1 => ?_) (fun c1 => ?_)
  ·
    have h := ite_e c1 h
    exact J17 g L H locs ls h hP hD hS (lv_sub hl [] rfl)
  ·
    have h := ite_t c1 h
    refine lv_aload_n hx hb dX12_knownWord_8 rfl (lv_at hl 0 rfl) ?_
    refine x_getv (v := .int (g 0 26)) (Or.inl fl_X12_220) C hP (by decide) ms_0 rfl dX12_knownWord_9 ?_
    refine lv_bipush (v := 6) hx hb dX12_knownWord_12 (by decide) ?_
    refine lv_icmp_le (x := (g 0 26)) (y := 6) (tgt := 19) hx hb dX12_knownWord_14 (by decide) (fun c2 => ?_) (fun c2 => ?_)
    ·
      have h := ite_t c2 h
      refine lv_iconst (v := 0) hx hb dX12_knownWord_19 (by decide) ?_
      refine lv_istore_n (lv' := [(1, .int 0), (0, .ref (a 0))]) hx hb dX12_knownWord_20 rfl hl (by decide) rfl (fun ls hl => ?_)
      have lp21 : ∀ (_ : True), ∀ (n : Nat) (v : Int32 × (Nat → Nat → Int32) × (Nat → Nat → Int64)), whileK (fun k v => fX12_knownWord_s21 fu k v.1 v.2.1 v.2.2) n v = some (res, s9) → ∀ (H : Heap) (locs : List Loc) (ls : Array Slot), va_P G.1 vwCl (zw G MS 51 a (v.2.1) (v.2.2)) H → va_D A (zw G MS 51 a (v.2.1) (v.2.2)) → va_S A s.heap H locs → lv_has ls 2 [(0, .ref (a 0)), (1, .int (v.1))] → W p l e { frames := 8, cells := 0, slots := 0, locals := 157 } s m [.ref (a 0)].toArray below meth c H locs 0 0 (MQ below ((kQi G (S := Unit) (fun r' _ => r' = res) (fun _ => zw G MS 51 a s9.1 s9.2)) A) [.ref (a 0)].toArray s 0 0 A) (F0 m 21 ls []) := by
        intro _
        refine while_ind (fun k21 ih21 v h => ?_)
        obtain ⟨v1, g, L⟩ := v
        intro H locs ls hP hD hS hl
        have h : fX12_knownWord_s21 fu k21 v1 g L = some (res, s9) := h
        have hP : va_P G.1 vwCl (zw G MS 51 a g L) H := hP
        have hD : va_D A (zw G MS 51 a g L) := hD
        have hl : lv_has ls 2 [(0, .ref (a 0)), (1, .int v1)] := hl
        show W p l e { frames := 8, cells := 0, slots := 0, locals := 157 } s m [.ref (a 0)].toArray below meth c H locs 0 0 (MQ below ((kQi G (S := Unit) (fun r' _ => r' = res) (fun _ => zw G MS 51 a s9.1 s9.2)) A) [.ref (a 0)].toArray s 0 0 A) (F0 m 21 ls [])
        unfold fX12_knownWord_s21 at h
        refine lv_iload_n hx hb dX12_knownWord_21 rfl (lv_at hl 1 rfl) ?_
        refine lv_bipush (v := 17) hx hb dX12_knownWord_22 (by decide) ?_
        refine lv_icmp_ge (x := v1) (y := 17) (tgt := 47) hx hb dX12_knownWord_24 (by decide) (fun c3 => ?_) (fun c3 => ?_)
        ·
          have h := ite_t c3 h
          refine lv_iconst (v := -1) hx hb dX12_knownWord_47 (by decide) ?_
          exact y_iret C hr hlk hP hD hS h (Nat.le_of_ble_eq_true rfl) (Nat.le_of_ble_eq_true rfl) dX12_knownWord_48
        ·
          have h := ite_e c3 h
          refine lv_iload_n hx hb dX12_knownWord_27 rfl (lv_at hl 1 rfl) ?_
          obtain ⟨z_, g5, L6, hf7, h⟩ := cb_some h
          refine x_callSl (rest := []) li_X12_229 C (rX12_letters l G H.size a fu g L v1 z_ (g5, L6) hf7) (kR rfl) hP hD hS rfl hl.1 rfl (Nat.le_of_ble_eq_true rfl) dX12_knownWord_28 (fun x4 u_ H locs e_ hP hD hS => ?_)
          have e_ : x4 = z_ := e_
          subst e_
          have hP : va_P G.1 vwCl (zw G MS 51 a g5 L6) H := hP
          have hD : va_D A (zw G MS 51 a g5 L6) := hD
          refine lv_aload_n hx hb dX12_knownWord_31 rfl (lv_at hl 0 rfl) ?_
          refine x_getv (v := .long (L6 0 29)) (Or.inl fl_X12_200) C hP (by decide) ms_0 rfl dX12_knownWord_32 ?_
          refine W.lcmp hx hb dX12_knownWord_35 ?_
          refine lv_if_ne (x := (lg_cmp x4 (L6 0 29))) (tgt := 41) hx hb dX12_knownWord_36 (by decide) (fun c8 => ?_) (fun c8 => ?_)
          ·
            have h := ite_e c8 h
            refine lv_iinc (v := (v1 + 1)) (lv' := [(1, .int (v1 + 1)), (0, .ref (a 0))]) hx hb dX12_knownWord_41 hl (k := 1) rfl rfl (by decide) rfl (fun ls hl => ?_)
            refine lv_goto (tgt := 21) hx hb dX12_knownWord_44 (by decide) ?_
            exact ih21 ((v1 + 1), g5, L6) h H locs ls hP hD hS (lv_sub hl [1, 0] rfl)
          ·
            have h := ite_t c8 h
            refine lv_iload_n hx hb dX12_knownWord_39 rfl (lv_at hl 1 rfl) ?_
            exact y_iret C hr hlk hP hD hS h (Nat.le_of_ble_eq_true rfl) (Nat.le_of_ble_eq_true rfl) dX12_knownWord_40
      exact lp21 trivial fu (0, g, L) h H locs ls hP hD hS (lv_sub hl [1, 0] rfl)
    ·
      have h := ite_e c2 h
      exact J17 g L H locs ls h hP hD hS (lv_sub hl [] rfl)
def fX12_wrong (fu : Nat) (p1 : Int32) (g : Nat → Nat → Int32) (L : Nat → Nat → Int64) : Option ((Unit) × zS) :=
  if (g 0 19) = 0 then sti g 0 19 p1 (fun g2 =>
  sti g2 0 20 (g2 0 25) (fun g3 =>
  some ((), (g3, L))))
  else some ((), (g, L))
set_option maxHeartbeats 4000000 in
set_option maxRecDepth 100000 in
theorem rX12_wrong (l : Launch) (G : kG) (sz : Nat) (a : Nat → Nat) (fu : Nat) (g : Nat → Nat → Int32) (L : Nat → Nat → Int64) (p1 : Int32) (res : Unit) (s9 : zS) (h : fX12_wrong fu p1 g L = some (res, s9)) : kM l yX12_wrong cX12_wrong 2 none { frames := 6, cells := 0, slots := 0, locals := 110 } G [.ref (a 0), .int p1] (zw G MS 51 a g L) sz (kQv G (S := Unit) (fun _ => True) (fun _ => zw G MS 51 a s9.1 s9.2)) := by
  refine kM.of (by decide) (Nat.le_of_ble_eq_true rfl) ?_
  intro p e s m below meth c A ls H C hr hlk hnm hP hD hS hl
  have C : kC G p s m c cX12_wrong 2 RX12 A := C
  have hx := C.1
  have hb := C.2.1
  have hl : lv_has ls 2 [(0, .ref (a 0)), (1, .int p1)] := hl
  obtain ⟨locs, hlocs⟩ : ∃ q : List Loc, q = [] := ⟨_, rfl⟩
  rw [← hlocs] at hS
  rw [← hlocs]
  unfold fX12_wrong at h
  refine lv_aload_n hx hb dX12_wrong_0 rfl (lv_at hl 0 rfl) ?_
  refine x_getv (v := .int (g 0 19)) (Or.inl fl_X12_233) C hP (by decide) ms_0 rfl dX12_wrong_1 ?_
  refine lv_if_eq (x := (g 0 19)) (tgt := 8) hx hb dX12_wrong_4 (by decide) (fun c1 => ?_) (fun c1 => ?_)
  ·
    have h := ite_t c1 h
    refine lv_aload_n hx hb dX12_wrong_8 rfl (lv_at hl 0 rfl) ?_
    refine lv_iload_n hx hb dX12_wrong_9 rfl (lv_at hl 1 rfl) ?_
    refine y_puti (Or.inl fl_X12_233) ft_X12_19 C hP hD hS (by decide) ms_0 rfl rfl rfl dX12_wrong_10 h (fun g2 H locs h hP hD hS => ?_)
    refine lv_aload_n hx hb dX12_wrong_13 rfl (lv_at hl 0 rfl) ?_
    refine lv_aload_n hx hb dX12_wrong_14 rfl (lv_at hl 0 rfl) ?_
    refine x_getv (v := .int (g2 0 25)) (Or.inl fl_X12_197) C hP (by decide) ms_0 rfl dX12_wrong_15 ?_
    refine y_puti (Or.inl fl_X12_56) ft_X12_20 C hP hD hS (by decide) ms_0 rfl rfl rfl dX12_wrong_18 h (fun g3 H locs h hP hD hS => ?_)
    exact y_vret C hr hlk hP hD hS h (Nat.le_of_ble_eq_true rfl) (Nat.le_of_ble_eq_true rfl) dX12_wrong_21
  ·
    have h := ite_e c1 h
    exact y_vret C hr hlk hP hD hS h (Nat.le_of_ble_eq_true rfl) (Nat.le_of_ble_eq_true rfl) dX12_wrong_7
def fX12_isGood_p12 (fu : Nat) (t0 : Int32) (g : Nat → Nat → Int32) (L : Nat → Nat → Int64) : Option ((Int32) × zS) :=
  ckb t0 (some (t0, (g, L)))
def fX12_isGood (fu : Nat) (g : Nat → Nat → Int32) (L : Nat → Nat → Int64) : Option ((Int32) × zS) :=
  if (g 0 19) = 0 then fX12_isGood_p12 fu 1 g L
  else fX12_isGood_p12 fu 0 g L
set_option maxHeartbeats 4000000 in
set_option maxRecDepth 100000 in
theorem rX12_isGood (l : Launch) (G : kG) (sz : Nat) (a : Nat → Nat) (fu : Nat) (g : Nat → Nat → Int32) (L : Nat → Nat → Int64) (res : Int32) (s9 : zS) (h : fX12_isGood fu g L = some (res, s9)) : kM l yX12_isGood cX12_isGood 1 (some .boolean) { frames := 6, cells := 0, slots := 0, locals := 110 } G [.ref (a 0)] (zw G MS 51 a g L) sz (kQi G (S := Unit) (fun r' _ => r' = res) (fun _ => zw G MS 51 a s9.1 s9.2)) := by
  refine kM.of (by decide) (Nat.le_of_ble_eq_true rfl) ?_
  intro p e s m below meth c A ls H C hr hlk hnm hP hD hS hl
  have C : kC G p s m c cX12_isGood 1 RX12 A := C
  have hx := C.1
  have hb := C.2.1
  have hl : lv_has ls 1 [(0, .ref (a 0))] := hl
  obtain ⟨locs, hlocs⟩ : ∃ q : List Loc, q = [] := ⟨_, rfl⟩
  rw [← hlocs] at hS
  rw [← hlocs]
  unfold fX12_isGood at h
  refine lv_aload_n hx hb dX12_isGood_0 rfl (lv_at hl 0 rfl) ?_
  refine x_getv (v := .int (g 0 19)) (Or.inl fl_X12_233) C hP (by decide) ms_0 rfl dX12_isGood_1 ?_
  have J12 : ∀ (t0 : Int32) (g : Nat → Nat → Int32) (L : Nat → Nat → Int64) (H : Heap) (locs : List Loc) (ls : Array Slot), fX12_isGood_p12 fu t0 g L = some (res, s9) → va_P G.1 vwCl (zw G MS 51 a g L) H → va_D A (zw G MS 51 a g L) → va_S A s.heap H locs → lv_has ls 1 [] → W p l e { frames := 6, cells := 0, slots := 0, locals := 110 } s m [.ref (a 0)].toArray below meth c H locs 0 0 (MQ below ((kQi G (S := Unit) (fun r' _ => r' = res) (fun _ => zw G MS 51 a s9.1 s9.2)) A) [.ref (a 0)].toArray s 0 0 A) (F0 m 12 ls [.int t0]) := by
    intro t0 g L H locs ls h hP hD hS hl
    unfold fX12_isGood_p12 at h
    exact y_zret C hr hlk hP hD hS h (Nat.le_of_ble_eq_true rfl) (Nat.le_of_ble_eq_true rfl) dX12_isGood_12
  refine lv_if_ne (x := (g 0 19)) (tgt := 11) hx hb dX12_isGood_4 (by decide) (fun c1 => ?_) (fun c1 => ?_)
  ·
    have h := ite_e c1 h
    refine lv_iconst (v := 0) hx hb dX12_isGood_11 (by decide) ?_
    exact J12 0 g L H locs ls h hP hD hS (lv_sub hl [] rfl)
  ·
    have h := ite_t c1 h
    refine lv_iconst (v := 1) hx hb dX12_isGood_7 (by decide) ?_
    refine lv_goto (tgt := 12) hx hb dX12_isGood_8 (by decide) ?_
    exact J12 1 g L H locs ls h hP hD hS (lv_sub hl [] rfl)
def fX12_isSign_p21 (fu : Nat) (t0 : Int32) (g : Nat → Nat → Int32) (L : Nat → Nat → Int64) : Option ((Int32) × zS) :=
  ckb t0 (some (t0, (g, L)))
def fX12_isSign_p20 (fu : Nat) (g : Nat → Nat → Int32) (L : Nat → Nat → Int64) : Option ((Int32) × zS) :=
  fX12_isSign_p21 fu 0 g L
def fX12_isSign (fu : Nat) (p1 : Int32) (g : Nat → Nat → Int32) (L : Nat → Nat → Int64) : Option ((Int32) × zS) :=
  if (g 0 24) = 3 then (if (g 0 28) = p1 then fX12_isSign_p21 fu 1 g L
  else fX12_isSign_p20 fu g L)
  else fX12_isSign_p20 fu g L
set_option maxHeartbeats 4000000 in
set_option maxRecDepth 100000 in
theorem rX12_isSign (l : Launch) (G : kG) (sz : Nat) (a : Nat → Nat) (fu : Nat) (g : Nat → Nat → Int32) (L : Nat → Nat → Int64) (p1 : Int32) (res : Int32) (s9 : zS) (h : fX12_isSign fu p1 g L = some (res, s9)) : kM l yX12_isSign cX12_isSign 2 (some .boolean) { frames := 6, cells := 0, slots := 0, locals := 110 } G [.ref (a 0), .int p1] (zw G MS 51 a g L) sz (kQi G (S := Unit) (fun r' _ => r' = res) (fun _ => zw G MS 51 a s9.1 s9.2)) := by
  refine kM.of (by decide) (Nat.le_of_ble_eq_true rfl) ?_
  intro p e s m below meth c A ls H C hr hlk hnm hP hD hS hl
  have C : kC G p s m c cX12_isSign 2 RX12 A := C
  have hx := C.1
  have hb := C.2.1
  have hl : lv_has ls 2 [(0, .ref (a 0)), (1, .int p1)] := hl
  obtain ⟨locs, hlocs⟩ : ∃ q : List Loc, q = [] := ⟨_, rfl⟩
  rw [← hlocs] at hS
  rw [← hlocs]
  unfold fX12_isSign at h
  refine lv_aload_n hx hb dX12_isSign_0 rfl (lv_at hl 0 rfl) ?_
  refine x_getv (v := .int (g 0 24)) (Or.inl fl_X12_210) C hP (by decide) ms_0 rfl dX12_isSign_1 ?_
  refine lv_iconst (v := 3) hx hb dX12_isSign_4 (by decide) ?_
  have J21 : ∀ (t0 : Int32) (g : Nat → Nat → Int32) (L : Nat → Nat → Int64) (H : Heap) (locs : List Loc) (ls : Array Slot), fX12_isSign_p21 fu t0 g L = some (res, s9) → va_P G.1 vwCl (zw G MS 51 a g L) H → va_D A (zw G MS 51 a g L) → va_S A s.heap H locs → lv_has ls 2 [] → W p l e { frames := 6, cells := 0, slots := 0, locals := 110 } s m [.ref (a 0), .int p1].toArray below meth c H locs 0 0 (MQ below ((kQi G (S := Unit) (fun r' _ => r' = res) (fun _ => zw G MS 51 a s9.1 s9.2)) A) [.ref (a 0), .int p1].toArray s 0 0 A) (F0 m 21 ls [.int t0]) := by
    intro t0 g L H locs ls h hP hD hS hl
    unfold fX12_isSign_p21 at h
    exact y_zret C hr hlk hP hD hS h (Nat.le_of_ble_eq_true rfl) (Nat.le_of_ble_eq_true rfl) dX12_isSign_21
  have J20 : ∀ (g : Nat → Nat → Int32) (L : Nat → Nat → Int64) (H : Heap) (locs : List Loc) (ls : Array Slot), fX12_isSign_p20 fu g L = some (res, s9) → va_P G.1 vwCl (zw G MS 51 a g L) H → va_D A (zw G MS 51 a g L) → va_S A s.heap H locs → lv_has ls 2 [] → W p l e { frames := 6, cells := 0, slots := 0, locals := 110 } s m [.ref (a 0), .int p1].toArray below meth c H locs 0 0 (MQ below ((kQi G (S := Unit) (fun r' _ => r' = res) (fun _ => zw G MS 51 a s9.1 s9.2)) A) [.ref (a 0), .int p1].toArray s 0 0 A) (F0 m 20 ls []) := by
    intro g L H locs ls h hP hD hS hl
    unfold fX12_isSign_p20 at h
    refine lv_iconst (v := 0) hx hb dX12_isSign_20 (by decide) ?_
    exact J21 0 g L H locs ls h hP hD hS (lv_sub hl [] rfl)
  refine lv_icmp_ne (x := (g 0 24)) (y := 3) (tgt := 20) hx hb dX12_isSign_5 (by decide) (fun c1 => ?_) (fun c1 => ?_)
  ·
    have h := ite_e c1 h
    exact J20 g L H locs ls h hP hD hS (lv_sub hl [] rfl)
  ·
    have h := ite_t c1 h
    refine lv_aload_n hx hb dX12_isSign_8 rfl (lv_at hl 0 rfl) ?_
    refine x_getv (v := .int (g 0 28)) (Or.inl fl_X12_207) C hP (by decide) ms_0 rfl dX12_isSign_9 ?_
    refine lv_iload_n hx hb dX12_isSign_12 rfl (lv_at hl 1 rfl) ?_
    refine lv_icmp_ne (x := (g 0 28)) (y := p1) (tgt := 20) hx hb dX12_isSign_13 (by decide) (fun c2 => ?_) (fun c2 => ?_)
    ·
      have h := ite_e c2 h
      exact J20 g L H locs ls h hP hD hS (lv_sub hl [] rfl)
    ·
      have h := ite_t c2 h
      refine lv_iconst (v := 1) hx hb dX12_isSign_16 (by decide) ?_
      refine lv_goto (tgt := 21) hx hb dX12_isSign_17 (by decide) ?_
      exact J21 1 g L H locs ls h hP hD hS (lv_sub hl [] rfl)
def fX12_need_p24 (fu : Nat) (g : Nat → Nat → Int32) (L : Nat → Nat → Int64) : Option ((Unit) × zS) :=
  some ((), (g, L))
def fX12_need (fu : Nat) (p1 : Int32) (g : Nat → Nat → Int32) (L : Nat → Nat → Int64) : Option ((Unit) × zS) :=
  cb (fX12_isGood fu g L) (fun x1 g2 L3 =>
  if x1 = 0 then some ((), (g2, L3))
  else if p1 = 0 then cb (fX12_wrong fu 1 g2 L3) (fun x7 g8 L9 =>
  fX12_need_p24 fu g8 L9)
  else cb (fX12_goes fu g2 L3) (fun x11 g12 L13 =>
  fX12_need_p24 fu g12 L13))
set_option maxHeartbeats 4000000 in
set_option maxRecDepth 100000 in
theorem rX12_need (l : Launch) (G : kG) (sz : Nat) (a : Nat → Nat) (fu : Nat) (g : Nat → Nat → Int32) (L : Nat → Nat → Int64) (p1 : Int32) (res : Unit) (s9 : zS) (h : fX12_need fu p1 g L = some (res, s9)) : kM l yX12_need cX12_need 2 none { frames := 8, cells := 0, slots := 0, locals := 152 } G [.ref (a 0), .int p1] (zw G MS 51 a g L) sz (kQv G (S := Unit) (fun _ => True) (fun _ => zw G MS 51 a s9.1 s9.2)) := by
  refine kM.of (by decide) (Nat.le_of_ble_eq_true rfl) ?_
  intro p e s m below meth c A ls H C hr hlk hnm hP hD hS hl
  have C : kC G p s m c cX12_need 2 RX12 A := C
  have hx := C.1
  have hb := C.2.1
  have hl : lv_has ls 2 [(0, .ref (a 0)), (1, .int p1)] := hl
  obtain ⟨locs, hlocs⟩ : ∃ q : List Loc, q = [] := ⟨_, rfl⟩
  rw [← hlocs] at hS
  rw [← hlocs]
  unfold fX12_need at h
  refine lv_aload_n hx hb dX12_need_0 rfl (lv_at hl 0 rfl) ?_
  obtain ⟨z_, g2, L3, hf4, h⟩ := cb_some h
  refine x_callVi (rest := []) li_X12_236 C (rX12_isGood l G H.size a fu g L z_ (g2, L3) hf4) (kR rfl) hP hD hS 0 12 rfl (zat (by decide) ms_0) rfl hl.1 rfl (Nat.le_of_ble_eq_true rfl) dX12_need_1 (fun x1 u_ H locs e_ hP hD hS => ?_)
  have e_ : x1 = z_ := e_
  subst e_
  have hP : va_P G.1 vwCl (zw G MS 51 a g2 L3) H := hP
  have hD : va_D A (zw G MS 51 a g2 L3) := hD
  refine lv_if_ne (x := x1) (tgt := 8) hx hb dX12_need_4 (by decide) (fun c5 => ?_) (fun c5 => ?_)
  ·
    have h := ite_e c5 h
    refine lv_iload_n hx hb dX12_need_8 rfl (lv_at hl 1 rfl) ?_
    have J24 : ∀ (g : Nat → Nat → Int32) (L : Nat → Nat → Int64) (H : Heap) (locs : List Loc) (ls : Array Slot), fX12_need_p24 fu g L = some (res, s9) → va_P G.1 vwCl (zw G MS 51 a g L) H → va_D A (zw G MS 51 a g L) → va_S A s.heap H locs → lv_has ls 2 [] → W p l e { frames := 8, cells := 0, slots := 0, locals := 152 } s m [.ref (a 0), .int p1].toArray below meth c H locs 0 0 (MQ below ((kQv G (S := Unit) (fun _ => True) (fun _ => zw G MS 51 a s9.1 s9.2)) A) [.ref (a 0), .int p1].toArray s 0 0 A) (F0 m 24 ls []) := by
      intro g L H locs ls h hP hD hS hl
      unfold fX12_need_p24 at h
      exact y_vret C hr hlk hP hD hS h (Nat.le_of_ble_eq_true rfl) (Nat.le_of_ble_eq_true rfl) dX12_need_24
    refine lv_if_eq (x := p1) (tgt := 19) hx hb dX12_need_9 (by decide) (fun c6 => ?_) (fun c6 => ?_)
    ·
      have h := ite_t c6 h
      refine lv_aload_n hx hb dX12_need_19 rfl (lv_at hl 0 rfl) ?_
      refine lv_iconst (v := 1) hx hb dX12_need_20 (by decide) ?_
      obtain ⟨z_, g8, L9, hf10, h⟩ := cb_some h
      refine x_callVv (rest := []) li_X12_243 C (rX12_wrong l G H.size a fu g2 L3 1 z_ (g8, L9) hf10) (kR rfl) hP hD hS 0 12 rfl (zat (by decide) ms_0) rfl hl.1 rfl (Nat.le_of_ble_eq_true rfl) dX12_need_21 (fun u_ H locs e_ hP hD hS => ?_)
      have hP : va_P G.1 vwCl (zw G MS 51 a g8 L9) H := hP
      have hD : va_D A (zw G MS 51 a g8 L9) := hD
      exact J24 g8 L9 H locs ls h hP hD hS (lv_sub hl [] rfl)
    ·
      have h := ite_e c6 h
      refine lv_aload_n hx hb dX12_need_12 rfl (lv_at hl 0 rfl) ?_
      obtain ⟨z_, g12, L13, hf14, h⟩ := cb_some h
      refine x_callVv (rest := []) li_X12_240 C (rX12_goes l G H.size a fu g2 L3 z_ (g12, L13) hf14) (kR rfl) hP hD hS 0 12 rfl (zat (by decide) ms_0) rfl hl.1 rfl (Nat.le_of_ble_eq_true rfl) dX12_need_13 (fun u_ H locs e_ hP hD hS => ?_)
      have hP : va_P G.1 vwCl (zw G MS 51 a g12 L13) H := hP
      have hD : va_D A (zw G MS 51 a g12 L13) := hD
      refine lv_goto (tgt := 24) hx hb dX12_need_16 (by decide) ?_
      exact J24 g12 L13 H locs ls h hP hD hS (lv_sub hl [] rfl)
  ·
    have h := ite_t c5 h
    exact y_vret C hr hlk hP hD hS h (Nat.le_of_ble_eq_true rfl) (Nat.le_of_ble_eq_true rfl) dX12_need_7
def fX12_number_p70 (fu : Nat) (v3 : Int32) (g : Nat → Nat → Int32) (L : Nat → Nat → Int64) : Option ((Int32) × zS) :=
  some (v3, (g, L))
def fX12_number_p54 (fu : Nat) (g : Nat → Nat → Int32) (L : Nat → Nat → Int64) : Option ((Int32) × zS) :=
  lti (g 0 27) (fun x6 =>
  cb (fX12_isGood fu g L) (fun x7 g8 L9 =>
  if x7 = 0 then fX12_number_p70 fu x6 g8 L9
  else cb (fX12_goes fu g8 L9) (fun x12 g13 L14 =>
  fX12_number_p70 fu x6 g13 L14)))
def fX12_number_p49 (fu : Nat) (g : Nat → Nat → Int32) (L : Nat → Nat → Int64) : Option ((Int32) × zS) :=
  cb (fX12_wrong fu 2 g L) (fun x17 g18 L19 =>
  fX12_number_p54 fu g18 L19)
def fX12_number (fu : Nat) (p1 : Int32) (p2 : Int32) (g : Nat → Nat → Int32) (L : Nat → Nat → Int64) : Option ((Int32) × zS) :=
  cb (fX12_isGood fu g L) (fun x1 g2 L3 =>
  if x1 = 0 then some (0, (g2, L3))
  else if (g2 0 24) = 2 then (if 4 < (g2 0 26) then fX12_number_p49 fu g2 L3
  else if (g2 0 27) < p1 then fX12_number_p49 fu g2 L3
  else if (g2 0 27) ≤ p2 then fX12_number_p54 fu g2 L3
  else fX12_number_p49 fu g2 L3)
  else cb (fX12_wrong fu 1 g2 L3) (fun x24 g25 L26 =>
  fX12_number_p54 fu g25 L26))
set_option maxHeartbeats 4000000 in
set_option maxRecDepth 100000 in
theorem rX12_number (l : Launch) (G : kG) (sz : Nat) (a : Nat → Nat) (fu : Nat) (g : Nat → Nat → Int32) (L : Nat → Nat → Int64) (p1 : Int32) (p2 : Int32) (res : Int32) (s9 : zS) (h : fX12_number fu p1 p2 g L = some (res, s9)) : kM l yX12_number cX12_number 4 (some .int) { frames := 8, cells := 0, slots := 0, locals := 152 } G [.ref (a 0), .int p1, .int p2] (zw G MS 51 a g L) sz (kQi G (S := Unit) (fun r' _ => r' = res) (fun _ => zw G MS 51 a s9.1 s9.2)) := by
  refine kM.of (by decide) (Nat.le_of_ble_eq_true rfl) ?_
  intro p e s m below meth c A ls H C hr hlk hnm hP hD hS hl
  have C : kC G p s m c cX12_number 4 RX12 A := C
  have hx := C.1
  have hb := C.2.1
  have hl : lv_has ls 4 [(0, .ref (a 0)), (1, .int p1), (2, .int p2)] := hl
  obtain ⟨locs, hlocs⟩ : ∃ q : List Loc, q = [] := ⟨_, rfl⟩
  rw [← hlocs] at hS
  rw [← hlocs]
  unfold fX12_number at h
  refine lv_aload_n hx hb dX12_number_0 rfl (lv_at hl 0 rfl) ?_
  obtain ⟨z_, g2, L3, hf4, h⟩ := cb_some h
  refine x_callVi (rest := []) li_X12_236 C (rX12_isGood l G H.size a fu g L z_ (g2, L3) hf4) (kR rfl) hP hD hS 0 12 rfl (zat (by decide) ms_0) rfl hl.1 rfl (Nat.le_of_ble_eq_true rfl) dX12_number_1 (fun x1 u_ H locs e_ hP hD hS => ?_)
  have e_ : x1 = z_ := e_
  subst e_
  have hP : va_P G.1 vwCl (zw G MS 51 a g2 L3) H := hP
  have hD : va_D A (zw G MS 51 a g2 L3) := hD
  refine lv_if_ne (x := x1) (tgt := 9) hx hb dX12_number_4 (by decide) (fun c5 => ?_) (fun c5 => ?_)
  ·
    have h := ite_e c5 h
    refine lv_aload_n hx hb dX12_number_9 rfl (lv_at hl 0 rfl) ?_
    refine x_getv (v := .int (g2 0 24)) (Or.inl fl_X12_210) C hP (by decide) ms_0 rfl dX12_number_10 ?_
    refine lv_iconst (v := 2) hx hb dX12_number_13 (by decide) ?_
    have J54 : ∀ (g : Nat → Nat → Int32) (L : Nat → Nat → Int64) (H : Heap) (locs : List Loc) (ls : Array Slot), fX12_number_p54 fu g L = some (res, s9) → va_P G.1 vwCl (zw G MS 51 a g L) H → va_D A (zw G MS 51 a g L) → va_S A s.heap H locs → lv_has ls 4 [(0, .ref (a 0))] → W p l e { frames := 8, cells := 0, slots := 0, locals := 152 } s m [.ref (a 0), .int p1, .int p2].toArray below meth c H locs 0 0 (MQ below ((kQi G (S := Unit) (fun r' _ => r' = res) (fun _ => zw G MS 51 a s9.1 s9.2)) A) [.ref (a 0), .int p1, .int p2].toArray s 0 0 A) (F0 m 54 ls []) := by
      intro g L H locs ls h hP hD hS hl
      unfold fX12_number_p54 at h
      refine lv_aload_n hx hb dX12_number_54 rfl (lv_at hl 0 rfl) ?_
      refine x_getv (v := .int (g 0 27)) (Or.inl fl_X12_204) C hP (by decide) ms_0 rfl dX12_number_55 ?_
      refine y_let h (fun x6 h => ?_)
      refine lv_istore_n (lv' := [(3, .int x6), (0, .ref (a 0))]) hx hb dX12_number_58 rfl hl (by decide) rfl (fun ls hl => ?_)
      refine lv_aload_n hx hb dX12_number_59 rfl (lv_at hl 1 rfl) ?_
      obtain ⟨z_, g8, L9, hf10, h⟩ := cb_some h
      refine x_callVi (rest := []) li_X12_236 C (rX12_isGood l G H.size a fu g L z_ (g8, L9) hf10) (kR rfl) hP hD hS 0 12 rfl (zat (by decide) ms_0) rfl hl.1 rfl (Nat.le_of_ble_eq_true rfl) dX12_number_60 (fun x7 u_ H locs e_ hP hD hS => ?_)
      have e_ : x7 = z_ := e_
      subst e_
      have hP : va_P G.1 vwCl (zw G MS 51 a g8 L9) H := hP
      have hD : va_D A (zw G MS 51 a g8 L9) := hD
      have J70 : ∀ (v3 : Int32) (g : Nat → Nat → Int32) (L : Nat → Nat → Int64) (H : Heap) (locs : List Loc) (ls : Array Slot), fX12_number_p70 fu v3 g L = some (res, s9) → va_P G.1 vwCl (zw G MS 51 a g L) H → va_D A (zw G MS 51 a g L) → va_S A s.heap H locs → lv_has ls 4 [(3, .int v3)] → W p l e { frames := 8, cells := 0, slots := 0, locals := 152 } s m [.ref (a 0), .int p1, .int p2].toArray below meth c H locs 0 0 (MQ below ((kQi G (S := Unit) (fun r' _ => r' = res) (fun _ => zw G MS 51 a s9.1 s9.2)) A) [.ref (a 0), .int p1, .int p2].toArray s 0 0 A) (F0 m 70 ls []) := by
        intro v3 g L H locs ls h hP hD hS hl
        unfold fX12_number_p70 at h
        refine lv_iload_n hx hb dX12_number_70 rfl (lv_at hl 0 rfl) ?_
        exact y_iret C hr hlk hP hD hS h (Nat.le_of_ble_eq_true rfl) (Nat.le_of_ble_eq_true rfl) dX12_number_71
      refine lv_if_eq (x := x7) (tgt := 70) hx hb dX12_number_63 (by decide) (fun c11 => ?_) (fun c11 => ?_)
      ·
        have h := ite_t c11 h
        exact J70 x6 g8 L9 H locs ls h hP hD hS (lv_sub hl [0] rfl)
      ·
        have h := ite_e c11 h
        refine lv_aload_n hx hb dX12_number_66 rfl (lv_at hl 1 rfl) ?_
        obtain ⟨z_, g13, L14, hf15, h⟩ := cb_some h
        refine x_callVv (rest := []) li_X12_240 C (rX12_goes l G H.size a fu g8 L9 z_ (g13, L14) hf15) (kR rfl) hP hD hS 0 12 rfl (zat (by decide) ms_0) rfl hl.1 rfl (Nat.le_of_ble_eq_true rfl) dX12_number_67 (fun u_ H locs e_ hP hD hS => ?_)
        have hP : va_P G.1 vwCl (zw G MS 51 a g13 L14) H := hP
        have hD : va_D A (zw G MS 51 a g13 L14) := hD
        exact J70 x6 g13 L14 H locs ls h hP hD hS (lv_sub hl [0] rfl)
    refine lv_icmp_eq (x := (g2 0 24)) (y := 2) (tgt := 25) hx hb dX12_number_14 (by decide) (fun c16 => ?_) (fun c16 => ?_)
    ·
      have h := ite_t c16 h
      refine lv_aload_n hx hb dX12_number_25 rfl (lv_at hl 0 rfl) ?_
      refine x_getv (v := .int (g2 0 26)) (Or.inl fl_X12_220) C hP (by decide) ms_0 rfl dX12_number_26 ?_
      refine lv_iconst (v := 4) hx hb dX12_number_29 (by decide) ?_
      have J49 : ∀ (g : Nat → Nat → Int32) (L : Nat → Nat → Int64) (H : Heap) (locs : List Loc) (ls : Array Slot), fX12_number_p49 fu g L = some (res, s9) → va_P G.1 vwCl (zw G MS 51 a g L) H → va_D A (zw G MS 51 a g L) → va_S A s.heap H locs → lv_has ls 4 [(0, .ref (a 0))] → W p l e { frames := 8, cells := 0, slots := 0, locals := 152 } s m [.ref (a 0), .int p1, .int p2].toArray below meth c H locs 0 0 (MQ below ((kQi G (S := Unit) (fun r' _ => r' = res) (fun _ => zw G MS 51 a s9.1 s9.2)) A) [.ref (a 0), .int p1, .int p2].toArray s 0 0 A) (F0 m 49 ls []) := by
        intro g L H locs ls h hP hD hS hl
        unfold fX12_number_p49 at h
        refine lv_aload_n hx hb dX12_number_49 rfl (lv_at hl 0 rfl) ?_
        refine lv_iconst (v := 2) hx hb dX12_number_50 (by decide) ?_
        obtain ⟨z_, g18, L19, hf20, h⟩ := cb_some h
        refine x_callVv (rest := []) li_X12_243 C (rX12_wrong l G H.size a fu g L 2 z_ (g18, L19) hf20) (kR rfl) hP hD hS 0 12 rfl (zat (by decide) ms_0) rfl hl.1 rfl (Nat.le_of_ble_eq_true rfl) dX12_number_51 (fun u_ H locs e_ hP hD hS => ?_)
        have hP : va_P G.1 vwCl (zw G MS 51 a g18 L19) H := hP
        have hD : va_D A (zw G MS 51 a g18 L19) := hD
        exact J54 g18 L19 H locs ls h hP hD hS (lv_sub hl [0] rfl)
      refine lv_icmp_gt (x := (g2 0 26)) (y := 4) (tgt := 49) hx hb dX12_number_30 (by decide) (fun c21 => ?_) (fun c21 => ?_)
      ·
        have h := ite_t c21 h
        exact J49 g2 L3 H locs ls h hP hD hS (lv_sub hl [0] rfl)
      ·
        have h := ite_e c21 h
        refine lv_aload_n hx hb dX12_number_33 rfl (lv_at hl 0 rfl) ?_
        refine x_getv (v := .int (g2 0 27)) (Or.inl fl_X12_204) C hP (by decide) ms_0 rfl dX12_number_34 ?_
        refine lv_iload_n hx hb dX12_number_37 rfl (lv_at hl 1 rfl) ?_
        refine lv_icmp_lt (x := (g2 0 27)) (y := p1) (tgt := 49) hx hb dX12_number_38 (by decide) (fun c22 => ?_) (fun c22 => ?_)
        ·
          have h := ite_t c22 h
          exact J49 g2 L3 H locs ls h hP hD hS (lv_sub hl [0] rfl)
        ·
          have h := ite_e c22 h
          refine lv_aload_n hx hb dX12_number_41 rfl (lv_at hl 0 rfl) ?_
          refine x_getv (v := .int (g2 0 27)) (Or.inl fl_X12_204) C hP (by decide) ms_0 rfl dX12_number_42 ?_
          refine lv_iload_n hx hb dX12_number_45 rfl (lv_at hl 2 rfl) ?_
          refine lv_icmp_le (x := (g2 0 27)) (y := p2) (tgt := 54) hx hb dX12_number_46 (by decide) (fun c23 => ?_) (fun c23 => ?_)
          ·
            have h := ite_t c23 h
            exact J54 g2 L3 H locs ls h hP hD hS (lv_sub hl [0] rfl)
          ·
            have h := ite_e c23 h
            exact J49 g2 L3 H locs ls h hP hD hS (lv_sub hl [0] rfl)
    ·
      have h := ite_e c16 h
      refine lv_aload_n hx hb dX12_number_17 rfl (lv_at hl 0 rfl) ?_
      refine lv_iconst (v := 1) hx hb dX12_number_18 (by decide) ?_
      obtain ⟨z_, g25, L26, hf27, h⟩ := cb_some h
      refine x_callVv (rest := []) li_X12_243 C (rX12_wrong l G H.size a fu g2 L3 1 z_ (g25, L26) hf27) (kR rfl) hP hD hS 0 12 rfl (zat (by decide) ms_0) rfl hl.1 rfl (Nat.le_of_ble_eq_true rfl) dX12_number_19 (fun u_ H locs e_ hP hD hS => ?_)
      have hP : va_P G.1 vwCl (zw G MS 51 a g25 L26) H := hP
      have hD : va_D A (zw G MS 51 a g25 L26) := hD
      refine lv_goto (tgt := 54) hx hb dX12_number_22 (by decide) ?_
      exact J54 g25 L26 H locs ls h hP hD hS (lv_sub hl [0] rfl)
  ·
    have h := ite_t c5 h
    refine lv_iconst (v := 0) hx hb dX12_number_7 (by decide) ?_
    exact y_iret C hr hlk hP hD hS h (Nat.le_of_ble_eq_true rfl) (Nat.le_of_ble_eq_true rfl) dX12_number_8
