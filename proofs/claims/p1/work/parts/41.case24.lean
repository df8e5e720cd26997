theorem dL_law_1548 : decode cL_law 1548 = .ok (.aload_n 1, 1) := by decide +kernel
theorem dL_law_1549 : decode cL_law 1549 = .ok (.aload_n 0, 1) := by decide +kernel
theorem dL_law_1550 : decode cL_law 1550 = .ok (.iload 4, 2) := by decide +kernel
theorem dL_law_1552 : decode cL_law 1552 = .ok (.iconst 1, 1) := by decide +kernel
theorem dL_law_1553 : decode cL_law 1553 = .ok (.iadd, 1) := by decide +kernel
theorem dL_law_1554 : decode cL_law 1554 = .ok (.iaload, 1) := by decide +kernel
theorem dL_law_1555 : decode cL_law 1555 = .ok (.aload_n 0, 1) := by decide +kernel
theorem dL_law_1556 : decode cL_law 1556 = .ok (.iload 4, 2) := by decide +kernel
theorem dL_law_1558 : decode cL_law 1558 = .ok (.iconst 2, 1) := by decide +kernel
theorem dL_law_1559 : decode cL_law 1559 = .ok (.iadd, 1) := by decide +kernel
theorem dL_law_1560 : decode cL_law 1560 = .ok (.iaload, 1) := by decide +kernel
theorem dL_law_1561 : decode cL_law 1561 = .ok (.aload_n 3, 1) := by decide +kernel
theorem tw_1270 : (Jvm.Cond.methodLink "MarshBellsLaw" (196 : Nat) ({ cls := "MarshBellsLaw", name := "see", desc := "(LMarshBells;II[J)I" } : Jvm.MethodName)) ∈ lw_tbl := tk_6 (List.mem_of_getElem? (i := 70) rfl)
theorem tw_1272 : (Jvm.Cond.codeWith ({ cls := "MarshBellsLaw", name := "see", desc := "(LMarshBells;II[J)I" } : Jvm.MethodName) method_21_code (5 : Nat) (Option.some Jvm.ClassFile.FieldType.int) [((0 : Nat), (10 : Nat), (13 : Nat), (18 : Nat))]) ∈ lw_tbl := tk_6 (List.mem_of_getElem? (i := 72) rfl)
theorem tw_1271 : (Jvm.Cond.static ({ cls := "MarshBellsLaw", name := "see", desc := "(LMarshBells;II[J)I" } : Jvm.MethodName)) ∈ lw_tbl := tk_6 (List.mem_of_getElem? (i := 71) rfl)
theorem li_L_196 : kLH RL 196 yL_see cL_see 5 (some .int) [(0, 10, 13, 18)] 4 := ⟨tw_1270, tw_1271, tw_1272, tw_0, by decide +kernel⟩
theorem dL_law_1562 : decode cL_law 1562 = .ok (.invokestatic 196, 3) := by decide +kernel
theorem dL_law_1565 : decode cL_law 1565 = .ok (.istore 5, 2) := by decide +kernel
theorem dL_law_1567 : decode cL_law 1567 = .ok (.aload_n 2, 1) := by decide +kernel
theorem dL_law_1568 : decode cL_law 1568 = .ok (.aload_n 0, 1) := by decide +kernel
theorem dL_law_1569 : decode cL_law 1569 = .ok (.iload 4, 2) := by decide +kernel
theorem dL_law_1571 : decode cL_law 1571 = .ok (.iconst 1, 1) := by decide +kernel
theorem dL_law_1572 : decode cL_law 1572 = .ok (.iadd, 1) := by decide +kernel
theorem dL_law_1573 : decode cL_law 1573 = .ok (.iaload, 1) := by decide +kernel
theorem dL_law_1574 : decode cL_law 1574 = .ok (.aload_n 0, 1) := by decide +kernel
theorem dL_law_1575 : decode cL_law 1575 = .ok (.iload 4, 2) := by decide +kernel
theorem dL_law_1577 : decode cL_law 1577 = .ok (.iconst 2, 1) := by decide +kernel
theorem dL_law_1578 : decode cL_law 1578 = .ok (.iadd, 1) := by decide +kernel
theorem dL_law_1579 : decode cL_law 1579 = .ok (.iaload, 1) := by decide +kernel
theorem tw_2030 : (Jvm.Cond.methodLink "MarshBellsLaw" (198 : Nat) ({ cls := "MarshBellsModel", name := "see", desc := "(II)I" } : Jvm.MethodName)) ∈ lw_tbl := tk_9 (List.mem_of_getElem? (i := 110) rfl)
theorem tw_2033 : (Jvm.Cond.code ({ cls := "MarshBellsModel", name := "see", desc := "(II)I" } : Jvm.MethodName) prog_14_method_90_code (3 : Nat) (Option.some Jvm.ClassFile.FieldType.int)) ∈ lw_tbl := tk_9 (List.mem_of_getElem? (i := 113) rfl)
theorem tw_2031 : (Jvm.Cond.instanceMethod ({ cls := "MarshBellsModel", name := "see", desc := "(II)I" } : Jvm.MethodName)) ∈ lw_tbl := tk_9 (List.mem_of_getElem? (i := 111) rfl)
theorem tw_2032 : (Jvm.Cond.selects "MarshBellsModel" ({ cls := "MarshBellsModel", name := "see", desc := "(II)I" } : Jvm.MethodName) ({ cls := "MarshBellsModel", name := "see", desc := "(II)I" } : Jvm.MethodName)) ∈ lw_tbl := tk_9 (List.mem_of_getElem? (i := 112) rfl)
theorem li_L_198 : kLV RL 198 RX12 yX12_see cX12_see 3 (some .int) 2 := ⟨tw_2030, tw_2031, tw_2032, tw_2033, tw_13, by decide +kernel⟩
theorem dL_law_1580 : decode cL_law 1580 = .ok (.invokevirtual 198, 3) := by decide +kernel
theorem dL_law_1583 : decode cL_law 1583 = .ok (.istore 6, 2) := by decide +kernel
theorem dL_law_1585 : decode cL_law 1585 = .ok (.aload_n 2, 1) := by decide +kernel
theorem dL_law_1586 : decode cL_law 1586 = .ok (.invokevirtual 118, 3) := by decide +kernel
theorem dL_law_1589 : decode cL_law 1589 = .ok (.iload 5, 2) := by decide +kernel
theorem dL_law_1591 : decode cL_law 1591 = .ok (.if_icmp .eq 5, 3) := by decide +kernel
theorem dL_law_1596 : decode cL_law 1596 = .ok (.iload 5, 2) := by decide +kernel
theorem dL_law_1598 : decode cL_law 1598 = .ok (.ifCond .ne 15, 3) := by decide +kernel
theorem dL_law_1613 : decode cL_law 1613 = .ok (.goto 652, 3) := by decide +kernel
theorem dL_law_1616 : decode cL_law 1616 = .ok (.aload_n 1, 1) := by decide +kernel
theorem tw_680 : (Jvm.Cond.methodLink "MarshBellsLaw" (199 : Nat) ({ cls := "MarshBells", name := "forget", desc := "()V" } : Jvm.MethodName)) ∈ lw_tbl := tk_3 (List.mem_of_getElem? (i := 200) rfl)
theorem tw_683 : (Jvm.Cond.code ({ cls := "MarshBells", name := "forget", desc := "()V" } : Jvm.MethodName) prog_1_method_27_code (1 : Nat) (Option.none : Option Jvm.ClassFile.FieldType)) ∈ lw_tbl := tk_3 (List.mem_of_getElem? (i := 203) rfl)
theorem tw_681 : (Jvm.Cond.instanceMethod ({ cls := "MarshBells", name := "forget", desc := "()V" } : Jvm.MethodName)) ∈ lw_tbl := tk_3 (List.mem_of_getElem? (i := 201) rfl)
theorem tw_682 : (Jvm.Cond.selects "MarshBells" ({ cls := "MarshBells", name := "forget", desc := "()V" } : Jvm.MethodName) ({ cls := "MarshBells", name := "forget", desc := "()V" } : Jvm.MethodName)) ∈ lw_tbl := tk_3 (List.mem_of_getElem? (i := 202) rfl)
theorem li_L_199 : kLV RL 199 RX11 yX11_forget cX11_forget 1 none 0 := ⟨tw_680, tw_681, tw_682, tw_683, tw_1, by decide +kernel⟩
theorem dL_law_1617 : decode cL_law 1617 = .ok (.invokevirtual 199, 3) := by decide +kernel
theorem dL_law_1620 : decode cL_law 1620 = .ok (.aload_n 2, 1) := by decide +kernel
theorem tw_2034 : (Jvm.Cond.methodLink "MarshBellsLaw" (202 : Nat) ({ cls := "MarshBellsModel", name := "forget", desc := "()V" } : Jvm.MethodName)) ∈ lw_tbl := tk_9 (List.mem_of_getElem? (i := 114) rfl)
theorem tw_2037 : (Jvm.Cond.code ({ cls := "MarshBellsModel", name := "forget", desc := "()V" } : Jvm.MethodName) prog_14_method_91_code (1 : Nat) (Option.none : Option Jvm.ClassFile.FieldType)) ∈ lw_tbl := tk_9 (List.mem_of_getElem? (i := 117) rfl)
theorem tw_2035 : (Jvm.Cond.instanceMethod ({ cls := "MarshBellsModel", name := "forget", desc := "()V" } : Jvm.MethodName)) ∈ lw_tbl := tk_9 (List.mem_of_getElem? (i := 115) rfl)
theorem tw_2036 : (Jvm.Cond.selects "MarshBellsModel" ({ cls := "MarshBellsModel", name := "forget", desc := "()V" } : Jvm.MethodName) ({ cls := "MarshBellsModel", name := "forget", desc := "()V" } : Jvm.MethodName)) ∈ lw_tbl := tk_9 (List.mem_of_getElem? (i := 116) rfl)
theorem li_L_202 : kLV RL 202 RX12 yX12_forget cX12_forget 1 none 0 := ⟨tw_2034, tw_2035, tw_2036, tw_2037, tw_13, by decide +kernel⟩
theorem dL_law_1621 : decode cL_law 1621 = .ok (.invokevirtual 202, 3) := by decide +kernel
theorem dL_law_1624 : decode cL_law 1624 = .ok (.goto 641, 3) := by decide +kernel
theorem dL_law_1627 : decode cL_law 1627 = .ok (.aload_n 1, 1) := by decide +kernel
theorem dL_law_1628 : decode cL_law 1628 = .ok (.aload_n 0, 1) := by decide +kernel
theorem dL_law_1629 : decode cL_law 1629 = .ok (.iload 4, 2) := by decide +kernel
theorem dL_law_1631 : decode cL_law 1631 = .ok (.iconst 1, 1) := by decide +kernel
theorem dL_law_1632 : decode cL_law 1632 = .ok (.iadd, 1) := by decide +kernel
theorem dL_law_1633 : decode cL_law 1633 = .ok (.iaload, 1) := by decide +kernel
theorem dL_law_1634 : decode cL_law 1634 = .ok (.aload_n 3, 1) := by decide +kernel
theorem tw_1281 : (Jvm.Cond.methodLink "MarshBellsLaw" (203 : Nat) ({ cls := "MarshBellsLaw", name := "fits", desc := "(LMarshBells;I[J)I" } : Jvm.MethodName)) ∈ lw_tbl := tk_6 (List.mem_of_getElem? (i := 81) rfl)
theorem tw_1283 : (Jvm.Cond.codeWith ({ cls := "MarshBellsLaw", name := "fits", desc := "(LMarshBells;I[J)I" } : Jvm.MethodName) method_22_code (4 : Nat) (Option.some Jvm.ClassFile.FieldType.int) [((0 : Nat), (9 : Nat), (12 : Nat), (18 : Nat))]) ∈ lw_tbl := tk_6 (List.mem_of_getElem? (i := 83) rfl)
theorem tw_1282 : (Jvm.Cond.static ({ cls := "MarshBellsLaw", name := "fits", desc := "(LMarshBells;I[J)I" } : Jvm.MethodName)) ∈ lw_tbl := tk_6 (List.mem_of_getElem? (i := 82) rfl)
theorem li_L_203 : kLH RL 203 yL_fits cL_fits 4 (some .int) [(0, 9, 12, 18)] 3 := ⟨tw_1281, tw_1282, tw_1283, tw_0, by decide +kernel⟩
theorem dL_law_1635 : decode cL_law 1635 = .ok (.invokestatic 203, 3) := by decide +kernel
theorem dL_law_1638 : decode cL_law 1638 = .ok (.istore 5, 2) := by decide +kernel
theorem dL_law_1640 : decode cL_law 1640 = .ok (.aload_n 2, 1) := by decide +kernel
theorem dL_law_1641 : decode cL_law 1641 = .ok (.aload_n 0, 1) := by decide +kernel
theorem dL_law_1642 : decode cL_law 1642 = .ok (.iload 4, 2) := by decide +kernel
theorem dL_law_1644 : decode cL_law 1644 = .ok (.iconst 1, 1) := by decide +kernel
theorem dL_law_1645 : decode cL_law 1645 = .ok (.iadd, 1) := by decide +kernel
theorem dL_law_1646 : decode cL_law 1646 = .ok (.iaload, 1) := by decide +kernel
theorem tw_2038 : (Jvm.Cond.methodLink "MarshBellsLaw" (205 : Nat) ({ cls := "MarshBellsModel", name := "fits", desc := "(I)I" } : Jvm.MethodName)) ∈ lw_tbl := tk_9 (List.mem_of_getElem? (i := 118) rfl)
theorem tw_2041 : (Jvm.Cond.code ({ cls := "MarshBellsModel", name := "fits", desc := "(I)I" } : Jvm.MethodName) prog_14_method_93_code (9 : Nat) (Option.some Jvm.ClassFile.FieldType.int)) ∈ lw_tbl := tk_9 (List.mem_of_getElem? (i := 121) rfl)
theorem tw_2039 : (Jvm.Cond.instanceMethod ({ cls := "MarshBellsModel", name := "fits", desc := "(I)I" } : Jvm.MethodName)) ∈ lw_tbl := tk_9 (List.mem_of_getElem? (i := 119) rfl)
theorem tw_2040 : (Jvm.Cond.selects "MarshBellsModel" ({ cls := "MarshBellsModel", name := "fits", desc := "(I)I" } : Jvm.MethodName) ({ cls := "MarshBellsModel", name := "fits", desc := "(I)I" } : Jvm.MethodName)) ∈ lw_tbl := tk_9 (List.mem_of_getElem? (i := 120) rfl)
theorem li_L_205 : kLV RL 205 RX12 yX12_fits cX12_fits 9 (some .int) 1 := ⟨tw_2038, tw_2039, tw_2040, tw_2041, tw_13, by decide +kernel⟩
theorem dL_law_1647 : decode cL_law 1647 = .ok (.invokevirtual 205, 3) := by decide +kernel
theorem dL_law_1650 : decode cL_law 1650 = .ok (.istore 6, 2) := by decide +kernel
theorem dL_law_1652 : decode cL_law 1652 = .ok (.aload_n 2, 1) := by decide +kernel
theorem dL_law_1653 : decode cL_law 1653 = .ok (.invokevirtual 118, 3) := by decide +kernel
theorem dL_law_1656 : decode cL_law 1656 = .ok (.iload 5, 2) := by decide +kernel
theorem dL_law_1658 : decode cL_law 1658 = .ok (.if_icmp .eq 5, 3) := by decide +kernel
theorem dL_law_1663 : decode cL_law 1663 = .ok (.iload 5, 2) := by decide +kernel
theorem dL_law_1665 : decode cL_law 1665 = .ok (.ifCond .ne 15, 3) := by decide +kernel
theorem dL_law_1680 : decode cL_law 1680 = .ok (.goto 585, 3) := by decide +kernel
theorem dL_law_1661 : decode cL_law 1661 = .ok (.iconst 0, 1) := by decide +kernel
theorem dL_law_1668 : decode cL_law 1668 = .ok (.aload_n 3, 1) := by decide +kernel
theorem dL_law_1669 : decode cL_law 1669 = .ok (.iconst 0, 1) := by decide +kernel
theorem dL_law_1670 : decode cL_law 1670 = .ok (.laload, 1) := by decide +kernel
theorem dL_law_1671 : decode cL_law 1671 = .ok (.iload 6, 2) := by decide +kernel
theorem dL_law_1673 : decode cL_law 1673 = .ok (.i2l, 1) := by decide +kernel
theorem dL_law_1674 : decode cL_law 1674 = .ok (.lcmp, 1) := by decide +kernel
theorem dL_law_1675 : decode cL_law 1675 = .ok (.ifCond .eq 5, 3) := by decide +kernel
theorem dL_law_1683 : decode cL_law 1683 = .ok (.aload_n 1, 1) := by decide +kernel
theorem tw_684 : (Jvm.Cond.methodLink "MarshBellsLaw" (206 : Nat) ({ cls := "MarshBells", name := "streams", desc := "()I" } : Jvm.MethodName)) ∈ lw_tbl := tk_3 (List.mem_of_getElem? (i := 204) rfl)
theorem tw_687 : (Jvm.Cond.code ({ cls := "MarshBells", name := "streams", desc := "()I" } : Jvm.MethodName) prog_1_method_29_code (1 : Nat) (Option.some Jvm.ClassFile.FieldType.int)) ∈ lw_tbl := tk_3 (List.mem_of_getElem? (i := 207) rfl)
theorem tw_685 : (Jvm.Cond.instanceMethod ({ cls := "MarshBells", name := "streams", desc := "()I" } : Jvm.MethodName)) ∈ lw_tbl := tk_3 (List.mem_of_getElem? (i := 205) rfl)
theorem tw_686 : (Jvm.Cond.selects "MarshBells" ({ cls := "MarshBells", name := "streams", desc := "()I" } : Jvm.MethodName) ({ cls := "MarshBells", name := "streams", desc := "()I" } : Jvm.MethodName)) ∈ lw_tbl := tk_3 (List.mem_of_getElem? (i := 206) rfl)
theorem li_L_206 : kLV RL 206 RX11 yX11_streams cX11_streams 1 (some .int) 0 := ⟨tw_684, tw_685, tw_686, tw_687, tw_1, by decide +kernel⟩
theorem dL_law_1684 : decode cL_law 1684 = .ok (.invokevirtual 206, 3) := by decide +kernel
theorem dL_law_1687 : decode cL_law 1687 = .ok (.aload_n 2, 1) := by decide +kernel
theorem tw_2046 : (Jvm.Cond.methodLink "MarshBellsLaw" (209 : Nat) ({ cls := "MarshBellsModel", name := "streams", desc := "()I" } : Jvm.MethodName)) ∈ lw_tbl := tk_9 (List.mem_of_getElem? (i := 126) rfl)
theorem tw_2049 : (Jvm.Cond.code ({ cls := "MarshBellsModel", name := "streams", desc := "()I" } : Jvm.MethodName) prog_14_method_95_code (4 : Nat) (Option.some Jvm.ClassFile.FieldType.int)) ∈ lw_tbl := tk_9 (List.mem_of_getElem? (i := 129) rfl)
theorem tw_2047 : (Jvm.Cond.instanceMethod ({ cls := "MarshBellsModel", name := "streams", desc := "()I" } : Jvm.MethodName)) ∈ lw_tbl := tk_9 (List.mem_of_getElem? (i := 127) rfl)
theorem tw_2048 : (Jvm.Cond.selects "MarshBellsModel" ({ cls := "MarshBellsModel", name := "streams", desc := "()I" } : Jvm.MethodName) ({ cls := "MarshBellsModel", name := "streams", desc := "()I" } : Jvm.MethodName)) ∈ lw_tbl := tk_9 (List.mem_of_getElem? (i := 128) rfl)
theorem li_L_209 : kLV RL 209 RX12 yX12_streams cX12_streams 4 (some .int) 0 := ⟨tw_2046, tw_2047, tw_2048, tw_2049, tw_13, by decide +kernel⟩
theorem dL_law_1688 : decode cL_law 1688 = .ok (.invokevirtual 209, 3) := by decide +kernel
theorem dL_law_1691 : decode cL_law 1691 = .ok (.if_icmp .eq 574, 3) := by decide +kernel
theorem dL_law_1696 : decode cL_law 1696 = .ok (.aload_n 1, 1) := by decide +kernel
theorem dL_law_1697 : decode cL_law 1697 = .ok (.aload_n 0, 1) := by decide +kernel
theorem dL_law_1698 : decode cL_law 1698 = .ok (.iload 4, 2) := by decide +kernel
theorem dL_law_1700 : decode cL_law 1700 = .ok (.iconst 1, 1) := by decide +kernel
theorem dL_law_1701 : decode cL_law 1701 = .ok (.iadd, 1) := by decide +kernel
theorem dL_law_1702 : decode cL_law 1702 = .ok (.iaload, 1) := by decide +kernel
theorem dL_law_1703 : decode cL_law 1703 = .ok (.aload_n 0, 1) := by decide +kernel
theorem dL_law_1704 : decode cL_law 1704 = .ok (.iload 4, 2) := by decide +kernel
theorem dL_law_1706 : decode cL_law 1706 = .ok (.iconst 2, 1) := by decide +kernel
theorem dL_law_1707 : decode cL_law 1707 = .ok (.iadd, 1) := by decide +kernel
theorem dL_law_1708 : decode cL_law 1708 = .ok (.iaload, 1) := by decide +kernel
theorem dL_law_1709 : decode cL_law 1709 = .ok (.aload_n 0, 1) := by decide +kernel
theorem dL_law_1710 : decode cL_law 1710 = .ok (.iload 4, 2) := by decide +kernel
theorem dL_law_1712 : decode cL_law 1712 = .ok (.iconst 3, 1) := by decide +kernel
theorem dL_law_1713 : decode cL_law 1713 = .ok (.iadd, 1) := by decide +kernel
theorem dL_law_1714 : decode cL_law 1714 = .ok (.iaload, 1) := by decide +kernel
theorem dL_law_1715 : decode cL_law 1715 = .ok (.aload_n 0, 1) := by decide +kernel
theorem dL_law_1716 : decode cL_law 1716 = .ok (.iload 4, 2) := by decide +kernel
theorem dL_law_1718 : decode cL_law 1718 = .ok (.iconst 4, 1) := by decide +kernel
theorem dL_law_1719 : decode cL_law 1719 = .ok (.iadd, 1) := by decide +kernel
theorem dL_law_1720 : decode cL_law 1720 = .ok (.iaload, 1) := by decide +kernel
theorem dL_law_1721 : decode cL_law 1721 = .ok (.aload_n 3, 1) := by decide +kernel
theorem tw_1301 : (Jvm.Cond.methodLink "MarshBellsLaw" (210 : Nat) ({ cls := "MarshBellsLaw", name := "term", desc := "(LMarshBells;IIII[J)I" } : Jvm.MethodName)) ∈ lw_tbl := tk_6 (List.mem_of_getElem? (i := 101) rfl)
theorem tw_1303 : (Jvm.Cond.codeWith ({ cls := "MarshBellsLaw", name := "term", desc := "(LMarshBells;IIII[J)I" } : Jvm.MethodName) method_23_code (7 : Nat) (Option.some Jvm.ClassFile.FieldType.int) [((0 : Nat), (14 : Nat), (17 : Nat), (18 : Nat)), ((0 : Nat), (14 : Nat), (21 : Nat), (13 : Nat))]) ∈ lw_tbl := tk_6 (List.mem_of_getElem? (i := 103) rfl)
theorem tw_1302 : (Jvm.Cond.static ({ cls := "MarshBellsLaw", name := "term", desc := "(LMarshBells;IIII[J)I" } : Jvm.MethodName)) ∈ lw_tbl := tk_6 (List.mem_of_getElem? (i := 102) rfl)
theorem li_L_210 : kLH RL 210 yL_term cL_term 7 (some .int) [(0, 14, 17, 18), (0, 14, 21, 13)] 6 := ⟨tw_1301, tw_1302, tw_1303, tw_0, by decide +kernel⟩
theorem dL_law_1722 : decode cL_law 1722 = .ok (.invokestatic 210, 3) := by decide +kernel
theorem dL_law_1725 : decode cL_law 1725 = .ok (.istore 5, 2) := by decide +kernel
theorem dL_law_1727 : decode cL_law 1727 = .ok (.aload_n 2, 1) := by decide +kernel
theorem dL_law_1728 : decode cL_law 1728 = .ok (.aload_n 0, 1) := by decide +kernel
theorem dL_law_1729 : decode cL_law 1729 = .ok (.iload 4, 2) := by decide +kernel
theorem dL_law_1731 : decode cL_law 1731 = .ok (.iconst 1, 1) := by decide +kernel
theorem dL_law_1732 : decode cL_law 1732 = .ok (.iadd, 1) := by decide +kernel
theorem dL_law_1733 : decode cL_law 1733 = .ok (.iaload, 1) := by decide +kernel
theorem dL_law_1734 : decode cL_law 1734 = .ok (.aload_n 0, 1) := by decide +kernel
theorem dL_law_1735 : decode cL_law 1735 = .ok (.iload 4, 2) := by decide +kernel
theorem dL_law_1737 : decode cL_law 1737 = .ok (.iconst 2, 1) := by decide +kernel
theorem dL_law_1738 : decode cL_law 1738 = .ok (.iadd, 1) := by decide +kernel
theorem dL_law_1739 : decode cL_law 1739 = .ok (.iaload, 1) := by decide +kernel
theorem dL_law_1740 : decode cL_law 1740 = .ok (.aload_n 0, 1) := by decide +kernel
theorem dL_law_1741 : decode cL_law 1741 = .ok (.iload 4, 2) := by decide +kernel
theorem dL_law_1743 : decode cL_law 1743 = .ok (.iconst 3, 1) := by decide +kernel
theorem dL_law_1744 : decode cL_law 1744 = .ok (.iadd, 1) := by decide +kernel
theorem dL_law_1745 : decode cL_law 1745 = .ok (.iaload, 1) := by decide +kernel
theorem dL_law_1746 : decode cL_law 1746 = .ok (.aload_n 0, 1) := by decide +kernel
theorem dL_law_1747 : decode cL_law 1747 = .ok (.iload 4, 2) := by decide +kernel
theorem dL_law_1749 : decode cL_law 1749 = .ok (.iconst 4, 1) := by decide +kernel
theorem dL_law_1750 : decode cL_law 1750 = .ok (.iadd, 1) := by decide +kernel
theorem dL_law_1751 : decode cL_law 1751 = .ok (.iaload, 1) := by decide +kernel
theorem tw_2074 : (Jvm.Cond.methodLink "MarshBellsLaw" (213 : Nat) ({ cls := "MarshBellsModel", name := "term", desc := "(IIII)I" } : Jvm.MethodName)) ∈ lw_tbl := tk_9 (List.mem_of_getElem? (i := 154) rfl)
theorem tw_2077 : (Jvm.Cond.code ({ cls := "MarshBellsModel", name := "term", desc := "(IIII)I" } : Jvm.MethodName) prog_14_method_102_code (10 : Nat) (Option.some Jvm.ClassFile.FieldType.int)) ∈ lw_tbl := tk_9 (List.mem_of_getElem? (i := 157) rfl)
theorem tw_2075 : (Jvm.Cond.instanceMethod ({ cls := "MarshBellsModel", name := "term", desc := "(IIII)I" } : Jvm.MethodName)) ∈ lw_tbl := tk_9 (List.mem_of_getElem? (i := 155) rfl)
theorem tw_2076 : (Jvm.Cond.selects "MarshBellsModel" ({ cls := "MarshBellsModel", name := "term", desc := "(IIII)I" } : Jvm.MethodName) ({ cls := "MarshBellsModel", name := "term", desc := "(IIII)I" } : Jvm.MethodName)) ∈ lw_tbl := tk_9 (List.mem_of_getElem? (i := 156) rfl)
theorem li_L_213 : kLV RL 213 RX12 yX12_term cX12_term 10 (some .int) 4 := ⟨tw_2074, tw_2075, tw_2076, tw_2077, tw_13, by decide +kernel⟩
theorem dL_law_1752 : decode cL_law 1752 = .ok (.invokevirtual 213, 3) := by decide +kernel
theorem dL_law_1755 : decode cL_law 1755 = .ok (.istore 6, 2) := by decide +kernel
theorem dL_law_1757 : decode cL_law 1757 = .ok (.aload_n 2, 1) := by decide +kernel
theorem dL_law_1758 : decode cL_law 1758 = .ok (.invokevirtual 118, 3) := by decide +kernel
theorem dL_law_1761 : decode cL_law 1761 = .ok (.iload 5, 2) := by decide +kernel
theorem dL_law_1763 : decode cL_law 1763 = .ok (.if_icmp .eq 5, 3) := by decide +kernel
theorem dL_law_1768 : decode cL_law 1768 = .ok (.iload 5, 2) := by decide +kernel
theorem dL_law_1770 : decode cL_law 1770 = .ok (.ifCond .ne 15, 3) := by decide +kernel
theorem dL_law_1785 : decode cL_law 1785 = .ok (.goto 480, 3) := by decide +kernel
theorem dL_law_1788 : decode cL_law 1788 = .ok (.aload_n 1, 1) := by decide +kernel
theorem dL_law_1789 : decode cL_law 1789 = .ok (.aload_n 0, 1) := by decide +kernel
theorem dL_law_1790 : decode cL_law 1790 = .ok (.iload 4, 2) := by decide +kernel
theorem dL_law_1792 : decode cL_law 1792 = .ok (.iconst 1, 1) := by decide +kernel
theorem dL_law_1793 : decode cL_law 1793 = .ok (.iadd, 1) := by decide +kernel
theorem dL_law_1794 : decode cL_law 1794 = .ok (.iaload, 1) := by decide +kernel
theorem dL_law_1795 : decode cL_law 1795 = .ok (.aload_n 0, 1) := by decide +kernel
theorem dL_law_1796 : decode cL_law 1796 = .ok (.iload 4, 2) := by decide +kernel
theorem dL_law_1798 : decode cL_law 1798 = .ok (.iconst 2, 1) := by decide +kernel
theorem dL_law_1799 : decode cL_law 1799 = .ok (.iadd, 1) := by decide +kernel
theorem dL_law_1800 : decode cL_law 1800 = .ok (.iaload, 1) := by decide +kernel
theorem dL_law_1801 : decode cL_law 1801 = .ok (.aload_n 3, 1) := by decide +kernel
theorem tw_1323 : (Jvm.Cond.methodLink "MarshBellsLaw" (214 : Nat) ({ cls := "MarshBellsLaw", name := "on", desc := "(LMarshBells;II[J)I" } : Jvm.MethodName)) ∈ lw_tbl := tk_6 (List.mem_of_getElem? (i := 123) rfl)
theorem tw_1325 : (Jvm.Cond.codeWith ({ cls := "MarshBellsLaw", name := "on", desc := "(LMarshBells;II[J)I" } : Jvm.MethodName) method_24_code (5 : Nat) (Option.some Jvm.ClassFile.FieldType.int) [((0 : Nat), (10 : Nat), (13 : Nat), (18 : Nat)), ((0 : Nat), (10 : Nat), (17 : Nat), (13 : Nat))]) ∈ lw_tbl := tk_6 (List.mem_of_getElem? (i := 125) rfl)
theorem tw_1324 : (Jvm.Cond.static ({ cls := "MarshBellsLaw", name := "on", desc := "(LMarshBells;II[J)I" } : Jvm.MethodName)) ∈ lw_tbl := tk_6 (List.mem_of_getElem? (i := 124) rfl)
theorem li_L_214 : kLH RL 214 yL_on cL_on 5 (some .int) [(0, 10, 13, 18), (0, 10, 17, 13)] 4 := ⟨tw_1323, tw_1324, tw_1325, tw_0, by decide +kernel⟩
theorem dL_law_1802 : decode cL_law 1802 = .ok (.invokestatic 214, 3) := by decide +kernel
theorem dL_law_1805 : decode cL_law 1805 = .ok (.istore 5, 2) := by decide +kernel
theorem dL_law_1807 : decode cL_law 1807 = .ok (.aload_n 2, 1) := by decide +kernel
theorem dL_law_1808 : decode cL_law 1808 = .ok (.aload_n 0, 1) := by decide +kernel
theorem dL_law_1809 : decode cL_law 1809 = .ok (.iload 4, 2) := by decide +kernel
theorem dL_law_1811 : decode cL_law 1811 = .ok (.iconst 1, 1) := by decide +kernel
theorem dL_law_1812 : decode cL_law 1812 = .ok (.iadd, 1) := by decide +kernel
theorem dL_law_1813 : decode cL_law 1813 = .ok (.iaload, 1) := by decide +kernel
theorem dL_law_1814 : decode cL_law 1814 = .ok (.aload_n 0, 1) := by decide +kernel
theorem dL_law_1815 : decode cL_law 1815 = .ok (.iload 4, 2) := by decide +kernel
theorem dL_law_1817 : decode cL_law 1817 = .ok (.iconst 2, 1) := by decide +kernel
theorem dL_law_1818 : decode cL_law 1818 = .ok (.iadd, 1) := by decide +kernel
theorem dL_law_1819 : decode cL_law 1819 = .ok (.iaload, 1) := by decide +kernel
theorem tw_2054 : (Jvm.Cond.methodLink "MarshBellsLaw" (216 : Nat) ({ cls := "MarshBellsModel", name := "on", desc := "(II)I" } : Jvm.MethodName)) ∈ lw_tbl := tk_9 (List.mem_of_getElem? (i := 134) rfl)
theorem tw_2057 : (Jvm.Cond.code ({ cls := "MarshBellsModel", name := "on", desc := "(II)I" } : Jvm.MethodName) prog_14_method_97_code (5 : Nat) (Option.some Jvm.ClassFile.FieldType.int)) ∈ lw_tbl := tk_9 (List.mem_of_getElem? (i := 137) rfl)
theorem tw_2055 : (Jvm.Cond.instanceMethod ({ cls := "MarshBellsModel", name := "on", desc := "(II)I" } : Jvm.MethodName)) ∈ lw_tbl := tk_9 (List.mem_of_getElem? (i := 135) rfl)
theorem tw_2056 : (Jvm.Cond.selects "MarshBellsModel" ({ cls := "MarshBellsModel", name := "on", desc := "(II)I" } : Jvm.MethodName) ({ cls := "MarshBellsModel", name := "on", desc := "(II)I" } : Jvm.MethodName)) ∈ lw_tbl := tk_9 (List.mem_of_getElem? (i := 136) rfl)
theorem li_L_216 : kLV RL 216 RX12 yX12_on cX12_on 5 (some .int) 2 := ⟨tw_2054, tw_2055, tw_2056, tw_2057, tw_13, by decide +kernel⟩
theorem dL_law_1820 : decode cL_law 1820 = .ok (.invokevirtual 216, 3) := by decide +kernel
theorem dL_law_1823 : decode cL_law 1823 = .ok (.istore 6, 2) := by decide +kernel
theorem dL_law_1825 : decode cL_law 1825 = .ok (.aload_n 2, 1) := by decide +kernel
theorem dL_law_1826 : decode cL_law 1826 = .ok (.invokevirtual 118, 3) := by decide +kernel
theorem dL_law_1829 : decode cL_law 1829 = .ok (.iload 5, 2) := by decide +kernel
theorem dL_law_1831 : decode cL_law 1831 = .ok (.if_icmp .eq 5, 3) := by decide +kernel
theorem dL_law_1836 : decode cL_law 1836 = .ok (.iload 5, 2) := by decide +kernel
theorem dL_law_1838 : decode cL_law 1838 = .ok (.ifCond .ne 15, 3) := by decide +kernel
theorem dL_law_1853 : decode cL_law 1853 = .ok (.goto 412, 3) := by decide +kernel
theorem dL_law_1834 : decode cL_law 1834 = .ok (.iconst 0, 1) := by decide +kernel
theorem dL_law_1841 : decode cL_law 1841 = .ok (.aload_n 3, 1) := by decide +kernel
theorem dL_law_1842 : decode cL_law 1842 = .ok (.iconst 0, 1) := by decide +kernel
theorem dL_law_1843 : decode cL_law 1843 = .ok (.laload, 1) := by decide +kernel
theorem dL_law_1844 : decode cL_law 1844 = .ok (.iload 6, 2) := by decide +kernel
theorem dL_law_1846 : decode cL_law 1846 = .ok (.i2l, 1) := by decide +kernel
theorem dL_law_1847 : decode cL_law 1847 = .ok (.lcmp, 1) := by decide +kernel
theorem dL_law_1848 : decode cL_law 1848 = .ok (.ifCond .eq 5, 3) := by decide +kernel
theorem dL_law_1856 : decode cL_law 1856 = .ok (.aload_n 1, 1) := by decide +kernel
theorem dL_law_1857 : decode cL_law 1857 = .ok (.aload_n 0, 1) := by decide +kernel
theorem dL_law_1858 : decode cL_law 1858 = .ok (.iload 4, 2) := by decide +kernel
theorem dL_law_1860 : decode cL_law 1860 = .ok (.iconst 1, 1) := by decide +kernel
theorem dL_law_1861 : decode cL_law 1861 = .ok (.iadd, 1) := by decide +kernel
theorem dL_law_1862 : decode cL_law 1862 = .ok (.iaload, 1) := by decide +kernel
theorem dL_law_1863 : decode cL_law 1863 = .ok (.aload_n 3, 1) := by decide +kernel
theorem tw_1338 : (Jvm.Cond.methodLink "MarshBellsLaw" (217 : Nat) ({ cls := "MarshBellsLaw", name := "clash", desc := "(LMarshBells;I[J)I" } : Jvm.MethodName)) ∈ lw_tbl := tk_6 (List.mem_of_getElem? (i := 138) rfl)
theorem tw_1340 : (Jvm.Cond.codeWith ({ cls := "MarshBellsLaw", name := "clash", desc := "(LMarshBells;I[J)I" } : Jvm.MethodName) method_25_code (4 : Nat) (Option.some Jvm.ClassFile.FieldType.int) [((0 : Nat), (9 : Nat), (12 : Nat), (18 : Nat))]) ∈ lw_tbl := tk_6 (List.mem_of_getElem? (i := 140) rfl)
theorem tw_1339 : (Jvm.Cond.static ({ cls := "MarshBellsLaw", name := "clash", desc := "(LMarshBells;I[J)I" } : Jvm.MethodName)) ∈ lw_tbl := tk_6 (List.mem_of_getElem? (i := 139) rfl)
theorem li_L_217 : kLH RL 217 yL_clash cL_clash 4 (some .int) [(0, 9, 12, 18)] 3 := ⟨tw_1338, tw_1339, tw_1340, tw_0, by decide +kernel⟩
theorem dL_law_1864 : decode cL_law 1864 = .ok (.invokestatic 217, 3) := by decide +kernel
theorem dL_law_1867 : decode cL_law 1867 = .ok (.istore 5, 2) := by decide +kernel
theorem dL_law_1869 : decode cL_law 1869 = .ok (.aload_n 2, 1) := by decide +kernel
theorem dL_law_1870 : decode cL_law 1870 = .ok (.aload_n 0, 1) := by decide +kernel
theorem dL_law_1871 : decode cL_law 1871 = .ok (.iload 4, 2) := by decide +kernel
theorem dL_law_1873 : decode cL_law 1873 = .ok (.iconst 1, 1) := by decide +kernel
theorem dL_law_1874 : decode cL_law 1874 = .ok (.iadd, 1) := by decide +kernel
theorem dL_law_1875 : decode cL_law 1875 = .ok (.iaload, 1) := by decide +kernel
theorem tw_2066 : (Jvm.Cond.methodLink "MarshBellsLaw" (219 : Nat) ({ cls := "MarshBellsModel", name := "clash", desc := "(I)I" } : Jvm.MethodName)) ∈ lw_tbl := tk_9 (List.mem_of_getElem? (i := 146) rfl)
theorem tw_2069 : (Jvm.Cond.code ({ cls := "MarshBellsModel", name := "clash", desc := "(I)I" } : Jvm.MethodName) prog_14_method_99_code (7 : Nat) (Option.some Jvm.ClassFile.FieldType.int)) ∈ lw_tbl := tk_9 (List.mem_of_getElem? (i := 149) rfl)
theorem tw_2067 : (Jvm.Cond.instanceMethod ({ cls := "MarshBellsModel", name := "clash", desc := "(I)I" } : Jvm.MethodName)) ∈ lw_tbl := tk_9 (List.mem_of_getElem? (i := 147) rfl)
theorem tw_2068 : (Jvm.Cond.selects "MarshBellsModel" ({ cls := "MarshBellsModel", name := "clash", desc := "(I)I" } : Jvm.MethodName) ({ cls := "MarshBellsModel", name := "clash", desc := "(I)I" } : Jvm.MethodName)) ∈ lw_tbl := tk_9 (List.mem_of_getElem? (i := 148) rfl)
theorem li_L_219 : kLV RL 219 RX12 yX12_clash cX12_clash 7 (some .int) 1 := ⟨tw_2066, tw_2067, tw_2068, tw_2069, tw_13, by decide +kernel⟩
theorem dL_law_1876 : decode cL_law 1876 = .ok (.invokevirtual 219, 3) := by decide +kernel
theorem dL_law_1879 : decode cL_law 1879 = .ok (.istore 6, 2) := by decide +kernel
theorem dL_law_1881 : decode cL_law 1881 = .ok (.aload_n 2, 1) := by decide +kernel
theorem dL_law_1882 : decode cL_law 1882 = .ok (.invokevirtual 118, 3) := by decide +kernel
theorem dL_law_1885 : decode cL_law 1885 = .ok (.iload 5, 2) := by decide +kernel
theorem dL_law_1887 : decode cL_law 1887 = .ok (.if_icmp .eq 5, 3) := by decide +kernel
theorem dL_law_1892 : decode cL_law 1892 = .ok (.iload 5, 2) := by decide +kernel
theorem dL_law_1894 : decode cL_law 1894 = .ok (.ifCond .ne 15, 3) := by decide +kernel
theorem dL_law_1909 : decode cL_law 1909 = .ok (.goto 356, 3) := by decide +kernel
theorem dL_law_1890 : decode cL_law 1890 = .ok (.iconst 0, 1) := by decide +kernel
theorem dL_law_1897 : decode cL_law 1897 = .ok (.aload_n 3, 1) := by decide +kernel
theorem dL_law_1898 : decode cL_law 1898 = .ok (.iconst 0, 1) := by decide +kernel
theorem dL_law_1899 : decode cL_law 1899 = .ok (.laload, 1) := by decide +kernel
theorem dL_law_1900 : decode cL_law 1900 = .ok (.iload 6, 2) := by decide +kernel
theorem dL_law_1902 : decode cL_law 1902 = .ok (.i2l, 1) := by decide +kernel
theorem dL_law_1903 : decode cL_law 1903 = .ok (.lcmp, 1) := by decide +kernel
theorem dL_law_1904 : decode cL_law 1904 = .ok (.ifCond .eq 5, 3) := by decide +kernel
theorem dL_law_1912 : decode cL_law 1912 = .ok (.aload_n 1, 1) := by decide +kernel
theorem dL_law_1913 : decode cL_law 1913 = .ok (.aload_n 0, 1) := by decide +kernel
theorem dL_law_1914 : decode cL_law 1914 = .ok (.iload 4, 2) := by decide +kernel
theorem dL_law_1916 : decode cL_law 1916 = .ok (.iconst 1, 1) := by decide +kernel
theorem dL_law_1917 : decode cL_law 1917 = .ok (.iadd, 1) := by decide +kernel
theorem dL_law_1918 : decode cL_law 1918 = .ok (.iaload, 1) := by decide +kernel
theorem dL_law_1919 : decode cL_law 1919 = .ok (.aload_n 3, 1) := by decide +kernel
theorem tw_1357 : (Jvm.Cond.methodLink "MarshBellsLaw" (220 : Nat) ({ cls := "MarshBellsLaw", name := "busiest", desc := "(LMarshBells;I[J)I" } : Jvm.MethodName)) ∈ lw_tbl := tk_6 (List.mem_of_getElem? (i := 157) rfl)
theorem tw_1359 : (Jvm.Cond.codeWith ({ cls := "MarshBellsLaw", name := "busiest", desc := "(LMarshBells;I[J)I" } : Jvm.MethodName) method_26_code (4 : Nat) (Option.some Jvm.ClassFile.FieldType.int) [((0 : Nat), (9 : Nat), (12 : Nat), (18 : Nat))]) ∈ lw_tbl := tk_6 (List.mem_of_getElem? (i := 159) rfl)
theorem tw_1358 : (Jvm.Cond.static ({ cls := "MarshBellsLaw", name := "busiest", desc := "(LMarshBells;I[J)I" } : Jvm.MethodName)) ∈ lw_tbl := tk_6 (List.mem_of_getElem? (i := 158) rfl)
theorem li_L_220 : kLH RL 220 yL_busiest cL_busiest 4 (some .int) [(0, 9, 12, 18)] 3 := ⟨tw_1357, tw_1358, tw_1359, tw_0, by decide +kernel⟩
theorem dL_law_1920 : decode cL_law 1920 = .ok (.invokestatic 220, 3) := by decide +kernel
theorem dL_law_1923 : decode cL_law 1923 = .ok (.istore 5, 2) := by decide +kernel
theorem dL_law_1925 : decode cL_law 1925 = .ok (.aload_n 2, 1) := by decide +kernel
theorem dL_law_1926 : decode cL_law 1926 = .ok (.aload_n 0, 1) := by decide +kernel
theorem dL_law_1927 : decode cL_law 1927 = .ok (.iload 4, 2) := by decide +kernel
theorem dL_law_1929 : decode cL_law 1929 = .ok (.iconst 1, 1) := by decide +kernel
theorem dL_law_1930 : decode cL_law 1930 = .ok (.iadd, 1) := by decide +kernel
theorem dL_law_1931 : decode cL_law 1931 = .ok (.iaload, 1) := by decide +kernel
theorem tw_2062 : (Jvm.Cond.methodLink "MarshBellsLaw" (222 : Nat) ({ cls := "MarshBellsModel", name := "busiest", desc := "(I)I" } : Jvm.MethodName)) ∈ lw_tbl := tk_9 (List.mem_of_getElem? (i := 142) rfl)
theorem tw_2065 : (Jvm.Cond.code ({ cls := "MarshBellsModel", name := "busiest", desc := "(I)I" } : Jvm.MethodName) prog_14_method_98_code (6 : Nat) (Option.some Jvm.ClassFile.FieldType.int)) ∈ lw_tbl := tk_9 (List.mem_of_getElem? (i := 145) rfl)
theorem tw_2063 : (Jvm.Cond.instanceMethod ({ cls := "MarshBellsModel", name := "busiest", desc := "(I)I" } : Jvm.MethodName)) ∈ lw_tbl := tk_9 (List.mem_of_getElem? (i := 143) rfl)
theorem tw_2064 : (Jvm.Cond.selects "MarshBellsModel" ({ cls := "MarshBellsModel", name := "busiest", desc := "(I)I" } : Jvm.MethodName) ({ cls := "MarshBellsModel", name := "busiest", desc := "(I)I" } : Jvm.MethodName)) ∈ lw_tbl := tk_9 (List.mem_of_getElem? (i := 144) rfl)
theorem li_L_222 : kLV RL 222 RX12 yX12_busiest cX12_busiest 6 (some .int) 1 := ⟨tw_2062, tw_2063, tw_2064, tw_2065, tw_13, by decide +kernel⟩
theorem dL_law_1932 : decode cL_law 1932 = .ok (.invokevirtual 222, 3) := by decide +kernel
theorem dL_law_1935 : decode cL_law 1935 = .ok (.istore 6, 2) := by decide +kernel
theorem dL_law_1937 : decode cL_law 1937 = .ok (.aload_n 2, 1) := by decide +kernel
theorem dL_law_1938 : decode cL_law 1938 = .ok (.invokevirtual 118, 3) := by decide +kernel
theorem dL_law_1941 : decode cL_law 1941 = .ok (.iload 5, 2) := by decide +kernel
theorem dL_law_1943 : decode cL_law 1943 = .ok (.if_icmp .eq 5, 3) := by decide +kernel
theorem dL_law_1948 : decode cL_law 1948 = .ok (.iload 5, 2) := by decide +kernel
theorem dL_law_1950 : decode cL_law 1950 = .ok (.ifCond .ne 15, 3) := by decide +kernel
theorem dL_law_1965 : decode cL_law 1965 = .ok (.goto 300, 3) := by decide +kernel
theorem dL_law_1946 : decode cL_law 1946 = .ok (.iconst 0, 1) := by decide +kernel
theorem dL_law_1953 : decode cL_law 1953 = .ok (.aload_n 3, 1) := by decide +kernel
theorem dL_law_1954 : decode cL_law 1954 = .ok (.iconst 0, 1) := by decide +kernel
theorem dL_law_1955 : decode cL_law 1955 = .ok (.laload, 1) := by decide +kernel
theorem dL_law_1956 : decode cL_law 1956 = .ok (.iload 6, 2) := by decide +kernel
theorem dL_law_1958 : decode cL_law 1958 = .ok (.i2l, 1) := by decide +kernel
theorem dL_law_1959 : decode cL_law 1959 = .ok (.lcmp, 1) := by decide +kernel
theorem dL_law_1960 : decode cL_law 1960 = .ok (.ifCond .eq 5, 3) := by decide +kernel
theorem dL_law_1963 : decode cL_law 1963 = .ok (.iconst 0, 1) := by decide +kernel
set_option maxHeartbeats 4000000 in
set_option maxRecDepth 100000 in
theorem law_24 {p : Program} {e : Env} {s : State} {m : MethodId} {below : List Frame} {meth : Method} {c : Code} {l : Launch} (hst : l.stackTraces = false) {b : Nat} {xs : Nat → Int32} {G : kG} {A : Nat → Prop} (C0 : lw_At p s m meth c b 6 xs) (hA : A = fun q : Nat => s.heap.size ≤ q) (C : kC G p s m c cL_law 8 RL A) {v1 : Int32} (hv1 : xs 1 = v1) {v2 : Int32} (hv2 : xs 2 = v2) {v3 : Int32} (hv3 : xs 3 = v3) {v4 : Int32} (hv4 : xs 4 = v4) {v5 : Int32} (hv5 : xs 5 = v5) {x0 : Nat} {Fx0 : Nat → Value} {x3 : Nat} {Fx3 : Nat → Value} {m0 : Nat} {Fm0 : Nat → Value} {aout : Nat} (e_x0_3 : Fx0 3 = .ref x3) (e_x3_2 : Fx3 2 = .int 0) (e_m0_1 : Fm0 1 = .int 0) {H : Heap} {locs : List Loc} {ls : Array Slot} (hP : va_P G.1 vwCl [(x0, .inr (11, ofL 17 Fx0)), (x3, .inr (7, ofL 5 Fx3)), (m0, .inr (12, ofL 88 Fm0)), (aout, .inl (G.2.2.2.2, 1, .inr (.inl (fun _ => 0))))] H) (hD : va_D A [(x0, .inr (11, ofL 17 Fx0)), (x3, .inr (7, ofL 5 Fx3)), (m0, .inr (12, ofL 88 Fm0)), (aout, .inl (G.2.2.2.2, 1, .inr (.inl (fun _ => 0))))]) (hS : va_S A s.heap H locs) (hl : lv_has ls 8 [(0, .ref b), (1, .ref x0), (2, .ref m0), (3, .ref aout), (4, .int 0)]) :
    W p l e room_1 s m #[Value.ref b] below meth c H locs 1000 20000 (lw_Z below #[Value.ref b] s) (F0 m 1548 ls []) := by
  obtain ⟨hx, hb, hr, -, -, -, hX, hbl, hlocks, -⟩ := id C0
  have hbA : ¬ A b := by rw [hA]; exact Nat.not_le.mpr hbl
  refine lv_aload_n hx hb dL_law_1548 rfl (lv_at hl 1 rfl) ?_
  refine lv_aload_n hx hb dL_law_1549 rfl (lv_at hl 0 rfl) ?_
  refine lv_iload hx hb dL_law_1550 (lv_at hl 4 rfl) ?_
  refine lv_iconst (v := 1) hx hb dL_law_1552 (by decide) ?_
  refine lv_iadd hx hb dL_law_1553 ?_
  refine k_eqi (y := 1) (by decide) ?_
  refine va_sld hx hb hX hbl hbA hS (k_in (by decide)) dL_law_1554 ?_
  refine k_eqi (y := v1) hv1 ?_
  refine lv_aload_n hx hb dL_law_1555 rfl (lv_at hl 0 rfl) ?_
  refine lv_iload hx hb dL_law_1556 (lv_at hl 4 rfl) ?_
  refine lv_iconst (v := 2) hx hb dL_law_1558 (by decide) ?_
  refine lv_iadd hx hb dL_law_1559 ?_
  refine k_eqi (y := 2) (by decide) ?_
  refine va_sld hx hb hX hbl hbA hS (k_in (by decide)) dL_law_1560 ?_
  refine k_eqi (y := v2) hv2 ?_
  refine lv_aload_n hx hb dL_law_1561 rfl (lv_at hl 3 rfl) ?_
  refine k_callHi (wr := [(m0, .inr (12, ofL 88 Fm0))]) (rest := []) li_L_196 C (c_L_see l hst G H.size x0 v1 v2 aout Fx0 x3 Fx3 (fun _ => 0) e_x0_3 e_x3_2) (kR rfl) hP hD hS [0, 1, 3] [2] rfl rfl rfl rfl (by decide) rfl hl.1 rfl (Nat.le_of_ble_eq_true rfl) dL_law_1562 (fun rr2 uu3 H locs hw1 hP hD hS => ?_)
  rcases hw1 with ⟨rfl, rfl, c_4⟩ | ⟨rfl, rfl, c_5⟩
  ·
    have hP : va_P G.1 vwCl [(m0, .inr (12, ofL 88 Fm0)), (aout, .inl (G.2.2.2.2, 1, .inr (.inl ((fun _ => 0))))), (x0, .inr (11, ofL 17 Fx0)), (x3, .inr (7, ofL 5 Fx3))] H := hP
    have hD : va_D A [(m0, .inr (12, ofL 88 Fm0)), (aout, .inl (G.2.2.2.2, 1, .inr (.inl ((fun _ => 0))))), (x0, .inr (11, ofL 17 Fx0)), (x3, .inr (7, ofL 5 Fx3))] := hD
    refine lv_istore (lv' := [(5, .int 1), (0, .ref b), (1, .ref x0), (2, .ref m0), (3, .ref aout), (4, .int 0)]) hx hb dL_law_1565 hl (by decide) rfl (fun ls hl => ?_)
    refine lv_aload_n hx hb dL_law_1567 rfl (lv_at hl 3 rfl) ?_
    refine lv_aload_n hx hb dL_law_1568 rfl (lv_at hl 1 rfl) ?_
    refine lv_iload hx hb dL_law_1569 (lv_at hl 5 rfl) ?_
    refine lv_iconst (v := 1) hx hb dL_law_1571 (by decide) ?_
    refine lv_iadd hx hb dL_law_1572 ?_
    refine k_eqi (y := 1) (by decide) ?_
    refine va_sld hx hb hX hbl hbA hS (k_in (by decide)) dL_law_1573 ?_
    refine k_eqi (y := v1) hv1 ?_
    refine lv_aload_n hx hb dL_law_1574 rfl (lv_at hl 1 rfl) ?_
    refine lv_iload hx hb dL_law_1575 (lv_at hl 5 rfl) ?_
    refine lv_iconst (v := 2) hx hb dL_law_1577 (by decide) ?_
    refine lv_iadd hx hb dL_law_1578 ?_
    refine k_eqi (y := 2) (by decide) ?_
    refine va_sld hx hb hX hbl hbA hS (k_in (by decide)) dL_law_1579 ?_
    refine k_eqi (y := v2) hv2 ?_
    refine k_callVi (wr := [(aout, .inl (G.2.2.2.2, 1, .inr (.inl ((fun _ => 0))))), (x0, .inr (11, ofL 17 Fx0)), (x3, .inr (7, ofL 5 Fx3))]) (rest := []) li_L_198 C (c_X12_see l G H.size m0 v1 v2 Fm0 e_m0_1) (kR rfl) hP hD hS [0] [1, 2, 3] rfl rfl rfl rfl (by decide) 0 12 rfl rfl rfl hl.1 rfl (Nat.le_of_ble_eq_true rfl) dL_law_1580 (fun rr7 uu8 H locs hw6 hP hD hS => ?_)
    rcases hw6 with ⟨rfl, rfl, c_9⟩ | ⟨rfl, rfl, c_10⟩
    ·
      have hP : va_P G.1 vwCl [(aout, .inl (G.2.2.2.2, 1, .inr (.inl ((fun _ => 0))))), (x0, .inr (11, ofL 17 Fx0)), (x3, .inr (7, ofL 5 Fx3)), (m0, .inr (12, ofL 88 (updV (updV Fm0 0 (.int 0)) 0 (.int 1))))] H := hP
      have hD : va_D A [(aout, .inl (G.2.2.2.2, 1, .inr (.inl ((fun _ => 0))))), (x0, .inr (11, ofL 17 Fx0)), (x3, .inr (7, ofL 5 Fx3)), (m0, .inr (12, ofL 88 (updV (updV Fm0 0 (.int 0)) 0 (.int 1))))] := hD
      refine lv_istore (lv' := [(6, .int 0), (5, .int 1), (0, .ref b), (1, .ref x0), (2, .ref m0), (3, .ref aout), (4, .int 0)]) hx hb dL_law_1583 hl (by decide) rfl (fun ls hl => ?_)
      refine lv_aload_n hx hb dL_law_1585 rfl (lv_at hl 4 rfl) ?_
      refine k_callVi (wr := [(aout, .inl (G.2.2.2.2, 1, .inr (.inl ((fun _ => 0))))), (x0, .inr (11, ofL 17 Fx0)), (x3, .inr (7, ofL 5 Fx3))]) (rest := []) li_L_118 C (c_X12_thrown l G H.size m0 (updV (updV Fm0 0 (.int 0)) 0 (.int 1)) 1 rfl) (kR rfl) hP hD hS [3] [0, 1, 2] rfl rfl rfl rfl (by decide) 0 12 rfl rfl rfl hl.1 rfl (Nat.le_of_ble_eq_true rfl) dL_law_1586 (fun rr12 uu13 H locs hw11 hP hD hS => ?_)
      obtain rfl : rr12 = 1 := hw11
      have hP : va_P G.1 vwCl [(aout, .inl (G.2.2.2.2, 1, .inr (.inl ((fun _ => 0))))), (x0, .inr (11, ofL 17 Fx0)), (x3, .inr (7, ofL 5 Fx3)), (m0, .inr (12, ofL 88 (updV (updV Fm0 0 (.int 0)) 0 (.int 1))))] H := hP
      have hD : va_D A [(aout, .inl (G.2.2.2.2, 1, .inr (.inl ((fun _ => 0))))), (x0, .inr (11, ofL 17 Fx0)), (x3, .inr (7, ofL 5 Fx3)), (m0, .inr (12, ofL 88 (updV (updV Fm0 0 (.int 0)) 0 (.int 1))))] := hD
      refine lv_iload hx hb dL_law_1589 (lv_at hl 1 rfl) ?_
      refine lv_icmp_eq (x := 1) (y := 1) (tgt := 1596) hx hb dL_law_1591 (by decide) (fun c_14 => ?_) (fun c_14 => ?_)
      rotate_left
      · exact absurd (by decide) c_14
      refine lv_iload hx hb dL_law_1596 (lv_at hl 1 rfl) ?_
      refine lv_if_ne (x := 1) (tgt := 1613) hx hb dL_law_1598 (by decide) (fun c_15 => ?_) (fun c_15 => ?_)
      rotate_left
      · exact absurd c_15 (by decide)
      refine lv_goto (tgt := 2265) hx hb dL_law_1613 (by decide) ?_
      exact law_end hst C0 hA C hS (lv_sub hl [2, 6] rfl) (Nat.le_of_ble_eq_true rfl) (Nat.le_of_ble_eq_true rfl)
    ·
      have hP : va_P G.1 vwCl [(aout, .inl (G.2.2.2.2, 1, .inr (.inl ((fun _ => 0))))), (x0, .inr (11, ofL 17 Fx0)), (x3, .inr (7, ofL 5 Fx3)), (m0, .inr (12, ofL 88 (updV (updV Fm0 0 (.int 0)) 0 (.int 1))))] H := hP
      have hD : va_D A [(aout, .inl (G.2.2.2.2, 1, .inr (.inl ((fun _ => 0))))), (x0, .inr (11, ofL 17 Fx0)), (x3, .inr (7, ofL 5 Fx3)), (m0, .inr (12, ofL 88 (updV (updV Fm0 0 (.int 0)) 0 (.int 1))))] := hD
      refine lv_istore (lv' := [(6, .int 0), (5, .int 1), (0, .ref b), (1, .ref x0), (2, .ref m0), (3, .ref aout), (4, .int 0)]) hx hb dL_law_1583 hl (by decide) rfl (fun ls hl => ?_)
      refine lv_aload_n hx hb dL_law_1585 rfl (lv_at hl 4 rfl) ?_
      refine k_callVi (wr := [(aout, .inl (G.2.2.2.2, 1, .inr (.inl ((fun _ => 0))))), (x0, .inr (11, ofL 17 Fx0)), (x3, .inr (7, ofL 5 Fx3))]) (rest := []) li_L_118 C (c_X12_thrown l G H.size m0 (updV (updV Fm0 0 (.int 0)) 0 (.int 1)) 1 rfl) (kR rfl) hP hD hS [3] [0, 1, 2] rfl rfl rfl rfl (by decide) 0 12 rfl rfl rfl hl.1 rfl (Nat.le_of_ble_eq_true rfl) dL_law_1586 (fun rr17 uu18 H locs hw16 hP hD hS => ?_)
      obtain rfl : rr17 = 1 := hw16
      have hP : va_P G.1 vwCl [(aout, .inl (G.2.2.2.2, 1, .inr (.inl ((fun _ => 0))))), (x0, .inr (11, ofL 17 Fx0)), (x3, .inr (7, ofL 5 Fx3)), (m0, .inr (12, ofL 88 (updV (updV Fm0 0 (.int 0)) 0 (.int 1))))] H := hP
      have hD : va_D A [(aout, .inl (G.2.2.2.2, 1, .inr (.inl ((fun _ => 0))))), (x0, .inr (11, ofL 17 Fx0)), (x3, .inr (7, ofL 5 Fx3)), (m0, .inr (12, ofL 88 (updV (updV Fm0 0 (.int 0)) 0 (.int 1))))] := hD
      refine lv_iload hx hb dL_law_1589 (lv_at hl 1 rfl) ?_
      refine lv_icmp_eq (x := 1) (y := 1) (tgt := 1596) hx hb dL_law_1591 (by decide) (fun c_19 => ?_) (fun c_19 => ?_)
      rotate_left
      · exact absurd (by decide) c_19
      refine lv_iload hx hb dL_law_1596 (lv_at hl 1 rfl) ?_
      refine lv_if_ne (x := 1) (tgt := 1613) hx hb dL_law_1598 (by decide) (fun c_20 => ?_) (fun c_20 => ?_)
      rotate_left
      · exact absurd c_20 (by decide)
      refine lv_goto (tgt := 2265) hx hb dL_law_1613 (by decide) ?_
      exact law_end hst C0 hA C hS (lv_sub hl [2, 6] rfl) (Nat.le_of_ble_eq_true rfl) (Nat.le_of_ble_eq_true rfl)
  ·
    have hP : va_P G.1 vwCl [(m0, .inr (12, ofL 88 Fm0)), (aout, .inl (G.2.2.2.2, 1, .inr (.inl ((fun _ => 0))))), (x0, .inr (11, ofL 17 Fx0)), (x3, .inr (7, ofL 5 Fx3))] H := hP
    have hD : va_D A [(m0, .inr (12, ofL 88 Fm0)), (aout, .inl (G.2.2.2.2, 1, .inr (.inl ((fun _ => 0))))), (x0, .inr (11, ofL 17 Fx0)), (x3, .inr (7, ofL 5 Fx3))] := hD
    refine lv_istore (lv' := [(5, .int 1), (0, .ref b), (1, .ref x0), (2, .ref m0), (3, .ref aout), (4, .int 0)]) hx hb dL_law_1565 hl (by decide) rfl (fun ls hl => ?_)
    refine lv_aload_n hx hb dL_law_1567 rfl (lv_at hl 3 rfl) ?_
    refine lv_aload_n hx hb dL_law_1568 rfl (lv_at hl 1 rfl) ?_
    refine lv_iload hx hb dL_law_1569 (lv_at hl 5 rfl) ?_
    refine lv_iconst (v := 1) hx hb dL_law_1571 (by decide) ?_
    refine lv_iadd hx hb dL_law_1572 ?_
    refine k_eqi (y := 1) (by decide) ?_
    refine va_sld hx hb hX hbl hbA hS (k_in (by decide)) dL_law_1573 ?_
    refine k_eqi (y := v1) hv1 ?_
    refine lv_aload_n hx hb dL_law_1574 rfl (lv_at hl 1 rfl) ?_
    refine lv_iload hx hb dL_law_1575 (lv_at hl 5 rfl) ?_
    refine lv_iconst (v := 2) hx hb dL_law_1577 (by decide) ?_
    refine lv_iadd hx hb dL_law_1578 ?_
    refine k_eqi (y := 2) (by decide) ?_
    refine va_sld hx hb hX hbl hbA hS (k_in (by decide)) dL_law_1579 ?_
    refine k_eqi (y := v2) hv2 ?_
    refine k_callVi (wr := [(aout, .inl (G.2.2.2.2, 1, .inr (.inl ((fun _ => 0))))), (x0, .inr (11, ofL 17 Fx0)), (x3, .inr (7, ofL 5 Fx3))]) (rest := []) li_L_198 C (c_X12_see l G H.size m0 v1 v2 Fm0 e_m0_1) (kR rfl) hP hD hS [0] [1, 2, 3] rfl rfl rfl rfl (by decide) 0 12 rfl rfl rfl hl.1 rfl (Nat.le_of_ble_eq_true rfl) dL_law_1580 (fun rr22 uu23 H locs hw21 hP hD hS => ?_)
    rcases hw21 with ⟨rfl, rfl, c_24⟩ | ⟨rfl, rfl, c_25⟩
    ·
      have hP : va_P G.1 vwCl [(aout, .inl (G.2.2.2.2, 1, .inr (.inl ((fun _ => 0))))), (x0, .inr (11, ofL 17 Fx0)), (x3, .inr (7, ofL 5 Fx3)), (m0, .inr (12, ofL 88 (updV (updV Fm0 0 (.int 0)) 0 (.int 1))))] H := hP
      have hD : va_D A [(aout, .inl (G.2.2.2.2, 1, .inr (.inl ((fun _ => 0))))), (x0, .inr (11, ofL 17 Fx0)), (x3, .inr (7, ofL 5 Fx3)), (m0, .inr (12, ofL 88 (updV (updV Fm0 0 (.int 0)) 0 (.int 1))))] := hD
      refine lv_istore (lv' := [(6, .int 0), (5, .int 1), (0, .ref b), (1, .ref x0), (2, .ref m0), (3, .ref aout), (4, .int 0)]) hx hb dL_law_1583 hl (by decide) rfl (fun ls hl => ?_)
      refine lv_aload_n hx hb dL_law_1585 rfl (lv_at hl 4 rfl) ?_
      refine k_callVi (wr := [(aout, .inl (G.2.2.2.2, 1, .inr (.inl ((fun _ => 0))))), (x0, .inr (11, ofL 17 Fx0)), (x3, .inr (7, ofL 5 Fx3))]) (rest := []) li_L_118 C (c_X12_thrown l G H.size m0 (updV (updV Fm0 0 (.int 0)) 0 (.int 1)) 1 rfl) (kR rfl) hP hD hS [3] [0, 1, 2] rfl rfl rfl rfl (by decide) 0 12 rfl rfl rfl hl.1 rfl (Nat.le_of_ble_eq_true rfl) dL_law_1586 (fun rr27 uu28 H locs hw26 hP hD hS => ?_)
      obtain rfl : rr27 = 1 := hw26
      have hP : va_P G.1 vwCl [(aout, .inl (G.2.2.2.2, 1, .inr (.inl ((fun _ => 0))))), (x0, .inr (11, ofL 17 Fx0)), (x3, .inr (7, ofL 5 Fx3)), (m0, .inr (12, ofL 88 (updV (updV Fm0 0 (.int 0)) 0 (.int 1))))] H := hP
      have hD : va_D A [(aout, .inl (G.2.2.2.2, 1, .inr (.inl ((fun _ => 0))))), (x0, .inr (11, ofL 17 Fx0)), (x3, .inr (7, ofL 5 Fx3)), (m0, .inr (12, ofL 88 (updV (updV Fm0 0 (.int 0)) 0 (.int 1))))] := hD
      refine lv_iload hx hb dL_law_1589 (lv_at hl 1 rfl) ?_
      refine lv_icmp_eq (x := 1) (y := 1) (tgt := 1596) hx hb dL_law_1591 (by decide) (fun c_29 => ?_) (fun c_29 => ?_)
      rotate_left
      · exact absurd (by decide) c_29
      refine lv_iload hx hb dL_law_1596 (lv_at hl 1 rfl) ?_
      refine lv_if_ne (x := 1) (tgt := 1613) hx hb dL_law_1598 (by decide) (fun c_30 => ?_) (fun c_30 => ?_)
      rotate_left
      · exact absurd c_30 (by decide)
      refine lv_goto (tgt := 2265) hx hb dL_law_1613 (by decide) ?_
      exact law_end hst C0 hA C hS (lv_sub hl [2, 6] rfl) (Nat.le_of_ble_eq_true rfl) (Nat.le_of_ble_eq_true rfl)
    ·
      have hP : va_P G.1 vwCl [(aout, .inl (G.2.2.2.2, 1, .inr (.inl ((fun _ => 0))))), (x0, .inr (11, ofL 17 Fx0)), (x3, .inr (7, ofL 5 Fx3)), (m0, .inr (12, ofL 88 (updV (updV Fm0 0 (.int 0)) 0 (.int 1))))] H := hP
      have hD : va_D A [(aout, .inl (G.2.2.2.2, 1, .inr (.inl ((fun _ => 0))))), (x0, .inr (11, ofL 17 Fx0)), (x3, .inr (7, ofL 5 Fx3)), (m0, .inr (12, ofL 88 (updV (updV Fm0 0 (.int 0)) 0 (.int 1))))] := hD
      refine lv_istore (lv' := [(6, .int 0), (5, .int 1), (0, .ref b), (1, .ref x0), (2, .ref m0), (3, .ref aout), (4, .int 0)]) hx hb dL_law_1583 hl (by decide) rfl (fun ls hl => ?_)
      refine lv_aload_n hx hb dL_law_1585 rfl (lv_at hl 4 rfl) ?_
      refine k_callVi (wr := [(aout, .inl (G.2.2.2.2, 1, .inr (.inl ((fun _ => 0))))), (x0, .inr (11, ofL 17 Fx0)), (x3, .inr (7, ofL 5 Fx3))]) (rest := []) li_L_118 C (c_X12_thrown l G H.size m0 (updV (updV Fm0 0 (.int 0)) 0 (.int 1)) 1 rfl) (kR rfl) hP hD hS [3] [0, 1, 2] rfl rfl rfl rfl (by decide) 0 12 rfl rfl rfl hl.1 rfl (Nat.le_of_ble_eq_true rfl) dL_law_1586 (fun rr32 uu33 H locs hw31 hP hD hS => ?_)
      obtain rfl : rr32 = 1 := hw31
      have hP : va_P G.1 vwCl [(aout, .inl (G.2.2.2.2, 1, .inr (.inl ((fun _ => 0))))), (x0, .inr (11, ofL 17 Fx0)), (x3, .inr (7, ofL 5 Fx3)), (m0, .inr (12, ofL 88 (updV (updV Fm0 0 (.int 0)) 0 (.int 1))))] H := hP
      have hD : va_D A [(aout, .inl (G.2.2.2.2, 1, .inr (.inl ((fun _ => 0))))), (x0, .inr (11, ofL 17 Fx0)), (x3, .inr (7, ofL 5 Fx3)), (m0, .inr (12, ofL 88 (updV (updV Fm0 0 (.int 0)) 0 (.int 1))))] := hD
      refine lv_iload hx hb dL_law_1589 (lv_at hl 1 rfl) ?_
      refine lv_icmp_eq (x := 1) (y := 1) (tgt := 1596) hx hb dL_law_1591 (by decide) (fun c_34 => ?_) (fun c_34 => ?_)
      rotate_left
      · exact absurd (by decide) c_34
      refine lv_iload hx hb dL_law_1596 (lv_at hl 1 rfl) ?_
      refine lv_if_ne (x := 1) (tgt := 1613) hx hb dL_law_1598 (by decide) (fun c_35 => ?_) (fun c_35 => ?_)
      rotate_left
      · exact absurd c_35 (by decide)
      refine lv_goto (tgt := 2265) hx hb dL_law_1613 (by decide) ?_
      exact law_end hst C0 hA C hS (lv_sub hl [2, 6] rfl) (Nat.le_of_ble_eq_true rfl) (Nat.le_of_ble_eq_true rfl)
set_option maxHeartbeats 4000000 in
set_option maxRecDepth 100000 in
theorem law_25 {p : Program} {e : Env} {s : State} {m : MethodId} {below : List Frame} {meth : Method} {c : Code} {l : Launch} (hst : l.stackTraces = false) {b : Nat} {xs : Nat → Int32} {G : kG} {A : Nat → Prop} (C0 : lw_At p s m meth c b 6 xs) (hA : A = fun q : Nat => s.heap.size ≤ q) (C : kC G p s m c cL_law 8 RL A) {v1 : Int32} (hv1 : xs 1 = v1) {v2 : Int32} (hv2 : xs 2 = v2) {v3 : Int32} (hv3 : xs 3 = v3) {v4 : Int32} (hv4 : xs 4 = v4) {v5 : Int32} (hv5 : xs 5 = v5) {x0 : Nat} {Fx0 : Nat → Value} {x8 : Nat} {Fx8 : Nat → Value} {m0 : Nat} {Fm0 : Nat → Value} {aout : Nat} (e_x0_6 : Fx0 6 = .ref x8) {H : Heap} {locs : List Loc} {ls : Array Slot} (hP : va_P G.1 vwCl [(x0, .inr (11, ofL 17 Fx0)), (x8, .inr (3, ofL 12 Fx8)), (m0, .inr (12, ofL 88 Fm0))] H) (hD : va_D A [(x0, .inr (11, ofL 17 Fx0)), (x8, .inr (3, ofL 12 Fx8)), (m0, .inr (12, ofL 88 Fm0))]) (hS : va_S A s.heap H locs) (hl : lv_has ls 8 [(0, .ref b), (1, .ref x0), (2, .ref m0), (3, .ref aout), (4, .int 0)]) :
    W p l e room_1 s m #[Value.ref b] below meth c H locs 1000 20000 (lw_Z below #[Value.ref b] s) (F0 m 1616 ls []) := by
  obtain ⟨hx, hb, hr, -, -, -, hX, hbl, hlocks, -⟩ := id C0
  have hbA : ¬ A b := by rw [hA]; exact Nat.not_le.mpr hbl
  refine lv_aload_n hx hb dL_law_1616 rfl (lv_at hl 1 rfl) ?_
  refine k_callVv (wr := [(m0, .inr (12, ofL 88 Fm0))]) (rest := []) li_L_199 C (c_X11_forget l G H.size x0 Fx0 x8 Fx8 e_x0_6) (kR rfl) hP hD hS [0, 1] [2] rfl rfl rfl rfl (by decide) 0 11 rfl rfl rfl hl.1 rfl (Nat.le_of_ble_eq_true rfl) dL_law_1617 (fun uu3 H locs hw1 hP hD hS => ?_)
  have hP : va_P G.1 vwCl [(m0, .inr (12, ofL 88 Fm0)), (x0, .inr (11, ofL 17 Fx0)), (x8, .inr (3, ofL 12 (updV Fx8 10 (.int 0))))] H := hP
  have hD : va_D A [(m0, .inr (12, ofL 88 Fm0)), (x0, .inr (11, ofL 17 Fx0)), (x8, .inr (3, ofL 12 (updV Fx8 10 (.int 0))))] := hD
  refine lv_aload_n hx hb dL_law_1620 rfl (lv_at hl 2 rfl) ?_
  refine k_callVv (wr := [(x0, .inr (11, ofL 17 Fx0)), (x8, .inr (3, ofL 12 (updV Fx8 10 (.int 0))))]) (rest := []) li_L_202 C (c_X12_forget l G H.size m0 Fm0) (kR rfl) hP hD hS [0] [1, 2] rfl rfl rfl rfl (by decide) 0 12 rfl rfl rfl hl.1 rfl (Nat.le_of_ble_eq_true rfl) dL_law_1621 (fun uu6 H locs hw4 hP hD hS => ?_)
  have hP : va_P G.1 vwCl [(x0, .inr (11, ofL 17 Fx0)), (x8, .inr (3, ofL 12 (updV Fx8 10 (.int 0)))), (m0, .inr (12, ofL 88 (updV (updV Fm0 0 (.int 0)) 73 (.int 0))))] H := hP
  have hD : va_D A [(x0, .inr (11, ofL 17 Fx0)), (x8, .inr (3, ofL 12 (updV Fx8 10 (.int 0)))), (m0, .inr (12, ofL 88 (updV (updV Fm0 0 (.int 0)) 73 (.int 0))))] := hD
  refine lv_goto (tgt := 2265) hx hb dL_law_1624 (by decide) ?_
  exact law_end hst C0 hA C hS (lv_sub hl [0, 4] rfl) (Nat.le_of_ble_eq_true rfl) (Nat.le_of_ble_eq_true rfl)
set_option maxHeartbeats 4000000 in
set_option maxRecDepth 100000 in
theorem law_26 {p : Program} {e : Env} {s : State} {m : MethodId} {below : List Frame} {meth : Method} {c : Code} {l : Launch} (hst : l.stackTraces = false) {b : Nat} {xs : Nat → Int32} {G : kG} {A : Nat → Prop} (C0 : lw_At p s m meth c b 6 xs) (hA : A = fun q : Nat => s.heap.size ≤ q) (C : kC G p s m c cL_law 8 RL A) {v1 : Int32} (hv1 : xs 1 = v1) {v2 : Int32} (hv2 : xs 2 = v2) {v3 : Int32} (hv3 : xs 3 = v3) {v4 : Int32} (hv4 : xs 4 = v4) {v5 : Int32} (hv5 : xs 5 = v5) {x0 : Nat} {Fx0 : Nat → Value} {x28 : Nat} {x3 : Nat} {Fx3 : Nat → Value} {Fx28 : Nat → Value} {x31 : Nat} {Fx31 : Nat → Value} {m0 : Nat} {Fm0 : Nat → Value} {aout : Nat} (e_x0_9 : Fx0 9 = .ref x28) (e_x3_2 : Fx3 2 = .int 0) (e_x28_0 : Fx28 0 = .ref x31) (e_x31_7 : Fx31 7 = .ref x3) (e_m0_1 : Fm0 1 = .int 0) {H : Heap} {locs : List Loc} {ls : Array Slot} (hP : va_P G.1 vwCl [(x0, .inr (11, ofL 17 Fx0)), (x3, .inr (7, ofL 5 Fx3)), (x28, .inr (10, ofL 7 Fx28)), (x31, .inr (1, ofL 10 Fx31)), (m0, .inr (12, ofL 88 Fm0)), (aout, .inl (G.2.2.2.2, 1, .inr (.inl (fun _ => 0))))] H) (hD : va_D A [(x0, .inr (11, ofL 17 Fx0)), (x3, .inr (7, ofL 5 Fx3)), (x28, .inr (10, ofL 7 Fx28)), (x31, .inr (1, ofL 10 Fx31)), (m0, .inr (12, ofL 88 Fm0)), (aout, .inl (G.2.2.2.2, 1, .inr (.inl (fun _ => 0))))]) (hS : va_S A s.heap H locs) (hl : lv_has ls 8 [(0, .ref b), (1, .ref x0), (2, .ref m0), (3, .ref aout), (4, .int 0)]) :
    W p l e room_1 s m #[Value.ref b] below meth c H locs 1000 20000 (lw_Z below #[Value.ref b] s) (F0 m 1627 ls []) := by
  obtain ⟨hx, hb, hr, -, -, -, hX, hbl, hlocks, -⟩ := id C0
  have hbA : ¬ A b := by rw [hA]; exact Nat.not_le.mpr hbl
  refine lv_aload_n hx hb dL_law_1627 rfl (lv_at hl 1 rfl) ?_
  refine lv_aload_n hx hb dL_law_1628 rfl (lv_at hl 0 rfl) ?_
  refine lv_iload hx hb dL_law_1629 (lv_at hl 4 rfl) ?_
  refine lv_iconst (v := 1) hx hb dL_law_1631 (by decide) ?_
  refine lv_iadd hx hb dL_law_1632 ?_
  refine k_eqi (y := 1) (by decide) ?_
  refine va_sld hx hb hX hbl hbA hS (k_in (by decide)) dL_law_1633 ?_
  refine k_eqi (y := v1) hv1 ?_
  refine lv_aload_n hx hb dL_law_1634 rfl (lv_at hl 3 rfl) ?_
  refine k_callHi (wr := [(m0, .inr (12, ofL 88 Fm0))]) (rest := []) li_L_203 C (c_L_fits l hst G H.size x0 v1 aout Fx0 x28 Fx28 x31 Fx31 x3 Fx3 (fun _ => 0) e_x0_9 e_x28_0 e_x31_7 e_x3_2) (kR rfl) hP hD hS [0, 2, 3, 1, 5] [4] rfl rfl rfl rfl (by decide) rfl hl.1 rfl (Nat.le_of_ble_eq_true rfl) dL_law_1635 (fun rr2 uu3 H locs hw1 hP hD hS => ?_)
  rcases hw1 with ⟨rfl, rfl, c_4⟩ | ⟨rfl, rfl, c_5, c_6⟩ | ⟨rfl, rfl, c_7, c_8, rfl⟩ | ⟨rfl, rfl, c_9, c_10, rfl⟩ | ⟨rfl, rfl, c_11, c_12, rfl⟩
  ·
    have hP : va_P G.1 vwCl [(m0, .inr (12, ofL 88 Fm0)), (aout, .inl (G.2.2.2.2, 1, .inr (.inl ((fun _ => 0))))), (x0, .inr (11, ofL 17 Fx0)), (x28, .inr (10, ofL 7 Fx28)), (x31, .inr (1, ofL 10 Fx31)), (x3, .inr (7, ofL 5 Fx3))] H := hP
    have hD : va_D A [(m0, .inr (12, ofL 88 Fm0)), (aout, .inl (G.2.2.2.2, 1, .inr (.inl ((fun _ => 0))))), (x0, .inr (11, ofL 17 Fx0)), (x28, .inr (10, ofL 7 Fx28)), (x31, .inr (1, ofL 10 Fx31)), (x3, .inr (7, ofL 5 Fx3))] := hD
    refine lv_istore (lv' := [(5, .int 1), (0, .ref b), (1, .ref x0), (2, .ref m0), (3, .ref aout), (4, .int 0)]) hx hb dL_law_1638 hl (by decide) rfl (fun ls hl => ?_)
    refine lv_aload_n hx hb dL_law_1640 rfl (lv_at hl 3 rfl) ?_
    refine lv_aload_n hx hb dL_law_1641 rfl (lv_at hl 1 rfl) ?_
    refine lv_iload hx hb dL_law_1642 (lv_at hl 5 rfl) ?_
    refine lv_iconst (v := 1) hx hb dL_law_1644 (by decide) ?_
    refine lv_iadd hx hb dL_law_1645 ?_
    refine k_eqi (y := 1) (by decide) ?_
    refine va_sld hx hb hX hbl hbA hS (k_in (by decide)) dL_law_1646 ?_
    refine k_eqi (y := v1) hv1 ?_
    refine k_callVi (wr := [(aout, .inl (G.2.2.2.2, 1, .inr (.inl ((fun _ => 0))))), (x0, .inr (11, ofL 17 Fx0)), (x28, .inr (10, ofL 7 Fx28)), (x31, .inr (1, ofL 10 Fx31)), (x3, .inr (7, ofL 5 Fx3))]) (rest := []) li_L_205 C (c_X12_fits l G H.size m0 v1 Fm0 e_m0_1) (kR rfl) hP hD hS [0] [1, 2, 3, 4, 5] rfl rfl rfl rfl (by decide) 0 12 rfl rfl rfl hl.1 rfl (Nat.le_of_ble_eq_true rfl) dL_law_1647 (fun rr14 uu15 H locs hw13 hP hD hS => ?_)
    rcases hw13 with ⟨rfl, rfl, c_16⟩ | ⟨rfl, rfl, c_17, c_18⟩ | ⟨rfl, rfl, c_19, c_20, c_21, c_22⟩ | ⟨rfl, rfl, c_23, c_24, c_25, rfl⟩ | ⟨rfl, rfl, c_26, c_27, rfl⟩
    ·
      have hP : va_P G.1 vwCl [(aout, .inl (G.2.2.2.2, 1, .inr (.inl ((fun _ => 0))))), (x0, .inr (11, ofL 17 Fx0)), (x28, .inr (10, ofL 7 Fx28)), (x31, .inr (1, ofL 10 Fx31)), (x3, .inr (7, ofL 5 Fx3)), (m0, .inr (12, ofL 88 (updV (updV Fm0 0 (.int 0)) 0 (.int 1))))] H := hP
      have hD : va_D A [(aout, .inl (G.2.2.2.2, 1, .inr (.inl ((fun _ => 0))))), (x0, .inr (11, ofL 17 Fx0)), (x28, .inr (10, ofL 7 Fx28)), (x31, .inr (1, ofL 10 Fx31)), (x3, .inr (7, ofL 5 Fx3)), (m0, .inr (12, ofL 88 (updV (updV Fm0 0 (.int 0)) 0 (.int 1))))] := hD
      refine lv_istore (lv' := [(6, .int 0), (5, .int 1), (0, .ref b), (1, .ref x0), (2, .ref m0), (3, .ref aout), (4, .int 0)]) hx hb dL_law_1650 hl (by decide) rfl (fun ls hl => ?_)
      refine lv_aload_n hx hb dL_law_1652 rfl (lv_at hl 4 rfl) ?_
      refine k_callVi (wr := [(aout, .inl (G.2.2.2.2, 1, .inr (.inl ((fun _ => 0))))), (x0, .inr (11, ofL 17 Fx0)), (x28, .inr (10, ofL 7 Fx28)), (x31, .inr (1, ofL 10 Fx31)), (x3, .inr (7, ofL 5 Fx3))]) (rest := []) li_L_118 C (c_X12_thrown l G H.size m0 (updV (updV Fm0 0 (.int 0)) 0 (.int 1)) 1 rfl) (kR rfl) hP hD hS [5] [0, 1, 2, 3, 4] rfl rfl rfl rfl (by decide) 0 12 rfl rfl rfl hl.1 rfl (Nat.le_of_ble_eq_true rfl) dL_law_1653 (fun rr29 uu30 H locs hw28 hP hD hS => ?_)
      obtain rfl : rr29 = 1 := hw28
      have hP : va_P G.1 vwCl [(aout, .inl (G.2.2.2.2, 1, .inr (.inl ((fun _ => 0))))), (x0, .inr (11, ofL 17 Fx0)), (x28, .inr (10, ofL 7 Fx28)), (x31, .inr (1, ofL 10 Fx31)), (x3, .inr (7, ofL 5 Fx3)), (m0, .inr (12, ofL 88 (updV (updV Fm0 0 (.int 0)) 0 (.int 1))))] H := hP
      have hD : va_D A [(aout, .inl (G.2.2.2.2, 1, .inr (.inl ((fun _ => 0))))), (x0, .inr (11, ofL 17 Fx0)), (x28, .inr (10, ofL 7 Fx28)), (x31, .inr (1, ofL 10 Fx31)), (x3, .inr (7, ofL 5 Fx3)), (m0, .inr (12, ofL 88 (updV (updV Fm0 0 (.int 0)) 0 (.int 1))))] := hD
      refine lv_iload hx hb dL_law_1656 (lv_at hl 1 rfl) ?_
      refine lv_icmp_eq (x := 1) (y := 1) (tgt := 1663) hx hb dL_law_1658 (by decide) (fun c_31 => ?_) (fun c_31 => ?_)
      rotate_left
      · exact absurd (by decide) c_31
      refine lv_iload hx hb dL_law_1663 (lv_at hl 1 rfl) ?_
      refine lv_if_ne (x := 1) (tgt := 1680) hx hb dL_law_1665 (by decide) (fun c_32 => ?_) (fun c_32 => ?_)
      rotate_left
      · exact absurd c_32 (by decide)
      refine lv_goto (tgt := 2265) hx hb dL_law_1680 (by decide) ?_
      exact law_end hst C0 hA C hS (lv_sub hl [2, 6] rfl) (Nat.le_of_ble_eq_true rfl) (Nat.le_of_ble_eq_true rfl)
    ·
      have hP : va_P G.1 vwCl [(aout, .inl (G.2.2.2.2, 1, .inr (.inl ((fun _ => 0))))), (x0, .inr (11, ofL 17 Fx0)), (x28, .inr (10, ofL 7 Fx28)), (x31, .inr (1, ofL 10 Fx31)), (x3, .inr (7, ofL 5 Fx3)), (m0, .inr (12, ofL 88 (updV (updV Fm0 0 (.int 0)) 0 (.int 1))))] H := hP
      have hD : va_D A [(aout, .inl (G.2.2.2.2, 1, .inr (.inl ((fun _ => 0))))), (x0, .inr (11, ofL 17 Fx0)), (x28, .inr (10, ofL 7 Fx28)), (x31, .inr (1, ofL 10 Fx31)), (x3, .inr (7, ofL 5 Fx3)), (m0, .inr (12, ofL 88 (updV (updV Fm0 0 (.int 0)) 0 (.int 1))))] := hD
      refine lv_istore (lv' := [(6, .int 0), (5, .int 1), (0, .ref b), (1, .ref x0), (2, .ref m0), (3, .ref aout), (4, .int 0)]) hx hb dL_law_1650 hl (by decide) rfl (fun ls hl => ?_)
      refine lv_aload_n hx hb dL_law_1652 rfl (lv_at hl 4 rfl) ?_
      refine k_callVi (wr := [(aout, .inl (G.2.2.2.2, 1, .inr (.inl ((fun _ => 0))))), (x0, .inr (11, ofL 17 Fx0)), (x28, .inr (10, ofL 7 Fx28)), (x31, .inr (1, ofL 10 Fx31)), (x3, .inr (7, ofL 5 Fx3))]) (rest := []) li_L_118 C (c_X12_thrown l G H.size m0 (updV (updV Fm0 0 (.int 0)) 0 (.int 1)) 1 rfl) (kR rfl) hP hD hS [5] [0, 1, 2, 3, 4] rfl rfl rfl rfl (by decide) 0 12 rfl rfl rfl hl.1 rfl (Nat.le_of_ble_eq_true rfl) dL_law_1653 (fun rr34 uu35 H locs hw33 hP hD hS => ?_)
      obtain rfl : rr34 = 1 := hw33
      have hP : va_P G.1 vwCl [(aout, .inl (G.2.2.2.2, 1, .inr (.inl ((fun _ => 0))))), (x0, .inr (11, ofL 17 Fx0)), (x28, .inr (10, ofL 7 Fx28)), (x31, .inr (1, ofL 10 Fx31)), (x3, .inr (7, ofL 5 Fx3)), (m0, .inr (12, ofL 88 (updV (updV Fm0 0 (.int 0)) 0 (.int 1))))] H := hP
      have hD : va_D A [(aout, .inl (G.2.2.2.2, 1, .inr (.inl ((fun _ => 0))))), (x0, .inr (11, ofL 17 Fx0)), (x28, .inr (10, ofL 7 Fx28)), (x31, .inr (1, ofL 10 Fx31)), (x3, .inr (7, ofL 5 Fx3)), (m0, .inr (12, ofL 88 (updV (updV Fm0 0 (.int 0)) 0 (.int 1))))] := hD
      refine lv_iload hx hb dL_law_1656 (lv_at hl 1 rfl) ?_
      refine lv_icmp_eq (x := 1) (y := 1) (tgt := 1663) hx hb dL_law_1658 (by decide) (fun c_36 => ?_) (fun c_36 => ?_)
      rotate_left
      · exact absurd (by decide) c_36
      refine lv_iload hx hb dL_law_1663 (lv_at hl 1 rfl) ?_
      refine lv_if_ne (x := 1) (tgt := 1680) hx hb dL_law_1665 (by decide) (fun c_37 => ?_) (fun c_37 => ?_)
      rotate_left
      · exact absurd c_37 (by decide)
      refine lv_goto (tgt := 2265) hx hb dL_law_1680 (by decide) ?_
      exact law_end hst C0 hA C hS (lv_sub hl [2, 6] rfl) (Nat.le_of_ble_eq_true rfl) (Nat.le_of_ble_eq_true rfl)
    ·
      have hP : va_P G.1 vwCl [(aout, .inl (G.2.2.2.2, 1, .inr (.inl ((fun _ => 0))))), (x0, .inr (11, ofL 17 Fx0)), (x28, .inr (10, ofL 7 Fx28)), (x31, .inr (1, ofL 10 Fx31)), (x3, .inr (7, ofL 5 Fx3)), (m0, .inr (12, ofL 88 (updV Fm0 0 (.int 0))))] H := hP
      have hD : va_D A [(aout, .inl (G.2.2.2.2, 1, .inr (.inl ((fun _ => 0))))), (x0, .inr (11, ofL 17 Fx0)), (x28, .inr (10, ofL 7 Fx28)), (x31, .inr (1, ofL 10 Fx31)), (x3, .inr (7, ofL 5 Fx3)), (m0, .inr (12, ofL 88 (updV Fm0 0 (.int 0))))] := hD
      refine lv_istore (lv' := [(6, .int (-1)), (5, .int 1), (0, .ref b), (1, .ref x0), (2, .ref m0), (3, .ref aout), (4, .int 0)]) hx hb dL_law_1650 hl (by decide) rfl (fun ls hl => ?_)
      refine lv_aload_n hx hb dL_law_1652 rfl (lv_at hl 4 rfl) ?_
      refine k_callVi (wr := [(aout, .inl (G.2.2.2.2, 1, .inr (.inl ((fun _ => 0))))), (x0, .inr (11, ofL 17 Fx0)), (x28, .inr (10, ofL 7 Fx28)), (x31, .inr (1, ofL 10 Fx31)), (x3, .inr (7, ofL 5 Fx3))]) (rest := []) li_L_118 C (c_X12_thrown l G H.size m0 (updV Fm0 0 (.int 0)) 0 rfl) (kR rfl) hP hD hS [5] [0, 1, 2, 3, 4] rfl rfl rfl rfl (by decide) 0 12 rfl rfl rfl hl.1 rfl (Nat.le_of_ble_eq_true rfl) dL_law_1653 (fun rr39 uu40 H locs hw38 hP hD hS => ?_)
      obtain rfl : rr39 = 0 := hw38
      have hP : va_P G.1 vwCl [(aout, .inl (G.2.2.2.2, 1, .inr (.inl ((fun _ => 0))))), (x0, .inr (11, ofL 17 Fx0)), (x28, .inr (10, ofL 7 Fx28)), (x31, .inr (1, ofL 10 Fx31)), (x3, .inr (7, ofL 5 Fx3)), (m0, .inr (12, ofL 88 (updV Fm0 0 (.int 0))))] H := hP
      have hD : va_D A [(aout, .inl (G.2.2.2.2, 1, .inr (.inl ((fun _ => 0))))), (x0, .inr (11, ofL 17 Fx0)), (x28, .inr (10, ofL 7 Fx28)), (x31, .inr (1, ofL 10 Fx31)), (x3, .inr (7, ofL 5 Fx3)), (m0, .inr (12, ofL 88 (updV Fm0 0 (.int 0))))] := hD
      refine lv_iload hx hb dL_law_1656 (lv_at hl 1 rfl) ?_
      refine lv_icmp_eq (x := 0) (y := 1) (tgt := 1663) hx hb dL_law_1658 (by decide) (fun c_41 => ?_) (fun c_41 => ?_)
      · exact absurd c_41 (by decide)
      refine lv_iconst (v := 0) hx hb dL_law_1661 (by decide) ?_
      exfalso
      have e9_0 : (0 : Int32).toInt = 0 := by decide
      have e9_1 : (1 : Int32).toInt = 1 := by decide
      have e9_2 : (2 : Int32).toInt = 2 := by decide
      simp only [← Int32.toInt_inj] at c_21 c_22
      simp only [Int32.lt_iff_toInt_lt, Int32.le_iff_toInt_le] at c_4 c_19 c_20
      omega
    ·
      exact absurd c_4 (by decide)
    ·
      exact absurd c_4 (by decide)
  ·
    have hP : va_P G.1 vwCl [(m0, .inr (12, ofL 88 Fm0)), (aout, .inl (G.2.2.2.2, 1, .inr (.inl ((fun _ => 0))))), (x0, .inr (11, ofL 17 Fx0)), (x28, .inr (10, ofL 7 Fx28)), (x31, .inr (1, ofL 10 Fx31)), (x3, .inr (7, ofL 5 Fx3))] H := hP
    have hD : va_D A [(m0, .inr (12, ofL 88 Fm0)), (aout, .inl (G.2.2.2.2, 1, .inr (.inl ((fun _ => 0))))), (x0, .inr (11, ofL 17 Fx0)), (x28, .inr (10, ofL 7 Fx28)), (x31, .inr (1, ofL 10 Fx31)), (x3, .inr (7, ofL 5 Fx3))] := hD
    refine lv_istore (lv' := [(5, .int 1), (0, .ref b), (1, .ref x0), (2, .ref m0), (3, .ref aout), (4, .int 0)]) hx hb dL_law_1638 hl (by decide) rfl (fun ls hl => ?_)
    refine lv_aload_n hx hb dL_law_1640 rfl (lv_at hl 3 rfl) ?_
    refine lv_aload_n hx hb dL_law_1641 rfl (lv_at hl 1 rfl) ?_
    refine lv_iload hx hb dL_law_1642 (lv_at hl 5 rfl) ?_
    refine lv_iconst (v := 1) hx hb dL_law_1644 (by decide) ?_
    refine lv_iadd hx hb dL_law_1645 ?_
    refine k_eqi (y := 1) (by decide) ?_
    refine va_sld hx hb hX hbl hbA hS (k_in (by decide)) dL_law_1646 ?_
    refine k_eqi (y := v1) hv1 ?_
    refine k_callVi (wr := [(aout, .inl (G.2.2.2.2, 1, .inr (.inl ((fun _ => 0))))), (x0, .inr (11, ofL 17 Fx0)), (x28, .inr (10, ofL 7 Fx28)), (x31, .inr (1, ofL 10 Fx31)), (x3, .inr (7, ofL 5 Fx3))]) (rest := []) li_L_205 C (c_X12_fits l G H.size m0 v1 Fm0 e_m0_1) (kR rfl) hP hD hS [0] [1, 2, 3, 4, 5] rfl rfl rfl rfl (by decide) 0 12 rfl rfl rfl hl.1 rfl (Nat.le_of_ble_eq_true rfl) dL_law_1647 (fun rr43 uu44 H locs hw42 hP hD hS => ?_)
    rcases hw42 with ⟨rfl, rfl, c_45⟩ | ⟨rfl, rfl, c_46, c_47⟩ | ⟨rfl, rfl, c_48, c_49, c_50, c_51⟩ | ⟨rfl, rfl, c_52, c_53, c_54, rfl⟩ | ⟨rfl, rfl, c_55, c_56, rfl⟩
    ·
      have hP : va_P G.1 vwCl [(aout, .inl (G.2.2.2.2, 1, .inr (.inl ((fun _ => 0))))), (x0, .inr (11, ofL 17 Fx0)), (x28, .inr (10, ofL 7 Fx28)), (x31, .inr (1, ofL 10 Fx31)), (x3, .inr (7, ofL 5 Fx3)), (m0, .inr (12, ofL 88 (updV (updV Fm0 0 (.int 0)) 0 (.int 1))))] H := hP
      have hD : va_D A [(aout, .inl (G.2.2.2.2, 1, .inr (.inl ((fun _ => 0))))), (x0, .inr (11, ofL 17 Fx0)), (x28, .inr (10, ofL 7 Fx28)), (x31, .inr (1, ofL 10 Fx31)), (x3, .inr (7, ofL 5 Fx3)), (m0, .inr (12, ofL 88 (updV (updV Fm0 0 (.int 0)) 0 (.int 1))))] := hD
      refine lv_istore (lv' := [(6, .int 0), (5, .int 1), (0, .ref b), (1, .ref x0), (2, .ref m0), (3, .ref aout), (4, .int 0)]) hx hb dL_law_1650 hl (by decide) rfl (fun ls hl => ?_)
      refine lv_aload_n hx hb dL_law_1652 rfl (lv_at hl 4 rfl) ?_
      refine k_callVi (wr := [(aout, .inl (G.2.2.2.2, 1, .inr (.inl ((fun _ => 0))))), (x0, .inr (11, ofL 17 Fx0)), (x28, .inr (10, ofL 7 Fx28)), (x31, .inr (1, ofL 10 Fx31)), (x3, .inr (7, ofL 5 Fx3))]) (rest := []) li_L_118 C (c_X12_thrown l G H.size m0 (updV (updV Fm0 0 (.int 0)) 0 (.int 1)) 1 rfl) (kR rfl) hP hD hS [5] [0, 1, 2, 3, 4] rfl rfl rfl rfl (by decide) 0 12 rfl rfl rfl hl.1 rfl (Nat.le_of_ble_eq_true rfl) dL_law_1653 (fun rr58 uu59 H locs hw57 hP hD hS => ?_)
      obtain rfl : rr58 = 1 := hw57
      have hP : va_P G.1 vwCl [(aout, .inl (G.2.2.2.2, 1, .inr (.inl ((fun _ => 0))))), (x0, .inr (11, ofL 17 Fx0)), (x28, .inr (10, ofL 7 Fx28)), (x31, .inr (1, ofL 10 Fx31)), (x3, .inr (7, ofL 5 Fx3)), (m0, .inr (12, ofL 88 (updV (updV Fm0 0 (.int 0)) 0 (.int 1))))] H := hP
      have hD : va_D A [(aout, .inl (G.2.2.2.2, 1, .inr (.inl ((fun _ => 0))))), (x0, .inr (11, ofL 17 Fx0)), (x28, .inr (10, ofL 7 Fx28)), (x31, .inr (1, ofL 10 Fx31)), (x3, .inr (7, ofL 5 Fx3)), (m0, .inr (12, ofL 88 (updV (updV Fm0 0 (.int 0)) 0 (.int 1))))] := hD
      refine lv_iload hx hb dL_law_1656 (lv_at hl 1 rfl) ?_
      refine lv_icmp_eq (x := 1) (y := 1) (tgt := 1663) hx hb dL_law_1658 (by decide) (fun c_60 => ?_) (fun c_60 => ?_)
      rotate_left
      · exact absurd (by decide) c_60
      refine lv_iload hx hb dL_law_1663 (lv_at hl 1 rfl) ?_
      refine lv_if_ne (x := 1) (tgt := 1680) hx hb dL_law_1665 (by decide) (fun c_61 => ?_) (fun c_61 => ?_)
      rotate_left
      · exact absurd c_61 (by decide)
      refine lv_goto (tgt := 2265) hx hb dL_law_1680 (by decide) ?_
      exact law_end hst C0 hA C hS (lv_sub hl [2, 6] rfl) (Nat.le_of_ble_eq_true rfl) (Nat.le_of_ble_eq_true rfl)
    ·
      have hP : va_P G.1 vwCl [(aout, .inl (G.2.2.2.2, 1, .inr (.inl ((fun _ => 0))))), (x0, .inr (11, ofL 17 Fx0)), (x28, .inr (10, ofL 7 Fx28)), (x31, .inr (1, ofL 10 Fx31)), (x3, .inr (7, ofL 5 Fx3)), (m0, .inr (12, ofL 88 (updV (updV Fm0 0 (.int 0)) 0 (.int 1))))] H := hP
      have hD : va_D A [(aout, .inl (G.2.2.2.2, 1, .inr (.inl ((fun _ => 0))))), (x0, .inr (11, ofL 17 Fx0)), (x28, .inr (10, ofL 7 Fx28)), (x31, .inr (1, ofL 10 Fx31)), (x3, .inr (7, ofL 5 Fx3)), (m0, .inr (12, ofL 88 (updV (updV Fm0 0 (.int 0)) 0 (.int 1))))] := hD
      refine lv_istore (lv' := [(6, .int 0), (5, .int 1), (0, .ref b), (1, .ref x0), (2, .ref m0), (3, .ref aout), (4, .int 0)]) hx hb dL_law_1650 hl (by decide) rfl (fun ls hl => ?_)
      refine lv_aload_n hx hb dL_law_1652 rfl (lv_at hl 4 rfl) ?_
      refine k_callVi (wr := [(aout, .inl (G.2.2.2.2, 1, .inr (.inl ((fun _ => 0))))), (x0, .inr (11, ofL 17 Fx0)), (x28, .inr (10, ofL 7 Fx28)), (x31, .inr (1, ofL 10 Fx31)), (x3, .inr (7, ofL 5 Fx3))]) (rest := []) li_L_118 C (c_X12_thrown l G H.size m0 (updV (updV Fm0 0 (.int 0)) 0 (.int 1)) 1 rfl) (kR rfl) hP hD hS [5] [0, 1, 2, 3, 4] rfl rfl rfl rfl (by decide) 0 12 rfl rfl rfl hl.1 rfl (Nat.le_of_ble_eq_true rfl) dL_law_1653 (fun rr63 uu64 H locs hw62 hP hD hS => ?_)
      obtain rfl : rr63 = 1 := hw62
      have hP : va_P G.1 vwCl [(aout, .inl (G.2.2.2.2, 1, .inr (.inl ((fun _ => 0))))), (x0, .inr (11, ofL 17 Fx0)), (x28, .inr (10, ofL 7 Fx28)), (x31, .inr (1, ofL 10 Fx31)), (x3, .inr (7, ofL 5 Fx3)), (m0, .inr (12, ofL 88 (updV (updV Fm0 0 (.int 0)) 0 (.int 1))))] H := hP
      have hD : va_D A [(aout, .inl (G.2.2.2.2, 1, .inr (.inl ((fun _ => 0))))), (x0, .inr (11, ofL 17 Fx0)), (x28, .inr (10, ofL 7 Fx28)), (x31, .inr (1, ofL 10 Fx31)), (x3, .inr (7, ofL 5 Fx3)), (m0, .inr (12, ofL 88 (updV (updV Fm0 0 (.int 0)) 0 (.int 1))))] := hD
      refine lv_iload hx hb dL_law_1656 (lv_at hl 1 rfl) ?_
      refine lv_icmp_eq (x := 1) (y := 1) (tgt := 1663) hx hb dL_law_1658 (by decide) (fun c_65 => ?_) (fun c_65 => ?_)
      rotate_left
      · exact absurd (by decide) c_65
      refine lv_iload hx hb dL_law_1663 (lv_at hl 1 rfl) ?_
      refine lv_if_ne (x := 1) (tgt := 1680) hx hb dL_law_1665 (by decide) (fun c_66 => ?_) (fun c_66 => ?_)
      rotate_left
      · exact absurd c_66 (by decide)
      refine lv_goto (tgt := 2265) hx hb dL_law_1680 (by decide) ?_
      exact law_end hst C0 hA C hS (lv_sub hl [2, 6] rfl) (Nat.le_of_ble_eq_true rfl) (Nat.le_of_ble_eq_true rfl)
    ·
      have hP : va_P G.1 vwCl [(aout, .inl (G.2.2.2.2, 1, .inr (.inl ((fun _ => 0))))), (x0, .inr (11, ofL 17 Fx0)), (x28, .inr (10, ofL 7 Fx28)), (x31, .inr (1, ofL 10 Fx31)), (x3, .inr (7, ofL 5 Fx3)), (m0, .inr (12, ofL 88 (updV Fm0 0 (.int 0))))] H := hP
      have hD : va_D A [(aout, .inl (G.2.2.2.2, 1, .inr (.inl ((fun _ => 0))))), (x0, .inr (11, ofL 17 Fx0)), (x28, .inr (10, ofL 7 Fx28)), (x31, .inr (1, ofL 10 Fx31)), (x3, .inr (7, ofL 5 Fx3)), (m0, .inr (12, ofL 88 (updV Fm0 0 (.int 0))))] := hD
      refine lv_istore (lv' := [(6, .int (-1)), (5, .int 1), (0, .ref b), (1, .ref x0), (2, .ref m0), (3, .ref aout), (4, .int 0)]) hx hb dL_law_1650 hl (by decide) rfl (fun ls hl => ?_)
      refine lv_aload_n hx hb dL_law_1652 rfl (lv_at hl 4 rfl) ?_
      refine k_callVi (wr := [(aout, .inl (G.2.2.2.2, 1, .inr (.inl ((fun _ => 0))))), (x0, .inr (11, ofL 17 Fx0)), (x28, .inr (10, ofL 7 Fx28)), (x31, .inr (1, ofL 10 Fx31)), (x3, .inr (7, ofL 5 Fx3))]) (rest := []) li_L_118 C (c_X12_thrown l G H.size m0 (updV Fm0 0 (.int 0)) 0 rfl) (kR rfl) hP hD hS [5] [0, 1, 2, 3, 4] rfl rfl rfl rfl (by decide) 0 12 rfl rfl rfl hl.1 rfl (Nat.le_of_ble_eq_true rfl) dL_law_1653 (fun rr68 uu69 H locs hw67 hP hD hS => ?_)
      obtain rfl : rr68 = 0 := hw67
      have hP : va_P G.1 vwCl [(aout, .inl (G.2.2.2.2, 1, .inr (.inl ((fun _ => 0))))), (x0, .inr (11, ofL 17 Fx0)), (x28, .inr (10, ofL 7 Fx28)), (x31, .inr (1, ofL 10 Fx31)), (x3, .inr (7, ofL 5 Fx3)), (m0, .inr (12, ofL 88 (updV Fm0 0 (.int 0))))] H := hP
      have hD : va_D A [(aout, .inl (G.2.2.2.2, 1, .inr (.inl ((fun _ => 0))))), (x0, .inr (11, ofL 17 Fx0)), (x28, .inr (10, ofL 7 Fx28)), (x31, .inr (1, ofL 10 Fx31)), (x3, .inr (7, ofL 5 Fx3)), (m0, .inr (12, ofL 88 (updV Fm0 0 (.int 0))))] := hD
      refine lv_iload hx hb dL_law_1656 (lv_at hl 1 rfl) ?_
      refine lv_icmp_eq (x := 0) (y := 1) (tgt := 1663) hx hb dL_law_1658 (by decide) (fun c_70 => ?_) (fun c_70 => ?_)
      · exact absurd c_70 (by decide)
      refine lv_iconst (v := 0) hx hb dL_law_1661 (by decide) ?_
      exfalso
      have e9_0 : (0 : Int32).toInt = 0 := by decide
      have e9_1 : (1 : Int32).toInt = 1 := by decide
      have e9_2 : (2 : Int32).toInt = 2 := by decide
      have e9_3 : (3 : Int32).toInt = 3 := by decide
      simp only [← Int32.toInt_inj] at c_50 c_51
      simp only [Int32.lt_iff_toInt_lt, Int32.le_iff_toInt_le] at c_5 c_6 c_48 c_49
      omega
    ·
      exact absurd (by decide) c_6
    ·
      exact absurd (by decide) c_6
  ·
    have hP : va_P G.1 vwCl [(m0, .inr (12, ofL 88 Fm0)), (aout, .inl (G.2.2.2.2, 1, .inr (.inl (vp_updL (fun _ => 0) 0 0)))), (x0, .inr (11, ofL 17 Fx0)), (x28, .inr (10, ofL 7 (updV (updV (updV Fx28 4 (.int 0)) 5 (.int (-1))) 6 (.int (-1))))), (x31, .inr (1, ofL 10 Fx31)), (x3, .inr (7, ofL 5 Fx3))] H := hP
    have hD : va_D A [(m0, .inr (12, ofL 88 Fm0)), (aout, .inl (G.2.2.2.2, 1, .inr (.inl (vp_updL (fun _ => 0) 0 0)))), (x0, .inr (11, ofL 17 Fx0)), (x28, .inr (10, ofL 7 (updV (updV (updV Fx28 4 (.int 0)) 5 (.int (-1))) 6 (.int (-1))))), (x31, .inr (1, ofL 10 Fx31)), (x3, .inr (7, ofL 5 Fx3))] := hD
    refine lv_istore (lv' := [(5, .int 0), (0, .ref b), (1, .ref x0), (2, .ref m0), (3, .ref aout), (4, .int 0)]) hx hb dL_law_1638 hl (by decide) rfl (fun ls hl => ?_)
    refine lv_aload_n hx hb dL_law_1640 rfl (lv_at hl 3 rfl) ?_
    refine lv_aload_n hx hb dL_law_1641 rfl (lv_at hl 1 rfl) ?_
    refine lv_iload hx hb dL_law_1642 (lv_at hl 5 rfl) ?_
    refine lv_iconst (v := 1) hx hb dL_law_1644 (by decide) ?_
    refine lv_iadd hx hb dL_law_1645 ?_
    refine k_eqi (y := 1) (by decide) ?_
    refine va_sld hx hb hX hbl hbA hS (k_in (by decide)) dL_law_1646 ?_
    refine k_eqi (y := 0) hv1 ?_
    refine k_callVi (wr := [(aout, .inl (G.2.2.2.2, 1, .inr (.inl (vp_updL (fun _ => 0) 0 0)))), (x0, .inr (11, ofL 17 Fx0)), (x28, .inr (10, ofL 7 (updV (updV (updV Fx28 4 (.int 0)) 5 (.int (-1))) 6 (.int (-1))))), (x31, .inr (1, ofL 10 Fx31)), (x3, .inr (7, ofL 5 Fx3))]) (rest := []) li_L_205 C (c_X12_fits l G H.size m0 0 Fm0 e_m0_1) (kR rfl) hP hD hS [0] [1, 2, 3, 4, 5] rfl rfl rfl rfl (by decide) 0 12 rfl rfl rfl hl.1 rfl (Nat.le_of_ble_eq_true rfl) dL_law_1647 (fun rr72 uu73 H locs hw71 hP hD hS => ?_)
    rcases hw71 with ⟨rfl, rfl, c_74⟩ | ⟨rfl, rfl, c_75, c_76⟩ | ⟨rfl, rfl, c_77, c_78, c_79, c_80⟩ | ⟨rfl, rfl, c_81, c_82, c_83, c_84⟩ | ⟨rfl, rfl, c_85, c_86, c_87⟩
    ·
      exact absurd c_74 (by decide)
    ·
      exact absurd c_76 (by decide)
    ·
      exact absurd (by decide) c_79
    ·
      exact absurd (by decide) c_83
    ·
      have hP : va_P G.1 vwCl [(aout, .inl (G.2.2.2.2, 1, .inr (.inl (vp_updL (fun _ => 0) 0 0)))), (x0, .inr (11, ofL 17 Fx0)), (x28, .inr (10, ofL 7 (updV (updV (updV Fx28 4 (.int 0)) 5 (.int (-1))) 6 (.int (-1))))), (x31, .inr (1, ofL 10 Fx31)), (x3, .inr (7, ofL 5 Fx3)), (m0, .inr (12, ofL 88 (updV Fm0 0 (.int 0))))] H := hP
      have hD : va_D A [(aout, .inl (G.2.2.2.2, 1, .inr (.inl (vp_updL (fun _ => 0) 0 0)))), (x0, .inr (11, ofL 17 Fx0)), (x28, .inr (10, ofL 7 (updV (updV (updV Fx28 4 (.int 0)) 5 (.int (-1))) 6 (.int (-1))))), (x31, .inr (1, ofL 10 Fx31)), (x3, .inr (7, ofL 5 Fx3)), (m0, .inr (12, ofL 88 (updV Fm0 0 (.int 0))))] := hD
      refine lv_istore (lv' := [(6, .int 0), (5, .int 0), (0, .ref b), (1, .ref x0), (2, .ref m0), (3, .ref aout), (4, .int 0)]) hx hb dL_law_1650 hl (by decide) rfl (fun ls hl => ?_)
      refine lv_aload_n hx hb dL_law_1652 rfl (lv_at hl 4 rfl) ?_
      refine k_callVi (wr := [(aout, .inl (G.2.2.2.2, 1, .inr (.inl (vp_updL (fun _ => 0) 0 0)))), (x0, .inr (11, ofL 17 Fx0)), (x28, .inr (10, ofL 7 (updV (updV (updV Fx28 4 (.int 0)) 5 (.int (-1))) 6 (.int (-1))))), (x31, .inr (1, ofL 10 Fx31)), (x3, .inr (7, ofL 5 Fx3))]) (rest := []) li_L_118 C (c_X12_thrown l G H.size m0 (updV Fm0 0 (.int 0)) 0 rfl) (kR rfl) hP hD hS [5] [0, 1, 2, 3, 4] rfl rfl rfl rfl (by decide) 0 12 rfl rfl rfl hl.1 rfl (Nat.le_of_ble_eq_true rfl) dL_law_1653 (fun rr89 uu90 H locs hw88 hP hD hS => ?_)
      obtain rfl : rr89 = 0 := hw88
      have hP : va_P G.1 vwCl [(aout, .inl (G.2.2.2.2, 1, .inr (.inl (vp_updL (fun _ => 0) 0 0)))), (x0, .inr (11, ofL 17 Fx0)), (x28, .inr (10, ofL 7 (updV (updV (updV Fx28 4 (.int 0)) 5 (.int (-1))) 6 (.int (-1))))), (x31, .inr (1, ofL 10 Fx31)), (x3, .inr (7, ofL 5 Fx3)), (m0, .inr (12, ofL 88 (updV Fm0 0 (.int 0))))] H := hP
      have hD : va_D A [(aout, .inl (G.2.2.2.2, 1, .inr (.inl (vp_updL (fun _ => 0) 0 0)))), (x0, .inr (11, ofL 17 Fx0)), (x28, .inr (10, ofL 7 (updV (updV (updV Fx28 4 (.int 0)) 5 (.int (-1))) 6 (.int (-1))))), (x31, .inr (1, ofL 10 Fx31)), (x3, .inr (7, ofL 5 Fx3)), (m0, .inr (12, ofL 88 (updV Fm0 0 (.int 0))))] := hD
      refine lv_iload hx hb dL_law_1656 (lv_at hl 1 rfl) ?_
      refine lv_icmp_eq (x := 0) (y := 0) (tgt := 1663) hx hb dL_law_1658 (by decide) (fun c_91 => ?_) (fun c_91 => ?_)
      rotate_left
      · exact absurd (by decide) c_91
      refine lv_iload hx hb dL_law_1663 (lv_at hl 1 rfl) ?_
      refine lv_if_ne (x := 0) (tgt := 1680) hx hb dL_law_1665 (by decide) (fun c_92 => ?_) (fun c_92 => ?_)
      · exact absurd (by decide) c_92
      refine lv_aload_n hx hb dL_law_1668 rfl (lv_at hl 5 rfl) ?_
      refine lv_iconst (v := 0) hx hb dL_law_1669 (by decide) ?_
      refine k_lald C hP 0 rfl (k_in (by decide)) dL_law_1670 ?_
      refine k_eql (y := 0) rfl ?_
      refine lv_iload hx hb dL_law_1671 (lv_at hl 0 rfl) ?_
      refine lv_i2l (v := 0) hx hb dL_law_1673 (by decide) ?_
      refine W.lcmp hx hb dL_law_1674 ?_
      refine k_eqi (y := 0) (by decide) ?_
      refine lv_if_eq (x := 0) (tgt := 1680) hx hb dL_law_1675 (by decide) (fun c_93 => ?_) (fun c_93 => ?_)
      rotate_left
      · exact absurd (by decide) c_93
      refine lv_goto (tgt := 2265) hx hb dL_law_1680 (by decide) ?_
      exact law_end hst C0 hA C hS (lv_sub hl [2, 6] rfl) (Nat.le_of_ble_eq_true rfl) (Nat.le_of_ble_eq_true rfl)
  ·
    have hP : va_P G.1 vwCl [(m0, .inr (12, ofL 88 Fm0)), (aout, .inl (G.2.2.2.2, 1, .inr (.inl (vp_updL (fun _ => 0) 0 (-1))))), (x0, .inr (11, ofL 17 Fx0)), (x28, .inr (10, ofL 7 (updV (updV (updV Fx28 4 (.int 0)) 5 (.int (-1))) 6 (.int (-1))))), (x31, .inr (1, ofL 10 Fx31)), (x3, .inr (7, ofL 5 Fx3))] H := hP
    have hD : va_D A [(m0, .inr (12, ofL 88 Fm0)), (aout, .inl (G.2.2.2.2, 1, .inr (.inl (vp_updL (fun _ => 0) 0 (-1))))), (x0, .inr (11, ofL 17 Fx0)), (x28, .inr (10, ofL 7 (updV (updV (updV Fx28 4 (.int 0)) 5 (.int (-1))) 6 (.int (-1))))), (x31, .inr (1, ofL 10 Fx31)), (x3, .inr (7, ofL 5 Fx3))] := hD
    refine lv_istore (lv' := [(5, .int 0), (0, .ref b), (1, .ref x0), (2, .ref m0), (3, .ref aout), (4, .int 0)]) hx hb dL_law_1638 hl (by decide) rfl (fun ls hl => ?_)
    refine lv_aload_n hx hb dL_law_1640 rfl (lv_at hl 3 rfl) ?_
    refine lv_aload_n hx hb dL_law_1641 rfl (lv_at hl 1 rfl) ?_
    refine lv_iload hx hb dL_law_1642 (lv_at hl 5 rfl) ?_
    refine lv_iconst (v := 1) hx hb dL_law_1644 (by decide) ?_
    refine lv_iadd hx hb dL_law_1645 ?_
    refine k_eqi (y := 1) (by decide) ?_
    refine va_sld hx hb hX hbl hbA hS (k_in (by decide)) dL_law_1646 ?_
    refine k_eqi (y := 1) hv1 ?_
    refine k_callVi (wr := [(aout, .inl (G.2.2.2.2, 1, .inr (.inl (vp_updL (fun _ => 0) 0 (-1))))), (x0, .inr (11, ofL 17 Fx0)), (x28, .inr (10, ofL 7 (updV (updV (updV Fx28 4 (.int 0)) 5 (.int (-1))) 6 (.int (-1))))), (x31, .inr (1, ofL 10 Fx31)), (x3, .inr (7, ofL 5 Fx3))]) (rest := []) li_L_205 C (c_X12_fits l G H.size m0 1 Fm0 e_m0_1) (kR rfl) hP hD hS [0] [1, 2, 3, 4, 5] rfl rfl rfl rfl (by decide) 0 12 rfl rfl rfl hl.1 rfl (Nat.le_of_ble_eq_true rfl) dL_law_1647 (fun rr95 uu96 H locs hw94 hP hD hS => ?_)
    rcases hw94 with ⟨rfl, rfl, c_97⟩ | ⟨rfl, rfl, c_98, c_99⟩ | ⟨rfl, rfl, c_100, c_101, c_102, c_103⟩ | ⟨rfl, rfl, c_104, c_105, c_106, c_107⟩ | ⟨rfl, rfl, c_108, c_109, c_110⟩
    ·
      exact absurd c_97 (by decide)
    ·
      exact absurd c_99 (by decide)
    ·
      exact absurd (by decide) c_103
    ·
      have hP : va_P G.1 vwCl [(aout, .inl (G.2.2.2.2, 1, .inr (.inl (vp_updL (fun _ => 0) 0 (-1))))), (x0, .inr (11, ofL 17 Fx0)), (x28, .inr (10, ofL 7 (updV (updV (updV Fx28 4 (.int 0)) 5 (.int (-1))) 6 (.int (-1))))), (x31, .inr (1, ofL 10 Fx31)), (x3, .inr (7, ofL 5 Fx3)), (m0, .inr (12, ofL 88 (updV Fm0 0 (.int 0))))] H := hP
      have hD : va_D A [(aout, .inl (G.2.2.2.2, 1, .inr (.inl (vp_updL (fun _ => 0) 0 (-1))))), (x0, .inr (11, ofL 17 Fx0)), (x28, .inr (10, ofL 7 (updV (updV (updV Fx28 4 (.int 0)) 5 (.int (-1))) 6 (.int (-1))))), (x31, .inr (1, ofL 10 Fx31)), (x3, .inr (7, ofL 5 Fx3)), (m0, .inr (12, ofL 88 (updV Fm0 0 (.int 0))))] := hD
      refine lv_istore (lv' := [(6, .int (-1)), (5, .int 0), (0, .ref b), (1, .ref x0), (2, .ref m0), (3, .ref aout), (4, .int 0)]) hx hb dL_law_1650 hl (by decide) rfl (fun ls hl => ?_)
      refine lv_aload_n hx hb dL_law_1652 rfl (lv_at hl 4 rfl) ?_
      refine k_callVi (wr := [(aout, .inl (G.2.2.2.2, 1, .inr (.inl (vp_updL (fun _ => 0) 0 (-1))))), (x0, .inr (11, ofL 17 Fx0)), (x28, .inr (10, ofL 7 (updV (updV (updV Fx28 4 (.int 0)) 5 (.int (-1))) 6 (.int (-1))))), (x31, .inr (1, ofL 10 Fx31)), (x3, .inr (7, ofL 5 Fx3))]) (rest := []) li_L_118 C (c_X12_thrown l G H.size m0 (updV Fm0 0 (.int 0)) 0 rfl) (kR rfl) hP hD hS [5] [0, 1, 2, 3, 4] rfl rfl rfl rfl (by decide) 0 12 rfl rfl rfl hl.1 rfl (Nat.le_of_ble_eq_true rfl) dL_law_1653 (fun rr112 uu113 H locs hw111 hP hD hS => ?_)
      obtain rfl : rr112 = 0 := hw111
      have hP : va_P G.1 vwCl [(aout, .inl (G.2.2.2.2, 1, .inr (.inl (vp_updL (fun _ => 0) 0 (-1))))), (x0, .inr (11, ofL 17 Fx0)), (x28, .inr (10, ofL 7 (updV (updV (updV Fx28 4 (.int 0)) 5 (.int (-1))) 6 (.int (-1))))), (x31, .inr (1, ofL 10 Fx31)), (x3, .inr (7, ofL 5 Fx3)), (m0, .inr (12, ofL 88 (updV Fm0 0 (.int 0))))] H := hP
      have hD : va_D A [(aout, .inl (G.2.2.2.2, 1, .inr (.inl (vp_updL (fun _ => 0) 0 (-1))))), (x0, .inr (11, ofL 17 Fx0)), (x28, .inr (10, ofL 7 (updV (updV (updV Fx28 4 (.int 0)) 5 (.int (-1))) 6 (.int (-1))))), (x31, .inr (1, ofL 10 Fx31)), (x3, .inr (7, ofL 5 Fx3)), (m0, .inr (12, ofL 88 (updV Fm0 0 (.int 0))))] := hD
      refine lv_iload hx hb dL_law_1656 (lv_at hl 1 rfl) ?_
      refine lv_icmp_eq (x := 0) (y := 0) (tgt := 1663) hx hb dL_law_1658 (by decide) (fun c_114 => ?_) (fun c_114 => ?_)
      rotate_left
      · exact absurd (by decide) c_114
      refine lv_iload hx hb dL_law_1663 (lv_at hl 1 rfl) ?_
      refine lv_if_ne (x := 0) (tgt := 1680) hx hb dL_law_1665 (by decide) (fun c_115 => ?_) (fun c_115 => ?_)
      · exact absurd (by decide) c_115
      refine lv_aload_n hx hb dL_law_1668 rfl (lv_at hl 5 rfl) ?_
      refine lv_iconst (v := 0) hx hb dL_law_1669 (by decide) ?_
      refine k_lald C hP 0 rfl (k_in (by decide)) dL_law_1670 ?_
      refine k_eql (y := -1) rfl ?_
      refine lv_iload hx hb dL_law_1671 (lv_at hl 0 rfl) ?_
      refine lv_i2l (v := -1) hx hb dL_law_1673 (by decide) ?_
      refine W.lcmp hx hb dL_law_1674 ?_
      refine k_eqi (y := 0) (by decide) ?_
      refine lv_if_eq (x := 0) (tgt := 1680) hx hb dL_law_1675 (by decide) (fun c_116 => ?_) (fun c_116 => ?_)
      rotate_left
      · exact absurd (by decide) c_116
      refine lv_goto (tgt := 2265) hx hb dL_law_1680 (by decide) ?_
      exact law_end hst C0 hA C hS (lv_sub hl [2, 6] rfl) (Nat.le_of_ble_eq_true rfl) (Nat.le_of_ble_eq_true rfl)
    ·
      exact absurd c_110 (by decide)
  ·
    have hP : va_P G.1 vwCl [(m0, .inr (12, ofL 88 Fm0)), (aout, .inl (G.2.2.2.2, 1, .inr (.inl (vp_updL (fun _ => 0) 0 (-1))))), (x0, .inr (11, ofL 17 Fx0)), (x28, .inr (10, ofL 7 (updV (updV (updV Fx28 4 (.int 0)) 5 (.int (-1))) 6 (.int (-1))))), (x31, .inr (1, ofL 10 Fx31)), (x3, .inr (7, ofL 5 Fx3))] H := hP
    have hD : va_D A [(m0, .inr (12, ofL 88 Fm0)), (aout, .inl (G.2.2.2.2, 1, .inr (.inl (vp_updL (fun _ => 0) 0 (-1))))), (x0, .inr (11, ofL 17 Fx0)), (x28, .inr (10, ofL 7 (updV (updV (updV Fx28 4 (.int 0)) 5 (.int (-1))) 6 (.int (-1))))), (x31, .inr (1, ofL 10 Fx31)), (x3, .inr (7, ofL 5 Fx3))] := hD
    refine lv_istore (lv' := [(5, .int 0), (0, .ref b), (1, .ref x0), (2, .ref m0), (3, .ref aout), (4, .int 0)]) hx hb dL_law_1638 hl (by decide) rfl (fun ls hl => ?_)
    refine lv_aload_n hx hb dL_law_1640 rfl (lv_at hl 3 rfl) ?_
    refine lv_aload_n hx hb dL_law_1641 rfl (lv_at hl 1 rfl) ?_
    refine lv_iload hx hb dL_law_1642 (lv_at hl 5 rfl) ?_
    refine lv_iconst (v := 1) hx hb dL_law_1644 (by decide) ?_
    refine lv_iadd hx hb dL_law_1645 ?_
    refine k_eqi (y := 1) (by decide) ?_
    refine va_sld hx hb hX hbl hbA hS (k_in (by decide)) dL_law_1646 ?_
    refine k_eqi (y := 2) hv1 ?_
    refine k_callVi (wr := [(aout, .inl (G.2.2.2.2, 1, .inr (.inl (vp_updL (fun _ => 0) 0 (-1))))), (x0, .inr (11, ofL 17 Fx0)), (x28, .inr (10, ofL 7 (updV (updV (updV Fx28 4 (.int 0)) 5 (.int (-1))) 6 (.int (-1))))), (x31, .inr (1, ofL 10 Fx31)), (x3, .inr (7, ofL 5 Fx3))]) (rest := []) li_L_205 C (c_X12_fits l G H.size m0 2 Fm0 e_m0_1) (kR rfl) hP hD hS [0] [1, 2, 3, 4, 5] rfl rfl rfl rfl (by decide) 0 12 rfl rfl rfl hl.1 rfl (Nat.le_of_ble_eq_true rfl) dL_law_1647 (fun rr118 uu119 H locs hw117 hP hD hS => ?_)
    rcases hw117 with ⟨rfl, rfl, c_120⟩ | ⟨rfl, rfl, c_121, c_122⟩ | ⟨rfl, rfl, c_123, c_124, c_125, c_126⟩ | ⟨rfl, rfl, c_127, c_128, c_129, c_130⟩ | ⟨rfl, rfl, c_131, c_132, c_133⟩
    ·
      exact absurd c_120 (by decide)
    ·
      exact absurd c_122 (by decide)
    ·
      have hP : va_P G.1 vwCl [(aout, .inl (G.2.2.2.2, 1, .inr (.inl (vp_updL (fun _ => 0) 0 (-1))))), (x0, .inr (11, ofL 17 Fx0)), (x28, .inr (10, ofL 7 (updV (updV (updV Fx28 4 (.int 0)) 5 (.int (-1))) 6 (.int (-1))))), (x31, .inr (1, ofL 10 Fx31)), (x3, .inr (7, ofL 5 Fx3)), (m0, .inr (12, ofL 88 (updV Fm0 0 (.int 0))))] H := hP
      have hD : va_D A [(aout, .inl (G.2.2.2.2, 1, .inr (.inl (vp_updL (fun _ => 0) 0 (-1))))), (x0, .inr (11, ofL 17 Fx0)), (x28, .inr (10, ofL 7 (updV (updV (updV Fx28 4 (.int 0)) 5 (.int (-1))) 6 (.int (-1))))), (x31, .inr (1, ofL 10 Fx31)), (x3, .inr (7, ofL 5 Fx3)), (m0, .inr (12, ofL 88 (updV Fm0 0 (.int 0))))] := hD
      refine lv_istore (lv' := [(6, .int (-1)), (5, .int 0), (0, .ref b), (1, .ref x0), (2, .ref m0), (3, .ref aout), (4, .int 0)]) hx hb dL_law_1650 hl (by decide) rfl (fun ls hl => ?_)
      refine lv_aload_n hx hb dL_law_1652 rfl (lv_at hl 4 rfl) ?_
      refine k_callVi (wr := [(aout, .inl (G.2.2.2.2, 1, .inr (.inl (vp_updL (fun _ => 0) 0 (-1))))), (x0, .inr (11, ofL 17 Fx0)), (x28, .inr (10, ofL 7 (updV (updV (updV Fx28 4 (.int 0)) 5 (.int (-1))) 6 (.int (-1))))), (x31, .inr (1, ofL 10 Fx31)), (x3, .inr (7, ofL 5 Fx3))]) (rest := []) li_L_118 C (c_X12_thrown l G H.size m0 (updV Fm0 0 (.int 0)) 0 rfl) (kR rfl) hP hD hS [5] [0, 1, 2, 3, 4] rfl rfl rfl rfl (by decide) 0 12 rfl rfl rfl hl.1 rfl (Nat.le_of_ble_eq_true rfl) dL_law_1653 (fun rr135 uu136 H locs hw134 hP hD hS => ?_)
      obtain rfl : rr135 = 0 := hw134
      have hP : va_P G.1 vwCl [(aout, .inl (G.2.2.2.2, 1, .inr (.inl (vp_updL (fun _ => 0) 0 (-1))))), (x0, .inr (11, ofL 17 Fx0)), (x28, .inr (10, ofL 7 (updV (updV (updV Fx28 4 (.int 0)) 5 (.int (-1))) 6 (.int (-1))))), (x31, .inr (1, ofL 10 Fx31)), (x3, .inr (7, ofL 5 Fx3)), (m0, .inr (12, ofL 88 (updV Fm0 0 (.int 0))))] H := hP
      have hD : va_D A [(aout, .inl (G.2.2.2.2, 1, .inr (.inl (vp_updL (fun _ => 0) 0 (-1))))), (x0, .inr (11, ofL 17 Fx0)), (x28, .inr (10, ofL 7 (updV (updV (updV Fx28 4 (.int 0)) 5 (.int (-1))) 6 (.int (-1))))), (x31, .inr (1, ofL 10 Fx31)), (x3, .inr (7, ofL 5 Fx3)), (m0, .inr (12, ofL 88 (updV Fm0 0 (.int 0))))] := hD
      refine lv_iload hx hb dL_law_1656 (lv_at hl 1 rfl) ?_
      refine lv_icmp_eq (x := 0) (y := 0) (tgt := 1663) hx hb dL_law_1658 (by decide) (fun c_137 => ?_) (fun c_137 => ?_)
      rotate_left
      · exact absurd (by decide) c_137
      refine lv_iload hx hb dL_law_1663 (lv_at hl 1 rfl) ?_
      refine lv_if_ne (x := 0) (tgt := 1680) hx hb dL_law_1665 (by decide) (fun c_138 => ?_) (fun c_138 => ?_)
      · exact absurd (by decide) c_138
      refine lv_aload_n hx hb dL_law_1668 rfl (lv_at hl 5 rfl) ?_
      refine lv_iconst (v := 0) hx hb dL_law_1669 (by decide) ?_
      refine k_lald C hP 0 rfl (k_in (by decide)) dL_law_1670 ?_
      refine k_eql (y := -1) rfl ?_
      refine lv_iload hx hb dL_law_1671 (lv_at hl 0 rfl) ?_
      refine lv_i2l (v := -1) hx hb dL_law_1673 (by decide) ?_
      refine W.lcmp hx hb dL_law_1674 ?_
      refine k_eqi (y := 0) (by decide) ?_
      refine lv_if_eq (x := 0) (tgt := 1680) hx hb dL_law_1675 (by decide) (fun c_139 => ?_) (fun c_139 => ?_)
      rotate_left
      · exact absurd (by decide) c_139
      refine lv_goto (tgt := 2265) hx hb dL_law_1680 (by decide) ?_
      exact law_end hst C0 hA C hS (lv_sub hl [2, 6] rfl) (Nat.le_of_ble_eq_true rfl) (Nat.le_of_ble_eq_true rfl)
    ·
      exact absurd c_130 (by decide)
    ·
      exact absurd c_133 (by decide)
set_option maxHeartbeats 4000000 in
set_option maxRecDepth 100000 in
theorem law_27 {p : Program} {e : Env} {s : State} {m : MethodId} {below : List Frame} {meth : Method} {c : Code} {l : Launch} (hst : l.stackTraces = false) {b : Nat} {xs : Nat → Int32} {G : kG} {A : Nat → Prop} (C0 : lw_At p s m meth c b 6 xs) (hA : A = fun q : Nat => s.heap.size ≤ q) (C : kC G p s m c cL_law 8 RL A) {v1 : Int32} (hv1 : xs 1 = v1) {v2 : Int32} (hv2 : xs 2 = v2) {v3 : Int32} (hv3 : xs 3 = v3) {v4 : Int32} (hv4 : xs 4 = v4) {v5 : Int32} (hv5 : xs 5 = v5) {x0 : Nat} {Fx0 : Nat → Value} {x31 : Nat} {x32 : Nat} {x3 : Nat} {Fx3 : Nat → Value} {Fx31 : Nat → Value} {Fx32 : Nat → Value} {m0 : Nat} {Fm0 : Nat → Value} {aout : Nat} (e_x0_8 : Fx0 8 = .ref x31) (e_x0_12 : Fx0 12 = .ref x32) (e_x3_2 : Fx3 2 = .int 0) (e_x31_7 : Fx31 7 = .ref x3) (e_x32_0 : Fx32 0 = .ref x31) (e_m0_1 : Fm0 1 = .int 0) {H : Heap} {locs : List Loc} {ls : Array Slot} (hP : va_P G.1 vwCl [(x0, .inr (11, ofL 17 Fx0)), (x3, .inr (7, ofL 5 Fx3)), (x31, .inr (1, ofL 10 Fx31)), (x32, .inr (9, ofL 6 Fx32)), (m0, .inr (12, ofL 88 Fm0))] H) (hD : va_D A [(x0, .inr (11, ofL 17 Fx0)), (x3, .inr (7, ofL 5 Fx3)), (x31, .inr (1, ofL 10 Fx31)), (x32, .inr (9, ofL 6 Fx32)), (m0, .inr (12, ofL 88 Fm0))]) (hS : va_S A s.heap H locs) (hl : lv_has ls 8 [(0, .ref b), (1, .ref x0), (2, .ref m0), (3, .ref aout), (4, .int 0)]) :
    W p l e room_1 s m #[Value.ref b] below meth c H locs 1000 20000 (lw_Z below #[Value.ref b] s) (F0 m 1683 ls []) := by
  obtain ⟨hx, hb, hr, -, -, -, hX, hbl, hlocks, -⟩ := id C0
  have hbA : ¬ A b := by rw [hA]; exact Nat.not_le.mpr hbl
  refine lv_aload_n hx hb dL_law_1683 rfl (lv_at hl 1 rfl) ?_
  refine k_callVi (wr := [(m0, .inr (12, ofL 88 Fm0))]) (rest := []) li_L_206 C (c_X11_streams l G H.size x0 Fx0 x31 x32 Fx32 Fx31 x3 Fx3 e_x0_12 e_x0_8 e_x32_0 e_x31_7 e_x3_2) (kR rfl) hP hD hS [0, 3, 2, 1] [4] rfl rfl rfl rfl (by decide) 0 11 rfl rfl rfl hl.1 rfl (Nat.le_of_ble_eq_true rfl) dL_law_1684 (fun rr2 uu3 H locs hw1 hP hD hS => ?_)
  obtain rfl : rr2 = 0 := hw1
  have hP : va_P G.1 vwCl [(m0, .inr (12, ofL 88 Fm0)), (x0, .inr (11, ofL 17 Fx0)), (x31, .inr (1, ofL 10 Fx31)), (x3, .inr (7, ofL 5 Fx3)), (x32, .inr (9, ofL 6 (updV Fx32 5 (.int 0))))] H := hP
  have hD : va_D A [(m0, .inr (12, ofL 88 Fm0)), (x0, .inr (11, ofL 17 Fx0)), (x31, .inr (1, ofL 10 Fx31)), (x3, .inr (7, ofL 5 Fx3)), (x32, .inr (9, ofL 6 (updV Fx32 5 (.int 0))))] := hD
  refine lv_aload_n hx hb dL_law_1687 rfl (lv_at hl 2 rfl) ?_
  refine k_callVi (wr := [(x0, .inr (11, ofL 17 Fx0)), (x31, .inr (1, ofL 10 Fx31)), (x3, .inr (7, ofL 5 Fx3)), (x32, .inr (9, ofL 6 (updV Fx32 5 (.int 0))))]) (rest := [.int 0]) li_L_209 C (c_X12_streams l G H.size m0 Fm0 e_m0_1) (kR rfl) hP hD hS [0] [1, 2, 3, 4] rfl rfl rfl rfl (by decide) 0 12 rfl rfl rfl hl.1 rfl (Nat.le_of_ble_eq_true rfl) dL_law_1688 (fun rr5 uu6 H locs hw4 hP hD hS => ?_)
  obtain rfl : rr5 = 0 := hw4
  have hP : va_P G.1 vwCl [(x0, .inr (11, ofL 17 Fx0)), (x31, .inr (1, ofL 10 Fx31)), (x3, .inr (7, ofL 5 Fx3)), (x32, .inr (9, ofL 6 (updV Fx32 5 (.int 0)))), (m0, .inr (12, ofL 88 (updV (updV Fm0 0 (.int 0)) 79 (.int 0))))] H := hP
  have hD : va_D A [(x0, .inr (11, ofL 17 Fx0)), (x31, .inr (1, ofL 10 Fx31)), (x3, .inr (7, ofL 5 Fx3)), (x32, .inr (9, ofL 6 (updV Fx32 5 (.int 0)))), (m0, .inr (12, ofL 88 (updV (updV Fm0 0 (.int 0)) 79 (.int 0))))] := hD
  refine lv_icmp_eq (x := 0) (y := 0) (tgt := 2265) hx hb dL_law_1691 (by decide) (fun c_7 => ?_) (fun c_7 => ?_)
  rotate_left
  · exact absurd (by decide) c_7
  exact law_end hst C0 hA C hS (lv_sub hl [0, 4] rfl) (Nat.le_of_ble_eq_true rfl) (Nat.le_of_ble_eq_true rfl)
set_option maxHeartbeats 4000000 in
set_option maxRecDepth 100000 in
theorem law_28 {p : Program} {e : Env} {s : State} {m : MethodId} {below : List Frame} {meth : Method} {c : Code} {l : Launch} (hst : l.stackTraces = false) {b : Nat} {xs : Nat → Int32} {G : kG} {A : Nat → Prop} (C0 : lw_At p s m meth c b 6 xs) (hA : A = fun q : Nat => s.heap.size ≤ q) (C : kC G p s m c cL_law 8 RL A) {v1 : Int32} (hv1 : xs 1 = v1) {v2 : Int32} (hv2 : xs 2 = v2) {v3 : Int32} (hv3 : xs 3 = v3) {v4 : Int32} (hv4 : xs 4 = v4) {v5 : Int32} (hv5 : xs 5 = v5) {x0 : Nat} {Fx0 : Nat → Value} {x3 : Nat} {Fx3 : Nat → Value} {m0 : Nat} {Fm0 : Nat → Value} {aout : Nat} (e_x0_3 : Fx0 3 = .ref x3) (e_x3_2 : Fx3 2 = .int 0) (e_m0_1 : Fm0 1 = .int 0) {H : Heap} {locs : List Loc} {ls : Array Slot} (hP : va_P G.1 vwCl [(x0, .inr (11, ofL 17 Fx0)), (x3, .inr (7, ofL 5 Fx3)), (m0, .inr (12, ofL 88 Fm0)), (aout, .inl (G.2.2.2.2, 1, .inr (.inl (fun _ => 0))))] H) (hD : va_D A [(x0, .inr (11, ofL 17 Fx0)), (x3, .inr (7, ofL 5 Fx3)), (m0, .inr (12, ofL 88 Fm0)), (aout, .inl (G.2.2.2.2, 1, .inr (.inl (fun _ => 0))))]) (hS : va_S A s.heap H locs) (hl : lv_has ls 8 [(0, .ref b), (1, .ref x0), (2, .ref m0), (3, .ref aout), (4, .int 0)]) :
    W p l e room_1 s m #[Value.ref b] below meth c H locs 1000 20000 (lw_Z below #[Value.ref b] s) (F0 m 1696 ls []) := by
  obtain ⟨hx, hb, hr, -, -, -, hX, hbl, hlocks, -⟩ := id C0
  have hbA : ¬ A b := by rw [hA]; exact Nat.not_le.mpr hbl
  refine lv_aload_n hx hb dL_law_1696 rfl (lv_at hl 1 rfl) ?_
  refine lv_aload_n hx hb dL_law_1697 rfl (lv_at hl 0 rfl) ?_
  refine lv_iload hx hb dL_law_1698 (lv_at hl 4 rfl) ?_
  refine lv_iconst (v := 1) hx hb dL_law_1700 (by decide) ?_
  refine lv_iadd hx hb dL_law_1701 ?_
  refine k_eqi (y := 1) (by decide) ?_
  refine va_sld hx hb hX hbl hbA hS (k_in (by decide)) dL_law_1702 ?_
  refine k_eqi (y := v1) hv1 ?_
  refine lv_aload_n hx hb dL_law_1703 rfl (lv_at hl 0 rfl) ?_
  refine lv_iload hx hb dL_law_1704 (lv_at hl 4 rfl) ?_
  refine lv_iconst (v := 2) hx hb dL_law_1706 (by decide) ?_
  refine lv_iadd hx hb dL_law_1707 ?_
  refine k_eqi (y := 2) (by decide) ?_
  refine va_sld hx hb hX hbl hbA hS (k_in (by decide)) dL_law_1708 ?_
  refine k_eqi (y := v2) hv2 ?_
  refine lv_aload_n hx hb dL_law_1709 rfl (lv_at hl 0 rfl) ?_
  refine lv_iload hx hb dL_law_1710 (lv_at hl 4 rfl) ?_
  refine lv_iconst (v := 3) hx hb dL_law_1712 (by decide) ?_
  refine lv_iadd hx hb dL_law_1713 ?_
  refine k_eqi (y := 3) (by decide) ?_
  refine va_sld hx hb hX hbl hbA hS (k_in (by decide)) dL_law_1714 ?_
  refine k_eqi (y := v3) hv3 ?_
  refine lv_aload_n hx hb dL_law_1715 rfl (lv_at hl 0 rfl) ?_
  refine lv_iload hx hb dL_law_1716 (lv_at hl 4 rfl) ?_
  refine lv_iconst (v := 4) hx hb dL_law_1718 (by decide) ?_
  refine lv_iadd hx hb dL_law_1719 ?_
  refine k_eqi (y := 4) (by decide) ?_
  refine va_sld hx hb hX hbl hbA hS (k_in (by decide)) dL_law_1720 ?_
  refine k_eqi (y := v4) hv4 ?_
  refine lv_aload_n hx hb dL_law_1721 rfl (lv_at hl 3 rfl) ?_
  refine k_callHi (wr := [(m0, .inr (12, ofL 88 Fm0))]) (rest := []) li_L_210 C (c_L_term l hst G H.size x0 v1 v2 v3 v4 aout Fx0 x3 Fx3 (fun _ => 0) e_x0_3 e_x3_2) (kR rfl) hP hD hS [0, 1, 3] [2] rfl rfl rfl rfl (by decide) rfl hl.1 rfl (Nat.le_of_ble_eq_true rfl) dL_law_1722 (fun rr2 uu3 H locs hw1 hP hD hS => ?_)
  rcases hw1 with ⟨rfl, rfl, c_4⟩ | ⟨rfl, rfl, c_5⟩
  ·
    have hP : va_P G.1 vwCl [(m0, .inr (12, ofL 88 Fm0)), (aout, .inl (G.2.2.2.2, 1, .inr (.inl ((fun _ => 0))))), (x0, .inr (11, ofL 17 Fx0)), (x3, .inr (7, ofL 5 Fx3))] H := hP
    have hD : va_D A [(m0, .inr (12, ofL 88 Fm0)), (aout, .inl (G.2.2.2.2, 1, .inr (.inl ((fun _ => 0))))), (x0, .inr (11, ofL 17 Fx0)), (x3, .inr (7, ofL 5 Fx3))] := hD
    refine lv_istore (lv' := [(5, .int 1), (0, .ref b), (1, .ref x0), (2, .ref m0), (3, .ref aout), (4, .int 0)]) hx hb dL_law_1725 hl (by decide) rfl (fun ls hl => ?_)
    refine lv_aload_n hx hb dL_law_1727 rfl (lv_at hl 3 rfl) ?_
    refine lv_aload_n hx hb dL_law_1728 rfl (lv_at hl 1 rfl) ?_
    refine lv_iload hx hb dL_law_1729 (lv_at hl 5 rfl) ?_
    refine lv_iconst (v := 1) hx hb dL_law_1731 (by decide) ?_
    refine lv_iadd hx hb dL_law_1732 ?_
    refine k_eqi (y := 1) (by decide) ?_
    refine va_sld hx hb hX hbl hbA hS (k_in (by decide)) dL_law_1733 ?_
    refine k_eqi (y := v1) hv1 ?_
    refine lv_aload_n hx hb dL_law_1734 rfl (lv_at hl 1 rfl) ?_
    refine lv_iload hx hb dL_law_1735 (lv_at hl 5 rfl) ?_
    refine lv_iconst (v := 2) hx hb dL_law_1737 (by decide) ?_
    refine lv_iadd hx hb dL_law_1738 ?_
    refine k_eqi (y := 2) (by decide) ?_
    refine va_sld hx hb hX hbl hbA hS (k_in (by decide)) dL_law_1739 ?_
    refine k_eqi (y := v2) hv2 ?_
    refine lv_aload_n hx hb dL_law_1740 rfl (lv_at hl 1 rfl) ?_
    refine lv_iload hx hb dL_law_1741 (lv_at hl 5 rfl) ?_
    refine lv_iconst (v := 3) hx hb dL_law_1743 (by decide) ?_
    refine lv_iadd hx hb dL_law_1744 ?_
    refine k_eqi (y := 3) (by decide) ?_
    refine va_sld hx hb hX hbl hbA hS (k_in (by decide)) dL_law_1745 ?_
    refine k_eqi (y := v3) hv3 ?_
    refine lv_aload_n hx hb dL_law_1746 rfl (lv_at hl 1 rfl) ?_
    refine lv_iload hx hb dL_law_1747 (lv_at hl 5 rfl) ?_
    refine lv_iconst (v := 4) hx hb dL_law_1749 (by decide) ?_
    refine lv_iadd hx hb dL_law_1750 ?_
    refine k_eqi (y := 4) (by decide) ?_
    refine va_sld hx hb hX hbl hbA hS (k_in (by decide)) dL_law_1751 ?_
    refine k_eqi (y := v4) hv4 ?_
    refine k_callVi (wr := [(aout, .inl (G.2.2.2.2, 1, .inr (.inl ((fun _ => 0))))), (x0, .inr (11, ofL 17 Fx0)), (x3, .inr (7, ofL 5 Fx3))]) (rest := []) li_L_213 C (c_X12_term l G H.size m0 v1 v2 v3 v4 Fm0 e_m0_1) (kR rfl) hP hD hS [0] [1, 2, 3] rfl rfl rfl rfl (by decide) 0 12 rfl rfl rfl hl.1 rfl (Nat.le_of_ble_eq_true rfl) dL_law_1752 (fun rr7 uu8 H locs hw6 hP hD hS => ?_)
    rcases hw6 with ⟨rfl, rfl, c_9⟩ | ⟨rfl, rfl, c_10⟩
    ·
      have hP : va_P G.1 vwCl [(aout, .inl (G.2.2.2.2, 1, .inr (.inl ((fun _ => 0))))), (x0, .inr (11, ofL 17 Fx0)), (x3, .inr (7, ofL 5 Fx3)), (m0, .inr (12, ofL 88 (updV (updV Fm0 0 (.int 0)) 0 (.int 1))))] H := hP
      have hD : va_D A [(aout, .inl (G.2.2.2.2, 1, .inr (.inl ((fun _ => 0))))), (x0, .inr (11, ofL 17 Fx0)), (x3, .inr (7, ofL 5 Fx3)), (m0, .inr (12, ofL 88 (updV (updV Fm0 0 (.int 0)) 0 (.int 1))))] := hD
      refine lv_istore (lv' := [(6, .int 0), (5, .int 1), (0, .ref b), (1, .ref x0), (2, .ref m0), (3, .ref aout), (4, .int 0)]) hx hb dL_law_1755 hl (by decide) rfl (fun ls hl => ?_)
      refine lv_aload_n hx hb dL_law_1757 rfl (lv_at hl 4 rfl) ?_
      refine k_callVi (wr := [(aout, .inl (G.2.2.2.2, 1, .inr (.inl ((fun _ => 0))))), (x0, .inr (11, ofL 17 Fx0)), (x3, .inr (7, ofL 5 Fx3))]) (rest := []) li_L_118 C (c_X12_thrown l G H.size m0 (updV (updV Fm0 0 (.int 0)) 0 (.int 1)) 1 rfl) (kR rfl) hP hD hS [3] [0, 1, 2] rfl rfl rfl rfl (by decide) 0 12 rfl rfl rfl hl.1 rfl (Nat.le_of_ble_eq_true rfl) dL_law_1758 (fun rr12 uu13 H locs hw11 hP hD hS => ?_)
      obtain rfl : rr12 = 1 := hw11
      have hP : va_P G.1 vwCl [(aout, .inl (G.2.2.2.2, 1, .inr (.inl ((fun _ => 0))))), (x0, .inr (11, ofL 17 Fx0)), (x3, .inr (7, ofL 5 Fx3)), (m0, .inr (12, ofL 88 (updV (updV Fm0 0 (.int 0)) 0 (.int 1))))] H := hP
      have hD : va_D A [(aout, .inl (G.2.2.2.2, 1, .inr (.inl ((fun _ => 0))))), (x0, .inr (11, ofL 17 Fx0)), (x3, .inr (7, ofL 5 Fx3)), (m0, .inr (12, ofL 88 (updV (updV Fm0 0 (.int 0)) 0 (.int 1))))] := hD
      refine lv_iload hx hb dL_law_1761 (lv_at hl 1 rfl) ?_
      refine lv_icmp_eq (x := 1) (y := 1) (tgt := 1768) hx hb dL_law_1763 (by decide) (fun c_14 => ?_) (fun c_14 => ?_)
      rotate_left
      · exact absurd (by decide) c_14
      refine lv_iload hx hb dL_law_1768 (lv_at hl 1 rfl) ?_
      refine lv_if_ne (x := 1) (tgt := 1785) hx hb dL_law_1770 (by decide) (fun c_15 => ?_) (fun c_15 => ?_)
      rotate_left
      · exact absurd c_15 (by decide)
      refine lv_goto (tgt := 2265) hx hb dL_law_1785 (by decide) ?_
      exact law_end hst C0 hA C hS (lv_sub hl [2, 6] rfl) (Nat.le_of_ble_eq_true rfl) (Nat.le_of_ble_eq_true rfl)
    ·
      have hP : va_P G.1 vwCl [(aout, .inl (G.2.2.2.2, 1, .inr (.inl ((fun _ => 0))))), (x0, .inr (11, ofL 17 Fx0)), (x3, .inr (7, ofL 5 Fx3)), (m0, .inr (12, ofL 88 (updV (updV Fm0 0 (.int 0)) 0 (.int 1))))] H := hP
      have hD : va_D A [(aout, .inl (G.2.2.2.2, 1, .inr (.inl ((fun _ => 0))))), (x0, .inr (11, ofL 17 Fx0)), (x3, .inr (7, ofL 5 Fx3)), (m0, .inr (12, ofL 88 (updV (updV Fm0 0 (.int 0)) 0 (.int 1))))] := hD
      refine lv_istore (lv' := [(6, .int 0), (5, .int 1), (0, .ref b), (1, .ref x0), (2, .ref m0), (3, .ref aout), (4, .int 0)]) hx hb dL_law_1755 hl (by decide) rfl (fun ls hl => ?_)
      refine lv_aload_n hx hb dL_law_1757 rfl (lv_at hl 4 rfl) ?_
      refine k_callVi (wr := [(aout, .inl (G.2.2.2.2, 1, .inr (.inl ((fun _ => 0))))), (x0, .inr (11, ofL 17 Fx0)), (x3, .inr (7, ofL 5 Fx3))]) (rest := []) li_L_118 C (c_X12_thrown l G H.size m0 (updV (updV Fm0 0 (.int 0)) 0 (.int 1)) 1 rfl) (kR rfl) hP hD hS [3] [0, 1, 2] rfl rfl rfl rfl (by decide) 0 12 rfl rfl rfl hl.1 rfl (Nat.le_of_ble_eq_true rfl) dL_law_1758 (fun rr17 uu18 H locs hw16 hP hD hS => ?_)
      obtain rfl : rr17 = 1 := hw16
      have hP : va_P G.1 vwCl [(aout, .inl (G.2.2.2.2, 1, .inr (.inl ((fun _ => 0))))), (x0, .inr (11, ofL 17 Fx0)), (x3, .inr (7, ofL 5 Fx3)), (m0, .inr (12, ofL 88 (updV (updV Fm0 0 (.int 0)) 0 (.int 1))))] H := hP
      have hD : va_D A [(aout, .inl (G.2.2.2.2, 1, .inr (.inl ((fun _ => 0))))), (x0, .inr (11, ofL 17 Fx0)), (x3, .inr (7, ofL 5 Fx3)), (m0, .inr (12, ofL 88 (updV (updV Fm0 0 (.int 0)) 0 (.int 1))))] := hD
      refine lv_iload hx hb dL_law_1761 (lv_at hl 1 rfl) ?_
      refine lv_icmp_eq (x := 1) (y := 1) (tgt := 1768) hx hb dL_law_1763 (by decide) (fun c_19 => ?_) (fun c_19 => ?_)
      rotate_left
      · exact absurd (by decide) c_19
      refine lv_iload hx hb dL_law_1768 (lv_at hl 1 rfl) ?_
      refine lv_if_ne (x := 1) (tgt := 1785) hx hb dL_law_1770 (by decide) (fun c_20 => ?_) (fun c_20 => ?_)
      rotate_left
      · exact absurd c_20 (by decide)
      refine lv_goto (tgt := 2265) hx hb dL_law_1785 (by decide) ?_
      exact law_end hst C0 hA C hS (lv_sub hl [2, 6] rfl) (Nat.le_of_ble_eq_true rfl) (Nat.le_of_ble_eq_true rfl)
  ·
    have hP : va_P G.1 vwCl [(m0, .inr (12, ofL 88 Fm0)), (aout, .inl (G.2.2.2.2, 1, .inr (.inl ((fun _ => 0))))), (x0, .inr (11, ofL 17 Fx0)), (x3, .inr (7, ofL 5 Fx3))] H := hP
    have hD : va_D A [(m0, .inr (12, ofL 88 Fm0)), (aout, .inl (G.2.2.2.2, 1, .inr (.inl ((fun _ => 0))))), (x0, .inr (11, ofL 17 Fx0)), (x3, .inr (7, ofL 5 Fx3))] := hD
    refine lv_istore (lv' := [(5, .int 1), (0, .ref b), (1, .ref x0), (2, .ref m0), (3, .ref aout), (4, .int 0)]) hx hb dL_law_1725 hl (by decide) rfl (fun ls hl => ?_)
    refine lv_aload_n hx hb dL_law_1727 rfl (lv_at hl 3 rfl) ?_
    refine lv_aload_n hx hb dL_law_1728 rfl (lv_at hl 1 rfl) ?_
    refine lv_iload hx hb dL_law_1729 (lv_at hl 5 rfl) ?_
    refine lv_iconst (v := 1) hx hb dL_law_1731 (by decide) ?_
    refine lv_iadd hx hb dL_law_1732 ?_
    refine k_eqi (y := 1) (by decide) ?_
    refine va_sld hx hb hX hbl hbA hS (k_in (by decide)) dL_law_1733 ?_
    refine k_eqi (y := v1) hv1 ?_
    refine lv_aload_n hx hb dL_law_1734 rfl (lv_at hl 1 rfl) ?_
    refine lv_iload hx hb dL_law_1735 (lv_at hl 5 rfl) ?_
    refine lv_iconst (v := 2) hx hb dL_law_1737 (by decide) ?_
    refine lv_iadd hx hb dL_law_1738 ?_
    refine k_eqi (y := 2) (by decide) ?_
    refine va_sld hx hb hX hbl hbA hS (k_in (by decide)) dL_law_1739 ?_
    refine k_eqi (y := v2) hv2 ?_
    refine lv_aload_n hx hb dL_law_1740 rfl (lv_at hl 1 rfl) ?_
    refine lv_iload hx hb dL_law_1741 (lv_at hl 5 rfl) ?_
    refine lv_iconst (v := 3) hx hb dL_law_1743 (by decide) ?_
    refine lv_iadd hx hb dL_law_1744 ?_
    refine k_eqi (y := 3) (by decide) ?_
    refine va_sld hx hb hX hbl hbA hS (k_in (by decide)) dL_law_1745 ?_
    refine k_eqi (y := v3) hv3 ?_
    refine lv_aload_n hx hb dL_law_1746 rfl (lv_at hl 1 rfl) ?_
    refine lv_iload hx hb dL_law_1747 (lv_at hl 5 rfl) ?_
    refine lv_iconst (v := 4) hx hb dL_law_1749 (by decide) ?_
    refine lv_iadd hx hb dL_law_1750 ?_
    refine k_eqi (y := 4) (by decide) ?_
    refine va_sld hx hb hX hbl hbA hS (k_in (by decide)) dL_law_1751 ?_
    refine k_eqi (y := v4) hv4 ?_
    refine k_callVi (wr := [(aout, .inl (G.2.2.2.2, 1, .inr (.inl ((fun _ => 0))))), (x0, .inr (11, ofL 17 Fx0)), (x3, .inr (7, ofL 5 Fx3))]) (rest := []) li_L_213 C (c_X12_term l G H.size m0 v1 v2 v3 v4 Fm0 e_m0_1) (kR rfl) hP hD hS [0] [1, 2, 3] rfl rfl rfl rfl (by decide) 0 12 rfl rfl rfl hl.1 rfl (Nat.le_of_ble_eq_true rfl) dL_law_1752 (fun rr22 uu23 H locs hw21 hP hD hS => ?_)
    rcases hw21 with ⟨rfl, rfl, c_24⟩ | ⟨rfl, rfl, c_25⟩
    ·
      have hP : va_P G.1 vwCl [(aout, .inl (G.2.2.2.2, 1, .inr (.inl ((fun _ => 0))))), (x0, .inr (11, ofL 17 Fx0)), (x3, .inr (7, ofL 5 Fx3)), (m0, .inr (12, ofL 88 (updV (updV Fm0 0 (.int 0)) 0 (.int 1))))] H := hP
      have hD : va_D A [(aout, .inl (G.2.2.2.2, 1, .inr (.inl ((fun _ => 0))))), (x0, .inr (11, ofL 17 Fx0)), (x3, .inr (7, ofL 5 Fx3)), (m0, .inr (12, ofL 88 (updV (updV Fm0 0 (.int 0)) 0 (.int 1))))] := hD
      refine lv_istore (lv' := [(6, .int 0), (5, .int 1), (0, .ref b), (1, .ref x0), (2, .ref m0), (3, .ref aout), (4, .int 0)]) hx hb dL_law_1755 hl (by decide) rfl (fun ls hl => ?_)
      refine lv_aload_n hx hb dL_law_1757 rfl (lv_at hl 4 rfl) ?_
      refine k_callVi (wr := [(aout, .inl (G.2.2.2.2, 1, .inr (.inl ((fun _ => 0))))), (x0, .inr (11, ofL 17 Fx0)), (x3, .inr (7, ofL 5 Fx3))]) (rest := []) li_L_118 C (c_X12_thrown l G H.size m0 (updV (updV Fm0 0 (.int 0)) 0 (.int 1)) 1 rfl) (kR rfl) hP hD hS [3] [0, 1, 2] rfl rfl rfl rfl (by decide) 0 12 rfl rfl rfl hl.1 rfl (Nat.le_of_ble_eq_true rfl) dL_law_1758 (fun rr27 uu28 H locs hw26 hP hD hS => ?_)
      obtain rfl : rr27 = 1 := hw26
      have hP : va_P G.1 vwCl [(aout, .inl (G.2.2.2.2, 1, .inr (.inl ((fun _ => 0))))), (x0, .inr (11, ofL 17 Fx0)), (x3, .inr (7, ofL 5 Fx3)), (m0, .inr (12, ofL 88 (updV (updV Fm0 0 (.int 0)) 0 (.int 1))))] H := hP
      have hD : va_D A [(aout, .inl (G.2.2.2.2, 1, .inr (.inl ((fun _ => 0))))), (x0, .inr (11, ofL 17 Fx0)), (x3, .inr (7, ofL 5 Fx3)), (m0, .inr (12, ofL 88 (updV (updV Fm0 0 (.int 0)) 0 (.int 1))))] := hD
      refine lv_iload hx hb dL_law_1761 (lv_at hl 1 rfl) ?_
      refine lv_icmp_eq (x := 1) (y := 1) (tgt := 1768) hx hb dL_law_1763 (by decide) (fun c_29 => ?_) (fun c_29 => ?_)
      rotate_left
      · exact absurd (by decide) c_29
      refine lv_iload hx hb dL_law_1768 (lv_at hl 1 rfl) ?_
      refine lv_if_ne (x := 1) (tgt := 1785) hx hb dL_law_1770 (by decide) (fun c_30 => ?_) (fun c_30 => ?_)
      rotate_left
      · exact absurd c_30 (by decide)
      refine lv_goto (tgt := 2265) hx hb dL_law_1785 (by decide) ?_
      exact law_end hst C0 hA C hS (lv_sub hl [2, 6] rfl) (Nat.le_of_ble_eq_true rfl) (Nat.le_of_ble_eq_true rfl)
    ·
      have hP : va_P G.1 vwCl [(aout, .inl (G.2.2.2.2, 1, .inr (.inl ((fun _ => 0))))), (x0, .inr (11, ofL 17 Fx0)), (x3, .inr (7, ofL 5 Fx3)), (m0, .inr (12, ofL 88 (updV (updV Fm0 0 (.int 0)) 0 (.int 1))))] H := hP
      have hD : va_D A [(aout, .inl (G.2.2.2.2, 1, .inr (.inl ((fun _ => 0))))), (x0, .inr (11, ofL 17 Fx0)), (x3, .inr (7, ofL 5 Fx3)), (m0, .inr (12, ofL 88 (updV (updV Fm0 0 (.int 0)) 0 (.int 1))))] := hD
      refine lv_istore (lv' := [(6, .int 0), (5, .int 1), (0, .ref b), (1, .ref x0), (2, .ref m0), (3, .ref aout), (4, .int 0)]) hx hb dL_law_1755 hl (by decide) rfl (fun ls hl => ?_)
      refine lv_aload_n hx hb dL_law_1757 rfl (lv_at hl 4 rfl) ?_
      refine k_callVi (wr := [(aout, .inl (G.2.2.2.2, 1, .inr (.inl ((fun _ => 0))))), (x0, .inr (11, ofL 17 Fx0)), (x3, .inr (7, ofL 5 Fx3))]) (rest := []) li_L_118 C (c_X12_thrown l G H.size m0 (updV (updV Fm0 0 (.int 0)) 0 (.int 1)) 1 rfl) (kR rfl) hP hD hS [3] [0, 1, 2] rfl rfl rfl rfl (by decide) 0 12 rfl rfl rfl hl.1 rfl (Nat.le_of_ble_eq_true rfl) dL_law_1758 (fun rr32 uu33 H locs hw31 hP hD hS => ?_)
      obtain rfl : rr32 = 1 := hw31
      have hP : va_P G.1 vwCl [(aout, .inl (G.2.2.2.2, 1, .inr (.inl ((fun _ => 0))))), (x0, .inr (11, ofL 17 Fx0)), (x3, .inr (7, ofL 5 Fx3)), (m0, .inr (12, ofL 88 (updV (updV Fm0 0 (.int 0)) 0 (.int 1))))] H := hP
      have hD : va_D A [(aout, .inl (G.2.2.2.2, 1, .inr (.inl ((fun _ => 0))))), (x0, .inr (11, ofL 17 Fx0)), (x3, .inr (7, ofL 5 Fx3)), (m0, .inr (12, ofL 88 (updV (updV Fm0 0 (.int 0)) 0 (.int 1))))] := hD
      refine lv_iload hx hb dL_law_1761 (lv_at hl 1 rfl) ?_
      refine lv_icmp_eq (x := 1) (y := 1) (tgt := 1768) hx hb dL_law_1763 (by decide) (fun c_34 => ?_) (fun c_34 => ?_)
      rotate_left
      · exact absurd (by decide) c_34
      refine lv_iload hx hb dL_law_1768 (lv_at hl 1 rfl) ?_
      refine lv_if_ne (x := 1) (tgt := 1785) hx hb dL_law_1770 (by decide) (fun c_35 => ?_) (fun c_35 => ?_)
      rotate_left
      · exact absurd c_35 (by decide)
      refine lv_goto (tgt := 2265) hx hb dL_law_1785 (by decide) ?_
      exact law_end hst C0 hA C hS (lv_sub hl [2, 6] rfl) (Nat.le_of_ble_eq_true rfl) (Nat.le_of_ble_eq_true rfl)
set_option maxHeartbeats 4000000 in
set_option maxRecDepth 100000 in
theorem law_29 {p : Program} {e : Env} {s : State} {m : MethodId} {below : List Frame} {meth : Method} {c : Code} {l : Launch} (hst : l.stackTraces = false) {b : Nat} {xs : Nat → Int32} {G : kG} {A : Nat → Prop} (C0 : lw_At p s m meth c b 6 xs) (hA : A = fun q : Nat => s.heap.size ≤ q) (C : kC G p s m c cL_law 8 RL A) {v1 : Int32} (hv1 : xs 1 = v1) {v2 : Int32} (hv2 : xs 2 = v2) {v3 : Int32} (hv3 : xs 3 = v3) {v4 : Int32} (hv4 : xs 4 = v4) {v5 : Int32} (hv5 : xs 5 = v5) {x0 : Nat} {Fx0 : Nat → Value} {x31 : Nat} {x32 : Nat} {x3 : Nat} {Fx3 : Nat → Value} {Fx31 : Nat → Value} {Fx32 : Nat → Value} {m0 : Nat} {Fm0 : Nat → Value} {aout : Nat} (e_x0_8 : Fx0 8 = .ref x31) (e_x0_12 : Fx0 12 = .ref x32) (e_x3_2 : Fx3 2 = .int 0) (e_x31_7 : Fx31 7 = .ref x3) (e_x32_0 : Fx32 0 = .ref x31) (e_m0_1 : Fm0 1 = .int 0) {H : Heap} {locs : List Loc} {ls : Array Slot} (hP : va_P G.1 vwCl [(x0, .inr (11, ofL 17 Fx0)), (x3, .inr (7, ofL 5 Fx3)), (x31, .inr (1, ofL 10 Fx31)), (x32, .inr (9, ofL 6 Fx32)), (m0, .inr (12, ofL 88 Fm0)), (aout, .inl (G.2.2.2.2, 1, .inr (.inl (fun _ => 0))))] H) (hD : va_D A [(x0, .inr (11, ofL 17 Fx0)), (x3, .inr (7, ofL 5 Fx3)), (x31, .inr (1, ofL 10 Fx31)), (x32, .inr (9, ofL 6 Fx32)), (m0, .inr (12, ofL 88 Fm0)), (aout, .inl (G.2.2.2.2, 1, .inr (.inl (fun _ => 0))))]) (hS : va_S A s.heap H locs) (hl : lv_has ls 8 [(0, .ref b), (1, .ref x0), (2, .ref m0), (3, .ref aout), (4, .int 0)]) :
    W p l e room_1 s m #[Value.ref b] below meth c H locs 1000 20000 (lw_Z below #[Value.ref b] s) (F0 m 1788 ls []) := by
  obtain ⟨hx, hb, hr, -, -, -, hX, hbl, hlocks, -⟩ := id C0
  have hbA : ¬ A b := by rw [hA]; exact Nat.not_le.mpr hbl
  refine lv_aload_n hx hb dL_law_1788 rfl (lv_at hl 1 rfl) ?_
  refine lv_aload_n hx hb dL_law_1789 rfl (lv_at hl 0 rfl) ?_
  refine lv_iload hx hb dL_law_1790 (lv_at hl 4 rfl) ?_
  refine lv_iconst (v := 1) hx hb dL_law_1792 (by decide) ?_
  refine lv_iadd hx hb dL_law_1793 ?_
  refine k_eqi (y := 1) (by decide) ?_
  refine va_sld hx hb hX hbl hbA hS (k_in (by decide)) dL_law_1794 ?_
  refine k_eqi (y := v1) hv1 ?_
  refine lv_aload_n hx hb dL_law_1795 rfl (lv_at hl 0 rfl) ?_
  refine lv_iload hx hb dL_law_1796 (lv_at hl 4 rfl) ?_
  refine lv_iconst (v := 2) hx hb dL_law_1798 (by decide) ?_
  refine lv_iadd hx hb dL_law_1799 ?_
  refine k_eqi (y := 2) (by decide) ?_
  refine va_sld hx hb hX hbl hbA hS (k_in (by decide)) dL_law_1800 ?_
  refine k_eqi (y := v2) hv2 ?_
  refine lv_aload_n hx hb dL_law_1801 rfl (lv_at hl 3 rfl) ?_
  refine k_callHi (wr := [(m0, .inr (12, ofL 88 Fm0))]) (rest := []) li_L_214 C (c_L_on l hst G H.size x0 v1 v2 aout Fx0 x31 x32 Fx32 Fx31 x3 Fx3 (fun _ => 0) e_x0_12 e_x0_8 e_x32_0 e_x31_7 e_x3_2) (kR rfl) hP hD hS [0, 3, 2, 1, 5] [4] rfl rfl rfl rfl (by decide) rfl hl.1 rfl (Nat.le_of_ble_eq_true rfl) dL_law_1802 (fun rr2 uu3 H locs hw1 hP hD hS => ?_)
  rcases hw1 with ⟨rfl, rfl, c_4⟩ | ⟨rfl, rfl, c_5, c_6⟩ | ⟨rfl, rfl, c_7, c_8, c_9⟩ | ⟨rfl, rfl, c_10, c_11, c_12, c_13⟩ | ⟨rfl, rfl, c_14, c_15, c_16, c_17, c_18⟩ | ⟨rfl, rfl, c_19, c_20, c_21, c_22, rfl⟩
  ·
    have hP : va_P G.1 vwCl [(m0, .inr (12, ofL 88 Fm0)), (aout, .inl (G.2.2.2.2, 1, .inr (.inl ((fun _ => 0))))), (x0, .inr (11, ofL 17 Fx0)), (x32, .inr (9, ofL 6 Fx32)), (x31, .inr (1, ofL 10 Fx31)), (x3, .inr (7, ofL 5 Fx3))] H := hP
    have hD : va_D A [(m0, .inr (12, ofL 88 Fm0)), (aout, .inl (G.2.2.2.2, 1, .inr (.inl ((fun _ => 0))))), (x0, .inr (11, ofL 17 Fx0)), (x32, .inr (9, ofL 6 Fx32)), (x31, .inr (1, ofL 10 Fx31)), (x3, .inr (7, ofL 5 Fx3))] := hD
    refine lv_istore (lv' := [(5, .int 1), (0, .ref b), (1, .ref x0), (2, .ref m0), (3, .ref aout), (4, .int 0)]) hx hb dL_law_1805 hl (by decide) rfl (fun ls hl => ?_)
    refine lv_aload_n hx hb dL_law_1807 rfl (lv_at hl 3 rfl) ?_
    refine lv_aload_n hx hb dL_law_1808 rfl (lv_at hl 1 rfl) ?_
    refine lv_iload hx hb dL_law_1809 (lv_at hl 5 rfl) ?_
    refine lv_iconst (v := 1) hx hb dL_law_1811 (by decide) ?_
    refine lv_iadd hx hb dL_law_1812 ?_
    refine k_eqi (y := 1) (by decide) ?_
    refine va_sld hx hb hX hbl hbA hS (k_in (by decide)) dL_law_1813 ?_
    refine k_eqi (y := v1) hv1 ?_
    refine lv_aload_n hx hb dL_law_1814 rfl (lv_at hl 1 rfl) ?_
    refine lv_iload hx hb dL_law_1815 (lv_at hl 5 rfl) ?_
    refine lv_iconst (v := 2) hx hb dL_law_1817 (by decide) ?_
    refine lv_iadd hx hb dL_law_1818 ?_
    refine k_eqi (y := 2) (by decide) ?_
    refine va_sld hx hb hX hbl hbA hS (k_in (by decide)) dL_law_1819 ?_
    refine k_eqi (y := v2) hv2 ?_
    refine k_callVi (wr := [(aout, .inl (G.2.2.2.2, 1, .inr (.inl ((fun _ => 0))))), (x0, .inr (11, ofL 17 Fx0)), (x32, .inr (9, ofL 6 Fx32)), (x31, .inr (1, ofL 10 Fx31)), (x3, .inr (7, ofL 5 Fx3))]) (rest := []) li_L_216 C (c_X12_on l G H.size m0 v1 v2 Fm0 e_m0_1) (kR rfl) hP hD hS [0] [1, 2, 3, 4, 5] rfl rfl rfl rfl (by decide) 0 12 rfl rfl rfl hl.1 rfl (Nat.le_of_ble_eq_true rfl) dL_law_1820 (fun rr24 uu25 H locs hw23 hP hD hS => ?_)
    rcases hw23 with ⟨rfl, rfl, c_26⟩ | ⟨rfl, rfl, c_27, c_28⟩ | ⟨rfl, rfl, c_29, c_30, c_31⟩ | ⟨rfl, rfl, c_32, c_33, c_34, c_35⟩ | ⟨rfl, rfl, c_36, c_37, c_38, c_39, c_40⟩ | ⟨rfl, rfl, c_41, c_42, c_43, c_44, rfl⟩
    ·
      have hP : va_P G.1 vwCl [(aout, .inl (G.2.2.2.2, 1, .inr (.inl ((fun _ => 0))))), (x0, .inr (11, ofL 17 Fx0)), (x32, .inr (9, ofL 6 Fx32)), (x31, .inr (1, ofL 10 Fx31)), (x3, .inr (7, ofL 5 Fx3)), (m0, .inr (12, ofL 88 (updV (updV Fm0 0 (.int 0)) 0 (.int 1))))] H := hP
      have hD : va_D A [(aout, .inl (G.2.2.2.2, 1, .inr (.inl ((fun _ => 0))))), (x0, .inr (11, ofL 17 Fx0)), (x32, .inr (9, ofL 6 Fx32)), (x31, .inr (1, ofL 10 Fx31)), (x3, .inr (7, ofL 5 Fx3)), (m0, .inr (12, ofL 88 (updV (updV Fm0 0 (.int 0)) 0 (.int 1))))] := hD
      refine lv_istore (lv' := [(6, .int 0), (5, .int 1), (0, .ref b), (1, .ref x0), (2, .ref m0), (3, .ref aout), (4, .int 0)]) hx hb dL_law_1823 hl (by decide) rfl (fun ls hl => ?_)
      refine lv_aload_n hx hb dL_law_1825 rfl (lv_at hl 4 rfl) ?_
      refine k_callVi (wr := [(aout, .inl (G.2.2.2.2, 1, .inr (.inl ((fun _ => 0))))), (x0, .inr (11, ofL 17 Fx0)), (x32, .inr (9, ofL 6 Fx32)), (x31, .inr (1, ofL 10 Fx31)), (x3, .inr (7, ofL 5 Fx3))]) (rest := []) li_L_118 C (c_X12_thrown l G H.size m0 (updV (updV Fm0 0 (.int 0)) 0 (.int 1)) 1 rfl) (kR rfl) hP hD hS [5] [0, 1, 2, 3, 4] rfl rfl rfl rfl (by decide) 0 12 rfl rfl rfl hl.1 rfl (Nat.le_of_ble_eq_true rfl) dL_law_1826 (fun rr46 uu47 H locs hw45 hP hD hS => ?_)
      obtain rfl : rr46 = 1 := hw45
      have hP : va_P G.1 vwCl [(aout, .inl (G.2.2.2.2, 1, .inr (.inl ((fun _ => 0))))), (x0, .inr (11, ofL 17 Fx0)), (x32, .inr (9, ofL 6 Fx32)), (x31, .inr (1, ofL 10 Fx31)), (x3, .inr (7, ofL 5 Fx3)), (m0, .inr (12, ofL 88 (updV (updV Fm0 0 (.int 0)) 0 (.int 1))))] H := hP
      have hD : va_D A [(aout, .inl (G.2.2.2.2, 1, .inr (.inl ((fun _ => 0))))), (x0, .inr (11, ofL 17 Fx0)), (x32, .inr (9, ofL 6 Fx32)), (x31, .inr (1, ofL 10 Fx31)), (x3, .inr (7, ofL 5 Fx3)), (m0, .inr (12, ofL 88 (updV (updV Fm0 0 (.int 0)) 0 (.int 1))))] := hD
      refine lv_iload hx hb dL_law_1829 (lv_at hl 1 rfl) ?_
      refine lv_icmp_eq (x := 1) (y := 1) (tgt := 1836) hx hb dL_law_1831 (by decide) (fun c_48 => ?_) (fun c_48 => ?_)
      rotate_left
      · exact absurd (by decide) c_48
      refine lv_iload hx hb dL_law_1836 (lv_at hl 1 rfl) ?_
      refine lv_if_ne (x := 1) (tgt := 1853) hx hb dL_law_1838 (by decide) (fun c_49 => ?_) (fun c_49 => ?_)
      rotate_left
      · exact absurd c_49 (by decide)
      refine lv_goto (tgt := 2265) hx hb dL_law_1853 (by decide) ?_
      exact law_end hst C0 hA C hS (lv_sub hl [2, 6] rfl) (Nat.le_of_ble_eq_true rfl) (Nat.le_of_ble_eq_true rfl)
    ·
      have hP : va_P G.1 vwCl [(aout, .inl (G.2.2.2.2, 1, .inr (.inl ((fun _ => 0))))), (x0, .inr (11, ofL 17 Fx0)), (x32, .inr (9, ofL 6 Fx32)), (x31, .inr (1, ofL 10 Fx31)), (x3, .inr (7, ofL 5 Fx3)), (m0, .inr (12, ofL 88 (updV (updV Fm0 0 (.int 0)) 0 (.int 1))))] H := hP
      have hD : va_D A [(aout, .inl (G.2.2.2.2, 1, .inr (.inl ((fun _ => 0))))), (x0, .inr (11, ofL 17 Fx0)), (x32, .inr (9, ofL 6 Fx32)), (x31, .inr (1, ofL 10 Fx31)), (x3, .inr (7, ofL 5 Fx3)), (m0, .inr (12, ofL 88 (updV (updV Fm0 0 (.int 0)) 0 (.int 1))))] := hD
      refine lv_istore (lv' := [(6, .int 0), (5, .int 1), (0, .ref b), (1, .ref x0), (2, .ref m0), (3, .ref aout), (4, .int 0)]) hx hb dL_law_1823 hl (by decide) rfl (fun ls hl => ?_)
      refine lv_aload_n hx hb dL_law_1825 rfl (lv_at hl 4 rfl) ?_
      refine k_callVi (wr := [(aout, .inl (G.2.2.2.2, 1, .inr (.inl ((fun _ => 0))))), (x0, .inr (11, ofL 17 Fx0)), (x32, .inr (9, ofL 6 Fx32)), (x31, .inr (1, ofL 10 Fx31)), (x3, .inr (7, ofL 5 Fx3))]) (rest := []) li_L_118 C (c_X12_thrown l G H.size m0 (updV (updV Fm0 0 (.int 0)) 0 (.int 1)) 1 rfl) (kR rfl) hP hD hS [5] [0, 1, 2, 3, 4] rfl rfl rfl rfl (by decide) 0 12 rfl rfl rfl hl.1 rfl (Nat.le_of_ble_eq_true rfl) dL_law_1826 (fun rr51 uu52 H locs hw50 hP hD hS => ?_)
      obtain rfl : rr51 = 1 := hw50
      have hP : va_P G.1 vwCl [(aout, .inl (G.2.2.2.2, 1, .inr (.inl ((fun _ => 0))))), (x0, .inr (11, ofL 17 Fx0)), (x32, .inr (9, ofL 6 Fx32)), (x31, .inr (1, ofL 10 Fx31)), (x3, .inr (7, ofL 5 Fx3)), (m0, .inr (12, ofL 88 (updV (updV Fm0 0 (.int 0)) 0 (.int 1))))] H := hP
      have hD : va_D A [(aout, .inl (G.2.2.2.2, 1, .inr (.inl ((fun _ => 0))))), (x0, .inr (11, ofL 17 Fx0)), (x32, .inr (9, ofL 6 Fx32)), (x31, .inr (1, ofL 10 Fx31)), (x3, .inr (7, ofL 5 Fx3)), (m0, .inr (12, ofL 88 (updV (updV Fm0 0 (.int 0)) 0 (.int 1))))] := hD
      refine lv_iload hx hb dL_law_1829 (lv_at hl 1 rfl) ?_
      refine lv_icmp_eq (x := 1) (y := 1) (tgt := 1836) hx hb dL_law_1831 (by decide) (fun c_53 => ?_) (fun c_53 => ?_)
      rotate_left
      · exact absurd (by decide) c_53
      refine lv_iload hx hb dL_law_1836 (lv_at hl 1 rfl) ?_
      refine lv_if_ne (x := 1) (tgt := 1853) hx hb dL_law_1838 (by decide) (fun c_54 => ?_) (fun c_54 => ?_)
      rotate_left
      · exact absurd c_54 (by decide)
      refine lv_goto (tgt := 2265) hx hb dL_law_1853 (by decide) ?_
      exact law_end hst C0 hA C hS (lv_sub hl [2, 6] rfl) (Nat.le_of_ble_eq_true rfl) (Nat.le_of_ble_eq_true rfl)
    ·
      have hP : va_P G.1 vwCl [(aout, .inl (G.2.2.2.2, 1, .inr (.inl ((fun _ => 0))))), (x0, .inr (11, ofL 17 Fx0)), (x32, .inr (9, ofL 6 Fx32)), (x31, .inr (1, ofL 10 Fx31)), (x3, .inr (7, ofL 5 Fx3)), (m0, .inr (12, ofL 88 (updV (updV Fm0 0 (.int 0)) 0 (.int 2))))] H := hP
      have hD : va_D A [(aout, .inl (G.2.2.2.2, 1, .inr (.inl ((fun _ => 0))))), (x0, .inr (11, ofL 17 Fx0)), (x32, .inr (9, ofL 6 Fx32)), (x31, .inr (1, ofL 10 Fx31)), (x3, .inr (7, ofL 5 Fx3)), (m0, .inr (12, ofL 88 (updV (updV Fm0 0 (.int 0)) 0 (.int 2))))] := hD
      refine lv_istore (lv' := [(6, .int 0), (5, .int 1), (0, .ref b), (1, .ref x0), (2, .ref m0), (3, .ref aout), (4, .int 0)]) hx hb dL_law_1823 hl (by decide) rfl (fun ls hl => ?_)
      refine lv_aload_n hx hb dL_law_1825 rfl (lv_at hl 4 rfl) ?_
      refine k_callVi (wr := [(aout, .inl (G.2.2.2.2, 1, .inr (.inl ((fun _ => 0))))), (x0, .inr (11, ofL 17 Fx0)), (x32, .inr (9, ofL 6 Fx32)), (x31, .inr (1, ofL 10 Fx31)), (x3, .inr (7, ofL 5 Fx3))]) (rest := []) li_L_118 C (c_X12_thrown l G H.size m0 (updV (updV Fm0 0 (.int 0)) 0 (.int 2)) 2 rfl) (kR rfl) hP hD hS [5] [0, 1, 2, 3, 4] rfl rfl rfl rfl (by decide) 0 12 rfl rfl rfl hl.1 rfl (Nat.le_of_ble_eq_true rfl) dL_law_1826 (fun rr56 uu57 H locs hw55 hP hD hS => ?_)
      obtain rfl : rr56 = 2 := hw55
      have hP : va_P G.1 vwCl [(aout, .inl (G.2.2.2.2, 1, .inr (.inl ((fun _ => 0))))), (x0, .inr (11, ofL 17 Fx0)), (x32, .inr (9, ofL 6 Fx32)), (x31, .inr (1, ofL 10 Fx31)), (x3, .inr (7, ofL 5 Fx3)), (m0, .inr (12, ofL 88 (updV (updV Fm0 0 (.int 0)) 0 (.int 2))))] H := hP
      have hD : va_D A [(aout, .inl (G.2.2.2.2, 1, .inr (.inl ((fun _ => 0))))), (x0, .inr (11, ofL 17 Fx0)), (x32, .inr (9, ofL 6 Fx32)), (x31, .inr (1, ofL 10 Fx31)), (x3, .inr (7, ofL 5 Fx3)), (m0, .inr (12, ofL 88 (updV (updV Fm0 0 (.int 0)) 0 (.int 2))))] := hD
      refine lv_iload hx hb dL_law_1829 (lv_at hl 1 rfl) ?_
      refine lv_icmp_eq (x := 2) (y := 1) (tgt := 1836) hx hb dL_law_1831 (by decide) (fun c_58 => ?_) (fun c_58 => ?_)
      · exact absurd c_58 (by decide)
      refine lv_iconst (v := 0) hx hb dL_law_1834 (by decide) ?_
      exfalso
      have e9_0 : (0 : Int32).toInt = 0 := by decide
      have e9_1 : (1 : Int32).toInt = 1 := by decide
      simp only [Int32.lt_iff_toInt_lt, Int32.le_iff_toInt_le] at c_4 c_29 c_30 c_31
      omega
    ·
      have hP : va_P G.1 vwCl [(aout, .inl (G.2.2.2.2, 1, .inr (.inl ((fun _ => 0))))), (x0, .inr (11, ofL 17 Fx0)), (x32, .inr (9, ofL 6 Fx32)), (x31, .inr (1, ofL 10 Fx31)), (x3, .inr (7, ofL 5 Fx3)), (m0, .inr (12, ofL 88 (updV (updV Fm0 0 (.int 0)) 0 (.int 2))))] H := hP
      have hD : va_D A [(aout, .inl (G.2.2.2.2, 1, .inr (.inl ((fun _ => 0))))), (x0, .inr (11, ofL 17 Fx0)), (x32, .inr (9, ofL 6 Fx32)), (x31, .inr (1, ofL 10 Fx31)), (x3, .inr (7, ofL 5 Fx3)), (m0, .inr (12, ofL 88 (updV (updV Fm0 0 (.int 0)) 0 (.int 2))))] := hD
      refine lv_istore (lv' := [(6, .int 0), (5, .int 1), (0, .ref b), (1, .ref x0), (2, .ref m0), (3, .ref aout), (4, .int 0)]) hx hb dL_law_1823 hl (by decide) rfl (fun ls hl => ?_)
      refine lv_aload_n hx hb dL_law_1825 rfl (lv_at hl 4 rfl) ?_
      refine k_callVi (wr := [(aout, .inl (G.2.2.2.2, 1, .inr (.inl ((fun _ => 0))))), (x0, .inr (11, ofL 17 Fx0)), (x32, .inr (9, ofL 6 Fx32)), (x31, .inr (1, ofL 10 Fx31)), (x3, .inr (7, ofL 5 Fx3))]) (rest := []) li_L_118 C (c_X12_thrown l G H.size m0 (updV (updV Fm0 0 (.int 0)) 0 (.int 2)) 2 rfl) (kR rfl) hP hD hS [5] [0, 1, 2, 3, 4] rfl rfl rfl rfl (by decide) 0 12 rfl rfl rfl hl.1 rfl (Nat.le_of_ble_eq_true rfl) dL_law_1826 (fun rr60 uu61 H locs hw59 hP hD hS => ?_)
      obtain rfl : rr60 = 2 := hw59
      have hP : va_P G.1 vwCl [(aout, .inl (G.2.2.2.2, 1, .inr (.inl ((fun _ => 0))))), (x0, .inr (11, ofL 17 Fx0)), (x32, .inr (9, ofL 6 Fx32)), (x31, .inr (1, ofL 10 Fx31)), (x3, .inr (7, ofL 5 Fx3)), (m0, .inr (12, ofL 88 (updV (updV Fm0 0 (.int 0)) 0 (.int 2))))] H := hP
      have hD : va_D A [(aout, .inl (G.2.2.2.2, 1, .inr (.inl ((fun _ => 0))))), (x0, .inr (11, ofL 17 Fx0)), (x32, .inr (9, ofL 6 Fx32)), (x31, .inr (1, ofL 10 Fx31)), (x3, .inr (7, ofL 5 Fx3)), (m0, .inr (12, ofL 88 (updV (updV Fm0 0 (.int 0)) 0 (.int 2))))] := hD
      refine lv_iload hx hb dL_law_1829 (lv_at hl 1 rfl) ?_
      refine lv_icmp_eq (x := 2) (y := 1) (tgt := 1836) hx hb dL_law_1831 (by decide) (fun c_62 => ?_) (fun c_62 => ?_)
      · exact absurd c_62 (by decide)
      refine lv_iconst (v := 0) hx hb dL_law_1834 (by decide) ?_
      exfalso
      have e9_0 : (0 : Int32).toInt = 0 := by decide
      have e9_1 : (1 : Int32).toInt = 1 := by decide
      have e9_4000 : (4000 : Int32).toInt = 4000 := by decide
      simp only [Int32.lt_iff_toInt_lt, Int32.le_iff_toInt_le] at c_4 c_32 c_33 c_34 c_35
      omega
    ·
      have hP : va_P G.1 vwCl [(aout, .inl (G.2.2.2.2, 1, .inr (.inl ((fun _ => 0))))), (x0, .inr (11, ofL 17 Fx0)), (x32, .inr (9, ofL 6 Fx32)), (x31, .inr (1, ofL 10 Fx31)), (x3, .inr (7, ofL 5 Fx3)), (m0, .inr (12, ofL 88 (updV (updV Fm0 0 (.int 0)) 79 (.int 0))))] H := hP
      have hD : va_D A [(aout, .inl (G.2.2.2.2, 1, .inr (.inl ((fun _ => 0))))), (x0, .inr (11, ofL 17 Fx0)), (x32, .inr (9, ofL 6 Fx32)), (x31, .inr (1, ofL 10 Fx31)), (x3, .inr (7, ofL 5 Fx3)), (m0, .inr (12, ofL 88 (updV (updV Fm0 0 (.int 0)) 79 (.int 0))))] := hD
      refine lv_istore (lv' := [(6, .int 0), (5, .int 1), (0, .ref b), (1, .ref x0), (2, .ref m0), (3, .ref aout), (4, .int 0)]) hx hb dL_law_1823 hl (by decide) rfl (fun ls hl => ?_)
      refine lv_aload_n hx hb dL_law_1825 rfl (lv_at hl 4 rfl) ?_
      refine k_callVi (wr := [(aout, .inl (G.2.2.2.2, 1, .inr (.inl ((fun _ => 0))))), (x0, .inr (11, ofL 17 Fx0)), (x32, .inr (9, ofL 6 Fx32)), (x31, .inr (1, ofL 10 Fx31)), (x3, .inr (7, ofL 5 Fx3))]) (rest := []) li_L_118 C (c_X12_thrown l G H.size m0 (updV (updV Fm0 0 (.int 0)) 79 (.int 0)) 0 rfl) (kR rfl) hP hD hS [5] [0, 1, 2, 3, 4] rfl rfl rfl rfl (by decide) 0 12 rfl rfl rfl hl.1 rfl (Nat.le_of_ble_eq_true rfl) dL_law_1826 (fun rr64 uu65 H locs hw63 hP hD hS => ?_)
      obtain rfl : rr64 = 0 := hw63
      have hP : va_P G.1 vwCl [(aout, .inl (G.2.2.2.2, 1, .inr (.inl ((fun _ => 0))))), (x0, .inr (11, ofL 17 Fx0)), (x32, .inr (9, ofL 6 Fx32)), (x31, .inr (1, ofL 10 Fx31)), (x3, .inr (7, ofL 5 Fx3)), (m0, .inr (12, ofL 88 (updV (updV Fm0 0 (.int 0)) 79 (.int 0))))] H := hP
      have hD : va_D A [(aout, .inl (G.2.2.2.2, 1, .inr (.inl ((fun _ => 0))))), (x0, .inr (11, ofL 17 Fx0)), (x32, .inr (9, ofL 6 Fx32)), (x31, .inr (1, ofL 10 Fx31)), (x3, .inr (7, ofL 5 Fx3)), (m0, .inr (12, ofL 88 (updV (updV Fm0 0 (.int 0)) 79 (.int 0))))] := hD
      refine lv_iload hx hb dL_law_1829 (lv_at hl 1 rfl) ?_
      refine lv_icmp_eq (x := 0) (y := 1) (tgt := 1836) hx hb dL_law_1831 (by decide) (fun c_66 => ?_) (fun c_66 => ?_)
      · exact absurd c_66 (by decide)
      refine lv_iconst (v := 0) hx hb dL_law_1834 (by decide) ?_
      exfalso
      have e9_0 : (0 : Int32).toInt = 0 := by decide
      have e9_1 : (1 : Int32).toInt = 1 := by decide
      have e9_4000 : (4000 : Int32).toInt = 4000 := by decide
      simp only [← Int32.toInt_inj] at c_40
      simp only [Int32.lt_iff_toInt_lt, Int32.le_iff_toInt_le] at c_4 c_36 c_37 c_38 c_39
      omega
    ·
      exact absurd c_4 (by decide)
  ·
    have hP : va_P G.1 vwCl [(m0, .inr (12, ofL 88 Fm0)), (aout, .inl (G.2.2.2.2, 1, .inr (.inl ((fun _ => 0))))), (x0, .inr (11, ofL 17 Fx0)), (x32, .inr (9, ofL 6 Fx32)), (x31, .inr (1, ofL 10 Fx31)), (x3, .inr (7, ofL 5 Fx3))] H := hP
    have hD : va_D A [(m0, .inr (12, ofL 88 Fm0)), (aout, .inl (G.2.2.2.2, 1, .inr (.inl ((fun _ => 0))))), (x0, .inr (11, ofL 17 Fx0)), (x32, .inr (9, ofL 6 Fx32)), (x31, .inr (1, ofL 10 Fx31)), (x3, .inr (7, ofL 5 Fx3))] := hD
    refine lv_istore (lv' := [(5, .int 1), (0, .ref b), (1, .ref x0), (2, .ref m0), (3, .ref aout), (4, .int 0)]) hx hb dL_law_1805 hl (by decide) rfl (fun ls hl => ?_)
    refine lv_aload_n hx hb dL_law_1807 rfl (lv_at hl 3 rfl) ?_
    refine lv_aload_n hx hb dL_law_1808 rfl (lv_at hl 1 rfl) ?_
    refine lv_iload hx hb dL_law_1809 (lv_at hl 5 rfl) ?_
    refine lv_iconst (v := 1) hx hb dL_law_1811 (by decide) ?_
    refine lv_iadd hx hb dL_law_1812 ?_
    refine k_eqi (y := 1) (by decide) ?_
    refine va_sld hx hb hX hbl hbA hS (k_in (by decide)) dL_law_1813 ?_
    refine k_eqi (y := v1) hv1 ?_
    refine lv_aload_n hx hb dL_law_1814 rfl (lv_at hl 1 rfl) ?_
    refine lv_iload hx hb dL_law_1815 (lv_at hl 5 rfl) ?_
    refine lv_iconst (v := 2) hx hb dL_law_1817 (by decide) ?_
    refine lv_iadd hx hb dL_law_1818 ?_
    refine k_eqi (y := 2) (by decide) ?_
    refine va_sld hx hb hX hbl hbA hS (k_in (by decide)) dL_law_1819 ?_
    refine k_eqi (y := v2) hv2 ?_
    refine k_callVi (wr := [(aout, .inl (G.2.2.2.2, 1, .inr (.inl ((fun _ => 0))))), (x0, .inr (11, ofL 17 Fx0)), (x32, .inr (9, ofL 6 Fx32)), (x31, .inr (1, ofL 10 Fx31)), (x3, .inr (7, ofL 5 Fx3))]) (rest := []) li_L_216 C (c_X12_on l G H.size m0 v1 v2 Fm0 e_m0_1) (kR rfl) hP hD hS [0] [1, 2, 3, 4, 5] rfl rfl rfl rfl (by decide) 0 12 rfl rfl rfl hl.1 rfl (Nat.le_of_ble_eq_true rfl) dL_law_1820 (fun rr68 uu69 H locs hw67 hP hD hS => ?_)
    rcases hw67 with ⟨rfl, rfl, c_70⟩ | ⟨rfl, rfl, c_71, c_72⟩ | ⟨rfl, rfl, c_73, c_74, c_75⟩ | ⟨rfl, rfl, c_76, c_77, c_78, c_79⟩ | ⟨rfl, rfl, c_80, c_81, c_82, c_83, c_84⟩ | ⟨rfl, rfl, c_85, c_86, c_87, c_88, rfl⟩
    ·
      have hP : va_P G.1 vwCl [(aout, .inl (G.2.2.2.2, 1, .inr (.inl ((fun _ => 0))))), (x0, .inr (11, ofL 17 Fx0)), (x32, .inr (9, ofL 6 Fx32)), (x31, .inr (1, ofL 10 Fx31)), (x3, .inr (7, ofL 5 Fx3)), (m0, .inr (12, ofL 88 (updV (updV Fm0 0 (.int 0)) 0 (.int 1))))] H := hP
      have hD : va_D A [(aout, .inl (G.2.2.2.2, 1, .inr (.inl ((fun _ => 0))))), (x0, .inr (11, ofL 17 Fx0)), (x32, .inr (9, ofL 6 Fx32)), (x31, .inr (1, ofL 10 Fx31)), (x3, .inr (7, ofL 5 Fx3)), (m0, .inr (12, ofL 88 (updV (updV Fm0 0 (.int 0)) 0 (.int 1))))] := hD
      refine lv_istore (lv' := [(6, .int 0), (5, .int 1), (0, .ref b), (1, .ref x0), (2, .ref m0), (3, .ref aout), (4, .int 0)]) hx hb dL_law_1823 hl (by decide) rfl (fun ls hl => ?_)
      refine lv_aload_n hx hb dL_law_1825 rfl (lv_at hl 4 rfl) ?_
      refine k_callVi (wr := [(aout, .inl (G.2.2.2.2, 1, .inr (.inl ((fun _ => 0))))), (x0, .inr (11, ofL 17 Fx0)), (x32, .inr (9, ofL 6 Fx32)), (x31, .inr (1, ofL 10 Fx31)), (x3, .inr (7, ofL 5 Fx3))]) (rest := []) li_L_118 C (c_X12_thrown l G H.size m0 (updV (updV Fm0 0 (.int 0)) 0 (.int 1)) 1 rfl) (kR rfl) hP hD hS [5] [0, 1, 2, 3, 4] rfl rfl rfl rfl (by decide) 0 12 rfl rfl rfl hl.1 rfl (Nat.le_of_ble_eq_true rfl) dL_law_1826 (fun rr90 uu91 H locs hw89 hP hD hS => ?_)
      obtain rfl : rr90 = 1 := hw89
      have hP : va_P G.1 vwCl [(aout, .inl (G.2.2.2.2, 1, .inr (.inl ((fun _ => 0))))), (x0, .inr (11, ofL 17 Fx0)), (x32, .inr (9, ofL 6 Fx32)), (x31, .inr (1, ofL 10 Fx31)), (x3, .inr (7, ofL 5 Fx3)), (m0, .inr (12, ofL 88 (updV (updV Fm0 0 (.int 0)) 0 (.int 1))))] H := hP
      have hD : va_D A [(aout, .inl (G.2.2.2.2, 1, .inr (.inl ((fun _ => 0))))), (x0, .inr (11, ofL 17 Fx0)), (x32, .inr (9, ofL 6 Fx32)), (x31, .inr (1, ofL 10 Fx31)), (x3, .inr (7, ofL 5 Fx3)), (m0, .inr (12, ofL 88 (updV (updV Fm0 0 (.int 0)) 0 (.int 1))))] := hD
      refine lv_iload hx hb dL_law_1829 (lv_at hl 1 rfl) ?_
      refine lv_icmp_eq (x := 1) (y := 1) (tgt := 1836) hx hb dL_law_1831 (by decide) (fun c_92 => ?_) (fun c_92 => ?_)
      rotate_left
      · exact absurd (by decide) c_92
      refine lv_iload hx hb dL_law_1836 (lv_at hl 1 rfl) ?_
      refine lv_if_ne (x := 1) (tgt := 1853) hx hb dL_law_1838 (by decide) (fun c_93 => ?_) (fun c_93 => ?_)
      rotate_left
      · exact absurd c_93 (by decide)
      refine lv_goto (tgt := 2265) hx hb dL_law_1853 (by decide) ?_
      exact law_end hst C0 hA C hS (lv_sub hl [2, 6] rfl) (Nat.le_of_ble_eq_true rfl) (Nat.le_of_ble_eq_true rfl)
    ·
      have hP : va_P G.1 vwCl [(aout, .inl (G.2.2.2.2, 1, .inr (.inl ((fun _ => 0))))), (x0, .inr (11, ofL 17 Fx0)), (x32, .inr (9, ofL 6 Fx32)), (x31, .inr (1, ofL 10 Fx31)), (x3, .inr (7, ofL 5 Fx3)), (m0, .inr (12, ofL 88 (updV (updV Fm0 0 (.int 0)) 0 (.int 1))))] H := hP
      have hD : va_D A [(aout, .inl (G.2.2.2.2, 1, .inr (.inl ((fun _ => 0))))), (x0, .inr (11, ofL 17 Fx0)), (x32, .inr (9, ofL 6 Fx32)), (x31, .inr (1, ofL 10 Fx31)), (x3, .inr (7, ofL 5 Fx3)), (m0, .inr (12, ofL 88 (updV (updV Fm0 0 (.int 0)) 0 (.int 1))))] := hD
      refine lv_istore (lv' := [(6, .int 0), (5, .int 1), (0, .ref b), (1, .ref x0), (2, .ref m0), (3, .ref aout), (4, .int 0)]) hx hb dL_law_1823 hl (by decide) rfl (fun ls hl => ?_)
      refine lv_aload_n hx hb dL_law_1825 rfl (lv_at hl 4 rfl) ?_
      refine k_callVi (wr := [(aout, .inl (G.2.2.2.2, 1, .inr (.inl ((fun _ => 0))))), (x0, .inr (11, ofL 17 Fx0)), (x32, .inr (9, ofL 6 Fx32)), (x31, .inr (1, ofL 10 Fx31)), (x3, .inr (7, ofL 5 Fx3))]) (rest := []) li_L_118 C (c_X12_thrown l G H.size m0 (updV (updV Fm0 0 (.int 0)) 0 (.int 1)) 1 rfl) (kR rfl) hP hD hS [5] [0, 1, 2, 3, 4] rfl rfl rfl rfl (by decide) 0 12 rfl rfl rfl hl.1 rfl (Nat.le_of_ble_eq_true rfl) dL_law_1826 (fun rr95 uu96 H locs hw94 hP hD hS => ?_)
      obtain rfl : rr95 = 1 := hw94
      have hP : va_P G.1 vwCl [(aout, .inl (G.2.2.2.2, 1, .inr (.inl ((fun _ => 0))))), (x0, .inr (11, ofL 17 Fx0)), (x32, .inr (9, ofL 6 Fx32)), (x31, .inr (1, ofL 10 Fx31)), (x3, .inr (7, ofL 5 Fx3)), (m0, .inr (12, ofL 88 (updV (updV Fm0 0 (.int 0)) 0 (.int 1))))] H := hP
      have hD : va_D A [(aout, .inl (G.2.2.2.2, 1, .inr (.inl ((fun _ => 0))))), (x0, .inr (11, ofL 17 Fx0)), (x32, .inr (9, ofL 6 Fx32)), (x31, .inr (1, ofL 10 Fx31)), (x3, .inr (7, ofL 5 Fx3)), (m0, .inr (12, ofL 88 (updV (updV Fm0 0 (.int 0)) 0 (.int 1))))] := hD
      refine lv_iload hx hb dL_law_1829 (lv_at hl 1 rfl) ?_
      refine lv_icmp_eq (x := 1) (y := 1) (tgt := 1836) hx hb dL_law_1831 (by decide) (fun c_97 => ?_) (fun c_97 => ?_)
      rotate_left
      · exact absurd (by decide) c_97
      refine lv_iload hx hb dL_law_1836 (lv_at hl 1 rfl) ?_
      refine lv_if_ne (x := 1) (tgt := 1853) hx hb dL_law_1838 (by decide) (fun c_98 => ?_) (fun c_98 => ?_)
      rotate_left
      · exact absurd c_98 (by decide)
      refine lv_goto (tgt := 2265) hx hb dL_law_1853 (by decide) ?_
      exact law_end hst C0 hA C hS (lv_sub hl [2, 6] rfl) (Nat.le_of_ble_eq_true rfl) (Nat.le_of_ble_eq_true rfl)
    ·
      have hP : va_P G.1 vwCl [(aout, .inl (G.2.2.2.2, 1, .inr (.inl ((fun _ => 0))))), (x0, .inr (11, ofL 17 Fx0)), (x32, .inr (9, ofL 6 Fx32)), (x31, .inr (1, ofL 10 Fx31)), (x3, .inr (7, ofL 5 Fx3)), (m0, .inr (12, ofL 88 (updV (updV Fm0 0 (.int 0)) 0 (.int 2))))] H := hP
      have hD : va_D A [(aout, .inl (G.2.2.2.2, 1, .inr (.inl ((fun _ => 0))))), (x0, .inr (11, ofL 17 Fx0)), (x32, .inr (9, ofL 6 Fx32)), (x31, .inr (1, ofL 10 Fx31)), (x3, .inr (7, ofL 5 Fx3)), (m0, .inr (12, ofL 88 (updV (updV Fm0 0 (.int 0)) 0 (.int 2))))] := hD
      refine lv_istore (lv' := [(6, .int 0), (5, .int 1), (0, .ref b), (1, .ref x0), (2, .ref m0), (3, .ref aout), (4, .int 0)]) hx hb dL_law_1823 hl (by decide) rfl (fun ls hl => ?_)
      refine lv_aload_n hx hb dL_law_1825 rfl (lv_at hl 4 rfl) ?_
      refine k_callVi (wr := [(aout, .inl (G.2.2.2.2, 1, .inr (.inl ((fun _ => 0))))), (x0, .inr (11, ofL 17 Fx0)), (x32, .inr (9, ofL 6 Fx32)), (x31, .inr (1, ofL 10 Fx31)), (x3, .inr (7, ofL 5 Fx3))]) (rest := []) li_L_118 C (c_X12_thrown l G H.size m0 (updV (updV Fm0 0 (.int 0)) 0 (.int 2)) 2 rfl) (kR rfl) hP hD hS [5] [0, 1, 2, 3, 4] rfl rfl rfl rfl (by decide) 0 12 rfl rfl rfl hl.1 rfl (Nat.le_of_ble_eq_true rfl) dL_law_1826 (fun rr100 uu101 H locs hw99 hP hD hS => ?_)
      obtain rfl : rr100 = 2 := hw99
      have hP : va_P G.1 vwCl [(aout, .inl (G.2.2.2.2, 1, .inr (.inl ((fun _ => 0))))), (x0, .inr (11, ofL 17 Fx0)), (x32, .inr (9, ofL 6 Fx32)), (x31, .inr (1, ofL 10 Fx31)), (x3, .inr (7, ofL 5 Fx3)), (m0, .inr (12, ofL 88 (updV (updV Fm0 0 (.int 0)) 0 (.int 2))))] H := hP
      have hD : va_D A [(aout, .inl (G.2.2.2.2, 1, .inr (.inl ((fun _ => 0))))), (x0, .inr (11, ofL 17 Fx0)), (x32, .inr (9, ofL 6 Fx32)), (x31, .inr (1, ofL 10 Fx31)), (x3, .inr (7, ofL 5 Fx3)), (m0, .inr (12, ofL 88 (updV (updV Fm0 0 (.int 0)) 0 (.int 2))))] := hD
      refine lv_iload hx hb dL_law_1829 (lv_at hl 1 rfl) ?_
      refine lv_icmp_eq (x := 2) (y := 1) (tgt := 1836) hx hb dL_law_1831 (by decide) (fun c_102 => ?_) (fun c_102 => ?_)
      · exact absurd c_102 (by decide)
      refine lv_iconst (v := 0) hx hb dL_law_1834 (by decide) ?_
      exfalso
      have e9_0 : (0 : Int32).toInt = 0 := by decide
      have e9_1 : (1 : Int32).toInt = 1 := by decide
      have e9_2 : (2 : Int32).toInt = 2 := by decide
      simp only [Int32.lt_iff_toInt_lt, Int32.le_iff_toInt_le] at c_5 c_6 c_73 c_74 c_75
      omega
    ·
      have hP : va_P G.1 vwCl [(aout, .inl (G.2.2.2.2, 1, .inr (.inl ((fun _ => 0))))), (x0, .inr (11, ofL 17 Fx0)), (x32, .inr (9, ofL 6 Fx32)), (x31, .inr (1, ofL 10 Fx31)), (x3, .inr (7, ofL 5 Fx3)), (m0, .inr (12, ofL 88 (updV (updV Fm0 0 (.int 0)) 0 (.int 2))))] H := hP
      have hD : va_D A [(aout, .inl (G.2.2.2.2, 1, .inr (.inl ((fun _ => 0))))), (x0, .inr (11, ofL 17 Fx0)), (x32, .inr (9, ofL 6 Fx32)), (x31, .inr (1, ofL 10 Fx31)), (x3, .inr (7, ofL 5 Fx3)), (m0, .inr (12, ofL 88 (updV (updV Fm0 0 (.int 0)) 0 (.int 2))))] := hD
      refine lv_istore (lv' := [(6, .int 0), (5, .int 1), (0, .ref b), (1, .ref x0), (2, .ref m0), (3, .ref aout), (4, .int 0)]) hx hb dL_law_1823 hl (by decide) rfl (fun ls hl => ?_)
      refine lv_aload_n hx hb dL_law_1825 rfl (lv_at hl 4 rfl) ?_
      refine k_callVi (wr := [(aout, .inl (G.2.2.2.2, 1, .inr (.inl ((fun _ => 0))))), (x0, .inr (11, ofL 17 Fx0)), (x32, .inr (9, ofL 6 Fx32)), (x31, .inr (1, ofL 10 Fx31)), (x3, .inr (7, ofL 5 Fx3))]) (rest := []) li_L_118 C (c_X12_thrown l G H.size m0 (updV (updV Fm0 0 (.int 0)) 0 (.int 2)) 2 rfl) (kR rfl) hP hD hS [5] [0, 1, 2, 3, 4] rfl rfl rfl rfl (by decide) 0 12 rfl rfl rfl hl.1 rfl (Nat.le_of_ble_eq_true rfl) dL_law_1826 (fun rr104 uu105 H locs hw103 hP hD hS => ?_)
      obtain rfl : rr104 = 2 := hw103
      have hP : va_P G.1 vwCl [(aout, .inl (G.2.2.2.2, 1, .inr (.inl ((fun _ => 0))))), (x0, .inr (11, ofL 17 Fx0)), (x32, .inr (9, ofL 6 Fx32)), (x31, .inr (1, ofL 10 Fx31)), (x3, .inr (7, ofL 5 Fx3)), (m0, .inr (12, ofL 88 (updV (updV Fm0 0 (.int 0)) 0 (.int 2))))] H := hP
      have hD : va_D A [(aout, .inl (G.2.2.2.2, 1, .inr (.inl ((fun _ => 0))))), (x0, .inr (11, ofL 17 Fx0)), (x32, .inr (9, ofL 6 Fx32)), (x31, .inr (1, ofL 10 Fx31)), (x3, .inr (7, ofL 5 Fx3)), (m0, .inr (12, ofL 88 (updV (updV Fm0 0 (.int 0)) 0 (.int 2))))] := hD
      refine lv_iload hx hb dL_law_1829 (lv_at hl 1 rfl) ?_
      refine lv_icmp_eq (x := 2) (y := 1) (tgt := 1836) hx hb dL_law_1831 (by decide) (fun c_106 => ?_) (fun c_106 => ?_)
      · exact absurd c_106 (by decide)
      refine lv_iconst (v := 0) hx hb dL_law_1834 (by decide) ?_
      exfalso
      have e9_0 : (0 : Int32).toInt = 0 := by decide
      have e9_1 : (1 : Int32).toInt = 1 := by decide
      have e9_2 : (2 : Int32).toInt = 2 := by decide
      have e9_4000 : (4000 : Int32).toInt = 4000 := by decide
      simp only [Int32.lt_iff_toInt_lt, Int32.le_iff_toInt_le] at c_5 c_6 c_76 c_77 c_78 c_79
      omega
    ·
      have hP : va_P G.1 vwCl [(aout, .inl (G.2.2.2.2, 1, .inr (.inl ((fun _ => 0))))), (x0, .inr (11, ofL 17 Fx0)), (x32, .inr (9, ofL 6 Fx32)), (x31, .inr (1, ofL 10 Fx31)), (x3, .inr (7, ofL 5 Fx3)), (m0, .inr (12, ofL 88 (updV (updV Fm0 0 (.int 0)) 79 (.int 0))))] H := hP
      have hD : va_D A [(aout, .inl (G.2.2.2.2, 1, .inr (.inl ((fun _ => 0))))), (x0, .inr (11, ofL 17 Fx0)), (x32, .inr (9, ofL 6 Fx32)), (x31, .inr (1, ofL 10 Fx31)), (x3, .inr (7, ofL 5 Fx3)), (m0, .inr (12, ofL 88 (updV (updV Fm0 0 (.int 0)) 79 (.int 0))))] := hD
      refine lv_istore (lv' := [(6, .int 0), (5, .int 1), (0, .ref b), (1, .ref x0), (2, .ref m0), (3, .ref aout), (4, .int 0)]) hx hb dL_law_1823 hl (by decide) rfl (fun ls hl => ?_)
      refine lv_aload_n hx hb dL_law_1825 rfl (lv_at hl 4 rfl) ?_
      refine k_callVi (wr := [(aout, .inl (G.2.2.2.2, 1, .inr (.inl ((fun _ => 0))))), (x0, .inr (11, ofL 17 Fx0)), (x32, .inr (9, ofL 6 Fx32)), (x31, .inr (1, ofL 10 Fx31)), (x3, .inr (7, ofL 5 Fx3))]) (rest := []) li_L_118 C (c_X12_thrown l G H.size m0 (updV (updV Fm0 0 (.int 0)) 79 (.int 0)) 0 rfl) (kR rfl) hP hD hS [5] [0, 1, 2, 3, 4] rfl rfl rfl rfl (by decide) 0 12 rfl rfl rfl hl.1 rfl (Nat.le_of_ble_eq_true rfl) dL_law_1826 (fun rr108 uu109 H locs hw107 hP hD hS => ?_)
      obtain rfl : rr108 = 0 := hw107
      have hP : va_P G.1 vwCl [(aout, .inl (G.2.2.2.2, 1, .inr (.inl ((fun _ => 0))))), (x0, .inr (11, ofL 17 Fx0)), (x32, .inr (9, ofL 6 Fx32)), (x31, .inr (1, ofL 10 Fx31)), (x3, .inr (7, ofL 5 Fx3)), (m0, .inr (12, ofL 88 (updV (updV Fm0 0 (.int 0)) 79 (.int 0))))] H := hP
      have hD : va_D A [(aout, .inl (G.2.2.2.2, 1, .inr (.inl ((fun _ => 0))))), (x0, .inr (11, ofL 17 Fx0)), (x32, .inr (9, ofL 6 Fx32)), (x31, .inr (1, ofL 10 Fx31)), (x3, .inr (7, ofL 5 Fx3)), (m0, .inr (12, ofL 88 (updV (updV Fm0 0 (.int 0)) 79 (.int 0))))] := hD
      refine lv_iload hx hb dL_law_1829 (lv_at hl 1 rfl) ?_
      refine lv_icmp_eq (x := 0) (y := 1) (tgt := 1836) hx hb dL_law_1831 (by decide) (fun c_110 => ?_) (fun c_110 => ?_)
      · exact absurd c_110 (by decide)
      refine lv_iconst (v := 0) hx hb dL_law_1834 (by decide) ?_
      exfalso
      have e9_0 : (0 : Int32).toInt = 0 := by decide
      have e9_1 : (1 : Int32).toInt = 1 := by decide
      have e9_2 : (2 : Int32).toInt = 2 := by decide
      have e9_4000 : (4000 : Int32).toInt = 4000 := by decide
      simp only [← Int32.toInt_inj] at c_84
      simp only [Int32.lt_iff_toInt_lt, Int32.le_iff_toInt_le] at c_5 c_6 c_80 c_81 c_82 c_83
      omega
    ·
      exact absurd (by decide) c_6
  ·
    have hP : va_P G.1 vwCl [(m0, .inr (12, ofL 88 Fm0)), (aout, .inl (G.2.2.2.2, 1, .inr (.inl ((fun _ => 0))))), (x0, .inr (11, ofL 17 Fx0)), (x32, .inr (9, ofL 6 Fx32)), (x31, .inr (1, ofL 10 Fx31)), (x3, .inr (7, ofL 5 Fx3))] H := hP
    have hD : va_D A [(m0, .inr (12, ofL 88 Fm0)), (aout, .inl (G.2.2.2.2, 1, .inr (.inl ((fun _ => 0))))), (x0, .inr (11, ofL 17 Fx0)), (x32, .inr (9, ofL 6 Fx32)), (x31, .inr (1, ofL 10 Fx31)), (x3, .inr (7, ofL 5 Fx3))] := hD
    refine lv_istore (lv' := [(5, .int 2), (0, .ref b), (1, .ref x0), (2, .ref m0), (3, .ref aout), (4, .int 0)]) hx hb dL_law_1805 hl (by decide) rfl (fun ls hl => ?_)
    refine lv_aload_n hx hb dL_law_1807 rfl (lv_at hl 3 rfl) ?_
    refine lv_aload_n hx hb dL_law_1808 rfl (lv_at hl 1 rfl) ?_
    refine lv_iload hx hb dL_law_1809 (lv_at hl 5 rfl) ?_
    refine lv_iconst (v := 1) hx hb dL_law_1811 (by decide) ?_
    refine lv_iadd hx hb dL_law_1812 ?_
    refine k_eqi (y := 1) (by decide) ?_
    refine va_sld hx hb hX hbl hbA hS (k_in (by decide)) dL_law_1813 ?_
    refine k_eqi (y := v1) hv1 ?_
    refine lv_aload_n hx hb dL_law_1814 rfl (lv_at hl 1 rfl) ?_
    refine lv_iload hx hb dL_law_1815 (lv_at hl 5 rfl) ?_
    refine lv_iconst (v := 2) hx hb dL_law_1817 (by decide) ?_
    refine lv_iadd hx hb dL_law_1818 ?_
    refine k_eqi (y := 2) (by decide) ?_
    refine va_sld hx hb hX hbl hbA hS (k_in (by decide)) dL_law_1819 ?_
    refine k_eqi (y := v2) hv2 ?_
    refine k_callVi (wr := [(aout, .inl (G.2.2.2.2, 1, .inr (.inl ((fun _ => 0))))), (x0, .inr (11, ofL 17 Fx0)), (x32, .inr (9, ofL 6 Fx32)), (x31, .inr (1, ofL 10 Fx31)), (x3, .inr (7, ofL 5 Fx3))]) (rest := []) li_L_216 C (c_X12_on l G H.size m0 v1 v2 Fm0 e_m0_1) (kR rfl) hP hD hS [0] [1, 2, 3, 4, 5] rfl rfl rfl rfl (by decide) 0 12 rfl rfl rfl hl.1 rfl (Nat.le_of_ble_eq_true rfl) dL_law_1820 (fun rr112 uu113 H locs hw111 hP hD hS => ?_)
    rcases hw111 with ⟨rfl, rfl, c_114⟩ | ⟨rfl, rfl, c_115, c_116⟩ | ⟨rfl, rfl, c_117, c_118, c_119⟩ | ⟨rfl, rfl, c_120, c_121, c_122, c_123⟩ | ⟨rfl, rfl, c_124, c_125, c_126, c_127, c_128⟩ | ⟨rfl, rfl, c_129, c_130, c_131, c_132, rfl⟩
    ·
      have hP : va_P G.1 vwCl [(aout, .inl (G.2.2.2.2, 1, .inr (.inl ((fun _ => 0))))), (x0, .inr (11, ofL 17 Fx0)), (x32, .inr (9, ofL 6 Fx32)), (x31, .inr (1, ofL 10 Fx31)), (x3, .inr (7, ofL 5 Fx3)), (m0, .inr (12, ofL 88 (updV (updV Fm0 0 (.int 0)) 0 (.int 1))))] H := hP
      have hD : va_D A [(aout, .inl (G.2.2.2.2, 1, .inr (.inl ((fun _ => 0))))), (x0, .inr (11, ofL 17 Fx0)), (x32, .inr (9, ofL 6 Fx32)), (x31, .inr (1, ofL 10 Fx31)), (x3, .inr (7, ofL 5 Fx3)), (m0, .inr (12, ofL 88 (updV (updV Fm0 0 (.int 0)) 0 (.int 1))))] := hD
      refine lv_istore (lv' := [(6, .int 0), (5, .int 2), (0, .ref b), (1, .ref x0), (2, .ref m0), (3, .ref aout), (4, .int 0)]) hx hb dL_law_1823 hl (by decide) rfl (fun ls hl => ?_)
      refine lv_aload_n hx hb dL_law_1825 rfl (lv_at hl 4 rfl) ?_
      refine k_callVi (wr := [(aout, .inl (G.2.2.2.2, 1, .inr (.inl ((fun _ => 0))))), (x0, .inr (11, ofL 17 Fx0)), (x32, .inr (9, ofL 6 Fx32)), (x31, .inr (1, ofL 10 Fx31)), (x3, .inr (7, ofL 5 Fx3))]) (rest := []) li_L_118 C (c_X12_thrown l G H.size m0 (updV (updV Fm0 0 (.int 0)) 0 (.int 1)) 1 rfl) (kR rfl) hP hD hS [5] [0, 1, 2, 3, 4] rfl rfl rfl rfl (by decide) 0 12 rfl rfl rfl hl.1 rfl (Nat.le_of_ble_eq_true rfl) dL_law_1826 (fun rr134 uu135 H locs hw133 hP hD hS => ?_)
      obtain rfl : rr134 = 1 := hw133
      have hP : va_P G.1 vwCl [(aout, .inl (G.2.2.2.2, 1, .inr (.inl ((fun _ => 0))))), (x0, .inr (11, ofL 17 Fx0)), (x32, .inr (9, ofL 6 Fx32)), (x31, .inr (1, ofL 10 Fx31)), (x3, .inr (7, ofL 5 Fx3)), (m0, .inr (12, ofL 88 (updV (updV Fm0 0 (.int 0)) 0 (.int 1))))] H := hP
      have hD : va_D A [(aout, .inl (G.2.2.2.2, 1, .inr (.inl ((fun _ => 0))))), (x0, .inr (11, ofL 17 Fx0)), (x32, .inr (9, ofL 6 Fx32)), (x31, .inr (1, ofL 10 Fx31)), (x3, .inr (7, ofL 5 Fx3)), (m0, .inr (12, ofL 88 (updV (updV Fm0 0 (.int 0)) 0 (.int 1))))] := hD
      refine lv_iload hx hb dL_law_1829 (lv_at hl 1 rfl) ?_
      refine lv_icmp_eq (x := 1) (y := 2) (tgt := 1836) hx hb dL_law_1831 (by decide) (fun c_136 => ?_) (fun c_136 => ?_)
      · exact absurd c_136 (by decide)
      refine lv_iconst (v := 0) hx hb dL_law_1834 (by decide) ?_
      exfalso
      have e9_0 : (0 : Int32).toInt = 0 := by decide
      have e9_2 : (2 : Int32).toInt = 2 := by decide
      simp only [Int32.lt_iff_toInt_lt, Int32.le_iff_toInt_le] at c_7 c_8 c_9 c_114
      omega
    ·
      have hP : va_P G.1 vwCl [(aout, .inl (G.2.2.2.2, 1, .inr (.inl ((fun _ => 0))))), (x0, .inr (11, ofL 17 Fx0)), (x32, .inr (9, ofL 6 Fx32)), (x31, .inr (1, ofL 10 Fx31)), (x3, .inr (7, ofL 5 Fx3)), (m0, .inr (12, ofL 88 (updV (updV Fm0 0 (.int 0)) 0 (.int 1))))] H := hP
      have hD : va_D A [(aout, .inl (G.2.2.2.2, 1, .inr (.inl ((fun _ => 0))))), (x0, .inr (11, ofL 17 Fx0)), (x32, .inr (9, ofL 6 Fx32)), (x31, .inr (1, ofL 10 Fx31)), (x3, .inr (7, ofL 5 Fx3)), (m0, .inr (12, ofL 88 (updV (updV Fm0 0 (.int 0)) 0 (.int 1))))] := hD
      refine lv_istore (lv' := [(6, .int 0), (5, .int 2), (0, .ref b), (1, .ref x0), (2, .ref m0), (3, .ref aout), (4, .int 0)]) hx hb dL_law_1823 hl (by decide) rfl (fun ls hl => ?_)
      refine lv_aload_n hx hb dL_law_1825 rfl (lv_at hl 4 rfl) ?_
      refine k_callVi (wr := [(aout, .inl (G.2.2.2.2, 1, .inr (.inl ((fun _ => 0))))), (x0, .inr (11, ofL 17 Fx0)), (x32, .inr (9, ofL 6 Fx32)), (x31, .inr (1, ofL 10 Fx31)), (x3, .inr (7, ofL 5 Fx3))]) (rest := []) li_L_118 C (c_X12_thrown l G H.size m0 (updV (updV Fm0 0 (.int 0)) 0 (.int 1)) 1 rfl) (kR rfl) hP hD hS [5] [0, 1, 2, 3, 4] rfl rfl rfl rfl (by decide) 0 12 rfl rfl rfl hl.1 rfl (Nat.le_of_ble_eq_true rfl) dL_law_1826 (fun rr138 uu139 H locs hw137 hP hD hS => ?_)
      obtain rfl : rr138 = 1 := hw137
      have hP : va_P G.1 vwCl [(aout, .inl (G.2.2.2.2, 1, .inr (.inl ((fun _ => 0))))), (x0, .inr (11, ofL 17 Fx0)), (x32, .inr (9, ofL 6 Fx32)), (x31, .inr (1, ofL 10 Fx31)), (x3, .inr (7, ofL 5 Fx3)), (m0, .inr (12, ofL 88 (updV (updV Fm0 0 (.int 0)) 0 (.int 1))))] H := hP
      have hD : va_D A [(aout, .inl (G.2.2.2.2, 1, .inr (.inl ((fun _ => 0))))), (x0, .inr (11, ofL 17 Fx0)), (x32, .inr (9, ofL 6 Fx32)), (x31, .inr (1, ofL 10 Fx31)), (x3, .inr (7, ofL 5 Fx3)), (m0, .inr (12, ofL 88 (updV (updV Fm0 0 (.int 0)) 0 (.int 1))))] := hD
      refine lv_iload hx hb dL_law_1829 (lv_at hl 1 rfl) ?_
      refine lv_icmp_eq (x := 1) (y := 2) (tgt := 1836) hx hb dL_law_1831 (by decide) (fun c_140 => ?_) (fun c_140 => ?_)
      · exact absurd c_140 (by decide)
      refine lv_iconst (v := 0) hx hb dL_law_1834 (by decide) ?_
      exfalso
      have e9_0 : (0 : Int32).toInt = 0 := by decide
      have e9_1 : (1 : Int32).toInt = 1 := by decide
      have e9_2 : (2 : Int32).toInt = 2 := by decide
      simp only [Int32.lt_iff_toInt_lt, Int32.le_iff_toInt_le] at c_7 c_8 c_9 c_115 c_116
      omega
    ·
      have hP : va_P G.1 vwCl [(aout, .inl (G.2.2.2.2, 1, .inr (.inl ((fun _ => 0))))), (x0, .inr (11, ofL 17 Fx0)), (x32, .inr (9, ofL 6 Fx32)), (x31, .inr (1, ofL 10 Fx31)), (x3, .inr (7, ofL 5 Fx3)), (m0, .inr (12, ofL 88 (updV (updV Fm0 0 (.int 0)) 0 (.int 2))))] H := hP
      have hD : va_D A [(aout, .inl (G.2.2.2.2, 1, .inr (.inl ((fun _ => 0))))), (x0, .inr (11, ofL 17 Fx0)), (x32, .inr (9, ofL 6 Fx32)), (x31, .inr (1, ofL 10 Fx31)), (x3, .inr (7, ofL 5 Fx3)), (m0, .inr (12, ofL 88 (updV (updV Fm0 0 (.int 0)) 0 (.int 2))))] := hD
      refine lv_istore (lv' := [(6, .int 0), (5, .int 2), (0, .ref b), (1, .ref x0), (2, .ref m0), (3, .ref aout), (4, .int 0)]) hx hb dL_law_1823 hl (by decide) rfl (fun ls hl => ?_)
      refine lv_aload_n hx hb dL_law_1825 rfl (lv_at hl 4 rfl) ?_
      refine k_callVi (wr := [(aout, .inl (G.2.2.2.2, 1, .inr (.inl ((fun _ => 0))))), (x0, .inr (11, ofL 17 Fx0)), (x32, .inr (9, ofL 6 Fx32)), (x31, .inr (1, ofL 10 Fx31)), (x3, .inr (7, ofL 5 Fx3))]) (rest := []) li_L_118 C (c_X12_thrown l G H.size m0 (updV (updV Fm0 0 (.int 0)) 0 (.int 2)) 2 rfl) (kR rfl) hP hD hS [5] [0, 1, 2, 3, 4] rfl rfl rfl rfl (by decide) 0 12 rfl rfl rfl hl.1 rfl (Nat.le_of_ble_eq_true rfl) dL_law_1826 (fun rr142 uu143 H locs hw141 hP hD hS => ?_)
      obtain rfl : rr142 = 2 := hw141
      have hP : va_P G.1 vwCl [(aout, .inl (G.2.2.2.2, 1, .inr (.inl ((fun _ => 0))))), (x0, .inr (11, ofL 17 Fx0)), (x32, .inr (9, ofL 6 Fx32)), (x31, .inr (1, ofL 10 Fx31)), (x3, .inr (7, ofL 5 Fx3)), (m0, .inr (12, ofL 88 (updV (updV Fm0 0 (.int 0)) 0 (.int 2))))] H := hP
      have hD : va_D A [(aout, .inl (G.2.2.2.2, 1, .inr (.inl ((fun _ => 0))))), (x0, .inr (11, ofL 17 Fx0)), (x32, .inr (9, ofL 6 Fx32)), (x31, .inr (1, ofL 10 Fx31)), (x3, .inr (7, ofL 5 Fx3)), (m0, .inr (12, ofL 88 (updV (updV Fm0 0 (.int 0)) 0 (.int 2))))] := hD
      refine lv_iload hx hb dL_law_1829 (lv_at hl 1 rfl) ?_
      refine lv_icmp_eq (x := 2) (y := 2) (tgt := 1836) hx hb dL_law_1831 (by decide) (fun c_144 => ?_) (fun c_144 => ?_)
      rotate_left
      · exact absurd (by decide) c_144
      refine lv_iload hx hb dL_law_1836 (lv_at hl 1 rfl) ?_
      refine lv_if_ne (x := 2) (tgt := 1853) hx hb dL_law_1838 (by decide) (fun c_145 => ?_) (fun c_145 => ?_)
      rotate_left
      · exact absurd c_145 (by decide)
      refine lv_goto (tgt := 2265) hx hb dL_law_1853 (by decide) ?_
      exact law_end hst C0 hA C hS (lv_sub hl [2, 6] rfl) (Nat.le_of_ble_eq_true rfl) (Nat.le_of_ble_eq_true rfl)
    ·
      have hP : va_P G.1 vwCl [(aout, .inl (G.2.2.2.2, 1, .inr (.inl ((fun _ => 0))))), (x0, .inr (11, ofL 17 Fx0)), (x32, .inr (9, ofL 6 Fx32)), (x31, .inr (1, ofL 10 Fx31)), (x3, .inr (7, ofL 5 Fx3)), (m0, .inr (12, ofL 88 (updV (updV Fm0 0 (.int 0)) 0 (.int 2))))] H := hP
      have hD : va_D A [(aout, .inl (G.2.2.2.2, 1, .inr (.inl ((fun _ => 0))))), (x0, .inr (11, ofL 17 Fx0)), (x32, .inr (9, ofL 6 Fx32)), (x31, .inr (1, ofL 10 Fx31)), (x3, .inr (7, ofL 5 Fx3)), (m0, .inr (12, ofL 88 (updV (updV Fm0 0 (.int 0)) 0 (.int 2))))] := hD
      refine lv_istore (lv' := [(6, .int 0), (5, .int 2), (0, .ref b), (1, .ref x0), (2, .ref m0), (3, .ref aout), (4, .int 0)]) hx hb dL_law_1823 hl (by decide) rfl (fun ls hl => ?_)
      refine lv_aload_n hx hb dL_law_1825 rfl (lv_at hl 4 rfl) ?_
      refine k_callVi (wr := [(aout, .inl (G.2.2.2.2, 1, .inr (.inl ((fun _ => 0))))), (x0, .inr (11, ofL 17 Fx0)), (x32, .inr (9, ofL 6 Fx32)), (x31, .inr (1, ofL 10 Fx31)), (x3, .inr (7, ofL 5 Fx3))]) (rest := []) li_L_118 C (c_X12_thrown l G H.size m0 (updV (updV Fm0 0 (.int 0)) 0 (.int 2)) 2 rfl) (kR rfl) hP hD hS [5] [0, 1, 2, 3, 4] rfl rfl rfl rfl (by decide) 0 12 rfl rfl rfl hl.1 rfl (Nat.le_of_ble_eq_true rfl) dL_law_1826 (fun rr147 uu148 H locs hw146 hP hD hS => ?_)
      obtain rfl : rr147 = 2 := hw146
      have hP : va_P G.1 vwCl [(aout, .inl (G.2.2.2.2, 1, .inr (.inl ((fun _ => 0))))), (x0, .inr (11, ofL 17 Fx0)), (x32, .inr (9, ofL 6 Fx32)), (x31, .inr (1, ofL 10 Fx31)), (x3, .inr (7, ofL 5 Fx3)), (m0, .inr (12, ofL 88 (updV (updV Fm0 0 (.int 0)) 0 (.int 2))))] H := hP
      have hD : va_D A [(aout, .inl (G.2.2.2.2, 1, .inr (.inl ((fun _ => 0))))), (x0, .inr (11, ofL 17 Fx0)), (x32, .inr (9, ofL 6 Fx32)), (x31, .inr (1, ofL 10 Fx31)), (x3, .inr (7, ofL 5 Fx3)), (m0, .inr (12, ofL 88 (updV (updV Fm0 0 (.int 0)) 0 (.int 2))))] := hD
      refine lv_iload hx hb dL_law_1829 (lv_at hl 1 rfl) ?_
      refine lv_icmp_eq (x := 2) (y := 2) (tgt := 1836) hx hb dL_law_1831 (by decide) (fun c_149 => ?_) (fun c_149 => ?_)
      rotate_left
      · exact absurd (by decide) c_149
      refine lv_iload hx hb dL_law_1836 (lv_at hl 1 rfl) ?_
      refine lv_if_ne (x := 2) (tgt := 1853) hx hb dL_law_1838 (by decide) (fun c_150 => ?_) (fun c_150 => ?_)
      rotate_left
      · exact absurd c_150 (by decide)
      refine lv_goto (tgt := 2265) hx hb dL_law_1853 (by decide) ?_
      exact law_end hst C0 hA C hS (lv_sub hl [2, 6] rfl) (Nat.le_of_ble_eq_true rfl) (Nat.le_of_ble_eq_true rfl)
    ·
      have hP : va_P G.1 vwCl [(aout, .inl (G.2.2.2.2, 1, .inr (.inl ((fun _ => 0))))), (x0, .inr (11, ofL 17 Fx0)), (x32, .inr (9, ofL 6 Fx32)), (x31, .inr (1, ofL 10 Fx31)), (x3, .inr (7, ofL 5 Fx3)), (m0, .inr (12, ofL 88 (updV (updV Fm0 0 (.int 0)) 79 (.int 0))))] H := hP
      have hD : va_D A [(aout, .inl (G.2.2.2.2, 1, .inr (.inl ((fun _ => 0))))), (x0, .inr (11, ofL 17 Fx0)), (x32, .inr (9, ofL 6 Fx32)), (x31, .inr (1, ofL 10 Fx31)), (x3, .inr (7, ofL 5 Fx3)), (m0, .inr (12, ofL 88 (updV (updV Fm0 0 (.int 0)) 79 (.int 0))))] := hD
      refine lv_istore (lv' := [(6, .int 0), (5, .int 2), (0, .ref b), (1, .ref x0), (2, .ref m0), (3, .ref aout), (4, .int 0)]) hx hb dL_law_1823 hl (by decide) rfl (fun ls hl => ?_)
      refine lv_aload_n hx hb dL_law_1825 rfl (lv_at hl 4 rfl) ?_
      refine k_callVi (wr := [(aout, .inl (G.2.2.2.2, 1, .inr (.inl ((fun _ => 0))))), (x0, .inr (11, ofL 17 Fx0)), (x32, .inr (9, ofL 6 Fx32)), (x31, .inr (1, ofL 10 Fx31)), (x3, .inr (7, ofL 5 Fx3))]) (rest := []) li_L_118 C (c_X12_thrown l G H.size m0 (updV (updV Fm0 0 (.int 0)) 79 (.int 0)) 0 rfl) (kR rfl) hP hD hS [5] [0, 1, 2, 3, 4] rfl rfl rfl rfl (by decide) 0 12 rfl rfl rfl hl.1 rfl (Nat.le_of_ble_eq_true rfl) dL_law_1826 (fun rr152 uu153 H locs hw151 hP hD hS => ?_)
      obtain rfl : rr152 = 0 := hw151
      have hP : va_P G.1 vwCl [(aout, .inl (G.2.2.2.2, 1, .inr (.inl ((fun _ => 0))))), (x0, .inr (11, ofL 17 Fx0)), (x32, .inr (9, ofL 6 Fx32)), (x31, .inr (1, ofL 10 Fx31)), (x3, .inr (7, ofL 5 Fx3)), (m0, .inr (12, ofL 88 (updV (updV Fm0 0 (.int 0)) 79 (.int 0))))] H := hP
      have hD : va_D A [(aout, .inl (G.2.2.2.2, 1, .inr (.inl ((fun _ => 0))))), (x0, .inr (11, ofL 17 Fx0)), (x32, .inr (9, ofL 6 Fx32)), (x31, .inr (1, ofL 10 Fx31)), (x3, .inr (7, ofL 5 Fx3)), (m0, .inr (12, ofL 88 (updV (updV Fm0 0 (.int 0)) 79 (.int 0))))] := hD
      refine lv_iload hx hb dL_law_1829 (lv_at hl 1 rfl) ?_
      refine lv_icmp_eq (x := 0) (y := 2) (tgt := 1836) hx hb dL_law_1831 (by decide) (fun c_154 => ?_) (fun c_154 => ?_)
      · exact absurd c_154 (by decide)
      refine lv_iconst (v := 0) hx hb dL_law_1834 (by decide) ?_
      exfalso
      have e9_0 : (0 : Int32).toInt = 0 := by decide
      have e9_1 : (1 : Int32).toInt = 1 := by decide
      have e9_2 : (2 : Int32).toInt = 2 := by decide
      have e9_4000 : (4000 : Int32).toInt = 4000 := by decide
      simp only [← Int32.toInt_inj] at c_128
      simp only [Int32.lt_iff_toInt_lt, Int32.le_iff_toInt_le] at c_7 c_8 c_9 c_124 c_125 c_126 c_127
      omega
    ·
      have hP : va_P G.1 vwCl [(aout, .inl (G.2.2.2.2, 1, .inr (.inl ((fun _ => 0))))), (x0, .inr (11, ofL 17 Fx0)), (x32, .inr (9, ofL 6 Fx32)), (x31, .inr (1, ofL 10 Fx31)), (x3, .inr (7, ofL 5 Fx3)), (m0, .inr (12, ofL 88 (updV (updV Fm0 0 (.int 0)) 79 (.int 0))))] H := hP
      have hD : va_D A [(aout, .inl (G.2.2.2.2, 1, .inr (.inl ((fun _ => 0))))), (x0, .inr (11, ofL 17 Fx0)), (x32, .inr (9, ofL 6 Fx32)), (x31, .inr (1, ofL 10 Fx31)), (x3, .inr (7, ofL 5 Fx3)), (m0, .inr (12, ofL 88 (updV (updV Fm0 0 (.int 0)) 79 (.int 0))))] := hD
      refine lv_istore (lv' := [(6, .int 0), (5, .int 2), (0, .ref b), (1, .ref x0), (2, .ref m0), (3, .ref aout), (4, .int 0)]) hx hb dL_law_1823 hl (by decide) rfl (fun ls hl => ?_)
      refine lv_aload_n hx hb dL_law_1825 rfl (lv_at hl 4 rfl) ?_
      refine k_callVi (wr := [(aout, .inl (G.2.2.2.2, 1, .inr (.inl ((fun _ => 0))))), (x0, .inr (11, ofL 17 Fx0)), (x32, .inr (9, ofL 6 Fx32)), (x31, .inr (1, ofL 10 Fx31)), (x3, .inr (7, ofL 5 Fx3))]) (rest := []) li_L_118 C (c_X12_thrown l G H.size m0 (updV (updV Fm0 0 (.int 0)) 79 (.int 0)) 0 rfl) (kR rfl) hP hD hS [5] [0, 1, 2, 3, 4] rfl rfl rfl rfl (by decide) 0 12 rfl rfl rfl hl.1 rfl (Nat.le_of_ble_eq_true rfl) dL_law_1826 (fun rr156 uu157 H locs hw155 hP hD hS => ?_)
      obtain rfl : rr156 = 0 := hw155
      have hP : va_P G.1 vwCl [(aout, .inl (G.2.2.2.2, 1, .inr (.inl ((fun _ => 0))))), (x0, .inr (11, ofL 17 Fx0)), (x32, .inr (9, ofL 6 Fx32)), (x31, .inr (1, ofL 10 Fx31)), (x3, .inr (7, ofL 5 Fx3)), (m0, .inr (12, ofL 88 (updV (updV Fm0 0 (.int 0)) 79 (.int 0))))] H := hP
      have hD : va_D A [(aout, .inl (G.2.2.2.2, 1, .inr (.inl ((fun _ => 0))))), (x0, .inr (11, ofL 17 Fx0)), (x32, .inr (9, ofL 6 Fx32)), (x31, .inr (1, ofL 10 Fx31)), (x3, .inr (7, ofL 5 Fx3)), (m0, .inr (12, ofL 88 (updV (updV Fm0 0 (.int 0)) 79 (.int 0))))] := hD
      refine lv_iload hx hb dL_law_1829 (lv_at hl 1 rfl) ?_
      refine lv_icmp_eq (x := 0) (y := 2) (tgt := 1836) hx hb dL_law_1831 (by decide) (fun c_158 => ?_) (fun c_158 => ?_)
      · exact absurd c_158 (by decide)
      refine lv_iconst (v := 0) hx hb dL_law_1834 (by decide) ?_
      exfalso
      have e9_0 : (0 : Int32).toInt = 0 := by decide
      have e9_1 : (1 : Int32).toInt = 1 := by decide
      have e9_2 : (2 : Int32).toInt = 2 := by decide
      have e9_4000 : (4000 : Int32).toInt = 4000 := by decide
      simp only [Int32.lt_iff_toInt_lt, Int32.le_iff_toInt_le] at c_7 c_8 c_9 c_129 c_130 c_131 c_132
      omega
  ·
    have hP : va_P G.1 vwCl [(m0, .inr (12, ofL 88 Fm0)), (aout, .inl (G.2.2.2.2, 1, .inr (.inl ((fun _ => 0))))), (x0, .inr (11, ofL 17 Fx0)), (x32, .inr (9, ofL 6 Fx32)), (x31, .inr (1, ofL 10 Fx31)), (x3, .inr (7, ofL 5 Fx3))] H := hP
    have hD : va_D A [(m0, .inr (12, ofL 88 Fm0)), (aout, .inl (G.2.2.2.2, 1, .inr (.inl ((fun _ => 0))))), (x0, .inr (11, ofL 17 Fx0)), (x32, .inr (9, ofL 6 Fx32)), (x31, .inr (1, ofL 10 Fx31)), (x3, .inr (7, ofL 5 Fx3))] := hD
    refine lv_istore (lv' := [(5, .int 2), (0, .ref b), (1, .ref x0), (2, .ref m0), (3, .ref aout), (4, .int 0)]) hx hb dL_law_1805 hl (by decide) rfl (fun ls hl => ?_)
    refine lv_aload_n hx hb dL_law_1807 rfl (lv_at hl 3 rfl) ?_
    refine lv_aload_n hx hb dL_law_1808 rfl (lv_at hl 1 rfl) ?_
    refine lv_iload hx hb dL_law_1809 (lv_at hl 5 rfl) ?_
    refine lv_iconst (v := 1) hx hb dL_law_1811 (by decide) ?_
    refine lv_iadd hx hb dL_law_1812 ?_
    refine k_eqi (y := 1) (by decide) ?_
    refine va_sld hx hb hX hbl hbA hS (k_in (by decide)) dL_law_1813 ?_
    refine k_eqi (y := v1) hv1 ?_
    refine lv_aload_n hx hb dL_law_1814 rfl (lv_at hl 1 rfl) ?_
    refine lv_iload hx hb dL_law_1815 (lv_at hl 5 rfl) ?_
    refine lv_iconst (v := 2) hx hb dL_law_1817 (by decide) ?_
    refine lv_iadd hx hb dL_law_1818 ?_
    refine k_eqi (y := 2) (by decide) ?_
    refine va_sld hx hb hX hbl hbA hS (k_in (by decide)) dL_law_1819 ?_
    refine k_eqi (y := v2) hv2 ?_
    refine k_callVi (wr := [(aout, .inl (G.2.2.2.2, 1, .inr (.inl ((fun _ => 0))))), (x0, .inr (11, ofL 17 Fx0)), (x32, .inr (9, ofL 6 Fx32)), (x31, .inr (1, ofL 10 Fx31)), (x3, .inr (7, ofL 5 Fx3))]) (rest := []) li_L_216 C (c_X12_on l G H.size m0 v1 v2 Fm0 e_m0_1) (kR rfl) hP hD hS [0] [1, 2, 3, 4, 5] rfl rfl rfl rfl (by decide) 0 12 rfl rfl rfl hl.1 rfl (Nat.le_of_ble_eq_true rfl) dL_law_1820 (fun rr160 uu161 H locs hw159 hP hD hS => ?_)
    rcases hw159 with ⟨rfl, rfl, c_162⟩ | ⟨rfl, rfl, c_163, c_164⟩ | ⟨rfl, rfl, c_165, c_166, c_167⟩ | ⟨rfl, rfl, c_168, c_169, c_170, c_171⟩ | ⟨rfl, rfl, c_172, c_173, c_174, c_175, c_176⟩ | ⟨rfl, rfl, c_177, c_178, c_179, c_180, rfl⟩
    ·
      have hP : va_P G.1 vwCl [(aout, .inl (G.2.2.2.2, 1, .inr (.inl ((fun _ => 0))))), (x0, .inr (11, ofL 17 Fx0)), (x32, .inr (9, ofL 6 Fx32)), (x31, .inr (1, ofL 10 Fx31)), (x3, .inr (7, ofL 5 Fx3)), (m0, .inr (12, ofL 88 (updV (updV Fm0 0 (.int 0)) 0 (.int 1))))] H := hP
      have hD : va_D A [(aout, .inl (G.2.2.2.2, 1, .inr (.inl ((fun _ => 0))))), (x0, .inr (11, ofL 17 Fx0)), (x32, .inr (9, ofL 6 Fx32)), (x31, .inr (1, ofL 10 Fx31)), (x3, .inr (7, ofL 5 Fx3)), (m0, .inr (12, ofL 88 (updV (updV Fm0 0 (.int 0)) 0 (.int 1))))] := hD
      refine lv_istore (lv' := [(6, .int 0), (5, .int 2), (0, .ref b), (1, .ref x0), (2, .ref m0), (3, .ref aout), (4, .int 0)]) hx hb dL_law_1823 hl (by decide) rfl (fun ls hl => ?_)
      refine lv_aload_n hx hb dL_law_1825 rfl (lv_at hl 4 rfl) ?_
      refine k_callVi (wr := [(aout, .inl (G.2.2.2.2, 1, .inr (.inl ((fun _ => 0))))), (x0, .inr (11, ofL 17 Fx0)), (x32, .inr (9, ofL 6 Fx32)), (x31, .inr (1, ofL 10 Fx31)), (x3, .inr (7, ofL 5 Fx3))]) (rest := []) li_L_118 C (c_X12_thrown l G H.size m0 (updV (updV Fm0 0 (.int 0)) 0 (.int 1)) 1 rfl) (kR rfl) hP hD hS [5] [0, 1, 2, 3, 4] rfl rfl rfl rfl (by decide) 0 12 rfl rfl rfl hl.1 rfl (Nat.le_of_ble_eq_true rfl) dL_law_1826 (fun rr182 uu183 H locs hw181 hP hD hS => ?_)
      obtain rfl : rr182 = 1 := hw181
      have hP : va_P G.1 vwCl [(aout, .inl (G.2.2.2.2, 1, .inr (.inl ((fun _ => 0))))), (x0, .inr (11, ofL 17 Fx0)), (x32, .inr (9, ofL 6 Fx32)), (x31, .inr (1, ofL 10 Fx31)), (x3, .inr (7, ofL 5 Fx3)), (m0, .inr (12, ofL 88 (updV (updV Fm0 0 (.int 0)) 0 (.int 1))))] H := hP
      have hD : va_D A [(aout, .inl (G.2.2.2.2, 1, .inr (.inl ((fun _ => 0))))), (x0, .inr (11, ofL 17 Fx0)), (x32, .inr (9, ofL 6 Fx32)), (x31, .inr (1, ofL 10 Fx31)), (x3, .inr (7, ofL 5 Fx3)), (m0, .inr (12, ofL 88 (updV (updV Fm0 0 (.int 0)) 0 (.int 1))))] := hD
      refine lv_iload hx hb dL_law_1829 (lv_at hl 1 rfl) ?_
      refine lv_icmp_eq (x := 1) (y := 2) (tgt := 1836) hx hb dL_law_1831 (by decide) (fun c_184 => ?_) (fun c_184 => ?_)
      · exact absurd c_184 (by decide)
      refine lv_iconst (v := 0) hx hb dL_law_1834 (by decide) ?_
      exfalso
      have e9_0 : (0 : Int32).toInt = 0 := by decide
      have e9_2 : (2 : Int32).toInt = 2 := by decide
      have e9_4000 : (4000 : Int32).toInt = 4000 := by decide
      simp only [Int32.lt_iff_toInt_lt, Int32.le_iff_toInt_le] at c_10 c_11 c_12 c_13 c_162
      omega
    ·
      have hP : va_P G.1 vwCl [(aout, .inl (G.2.2.2.2, 1, .inr (.inl ((fun _ => 0))))), (x0, .inr (11, ofL 17 Fx0)), (x32, .inr (9, ofL 6 Fx32)), (x31, .inr (1, ofL 10 Fx31)), (x3, .inr (7, ofL 5 Fx3)), (m0, .inr (12, ofL 88 (updV (updV Fm0 0 (.int 0)) 0 (.int 1))))] H := hP
      have hD : va_D A [(aout, .inl (G.2.2.2.2, 1, .inr (.inl ((fun _ => 0))))), (x0, .inr (11, ofL 17 Fx0)), (x32, .inr (9, ofL 6 Fx32)), (x31, .inr (1, ofL 10 Fx31)), (x3, .inr (7, ofL 5 Fx3)), (m0, .inr (12, ofL 88 (updV (updV Fm0 0 (.int 0)) 0 (.int 1))))] := hD
      refine lv_istore (lv' := [(6, .int 0), (5, .int 2), (0, .ref b), (1, .ref x0), (2, .ref m0), (3, .ref aout), (4, .int 0)]) hx hb dL_law_1823 hl (by decide) rfl (fun ls hl => ?_)
      refine lv_aload_n hx hb dL_law_1825 rfl (lv_at hl 4 rfl) ?_
      refine k_callVi (wr := [(aout, .inl (G.2.2.2.2, 1, .inr (.inl ((fun _ => 0))))), (x0, .inr (11, ofL 17 Fx0)), (x32, .inr (9, ofL 6 Fx32)), (x31, .inr (1, ofL 10 Fx31)), (x3, .inr (7, ofL 5 Fx3))]) (rest := []) li_L_118 C (c_X12_thrown l G H.size m0 (updV (updV Fm0 0 (.int 0)) 0 (.int 1)) 1 rfl) (kR rfl) hP hD hS [5] [0, 1, 2, 3, 4] rfl rfl rfl rfl (by decide) 0 12 rfl rfl rfl hl.1 rfl (Nat.le_of_ble_eq_true rfl) dL_law_1826 (fun rr186 uu187 H locs hw185 hP hD hS => ?_)
      obtain rfl : rr186 = 1 := hw185
      have hP : va_P G.1 vwCl [(aout, .inl (G.2.2.2.2, 1, .inr (.inl ((fun _ => 0))))), (x0, .inr (11, ofL 17 Fx0)), (x32, .inr (9, ofL 6 Fx32)), (x31, .inr (1, ofL 10 Fx31)), (x3, .inr (7, ofL 5 Fx3)), (m0, .inr (12, ofL 88 (updV (updV Fm0 0 (.int 0)) 0 (.int 1))))] H := hP
      have hD : va_D A [(aout, .inl (G.2.2.2.2, 1, .inr (.inl ((fun _ => 0))))), (x0, .inr (11, ofL 17 Fx0)), (x32, .inr (9, ofL 6 Fx32)), (x31, .inr (1, ofL 10 Fx31)), (x3, .inr (7, ofL 5 Fx3)), (m0, .inr (12, ofL 88 (updV (updV Fm0 0 (.int 0)) 0 (.int 1))))] := hD
      refine lv_iload hx hb dL_law_1829 (lv_at hl 1 rfl) ?_
      refine lv_icmp_eq (x := 1) (y := 2) (tgt := 1836) hx hb dL_law_1831 (by decide) (fun c_188 => ?_) (fun c_188 => ?_)
      · exact absurd c_188 (by decide)
      refine lv_iconst (v := 0) hx hb dL_law_1834 (by decide) ?_
      exfalso
      have e9_0 : (0 : Int32).toInt = 0 := by decide
      have e9_1 : (1 : Int32).toInt = 1 := by decide
      have e9_2 : (2 : Int32).toInt = 2 := by decide
      have e9_4000 : (4000 : Int32).toInt = 4000 := by decide
      simp only [Int32.lt_iff_toInt_lt, Int32.le_iff_toInt_le] at c_10 c_11 c_12 c_13 c_163 c_164
      omega
    ·
      have hP : va_P G.1 vwCl [(aout, .inl (G.2.2.2.2, 1, .inr (.inl ((fun _ => 0))))), (x0, .inr (11, ofL 17 Fx0)), (x32, .inr (9, ofL 6 Fx32)), (x31, .inr (1, ofL 10 Fx31)), (x3, .inr (7, ofL 5 Fx3)), (m0, .inr (12, ofL 88 (updV (updV Fm0 0 (.int 0)) 0 (.int 2))))] H := hP
      have hD : va_D A [(aout, .inl (G.2.2.2.2, 1, .inr (.inl ((fun _ => 0))))), (x0, .inr (11, ofL 17 Fx0)), (x32, .inr (9, ofL 6 Fx32)), (x31, .inr (1, ofL 10 Fx31)), (x3, .inr (7, ofL 5 Fx3)), (m0, .inr (12, ofL 88 (updV (updV Fm0 0 (.int 0)) 0 (.int 2))))] := hD
      refine lv_istore (lv' := [(6, .int 0), (5, .int 2), (0, .ref b), (1, .ref x0), (2, .ref m0), (3, .ref aout), (4, .int 0)]) hx hb dL_law_1823 hl (by decide) rfl (fun ls hl => ?_)
      refine lv_aload_n hx hb dL_law_1825 rfl (lv_at hl 4 rfl) ?_
      refine k_callVi (wr := [(aout, .inl (G.2.2.2.2, 1, .inr (.inl ((fun _ => 0))))), (x0, .inr (11, ofL 17 Fx0)), (x32, .inr (9, ofL 6 Fx32)), (x31, .inr (1, ofL 10 Fx31)), (x3, .inr (7, ofL 5 Fx3))]) (rest := []) li_L_118 C (c_X12_thrown l G H.size m0 (updV (updV Fm0 0 (.int 0)) 0 (.int 2)) 2 rfl) (kR rfl) hP hD hS [5] [0, 1, 2, 3, 4] rfl rfl rfl rfl (by decide) 0 12 rfl rfl rfl hl.1 rfl (Nat.le_of_ble_eq_true rfl) dL_law_1826 (fun rr190 uu191 H locs hw189 hP hD hS => ?_)
      obtain rfl : rr190 = 2 := hw189
      have hP : va_P G.1 vwCl [(aout, .inl (G.2.2.2.2, 1, .inr (.inl ((fun _ => 0))))), (x0, .inr (11, ofL 17 Fx0)), (x32, .inr (9, ofL 6 Fx32)), (x31, .inr (1, ofL 10 Fx31)), (x3, .inr (7, ofL 5 Fx3)), (m0, .inr (12, ofL 88 (updV (updV Fm0 0 (.int 0)) 0 (.int 2))))] H := hP
      have hD : va_D A [(aout, .inl (G.2.2.2.2, 1, .inr (.inl ((fun _ => 0))))), (x0, .inr (11, ofL 17 Fx0)), (x32, .inr (9, ofL 6 Fx32)), (x31, .inr (1, ofL 10 Fx31)), (x3, .inr (7, ofL 5 Fx3)), (m0, .inr (12, ofL 88 (updV (updV Fm0 0 (.int 0)) 0 (.int 2))))] := hD
      refine lv_iload hx hb dL_law_1829 (lv_at hl 1 rfl) ?_
      refine lv_icmp_eq (x := 2) (y := 2) (tgt := 1836) hx hb dL_law_1831 (by decide) (fun c_192 => ?_) (fun c_192 => ?_)
      rotate_left
      · exact absurd (by decide) c_192
      refine lv_iload hx hb dL_law_1836 (lv_at hl 1 rfl) ?_
      refine lv_if_ne (x := 2) (tgt := 1853) hx hb dL_law_1838 (by decide) (fun c_193 => ?_) (fun c_193 => ?_)
      rotate_left
      · exact absurd c_193 (by decide)
      refine lv_goto (tgt := 2265) hx hb dL_law_1853 (by decide) ?_
      exact law_end hst C0 hA C hS (lv_sub hl [2, 6] rfl) (Nat.le_of_ble_eq_true rfl) (Nat.le_of_ble_eq_true rfl)
    ·
      have hP : va_P G.1 vwCl [(aout, .inl (G.2.2.2.2, 1, .inr (.inl ((fun _ => 0))))), (x0, .inr (11, ofL 17 Fx0)), (x32, .inr (9, ofL 6 Fx32)), (x31, .inr (1, ofL 10 Fx31)), (x3, .inr (7, ofL 5 Fx3)), (m0, .inr (12, ofL 88 (updV (updV Fm0 0 (.int 0)) 0 (.int 2))))] H := hP
      have hD : va_D A [(aout, .inl (G.2.2.2.2, 1, .inr (.inl ((fun _ => 0))))), (x0, .inr (11, ofL 17 Fx0)), (x32, .inr (9, ofL 6 Fx32)), (x31, .inr (1, ofL 10 Fx31)), (x3, .inr (7, ofL 5 Fx3)), (m0, .inr (12, ofL 88 (updV (updV Fm0 0 (.int 0)) 0 (.int 2))))] := hD
      refine lv_istore (lv' := [(6, .int 0), (5, .int 2), (0, .ref b), (1, .ref x0), (2, .ref m0), (3, .ref aout), (4, .int 0)]) hx hb dL_law_1823 hl (by decide) rfl (fun ls hl => ?_)
      refine lv_aload_n hx hb dL_law_1825 rfl (lv_at hl 4 rfl) ?_
      refine k_callVi (wr := [(aout, .inl (G.2.2.2.2, 1, .inr (.inl ((fun _ => 0))))), (x0, .inr (11, ofL 17 Fx0)), (x32, .inr (9, ofL 6 Fx32)), (x31, .inr (1, ofL 10 Fx31)), (x3, .inr (7, ofL 5 Fx3))]) (rest := []) li_L_118 C (c_X12_thrown l G H.size m0 (updV (updV Fm0 0 (.int 0)) 0 (.int 2)) 2 rfl) (kR rfl) hP hD hS [5] [0, 1, 2, 3, 4] rfl rfl rfl rfl (by decide) 0 12 rfl rfl rfl hl.1 rfl (Nat.le_of_ble_eq_true rfl) dL_law_1826 (fun rr195 uu196 H locs hw194 hP hD hS => ?_)
      obtain rfl : rr195 = 2 := hw194
      have hP : va_P G.1 vwCl [(aout, .inl (G.2.2.2.2, 1, .inr (.inl ((fun _ => 0))))), (x0, .inr (11, ofL 17 Fx0)), (x32, .inr (9, ofL 6 Fx32)), (x31, .inr (1, ofL 10 Fx31)), (x3, .inr (7, ofL 5 Fx3)), (m0, .inr (12, ofL 88 (updV (updV Fm0 0 (.int 0)) 0 (.int 2))))] H := hP
      have hD : va_D A [(aout, .inl (G.2.2.2.2, 1, .inr (.inl ((fun _ => 0))))), (x0, .inr (11, ofL 17 Fx0)), (x32, .inr (9, ofL 6 Fx32)), (x31, .inr (1, ofL 10 Fx31)), (x3, .inr (7, ofL 5 Fx3)), (m0, .inr (12, ofL 88 (updV (updV Fm0 0 (.int 0)) 0 (.int 2))))] := hD
      refine lv_iload hx hb dL_law_1829 (lv_at hl 1 rfl) ?_
      refine lv_icmp_eq (x := 2) (y := 2) (tgt := 1836) hx hb dL_law_1831 (by decide) (fun c_197 => ?_) (fun c_197 => ?_)
      rotate_left
      · exact absurd (by decide) c_197
      refine lv_iload hx hb dL_law_1836 (lv_at hl 1 rfl) ?_
      refine lv_if_ne (x := 2) (tgt := 1853) hx hb dL_law_1838 (by decide) (fun c_198 => ?_) (fun c_198 => ?_)
      rotate_left
      · exact absurd c_198 (by decide)
      refine lv_goto (tgt := 2265) hx hb dL_law_1853 (by decide) ?_
      exact law_end hst C0 hA C hS (lv_sub hl [2, 6] rfl) (Nat.le_of_ble_eq_true rfl) (Nat.le_of_ble_eq_true rfl)
    ·
      have hP : va_P G.1 vwCl [(aout, .inl (G.2.2.2.2, 1, .inr (.inl ((fun _ => 0))))), (x0, .inr (11, ofL 17 Fx0)), (x32, .inr (9, ofL 6 Fx32)), (x31, .inr (1, ofL 10 Fx31)), (x3, .inr (7, ofL 5 Fx3)), (m0, .inr (12, ofL 88 (updV (updV Fm0 0 (.int 0)) 79 (.int 0))))] H := hP
      have hD : va_D A [(aout, .inl (G.2.2.2.2, 1, .inr (.inl ((fun _ => 0))))), (x0, .inr (11, ofL 17 Fx0)), (x32, .inr (9, ofL 6 Fx32)), (x31, .inr (1, ofL 10 Fx31)), (x3, .inr (7, ofL 5 Fx3)), (m0, .inr (12, ofL 88 (updV (updV Fm0 0 (.int 0)) 79 (.int 0))))] := hD
      refine lv_istore (lv' := [(6, .int 0), (5, .int 2), (0, .ref b), (1, .ref x0), (2, .ref m0), (3, .ref aout), (4, .int 0)]) hx hb dL_law_1823 hl (by decide) rfl (fun ls hl => ?_)
      refine lv_aload_n hx hb dL_law_1825 rfl (lv_at hl 4 rfl) ?_
      refine k_callVi (wr := [(aout, .inl (G.2.2.2.2, 1, .inr (.inl ((fun _ => 0))))), (x0, .inr (11, ofL 17 Fx0)), (x32, .inr (9, ofL 6 Fx32)), (x31, .inr (1, ofL 10 Fx31)), (x3, .inr (7, ofL 5 Fx3))]) (rest := []) li_L_118 C (c_X12_thrown l G H.size m0 (updV (updV Fm0 0 (.int 0)) 79 (.int 0)) 0 rfl) (kR rfl) hP hD hS [5] [0, 1, 2, 3, 4] rfl rfl rfl rfl (by decide) 0 12 rfl rfl rfl hl.1 rfl (Nat.le_of_ble_eq_true rfl) dL_law_1826 (fun rr200 uu201 H locs hw199 hP hD hS => ?_)
      obtain rfl : rr200 = 0 := hw199
      have hP : va_P G.1 vwCl [(aout, .inl (G.2.2.2.2, 1, .inr (.inl ((fun _ => 0))))), (x0, .inr (11, ofL 17 Fx0)), (x32, .inr (9, ofL 6 Fx32)), (x31, .inr (1, ofL 10 Fx31)), (x3, .inr (7, ofL 5 Fx3)), (m0, .inr (12, ofL 88 (updV (updV Fm0 0 (.int 0)) 79 (.int 0))))] H := hP
      have hD : va_D A [(aout, .inl (G.2.2.2.2, 1, .inr (.inl ((fun _ => 0))))), (x0, .inr (11, ofL 17 Fx0)), (x32, .inr (9, ofL 6 Fx32)), (x31, .inr (1, ofL 10 Fx31)), (x3, .inr (7, ofL 5 Fx3)), (m0, .inr (12, ofL 88 (updV (updV Fm0 0 (.int 0)) 79 (.int 0))))] := hD
      refine lv_iload hx hb dL_law_1829 (lv_at hl 1 rfl) ?_
      refine lv_icmp_eq (x := 0) (y := 2) (tgt := 1836) hx hb dL_law_1831 (by decide) (fun c_202 => ?_) (fun c_202 => ?_)
      · exact absurd c_202 (by decide)
      refine lv_iconst (v := 0) hx hb dL_law_1834 (by decide) ?_
      exfalso
      have e9_0 : (0 : Int32).toInt = 0 := by decide
      have e9_1 : (1 : Int32).toInt = 1 := by decide
      have e9_2 : (2 : Int32).toInt = 2 := by decide
      have e9_4000 : (4000 : Int32).toInt = 4000 := by decide
      simp only [← Int32.toInt_inj] at c_176
      simp only [Int32.lt_iff_toInt_lt, Int32.le_iff_toInt_le] at c_10 c_11 c_12 c_13 c_172 c_173 c_174 c_175
      omega
    ·
      have hP : va_P G.1 vwCl [(aout, .inl (G.2.2.2.2, 1, .inr (.inl ((fun _ => 0))))), (x0, .inr (11, ofL 17 Fx0)), (x32, .inr (9, ofL 6 Fx32)), (x31, .inr (1, ofL 10 Fx31)), (x3, .inr (7, ofL 5 Fx3)), (m0, .inr (12, ofL 88 (updV (updV Fm0 0 (.int 0)) 79 (.int 0))))] H := hP
      have hD : va_D A [(aout, .inl (G.2.2.2.2, 1, .inr (.inl ((fun _ => 0))))), (x0, .inr (11, ofL 17 Fx0)), (x32, .inr (9, ofL 6 Fx32)), (x31, .inr (1, ofL 10 Fx31)), (x3, .inr (7, ofL 5 Fx3)), (m0, .inr (12, ofL 88 (updV (updV Fm0 0 (.int 0)) 79 (.int 0))))] := hD
      refine lv_istore (lv' := [(6, .int 0), (5, .int 2), (0, .ref b), (1, .ref x0), (2, .ref m0), (3, .ref aout), (4, .int 0)]) hx hb dL_law_1823 hl (by decide) rfl (fun ls hl => ?_)
      refine lv_aload_n hx hb dL_law_1825 rfl (lv_at hl 4 rfl) ?_
      refine k_callVi (wr := [(aout, .inl (G.2.2.2.2, 1, .inr (.inl ((fun _ => 0))))), (x0, .inr (11, ofL 17 Fx0)), (x32, .inr (9, ofL 6 Fx32)), (x31, .inr (1, ofL 10 Fx31)), (x3, .inr (7, ofL 5 Fx3))]) (rest := []) li_L_118 C (c_X12_thrown l G H.size m0 (updV (updV Fm0 0 (.int 0)) 79 (.int 0)) 0 rfl) (kR rfl) hP hD hS [5] [0, 1, 2, 3, 4] rfl rfl rfl rfl (by decide) 0 12 rfl rfl rfl hl.1 rfl (Nat.le_of_ble_eq_true rfl) dL_law_1826 (fun rr204 uu205 H locs hw203 hP hD hS => ?_)
      obtain rfl : rr204 = 0 := hw203
      have hP : va_P G.1 vwCl [(aout, .inl (G.2.2.2.2, 1, .inr (.inl ((fun _ => 0))))), (x0, .inr (11, ofL 17 Fx0)), (x32, .inr (9, ofL 6 Fx32)), (x31, .inr (1, ofL 10 Fx31)), (x3, .inr (7, ofL 5 Fx3)), (m0, .inr (12, ofL 88 (updV (updV Fm0 0 (.int 0)) 79 (.int 0))))] H := hP
      have hD : va_D A [(aout, .inl (G.2.2.2.2, 1, .inr (.inl ((fun _ => 0))))), (x0, .inr (11, ofL 17 Fx0)), (x32, .inr (9, ofL 6 Fx32)), (x31, .inr (1, ofL 10 Fx31)), (x3, .inr (7, ofL 5 Fx3)), (m0, .inr (12, ofL 88 (updV (updV Fm0 0 (.int 0)) 79 (.int 0))))] := hD
      refine lv_iload hx hb dL_law_1829 (lv_at hl 1 rfl) ?_
      refine lv_icmp_eq (x := 0) (y := 2) (tgt := 1836) hx hb dL_law_1831 (by decide) (fun c_206 => ?_) (fun c_206 => ?_)
      · exact absurd c_206 (by decide)
      refine lv_iconst (v := 0) hx hb dL_law_1834 (by decide) ?_
      exfalso
      have e9_0 : (0 : Int32).toInt = 0 := by decide
      have e9_1 : (1 : Int32).toInt = 1 := by decide
      have e9_2 : (2 : Int32).toInt = 2 := by decide
      have e9_4000 : (4000 : Int32).toInt = 4000 := by decide
      simp only [Int32.lt_iff_toInt_lt, Int32.le_iff_toInt_le] at c_10 c_11 c_12 c_13 c_177 c_178 c_179 c_180
      omega
  ·
    have hP : va_P G.1 vwCl [(m0, .inr (12, ofL 88 Fm0)), (aout, .inl (G.2.2.2.2, 1, .inr (.inl (vp_updL (fun _ => 0) 0 0)))), (x0, .inr (11, ofL 17 Fx0)), (x31, .inr (1, ofL 10 Fx31)), (x3, .inr (7, ofL 5 Fx3)), (x32, .inr (9, ofL 6 (updV Fx32 5 (.int 0))))] H := hP
    have hD : va_D A [(m0, .inr (12, ofL 88 Fm0)), (aout, .inl (G.2.2.2.2, 1, .inr (.inl (vp_updL (fun _ => 0) 0 0)))), (x0, .inr (11, ofL 17 Fx0)), (x31, .inr (1, ofL 10 Fx31)), (x3, .inr (7, ofL 5 Fx3)), (x32, .inr (9, ofL 6 (updV Fx32 5 (.int 0))))] := hD
    refine lv_istore (lv' := [(5, .int 0), (0, .ref b), (1, .ref x0), (2, .ref m0), (3, .ref aout), (4, .int 0)]) hx hb dL_law_1805 hl (by decide) rfl (fun ls hl => ?_)
    refine lv_aload_n hx hb dL_law_1807 rfl (lv_at hl 3 rfl) ?_
    refine lv_aload_n hx hb dL_law_1808 rfl (lv_at hl 1 rfl) ?_
    refine lv_iload hx hb dL_law_1809 (lv_at hl 5 rfl) ?_
    refine lv_iconst (v := 1) hx hb dL_law_1811 (by decide) ?_
    refine lv_iadd hx hb dL_law_1812 ?_
    refine k_eqi (y := 1) (by decide) ?_
    refine va_sld hx hb hX hbl hbA hS (k_in (by decide)) dL_law_1813 ?_
    refine k_eqi (y := v1) hv1 ?_
    refine lv_aload_n hx hb dL_law_1814 rfl (lv_at hl 1 rfl) ?_
    refine lv_iload hx hb dL_law_1815 (lv_at hl 5 rfl) ?_
    refine lv_iconst (v := 2) hx hb dL_law_1817 (by decide) ?_
    refine lv_iadd hx hb dL_law_1818 ?_
    refine k_eqi (y := 2) (by decide) ?_
    refine va_sld hx hb hX hbl hbA hS (k_in (by decide)) dL_law_1819 ?_
    refine k_eqi (y := v2) hv2 ?_
    refine k_callVi (wr := [(aout, .inl (G.2.2.2.2, 1, .inr (.inl (vp_updL (fun _ => 0) 0 0)))), (x0, .inr (11, ofL 17 Fx0)), (x31, .inr (1, ofL 10 Fx31)), (x3, .inr (7, ofL 5 Fx3)), (x32, .inr (9, ofL 6 (updV Fx32 5 (.int 0))))]) (rest := []) li_L_216 C (c_X12_on l G H.size m0 v1 v2 Fm0 e_m0_1) (kR rfl) hP hD hS [0] [1, 2, 3, 4, 5] rfl rfl rfl rfl (by decide) 0 12 rfl rfl rfl hl.1 rfl (Nat.le_of_ble_eq_true rfl) dL_law_1820 (fun rr208 uu209 H locs hw207 hP hD hS => ?_)
    rcases hw207 with ⟨rfl, rfl, c_210⟩ | ⟨rfl, rfl, c_211, c_212⟩ | ⟨rfl, rfl, c_213, c_214, c_215⟩ | ⟨rfl, rfl, c_216, c_217, c_218, c_219⟩ | ⟨rfl, rfl, c_220, c_221, c_222, c_223, c_224⟩ | ⟨rfl, rfl, c_225, c_226, c_227, c_228, rfl⟩
    ·
      have hP : va_P G.1 vwCl [(aout, .inl (G.2.2.2.2, 1, .inr (.inl (vp_updL (fun _ => 0) 0 0)))), (x0, .inr (11, ofL 17 Fx0)), (x31, .inr (1, ofL 10 Fx31)), (x3, .inr (7, ofL 5 Fx3)), (x32, .inr (9, ofL 6 (updV Fx32 5 (.int 0)))), (m0, .inr (12, ofL 88 (updV (updV Fm0 0 (.int 0)) 0 (.int 1))))] H := hP
      have hD : va_D A [(aout, .inl (G.2.2.2.2, 1, .inr (.inl (vp_updL (fun _ => 0) 0 0)))), (x0, .inr (11, ofL 17 Fx0)), (x31, .inr (1, ofL 10 Fx31)), (x3, .inr (7, ofL 5 Fx3)), (x32, .inr (9, ofL 6 (updV Fx32 5 (.int 0)))), (m0, .inr (12, ofL 88 (updV (updV Fm0 0 (.int 0)) 0 (.int 1))))] := hD
      refine lv_istore (lv' := [(6, .int 0), (5, .int 0), (0, .ref b), (1, .ref x0), (2, .ref m0), (3, .ref aout), (4, .int 0)]) hx hb dL_law_1823 hl (by decide) rfl (fun ls hl => ?_)
      refine lv_aload_n hx hb dL_law_1825 rfl (lv_at hl 4 rfl) ?_
      refine k_callVi (wr := [(aout, .inl (G.2.2.2.2, 1, .inr (.inl (vp_updL (fun _ => 0) 0 0)))), (x0, .inr (11, ofL 17 Fx0)), (x31, .inr (1, ofL 10 Fx31)), (x3, .inr (7, ofL 5 Fx3)), (x32, .inr (9, ofL 6 (updV Fx32 5 (.int 0))))]) (rest := []) li_L_118 C (c_X12_thrown l G H.size m0 (updV (updV Fm0 0 (.int 0)) 0 (.int 1)) 1 rfl) (kR rfl) hP hD hS [5] [0, 1, 2, 3, 4] rfl rfl rfl rfl (by decide) 0 12 rfl rfl rfl hl.1 rfl (Nat.le_of_ble_eq_true rfl) dL_law_1826 (fun rr230 uu231 H locs hw229 hP hD hS => ?_)
      obtain rfl : rr230 = 1 := hw229
      have hP : va_P G.1 vwCl [(aout, .inl (G.2.2.2.2, 1, .inr (.inl (vp_updL (fun _ => 0) 0 0)))), (x0, .inr (11, ofL 17 Fx0)), (x31, .inr (1, ofL 10 Fx31)), (x3, .inr (7, ofL 5 Fx3)), (x32, .inr (9, ofL 6 (updV Fx32 5 (.int 0)))), (m0, .inr (12, ofL 88 (updV (updV Fm0 0 (.int 0)) 0 (.int 1))))] H := hP
      have hD : va_D A [(aout, .inl (G.2.2.2.2, 1, .inr (.inl (vp_updL (fun _ => 0) 0 0)))), (x0, .inr (11, ofL 17 Fx0)), (x31, .inr (1, ofL 10 Fx31)), (x3, .inr (7, ofL 5 Fx3)), (x32, .inr (9, ofL 6 (updV Fx32 5 (.int 0)))), (m0, .inr (12, ofL 88 (updV (updV Fm0 0 (.int 0)) 0 (.int 1))))] := hD
      refine lv_iload hx hb dL_law_1829 (lv_at hl 1 rfl) ?_
      refine lv_icmp_eq (x := 1) (y := 0) (tgt := 1836) hx hb dL_law_1831 (by decide) (fun c_232 => ?_) (fun c_232 => ?_)
      · exact absurd c_232 (by decide)
      refine lv_iconst (v := 0) hx hb dL_law_1834 (by decide) ?_
      exfalso
      have e9_0 : (0 : Int32).toInt = 0 := by decide
      have e9_2 : (2 : Int32).toInt = 2 := by decide
      have e9_4000 : (4000 : Int32).toInt = 4000 := by decide
      simp only [← Int32.toInt_inj] at c_18
      simp only [Int32.lt_iff_toInt_lt, Int32.le_iff_toInt_le] at c_14 c_15 c_16 c_17 c_210
      omega
    ·
      have hP : va_P G.1 vwCl [(aout, .inl (G.2.2.2.2, 1, .inr (.inl (vp_updL (fun _ => 0) 0 0)))), (x0, .inr (11, ofL 17 Fx0)), (x31, .inr (1, ofL 10 Fx31)), (x3, .inr (7, ofL 5 Fx3)), (x32, .inr (9, ofL 6 (updV Fx32 5 (.int 0)))), (m0, .inr (12, ofL 88 (updV (updV Fm0 0 (.int 0)) 0 (.int 1))))] H := hP
      have hD : va_D A [(aout, .inl (G.2.2.2.2, 1, .inr (.inl (vp_updL (fun _ => 0) 0 0)))), (x0, .inr (11, ofL 17 Fx0)), (x31, .inr (1, ofL 10 Fx31)), (x3, .inr (7, ofL 5 Fx3)), (x32, .inr (9, ofL 6 (updV Fx32 5 (.int 0)))), (m0, .inr (12, ofL 88 (updV (updV Fm0 0 (.int 0)) 0 (.int 1))))] := hD
      refine lv_istore (lv' := [(6, .int 0), (5, .int 0), (0, .ref b), (1, .ref x0), (2, .ref m0), (3, .ref aout), (4, .int 0)]) hx hb dL_law_1823 hl (by decide) rfl (fun ls hl => ?_)
      refine lv_aload_n hx hb dL_law_1825 rfl (lv_at hl 4 rfl) ?_
      refine k_callVi (wr := [(aout, .inl (G.2.2.2.2, 1, .inr (.inl (vp_updL (fun _ => 0) 0 0)))), (x0, .inr (11, ofL 17 Fx0)), (x31, .inr (1, ofL 10 Fx31)), (x3, .inr (7, ofL 5 Fx3)), (x32, .inr (9, ofL 6 (updV Fx32 5 (.int 0))))]) (rest := []) li_L_118 C (c_X12_thrown l G H.size m0 (updV (updV Fm0 0 (.int 0)) 0 (.int 1)) 1 rfl) (kR rfl) hP hD hS [5] [0, 1, 2, 3, 4] rfl rfl rfl rfl (by decide) 0 12 rfl rfl rfl hl.1 rfl (Nat.le_of_ble_eq_true rfl) dL_law_1826 (fun rr234 uu235 H locs hw233 hP hD hS => ?_)
      obtain rfl : rr234 = 1 := hw233
      have hP : va_P G.1 vwCl [(aout, .inl (G.2.2.2.2, 1, .inr (.inl (vp_updL (fun _ => 0) 0 0)))), (x0, .inr (11, ofL 17 Fx0)), (x31, .inr (1, ofL 10 Fx31)), (x3, .inr (7, ofL 5 Fx3)), (x32, .inr (9, ofL 6 (updV Fx32 5 (.int 0)))), (m0, .inr (12, ofL 88 (updV (updV Fm0 0 (.int 0)) 0 (.int 1))))] H := hP
      have hD : va_D A [(aout, .inl (G.2.2.2.2, 1, .inr (.inl (vp_updL (fun _ => 0) 0 0)))), (x0, .inr (11, ofL 17 Fx0)), (x31, .inr (1, ofL 10 Fx31)), (x3, .inr (7, ofL 5 Fx3)), (x32, .inr (9, ofL 6 (updV Fx32 5 (.int 0)))), (m0, .inr (12, ofL 88 (updV (updV Fm0 0 (.int 0)) 0 (.int 1))))] := hD
      refine lv_iload hx hb dL_law_1829 (lv_at hl 1 rfl) ?_
      refine lv_icmp_eq (x := 1) (y := 0) (tgt := 1836) hx hb dL_law_1831 (by decide) (fun c_236 => ?_) (fun c_236 => ?_)
      · exact absurd c_236 (by decide)
      refine lv_iconst (v := 0) hx hb dL_law_1834 (by decide) ?_
      exfalso
      have e9_0 : (0 : Int32).toInt = 0 := by decide
      have e9_1 : (1 : Int32).toInt = 1 := by decide
      have e9_2 : (2 : Int32).toInt = 2 := by decide
      have e9_4000 : (4000 : Int32).toInt = 4000 := by decide
      simp only [← Int32.toInt_inj] at c_18
      simp only [Int32.lt_iff_toInt_lt, Int32.le_iff_toInt_le] at c_14 c_15 c_16 c_17 c_211 c_212
      omega
    ·
      have hP : va_P G.1 vwCl [(aout, .inl (G.2.2.2.2, 1, .inr (.inl (vp_updL (fun _ => 0) 0 0)))), (x0, .inr (11, ofL 17 Fx0)), (x31, .inr (1, ofL 10 Fx31)), (x3, .inr (7, ofL 5 Fx3)), (x32, .inr (9, ofL 6 (updV Fx32 5 (.int 0)))), (m0, .inr (12, ofL 88 (updV (updV Fm0 0 (.int 0)) 0 (.int 2))))] H := hP
      have hD : va_D A [(aout, .inl (G.2.2.2.2, 1, .inr (.inl (vp_updL (fun _ => 0) 0 0)))), (x0, .inr (11, ofL 17 Fx0)), (x31, .inr (1, ofL 10 Fx31)), (x3, .inr (7, ofL 5 Fx3)), (x32, .inr (9, ofL 6 (updV Fx32 5 (.int 0)))), (m0, .inr (12, ofL 88 (updV (updV Fm0 0 (.int 0)) 0 (.int 2))))] := hD
      refine lv_istore (lv' := [(6, .int 0), (5, .int 0), (0, .ref b), (1, .ref x0), (2, .ref m0), (3, .ref aout), (4, .int 0)]) hx hb dL_law_1823 hl (by decide) rfl (fun ls hl => ?_)
      refine lv_aload_n hx hb dL_law_1825 rfl (lv_at hl 4 rfl) ?_
      refine k_callVi (wr := [(aout, .inl (G.2.2.2.2, 1, .inr (.inl (vp_updL (fun _ => 0) 0 0)))), (x0, .inr (11, ofL 17 Fx0)), (x31, .inr (1, ofL 10 Fx31)), (x3, .inr (7, ofL 5 Fx3)), (x32, .inr (9, ofL 6 (updV Fx32 5 (.int 0))))]) (rest := []) li_L_118 C (c_X12_thrown l G H.size m0 (updV (updV Fm0 0 (.int 0)) 0 (.int 2)) 2 rfl) (kR rfl) hP hD hS [5] [0, 1, 2, 3, 4] rfl rfl rfl rfl (by decide) 0 12 rfl rfl rfl hl.1 rfl (Nat.le_of_ble_eq_true rfl) dL_law_1826 (fun rr238 uu239 H locs hw237 hP hD hS => ?_)
      obtain rfl : rr238 = 2 := hw237
      have hP : va_P G.1 vwCl [(aout, .inl (G.2.2.2.2, 1, .inr (.inl (vp_updL (fun _ => 0) 0 0)))), (x0, .inr (11, ofL 17 Fx0)), (x31, .inr (1, ofL 10 Fx31)), (x3, .inr (7, ofL 5 Fx3)), (x32, .inr (9, ofL 6 (updV Fx32 5 (.int 0)))), (m0, .inr (12, ofL 88 (updV (updV Fm0 0 (.int 0)) 0 (.int 2))))] H := hP
      have hD : va_D A [(aout, .inl (G.2.2.2.2, 1, .inr (.inl (vp_updL (fun _ => 0) 0 0)))), (x0, .inr (11, ofL 17 Fx0)), (x31, .inr (1, ofL 10 Fx31)), (x3, .inr (7, ofL 5 Fx3)), (x32, .inr (9, ofL 6 (updV Fx32 5 (.int 0)))), (m0, .inr (12, ofL 88 (updV (updV Fm0 0 (.int 0)) 0 (.int 2))))] := hD
      refine lv_iload hx hb dL_law_1829 (lv_at hl 1 rfl) ?_
      refine lv_icmp_eq (x := 2) (y := 0) (tgt := 1836) hx hb dL_law_1831 (by decide) (fun c_240 => ?_) (fun c_240 => ?_)
      · exact absurd c_240 (by decide)
      refine lv_iconst (v := 0) hx hb dL_law_1834 (by decide) ?_
      exfalso
      have e9_0 : (0 : Int32).toInt = 0 := by decide
      have e9_1 : (1 : Int32).toInt = 1 := by decide
      have e9_2 : (2 : Int32).toInt = 2 := by decide
      have e9_4000 : (4000 : Int32).toInt = 4000 := by decide
      simp only [← Int32.toInt_inj] at c_18
      simp only [Int32.lt_iff_toInt_lt, Int32.le_iff_toInt_le] at c_14 c_15 c_16 c_17 c_213 c_214 c_215
      omega
    ·
      have hP : va_P G.1 vwCl [(aout, .inl (G.2.2.2.2, 1, .inr (.inl (vp_updL (fun _ => 0) 0 0)))), (x0, .inr (11, ofL 17 Fx0)), (x31, .inr (1, ofL 10 Fx31)), (x3, .inr (7, ofL 5 Fx3)), (x32, .inr (9, ofL 6 (updV Fx32 5 (.int 0)))), (m0, .inr (12, ofL 88 (updV (updV Fm0 0 (.int 0)) 0 (.int 2))))] H := hP
      have hD : va_D A [(aout, .inl (G.2.2.2.2, 1, .inr (.inl (vp_updL (fun _ => 0) 0 0)))), (x0, .inr (11, ofL 17 Fx0)), (x31, .inr (1, ofL 10 Fx31)), (x3, .inr (7, ofL 5 Fx3)), (x32, .inr (9, ofL 6 (updV Fx32 5 (.int 0)))), (m0, .inr (12, ofL 88 (updV (updV Fm0 0 (.int 0)) 0 (.int 2))))] := hD
      refine lv_istore (lv' := [(6, .int 0), (5, .int 0), (0, .ref b), (1, .ref x0), (2, .ref m0), (3, .ref aout), (4, .int 0)]) hx hb dL_law_1823 hl (by decide) rfl (fun ls hl => ?_)
      refine lv_aload_n hx hb dL_law_1825 rfl (lv_at hl 4 rfl) ?_
      refine k_callVi (wr := [(aout, .inl (G.2.2.2.2, 1, .inr (.inl (vp_updL (fun _ => 0) 0 0)))), (x0, .inr (11, ofL 17 Fx0)), (x31, .inr (1, ofL 10 Fx31)), (x3, .inr (7, ofL 5 Fx3)), (x32, .inr (9, ofL 6 (updV Fx32 5 (.int 0))))]) (rest := []) li_L_118 C (c_X12_thrown l G H.size m0 (updV (updV Fm0 0 (.int 0)) 0 (.int 2)) 2 rfl) (kR rfl) hP hD hS [5] [0, 1, 2, 3, 4] rfl rfl rfl rfl (by decide) 0 12 rfl rfl rfl hl.1 rfl (Nat.le_of_ble_eq_true rfl) dL_law_1826 (fun rr242 uu243 H locs hw241 hP hD hS => ?_)
      obtain rfl : rr242 = 2 := hw241
      have hP : va_P G.1 vwCl [(aout, .inl (G.2.2.2.2, 1, .inr (.inl (vp_updL (fun _ => 0) 0 0)))), (x0, .inr (11, ofL 17 Fx0)), (x31, .inr (1, ofL 10 Fx31)), (x3, .inr (7, ofL 5 Fx3)), (x32, .inr (9, ofL 6 (updV Fx32 5 (.int 0)))), (m0, .inr (12, ofL 88 (updV (updV Fm0 0 (.int 0)) 0 (.int 2))))] H := hP
      have hD : va_D A [(aout, .inl (G.2.2.2.2, 1, .inr (.inl (vp_updL (fun _ => 0) 0 0)))), (x0, .inr (11, ofL 17 Fx0)), (x31, .inr (1, ofL 10 Fx31)), (x3, .inr (7, ofL 5 Fx3)), (x32, .inr (9, ofL 6 (updV Fx32 5 (.int 0)))), (m0, .inr (12, ofL 88 (updV (updV Fm0 0 (.int 0)) 0 (.int 2))))] := hD
      refine lv_iload hx hb dL_law_1829 (lv_at hl 1 rfl) ?_
      refine lv_icmp_eq (x := 2) (y := 0) (tgt := 1836) hx hb dL_law_1831 (by decide) (fun c_244 => ?_) (fun c_244 => ?_)
      · exact absurd c_244 (by decide)
      refine lv_iconst (v := 0) hx hb dL_law_1834 (by decide) ?_
      exfalso
      have e9_0 : (0 : Int32).toInt = 0 := by decide
      have e9_1 : (1 : Int32).toInt = 1 := by decide
      have e9_2 : (2 : Int32).toInt = 2 := by decide
      have e9_4000 : (4000 : Int32).toInt = 4000 := by decide
      simp only [← Int32.toInt_inj] at c_18
      simp only [Int32.lt_iff_toInt_lt, Int32.le_iff_toInt_le] at c_14 c_15 c_16 c_17 c_216 c_217 c_218 c_219
      omega
    ·
      have hP : va_P G.1 vwCl [(aout, .inl (G.2.2.2.2, 1, .inr (.inl (vp_updL (fun _ => 0) 0 0)))), (x0, .inr (11, ofL 17 Fx0)), (x31, .inr (1, ofL 10 Fx31)), (x3, .inr (7, ofL 5 Fx3)), (x32, .inr (9, ofL 6 (updV Fx32 5 (.int 0)))), (m0, .inr (12, ofL 88 (updV (updV Fm0 0 (.int 0)) 79 (.int 0))))] H := hP
      have hD : va_D A [(aout, .inl (G.2.2.2.2, 1, .inr (.inl (vp_updL (fun _ => 0) 0 0)))), (x0, .inr (11, ofL 17 Fx0)), (x31, .inr (1, ofL 10 Fx31)), (x3, .inr (7, ofL 5 Fx3)), (x32, .inr (9, ofL 6 (updV Fx32 5 (.int 0)))), (m0, .inr (12, ofL 88 (updV (updV Fm0 0 (.int 0)) 79 (.int 0))))] := hD
      refine lv_istore (lv' := [(6, .int 0), (5, .int 0), (0, .ref b), (1, .ref x0), (2, .ref m0), (3, .ref aout), (4, .int 0)]) hx hb dL_law_1823 hl (by decide) rfl (fun ls hl => ?_)
      refine lv_aload_n hx hb dL_law_1825 rfl (lv_at hl 4 rfl) ?_
      refine k_callVi (wr := [(aout, .inl (G.2.2.2.2, 1, .inr (.inl (vp_updL (fun _ => 0) 0 0)))), (x0, .inr (11, ofL 17 Fx0)), (x31, .inr (1, ofL 10 Fx31)), (x3, .inr (7, ofL 5 Fx3)), (x32, .inr (9, ofL 6 (updV Fx32 5 (.int 0))))]) (rest := []) li_L_118 C (c_X12_thrown l G H.size m0 (updV (updV Fm0 0 (.int 0)) 79 (.int 0)) 0 rfl) (kR rfl) hP hD hS [5] [0, 1, 2, 3, 4] rfl rfl rfl rfl (by decide) 0 12 rfl rfl rfl hl.1 rfl (Nat.le_of_ble_eq_true rfl) dL_law_1826 (fun rr246 uu247 H locs hw245 hP hD hS => ?_)
      obtain rfl : rr246 = 0 := hw245
      have hP : va_P G.1 vwCl [(aout, .inl (G.2.2.2.2, 1, .inr (.inl (vp_updL (fun _ => 0) 0 0)))), (x0, .inr (11, ofL 17 Fx0)), (x31, .inr (1, ofL 10 Fx31)), (x3, .inr (7, ofL 5 Fx3)), (x32, .inr (9, ofL 6 (updV Fx32 5 (.int 0)))), (m0, .inr (12, ofL 88 (updV (updV Fm0 0 (.int 0)) 79 (.int 0))))] H := hP
      have hD : va_D A [(aout, .inl (G.2.2.2.2, 1, .inr (.inl (vp_updL (fun _ => 0) 0 0)))), (x0, .inr (11, ofL 17 Fx0)), (x31, .inr (1, ofL 10 Fx31)), (x3, .inr (7, ofL 5 Fx3)), (x32, .inr (9, ofL 6 (updV Fx32 5 (.int 0)))), (m0, .inr (12, ofL 88 (updV (updV Fm0 0 (.int 0)) 79 (.int 0))))] := hD
      refine lv_iload hx hb dL_law_1829 (lv_at hl 1 rfl) ?_
      refine lv_icmp_eq (x := 0) (y := 0) (tgt := 1836) hx hb dL_law_1831 (by decide) (fun c_248 => ?_) (fun c_248 => ?_)
      rotate_left
      · exact absurd (by decide) c_248
      refine lv_iload hx hb dL_law_1836 (lv_at hl 1 rfl) ?_
      refine lv_if_ne (x := 0) (tgt := 1853) hx hb dL_law_1838 (by decide) (fun c_249 => ?_) (fun c_249 => ?_)
      · exact absurd (by decide) c_249
      refine lv_aload_n hx hb dL_law_1841 rfl (lv_at hl 5 rfl) ?_
      refine lv_iconst (v := 0) hx hb dL_law_1842 (by decide) ?_
      refine k_lald C hP 0 rfl (k_in (by decide)) dL_law_1843 ?_
      refine k_eql (y := 0) rfl ?_
      refine lv_iload hx hb dL_law_1844 (lv_at hl 0 rfl) ?_
      refine lv_i2l (v := 0) hx hb dL_law_1846 (by decide) ?_
      refine W.lcmp hx hb dL_law_1847 ?_
      refine k_eqi (y := 0) (by decide) ?_
      refine lv_if_eq (x := 0) (tgt := 1853) hx hb dL_law_1848 (by decide) (fun c_250 => ?_) (fun c_250 => ?_)
      rotate_left
      · exact absurd (by decide) c_250
      refine lv_goto (tgt := 2265) hx hb dL_law_1853 (by decide) ?_
      exact law_end hst C0 hA C hS (lv_sub hl [2, 6] rfl) (Nat.le_of_ble_eq_true rfl) (Nat.le_of_ble_eq_true rfl)
    ·
      have hP : va_P G.1 vwCl [(aout, .inl (G.2.2.2.2, 1, .inr (.inl (vp_updL (fun _ => 0) 0 0)))), (x0, .inr (11, ofL 17 Fx0)), (x31, .inr (1, ofL 10 Fx31)), (x3, .inr (7, ofL 5 Fx3)), (x32, .inr (9, ofL 6 (updV Fx32 5 (.int 0)))), (m0, .inr (12, ofL 88 (updV (updV Fm0 0 (.int 0)) 79 (.int 0))))] H := hP
      have hD : va_D A [(aout, .inl (G.2.2.2.2, 1, .inr (.inl (vp_updL (fun _ => 0) 0 0)))), (x0, .inr (11, ofL 17 Fx0)), (x31, .inr (1, ofL 10 Fx31)), (x3, .inr (7, ofL 5 Fx3)), (x32, .inr (9, ofL 6 (updV Fx32 5 (.int 0)))), (m0, .inr (12, ofL 88 (updV (updV Fm0 0 (.int 0)) 79 (.int 0))))] := hD
      refine lv_istore (lv' := [(6, .int 0), (5, .int 0), (0, .ref b), (1, .ref x0), (2, .ref m0), (3, .ref aout), (4, .int 0)]) hx hb dL_law_1823 hl (by decide) rfl (fun ls hl => ?_)
      refine lv_aload_n hx hb dL_law_1825 rfl (lv_at hl 4 rfl) ?_
      refine k_callVi (wr := [(aout, .inl (G.2.2.2.2, 1, .inr (.inl (vp_updL (fun _ => 0) 0 0)))), (x0, .inr (11, ofL 17 Fx0)), (x31, .inr (1, ofL 10 Fx31)), (x3, .inr (7, ofL 5 Fx3)), (x32, .inr (9, ofL 6 (updV Fx32 5 (.int 0))))]) (rest := []) li_L_118 C (c_X12_thrown l G H.size m0 (updV (updV Fm0 0 (.int 0)) 79 (.int 0)) 0 rfl) (kR rfl) hP hD hS [5] [0, 1, 2, 3, 4] rfl rfl rfl rfl (by decide) 0 12 rfl rfl rfl hl.1 rfl (Nat.le_of_ble_eq_true rfl) dL_law_1826 (fun rr252 uu253 H locs hw251 hP hD hS => ?_)
      obtain rfl : rr252 = 0 := hw251
      have hP : va_P G.1 vwCl [(aout, .inl (G.2.2.2.2, 1, .inr (.inl (vp_updL (fun _ => 0) 0 0)))), (x0, .inr (11, ofL 17 Fx0)), (x31, .inr (1, ofL 10 Fx31)), (x3, .inr (7, ofL 5 Fx3)), (x32, .inr (9, ofL 6 (updV Fx32 5 (.int 0)))), (m0, .inr (12, ofL 88 (updV (updV Fm0 0 (.int 0)) 79 (.int 0))))] H := hP
      have hD : va_D A [(aout, .inl (G.2.2.2.2, 1, .inr (.inl (vp_updL (fun _ => 0) 0 0)))), (x0, .inr (11, ofL 17 Fx0)), (x31, .inr (1, ofL 10 Fx31)), (x3, .inr (7, ofL 5 Fx3)), (x32, .inr (9, ofL 6 (updV Fx32 5 (.int 0)))), (m0, .inr (12, ofL 88 (updV (updV Fm0 0 (.int 0)) 79 (.int 0))))] := hD
      refine lv_iload hx hb dL_law_1829 (lv_at hl 1 rfl) ?_
      refine lv_icmp_eq (x := 0) (y := 0) (tgt := 1836) hx hb dL_law_1831 (by decide) (fun c_254 => ?_) (fun c_254 => ?_)
      rotate_left
      · exact absurd (by decide) c_254
      refine lv_iload hx hb dL_law_1836 (lv_at hl 1 rfl) ?_
      refine lv_if_ne (x := 0) (tgt := 1853) hx hb dL_law_1838 (by decide) (fun c_255 => ?_) (fun c_255 => ?_)
      · exact absurd (by decide) c_255
      refine lv_aload_n hx hb dL_law_1841 rfl (lv_at hl 5 rfl) ?_
      refine lv_iconst (v := 0) hx hb dL_law_1842 (by decide) ?_
      refine k_lald C hP 0 rfl (k_in (by decide)) dL_law_1843 ?_
      refine k_eql (y := 0) rfl ?_
      refine lv_iload hx hb dL_law_1844 (lv_at hl 0 rfl) ?_
      refine lv_i2l (v := 0) hx hb dL_law_1846 (by decide) ?_
      refine W.lcmp hx hb dL_law_1847 ?_
      refine k_eqi (y := 0) (by decide) ?_
      refine lv_if_eq (x := 0) (tgt := 1853) hx hb dL_law_1848 (by decide) (fun c_256 => ?_) (fun c_256 => ?_)
      rotate_left
      · exact absurd (by decide) c_256
      refine lv_goto (tgt := 2265) hx hb dL_law_1853 (by decide) ?_
      exact law_end hst C0 hA C hS (lv_sub hl [2, 6] rfl) (Nat.le_of_ble_eq_true rfl) (Nat.le_of_ble_eq_true rfl)
  ·
    have hP : va_P G.1 vwCl [(m0, .inr (12, ofL 88 Fm0)), (aout, .inl (G.2.2.2.2, 1, .inr (.inl (vp_updL (fun _ => 0) 0 0)))), (x0, .inr (11, ofL 17 Fx0)), (x32, .inr (9, ofL 6 (updV Fx32 5 (.int 0)))), (x31, .inr (1, ofL 10 Fx31)), (x3, .inr (7, ofL 5 Fx3))] H := hP
    have hD : va_D A [(m0, .inr (12, ofL 88 Fm0)), (aout, .inl (G.2.2.2.2, 1, .inr (.inl (vp_updL (fun _ => 0) 0 0)))), (x0, .inr (11, ofL 17 Fx0)), (x32, .inr (9, ofL 6 (updV Fx32 5 (.int 0)))), (x31, .inr (1, ofL 10 Fx31)), (x3, .inr (7, ofL 5 Fx3))] := hD
    refine lv_istore (lv' := [(5, .int 0), (0, .ref b), (1, .ref x0), (2, .ref m0), (3, .ref aout), (4, .int 0)]) hx hb dL_law_1805 hl (by decide) rfl (fun ls hl => ?_)
    refine lv_aload_n hx hb dL_law_1807 rfl (lv_at hl 3 rfl) ?_
    refine lv_aload_n hx hb dL_law_1808 rfl (lv_at hl 1 rfl) ?_
    refine lv_iload hx hb dL_law_1809 (lv_at hl 5 rfl) ?_
    refine lv_iconst (v := 1) hx hb dL_law_1811 (by decide) ?_
    refine lv_iadd hx hb dL_law_1812 ?_
    refine k_eqi (y := 1) (by decide) ?_
    refine va_sld hx hb hX hbl hbA hS (k_in (by decide)) dL_law_1813 ?_
    refine k_eqi (y := v1) hv1 ?_
    refine lv_aload_n hx hb dL_law_1814 rfl (lv_at hl 1 rfl) ?_
    refine lv_iload hx hb dL_law_1815 (lv_at hl 5 rfl) ?_
    refine lv_iconst (v := 2) hx hb dL_law_1817 (by decide) ?_
    refine lv_iadd hx hb dL_law_1818 ?_
    refine k_eqi (y := 2) (by decide) ?_
    refine va_sld hx hb hX hbl hbA hS (k_in (by decide)) dL_law_1819 ?_
    refine k_eqi (y := 0) hv2 ?_
    refine k_callVi (wr := [(aout, .inl (G.2.2.2.2, 1, .inr (.inl (vp_updL (fun _ => 0) 0 0)))), (x0, .inr (11, ofL 17 Fx0)), (x32, .inr (9, ofL 6 (updV Fx32 5 (.int 0)))), (x31, .inr (1, ofL 10 Fx31)), (x3, .inr (7, ofL 5 Fx3))]) (rest := []) li_L_216 C (c_X12_on l G H.size m0 v1 0 Fm0 e_m0_1) (kR rfl) hP hD hS [0] [1, 2, 3, 4, 5] rfl rfl rfl rfl (by decide) 0 12 rfl rfl rfl hl.1 rfl (Nat.le_of_ble_eq_true rfl) dL_law_1820 (fun rr258 uu259 H locs hw257 hP hD hS => ?_)
    rcases hw257 with ⟨rfl, rfl, c_260⟩ | ⟨rfl, rfl, c_261, c_262⟩ | ⟨rfl, rfl, c_263, c_264, c_265⟩ | ⟨rfl, rfl, c_266, c_267, c_268, c_269⟩ | ⟨rfl, rfl, c_270, c_271, c_272, c_273, c_274⟩ | ⟨rfl, rfl, c_275, c_276, c_277, c_278, c_279⟩
    ·
      exact absurd c_260 (by decide)
    ·
      exact absurd c_262 (by decide)
    ·
      have hP : va_P G.1 vwCl [(aout, .inl (G.2.2.2.2, 1, .inr (.inl (vp_updL (fun _ => 0) 0 0)))), (x0, .inr (11, ofL 17 Fx0)), (x32, .inr (9, ofL 6 (updV Fx32 5 (.int 0)))), (x31, .inr (1, ofL 10 Fx31)), (x3, .inr (7, ofL 5 Fx3)), (m0, .inr (12, ofL 88 (updV (updV Fm0 0 (.int 0)) 0 (.int 2))))] H := hP
      have hD : va_D A [(aout, .inl (G.2.2.2.2, 1, .inr (.inl (vp_updL (fun _ => 0) 0 0)))), (x0, .inr (11, ofL 17 Fx0)), (x32, .inr (9, ofL 6 (updV Fx32 5 (.int 0)))), (x31, .inr (1, ofL 10 Fx31)), (x3, .inr (7, ofL 5 Fx3)), (m0, .inr (12, ofL 88 (updV (updV Fm0 0 (.int 0)) 0 (.int 2))))] := hD
      refine lv_istore (lv' := [(6, .int 0), (5, .int 0), (0, .ref b), (1, .ref x0), (2, .ref m0), (3, .ref aout), (4, .int 0)]) hx hb dL_law_1823 hl (by decide) rfl (fun ls hl => ?_)
      refine lv_aload_n hx hb dL_law_1825 rfl (lv_at hl 4 rfl) ?_
      refine k_callVi (wr := [(aout, .inl (G.2.2.2.2, 1, .inr (.inl (vp_updL (fun _ => 0) 0 0)))), (x0, .inr (11, ofL 17 Fx0)), (x32, .inr (9, ofL 6 (updV Fx32 5 (.int 0)))), (x31, .inr (1, ofL 10 Fx31)), (x3, .inr (7, ofL 5 Fx3))]) (rest := []) li_L_118 C (c_X12_thrown l G H.size m0 (updV (updV Fm0 0 (.int 0)) 0 (.int 2)) 2 rfl) (kR rfl) hP hD hS [5] [0, 1, 2, 3, 4] rfl rfl rfl rfl (by decide) 0 12 rfl rfl rfl hl.1 rfl (Nat.le_of_ble_eq_true rfl) dL_law_1826 (fun rr281 uu282 H locs hw280 hP hD hS => ?_)
      obtain rfl : rr281 = 2 := hw280
      have hP : va_P G.1 vwCl [(aout, .inl (G.2.2.2.2, 1, .inr (.inl (vp_updL (fun _ => 0) 0 0)))), (x0, .inr (11, ofL 17 Fx0)), (x32, .inr (9, ofL 6 (updV Fx32 5 (.int 0)))), (x31, .inr (1, ofL 10 Fx31)), (x3, .inr (7, ofL 5 Fx3)), (m0, .inr (12, ofL 88 (updV (updV Fm0 0 (.int 0)) 0 (.int 2))))] H := hP
      have hD : va_D A [(aout, .inl (G.2.2.2.2, 1, .inr (.inl (vp_updL (fun _ => 0) 0 0)))), (x0, .inr (11, ofL 17 Fx0)), (x32, .inr (9, ofL 6 (updV Fx32 5 (.int 0)))), (x31, .inr (1, ofL 10 Fx31)), (x3, .inr (7, ofL 5 Fx3)), (m0, .inr (12, ofL 88 (updV (updV Fm0 0 (.int 0)) 0 (.int 2))))] := hD
      refine lv_iload hx hb dL_law_1829 (lv_at hl 1 rfl) ?_
      refine lv_icmp_eq (x := 2) (y := 0) (tgt := 1836) hx hb dL_law_1831 (by decide) (fun c_283 => ?_) (fun c_283 => ?_)
      · exact absurd c_283 (by decide)
      refine lv_iconst (v := 0) hx hb dL_law_1834 (by decide) ?_
      exfalso
      have e9_0 : (0 : Int32).toInt = 0 := by decide
      have e9_2 : (2 : Int32).toInt = 2 := by decide
      have e9_4000 : (4000 : Int32).toInt = 4000 := by decide
      simp only [Int32.lt_iff_toInt_lt, Int32.le_iff_toInt_le] at c_19 c_20 c_21 c_22 c_265
      omega
    ·
      have hP : va_P G.1 vwCl [(aout, .inl (G.2.2.2.2, 1, .inr (.inl (vp_updL (fun _ => 0) 0 0)))), (x0, .inr (11, ofL 17 Fx0)), (x32, .inr (9, ofL 6 (updV Fx32 5 (.int 0)))), (x31, .inr (1, ofL 10 Fx31)), (x3, .inr (7, ofL 5 Fx3)), (m0, .inr (12, ofL 88 (updV (updV Fm0 0 (.int 0)) 0 (.int 2))))] H := hP
      have hD : va_D A [(aout, .inl (G.2.2.2.2, 1, .inr (.inl (vp_updL (fun _ => 0) 0 0)))), (x0, .inr (11, ofL 17 Fx0)), (x32, .inr (9, ofL 6 (updV Fx32 5 (.int 0)))), (x31, .inr (1, ofL 10 Fx31)), (x3, .inr (7, ofL 5 Fx3)), (m0, .inr (12, ofL 88 (updV (updV Fm0 0 (.int 0)) 0 (.int 2))))] := hD
      refine lv_istore (lv' := [(6, .int 0), (5, .int 0), (0, .ref b), (1, .ref x0), (2, .ref m0), (3, .ref aout), (4, .int 0)]) hx hb dL_law_1823 hl (by decide) rfl (fun ls hl => ?_)
      refine lv_aload_n hx hb dL_law_1825 rfl (lv_at hl 4 rfl) ?_
      refine k_callVi (wr := [(aout, .inl (G.2.2.2.2, 1, .inr (.inl (vp_updL (fun _ => 0) 0 0)))), (x0, .inr (11, ofL 17 Fx0)), (x32, .inr (9, ofL 6 (updV Fx32 5 (.int 0)))), (x31, .inr (1, ofL 10 Fx31)), (x3, .inr (7, ofL 5 Fx3))]) (rest := []) li_L_118 C (c_X12_thrown l G H.size m0 (updV (updV Fm0 0 (.int 0)) 0 (.int 2)) 2 rfl) (kR rfl) hP hD hS [5] [0, 1, 2, 3, 4] rfl rfl rfl rfl (by decide) 0 12 rfl rfl rfl hl.1 rfl (Nat.le_of_ble_eq_true rfl) dL_law_1826 (fun rr285 uu286 H locs hw284 hP hD hS => ?_)
      obtain rfl : rr285 = 2 := hw284
      have hP : va_P G.1 vwCl [(aout, .inl (G.2.2.2.2, 1, .inr (.inl (vp_updL (fun _ => 0) 0 0)))), (x0, .inr (11, ofL 17 Fx0)), (x32, .inr (9, ofL 6 (updV Fx32 5 (.int 0)))), (x31, .inr (1, ofL 10 Fx31)), (x3, .inr (7, ofL 5 Fx3)), (m0, .inr (12, ofL 88 (updV (updV Fm0 0 (.int 0)) 0 (.int 2))))] H := hP
      have hD : va_D A [(aout, .inl (G.2.2.2.2, 1, .inr (.inl (vp_updL (fun _ => 0) 0 0)))), (x0, .inr (11, ofL 17 Fx0)), (x32, .inr (9, ofL 6 (updV Fx32 5 (.int 0)))), (x31, .inr (1, ofL 10 Fx31)), (x3, .inr (7, ofL 5 Fx3)), (m0, .inr (12, ofL 88 (updV (updV Fm0 0 (.int 0)) 0 (.int 2))))] := hD
      refine lv_iload hx hb dL_law_1829 (lv_at hl 1 rfl) ?_
      refine lv_icmp_eq (x := 2) (y := 0) (tgt := 1836) hx hb dL_law_1831 (by decide) (fun c_287 => ?_) (fun c_287 => ?_)
      · exact absurd c_287 (by decide)
      refine lv_iconst (v := 0) hx hb dL_law_1834 (by decide) ?_
      exfalso
      have e9_0 : (0 : Int32).toInt = 0 := by decide
      have e9_2 : (2 : Int32).toInt = 2 := by decide
      have e9_4000 : (4000 : Int32).toInt = 4000 := by decide
      simp only [Int32.lt_iff_toInt_lt, Int32.le_iff_toInt_le] at c_19 c_20 c_21 c_22 c_268 c_269
      omega
    ·
      have hP : va_P G.1 vwCl [(aout, .inl (G.2.2.2.2, 1, .inr (.inl (vp_updL (fun _ => 0) 0 0)))), (x0, .inr (11, ofL 17 Fx0)), (x32, .inr (9, ofL 6 (updV Fx32 5 (.int 0)))), (x31, .inr (1, ofL 10 Fx31)), (x3, .inr (7, ofL 5 Fx3)), (m0, .inr (12, ofL 88 (updV (updV Fm0 0 (.int 0)) 79 (.int 0))))] H := hP
      have hD : va_D A [(aout, .inl (G.2.2.2.2, 1, .inr (.inl (vp_updL (fun _ => 0) 0 0)))), (x0, .inr (11, ofL 17 Fx0)), (x32, .inr (9, ofL 6 (updV Fx32 5 (.int 0)))), (x31, .inr (1, ofL 10 Fx31)), (x3, .inr (7, ofL 5 Fx3)), (m0, .inr (12, ofL 88 (updV (updV Fm0 0 (.int 0)) 79 (.int 0))))] := hD
      refine lv_istore (lv' := [(6, .int 0), (5, .int 0), (0, .ref b), (1, .ref x0), (2, .ref m0), (3, .ref aout), (4, .int 0)]) hx hb dL_law_1823 hl (by decide) rfl (fun ls hl => ?_)
      refine lv_aload_n hx hb dL_law_1825 rfl (lv_at hl 4 rfl) ?_
      refine k_callVi (wr := [(aout, .inl (G.2.2.2.2, 1, .inr (.inl (vp_updL (fun _ => 0) 0 0)))), (x0, .inr (11, ofL 17 Fx0)), (x32, .inr (9, ofL 6 (updV Fx32 5 (.int 0)))), (x31, .inr (1, ofL 10 Fx31)), (x3, .inr (7, ofL 5 Fx3))]) (rest := []) li_L_118 C (c_X12_thrown l G H.size m0 (updV (updV Fm0 0 (.int 0)) 79 (.int 0)) 0 rfl) (kR rfl) hP hD hS [5] [0, 1, 2, 3, 4] rfl rfl rfl rfl (by decide) 0 12 rfl rfl rfl hl.1 rfl (Nat.le_of_ble_eq_true rfl) dL_law_1826 (fun rr289 uu290 H locs hw288 hP hD hS => ?_)
      obtain rfl : rr289 = 0 := hw288
      have hP : va_P G.1 vwCl [(aout, .inl (G.2.2.2.2, 1, .inr (.inl (vp_updL (fun _ => 0) 0 0)))), (x0, .inr (11, ofL 17 Fx0)), (x32, .inr (9, ofL 6 (updV Fx32 5 (.int 0)))), (x31, .inr (1, ofL 10 Fx31)), (x3, .inr (7, ofL 5 Fx3)), (m0, .inr (12, ofL 88 (updV (updV Fm0 0 (.int 0)) 79 (.int 0))))] H := hP
      have hD : va_D A [(aout, .inl (G.2.2.2.2, 1, .inr (.inl (vp_updL (fun _ => 0) 0 0)))), (x0, .inr (11, ofL 17 Fx0)), (x32, .inr (9, ofL 6 (updV Fx32 5 (.int 0)))), (x31, .inr (1, ofL 10 Fx31)), (x3, .inr (7, ofL 5 Fx3)), (m0, .inr (12, ofL 88 (updV (updV Fm0 0 (.int 0)) 79 (.int 0))))] := hD
      refine lv_iload hx hb dL_law_1829 (lv_at hl 1 rfl) ?_
      refine lv_icmp_eq (x := 0) (y := 0) (tgt := 1836) hx hb dL_law_1831 (by decide) (fun c_291 => ?_) (fun c_291 => ?_)
      rotate_left
      · exact absurd (by decide) c_291
      refine lv_iload hx hb dL_law_1836 (lv_at hl 1 rfl) ?_
      refine lv_if_ne (x := 0) (tgt := 1853) hx hb dL_law_1838 (by decide) (fun c_292 => ?_) (fun c_292 => ?_)
      · exact absurd (by decide) c_292
      refine lv_aload_n hx hb dL_law_1841 rfl (lv_at hl 5 rfl) ?_
      refine lv_iconst (v := 0) hx hb dL_law_1842 (by decide) ?_
      refine k_lald C hP 0 rfl (k_in (by decide)) dL_law_1843 ?_
      refine k_eql (y := 0) rfl ?_
      refine lv_iload hx hb dL_law_1844 (lv_at hl 0 rfl) ?_
      refine lv_i2l (v := 0) hx hb dL_law_1846 (by decide) ?_
      refine W.lcmp hx hb dL_law_1847 ?_
      refine k_eqi (y := 0) (by decide) ?_
      refine lv_if_eq (x := 0) (tgt := 1853) hx hb dL_law_1848 (by decide) (fun c_293 => ?_) (fun c_293 => ?_)
      rotate_left
      · exact absurd (by decide) c_293
      refine lv_goto (tgt := 2265) hx hb dL_law_1853 (by decide) ?_
      exact law_end hst C0 hA C hS (lv_sub hl [2, 6] rfl) (Nat.le_of_ble_eq_true rfl) (Nat.le_of_ble_eq_true rfl)
    ·
      exact absurd c_279 (by decide)
set_option maxHeartbeats 4000000 in
set_option maxRecDepth 100000 in
theorem law_30 {p : Program} {e : Env} {s : State} {m : MethodId} {below : List Frame} {meth : Method} {c : Code} {l : Launch} (hst : l.stackTraces = false) {b : Nat} {xs : Nat → Int32} {G : kG} {A : Nat → Prop} (C0 : lw_At p s m meth c b 6 xs) (hA : A = fun q : Nat => s.heap.size ≤ q) (C : kC G p s m c cL_law 8 RL A) {v1 : Int32} (hv1 : xs 1 = v1) {v2 : Int32} (hv2 : xs 2 = v2) {v3 : Int32} (hv3 : xs 3 = v3) {v4 : Int32} (hv4 : xs 4 = v4) {v5 : Int32} (hv5 : xs 5 = v5) {x0 : Nat} {Fx0 : Nat → Value} {x31 : Nat} {x3 : Nat} {Fx3 : Nat → Value} {Fx31 : Nat → Value} {m0 : Nat} {Fm0 : Nat → Value} {aout : Nat} (e_x0_8 : Fx0 8 = .ref x31) (e_x3_2 : Fx3 2 = .int 0) (e_x31_7 : Fx31 7 = .ref x3) (e_m0_1 : Fm0 1 = .int 0) {H : Heap} {locs : List Loc} {ls : Array Slot} (hP : va_P G.1 vwCl [(x0, .inr (11, ofL 17 Fx0)), (x3, .inr (7, ofL 5 Fx3)), (x31, .inr (1, ofL 10 Fx31)), (m0, .inr (12, ofL 88 Fm0)), (aout, .inl (G.2.2.2.2, 1, .inr (.inl (fun _ => 0))))] H) (hD : va_D A [(x0, .inr (11, ofL 17 Fx0)), (x3, .inr (7, ofL 5 Fx3)), (x31, .inr (1, ofL 10 Fx31)), (m0, .inr (12, ofL 88 Fm0)), (aout, .inl (G.2.2.2.2, 1, .inr (.inl (fun _ => 0))))]) (hS : va_S A s.heap H locs) (hl : lv_has ls 8 [(0, .ref b), (1, .ref x0), (2, .ref m0), (3, .ref aout), (4, .int 0)]) :
    W p l e room_1 s m #[Value.ref b] below meth c H locs 1000 20000 (lw_Z below #[Value.ref b] s) (F0 m 1856 ls []) := by
  obtain ⟨hx, hb, hr, -, -, -, hX, hbl, hlocks, -⟩ := id C0
  have hbA : ¬ A b := by rw [hA]; exact Nat.not_le.mpr hbl
  refine lv_aload_n hx hb dL_law_1856 rfl (lv_at hl 1 rfl) ?_
  refine lv_aload_n hx hb dL_law_1857 rfl (lv_at hl 0 rfl) ?_
  refine lv_iload hx hb dL_law_1858 (lv_at hl 4 rfl) ?_
  refine lv_iconst (v := 1) hx hb dL_law_1860 (by decide) ?_
  refine lv_iadd hx hb dL_law_1861 ?_
  refine k_eqi (y := 1) (by decide) ?_
  refine va_sld hx hb hX hbl hbA hS (k_in (by decide)) dL_law_1862 ?_
  refine k_eqi (y := v1) hv1 ?_
  refine lv_aload_n hx hb dL_law_1863 rfl (lv_at hl 3 rfl) ?_
  refine k_callHi (wr := [(m0, .inr (12, ofL 88 Fm0))]) (rest := []) li_L_217 C (c_L_clash l hst G H.size x0 v1 aout Fx0 x31 Fx31 x3 Fx3 (fun _ => 0) e_x0_8 e_x31_7 e_x3_2) (kR rfl) hP hD hS [0, 2, 1, 4] [3] rfl rfl rfl rfl (by decide) rfl hl.1 rfl (Nat.le_of_ble_eq_true rfl) dL_law_1864 (fun rr2 uu3 H locs hw1 hP hD hS => ?_)
  rcases hw1 with ⟨rfl, rfl, c_4⟩ | ⟨rfl, rfl, c_5, c_6⟩ | ⟨rfl, rfl, c_7, c_8, c_9⟩ | ⟨rfl, rfl, c_10, c_11, rfl⟩
  ·
    have hP : va_P G.1 vwCl [(m0, .inr (12, ofL 88 Fm0)), (aout, .inl (G.2.2.2.2, 1, .inr (.inl ((fun _ => 0))))), (x0, .inr (11, ofL 17 Fx0)), (x31, .inr (1, ofL 10 Fx31)), (x3, .inr (7, ofL 5 Fx3))] H := hP
    have hD : va_D A [(m0, .inr (12, ofL 88 Fm0)), (aout, .inl (G.2.2.2.2, 1, .inr (.inl ((fun _ => 0))))), (x0, .inr (11, ofL 17 Fx0)), (x31, .inr (1, ofL 10 Fx31)), (x3, .inr (7, ofL 5 Fx3))] := hD
    refine lv_istore (lv' := [(5, .int 1), (0, .ref b), (1, .ref x0), (2, .ref m0), (3, .ref aout), (4, .int 0)]) hx hb dL_law_1867 hl (by decide) rfl (fun ls hl => ?_)
    refine lv_aload_n hx hb dL_law_1869 rfl (lv_at hl 3 rfl) ?_
    refine lv_aload_n hx hb dL_law_1870 rfl (lv_at hl 1 rfl) ?_
    refine lv_iload hx hb dL_law_1871 (lv_at hl 5 rfl) ?_
    refine lv_iconst (v := 1) hx hb dL_law_1873 (by decide) ?_
    refine lv_iadd hx hb dL_law_1874 ?_
    refine k_eqi (y := 1) (by decide) ?_
    refine va_sld hx hb hX hbl hbA hS (k_in (by decide)) dL_law_1875 ?_
    refine k_eqi (y := v1) hv1 ?_
    refine k_callVi (wr := [(aout, .inl (G.2.2.2.2, 1, .inr (.inl ((fun _ => 0))))), (x0, .inr (11, ofL 17 Fx0)), (x31, .inr (1, ofL 10 Fx31)), (x3, .inr (7, ofL 5 Fx3))]) (rest := []) li_L_219 C (c_X12_clash l G H.size m0 v1 Fm0 e_m0_1) (kR rfl) hP hD hS [0] [1, 2, 3, 4] rfl rfl rfl rfl (by decide) 0 12 rfl rfl rfl hl.1 rfl (Nat.le_of_ble_eq_true rfl) dL_law_1876 (fun rr13 uu14 H locs hw12 hP hD hS => ?_)
    rcases hw12 with ⟨rfl, rfl, c_15⟩ | ⟨rfl, rfl, c_16, c_17⟩ | ⟨rfl, rfl, c_18, c_19, c_20⟩ | ⟨rfl, rfl, c_21, c_22, rfl⟩
    ·
      have hP : va_P G.1 vwCl [(aout, .inl (G.2.2.2.2, 1, .inr (.inl ((fun _ => 0))))), (x0, .inr (11, ofL 17 Fx0)), (x31, .inr (1, ofL 10 Fx31)), (x3, .inr (7, ofL 5 Fx3)), (m0, .inr (12, ofL 88 (updV (updV Fm0 0 (.int 0)) 0 (.int 1))))] H := hP
      have hD : va_D A [(aout, .inl (G.2.2.2.2, 1, .inr (.inl ((fun _ => 0))))), (x0, .inr (11, ofL 17 Fx0)), (x31, .inr (1, ofL 10 Fx31)), (x3, .inr (7, ofL 5 Fx3)), (m0, .inr (12, ofL 88 (updV (updV Fm0 0 (.int 0)) 0 (.int 1))))] := hD
      refine lv_istore (lv' := [(6, .int 0), (5, .int 1), (0, .ref b), (1, .ref x0), (2, .ref m0), (3, .ref aout), (4, .int 0)]) hx hb dL_law_1879 hl (by decide) rfl (fun ls hl => ?_)
      refine lv_aload_n hx hb dL_law_1881 rfl (lv_at hl 4 rfl) ?_
      refine k_callVi (wr := [(aout, .inl (G.2.2.2.2, 1, .inr (.inl ((fun _ => 0))))), (x0, .inr (11, ofL 17 Fx0)), (x31, .inr (1, ofL 10 Fx31)), (x3, .inr (7, ofL 5 Fx3))]) (rest := []) li_L_118 C (c_X12_thrown l G H.size m0 (updV (updV Fm0 0 (.int 0)) 0 (.int 1)) 1 rfl) (kR rfl) hP hD hS [4] [0, 1, 2, 3] rfl rfl rfl rfl (by decide) 0 12 rfl rfl rfl hl.1 rfl (Nat.le_of_ble_eq_true rfl) dL_law_1882 (fun rr24 uu25 H locs hw23 hP hD hS => ?_)
      obtain rfl : rr24 = 1 := hw23
      have hP : va_P G.1 vwCl [(aout, .inl (G.2.2.2.2, 1, .inr (.inl ((fun _ => 0))))), (x0, .inr (11, ofL 17 Fx0)), (x31, .inr (1, ofL 10 Fx31)), (x3, .inr (7, ofL 5 Fx3)), (m0, .inr (12, ofL 88 (updV (updV Fm0 0 (.int 0)) 0 (.int 1))))] H := hP
      have hD : va_D A [(aout, .inl (G.2.2.2.2, 1, .inr (.inl ((fun _ => 0))))), (x0, .inr (11, ofL 17 Fx0)), (x31, .inr (1, ofL 10 Fx31)), (x3, .inr (7, ofL 5 Fx3)), (m0, .inr (12, ofL 88 (updV (updV Fm0 0 (.int 0)) 0 (.int 1))))] := hD
      refine lv_iload hx hb dL_law_1885 (lv_at hl 1 rfl) ?_
      refine lv_icmp_eq (x := 1) (y := 1) (tgt := 1892) hx hb dL_law_1887 (by decide) (fun c_26 => ?_) (fun c_26 => ?_)
      rotate_left
      · exact absurd (by decide) c_26
      refine lv_iload hx hb dL_law_1892 (lv_at hl 1 rfl) ?_
      refine lv_if_ne (x := 1) (tgt := 1909) hx hb dL_law_1894 (by decide) (fun c_27 => ?_) (fun c_27 => ?_)
      rotate_left
      · exact absurd c_27 (by decide)
      refine lv_goto (tgt := 2265) hx hb dL_law_1909 (by decide) ?_
      exact law_end hst C0 hA C hS (lv_sub hl [2, 6] rfl) (Nat.le_of_ble_eq_true rfl) (Nat.le_of_ble_eq_true rfl)
    ·
      have hP : va_P G.1 vwCl [(aout, .inl (G.2.2.2.2, 1, .inr (.inl ((fun _ => 0))))), (x0, .inr (11, ofL 17 Fx0)), (x31, .inr (1, ofL 10 Fx31)), (x3, .inr (7, ofL 5 Fx3)), (m0, .inr (12, ofL 88 (updV (updV Fm0 0 (.int 0)) 0 (.int 1))))] H := hP
      have hD : va_D A [(aout, .inl (G.2.2.2.2, 1, .inr (.inl ((fun _ => 0))))), (x0, .inr (11, ofL 17 Fx0)), (x31, .inr (1, ofL 10 Fx31)), (x3, .inr (7, ofL 5 Fx3)), (m0, .inr (12, ofL 88 (updV (updV Fm0 0 (.int 0)) 0 (.int 1))))] := hD
      refine lv_istore (lv' := [(6, .int 0), (5, .int 1), (0, .ref b), (1, .ref x0), (2, .ref m0), (3, .ref aout), (4, .int 0)]) hx hb dL_law_1879 hl (by decide) rfl (fun ls hl => ?_)
      refine lv_aload_n hx hb dL_law_1881 rfl (lv_at hl 4 rfl) ?_
      refine k_callVi (wr := [(aout, .inl (G.2.2.2.2, 1, .inr (.inl ((fun _ => 0))))), (x0, .inr (11, ofL 17 Fx0)), (x31, .inr (1, ofL 10 Fx31)), (x3, .inr (7, ofL 5 Fx3))]) (rest := []) li_L_118 C (c_X12_thrown l G H.size m0 (updV (updV Fm0 0 (.int 0)) 0 (.int 1)) 1 rfl) (kR rfl) hP hD hS [4] [0, 1, 2, 3] rfl rfl rfl rfl (by decide) 0 12 rfl rfl rfl hl.1 rfl (Nat.le_of_ble_eq_true rfl) dL_law_1882 (fun rr29 uu30 H locs hw28 hP hD hS => ?_)
      obtain rfl : rr29 = 1 := hw28
      have hP : va_P G.1 vwCl [(aout, .inl (G.2.2.2.2, 1, .inr (.inl ((fun _ => 0))))), (x0, .inr (11, ofL 17 Fx0)), (x31, .inr (1, ofL 10 Fx31)), (x3, .inr (7, ofL 5 Fx3)), (m0, .inr (12, ofL 88 (updV (updV Fm0 0 (.int 0)) 0 (.int 1))))] H := hP
      have hD : va_D A [(aout, .inl (G.2.2.2.2, 1, .inr (.inl ((fun _ => 0))))), (x0, .inr (11, ofL 17 Fx0)), (x31, .inr (1, ofL 10 Fx31)), (x3, .inr (7, ofL 5 Fx3)), (m0, .inr (12, ofL 88 (updV (updV Fm0 0 (.int 0)) 0 (.int 1))))] := hD
      refine lv_iload hx hb dL_law_1885 (lv_at hl 1 rfl) ?_
      refine lv_icmp_eq (x := 1) (y := 1) (tgt := 1892) hx hb dL_law_1887 (by decide) (fun c_31 => ?_) (fun c_31 => ?_)
      rotate_left
      · exact absurd (by decide) c_31
      refine lv_iload hx hb dL_law_1892 (lv_at hl 1 rfl) ?_
      refine lv_if_ne (x := 1) (tgt := 1909) hx hb dL_law_1894 (by decide) (fun c_32 => ?_) (fun c_32 => ?_)
      rotate_left
      · exact absurd c_32 (by decide)
      refine lv_goto (tgt := 2265) hx hb dL_law_1909 (by decide) ?_
      exact law_end hst C0 hA C hS (lv_sub hl [2, 6] rfl) (Nat.le_of_ble_eq_true rfl) (Nat.le_of_ble_eq_true rfl)
    ·
      have hP : va_P G.1 vwCl [(aout, .inl (G.2.2.2.2, 1, .inr (.inl ((fun _ => 0))))), (x0, .inr (11, ofL 17 Fx0)), (x31, .inr (1, ofL 10 Fx31)), (x3, .inr (7, ofL 5 Fx3)), (m0, .inr (12, ofL 88 (updV Fm0 0 (.int 0))))] H := hP
      have hD : va_D A [(aout, .inl (G.2.2.2.2, 1, .inr (.inl ((fun _ => 0))))), (x0, .inr (11, ofL 17 Fx0)), (x31, .inr (1, ofL 10 Fx31)), (x3, .inr (7, ofL 5 Fx3)), (m0, .inr (12, ofL 88 (updV Fm0 0 (.int 0))))] := hD
      refine lv_istore (lv' := [(6, .int (-1)), (5, .int 1), (0, .ref b), (1, .ref x0), (2, .ref m0), (3, .ref aout), (4, .int 0)]) hx hb dL_law_1879 hl (by decide) rfl (fun ls hl => ?_)
      refine lv_aload_n hx hb dL_law_1881 rfl (lv_at hl 4 rfl) ?_
      refine k_callVi (wr := [(aout, .inl (G.2.2.2.2, 1, .inr (.inl ((fun _ => 0))))), (x0, .inr (11, ofL 17 Fx0)), (x31, .inr (1, ofL 10 Fx31)), (x3, .inr (7, ofL 5 Fx3))]) (rest := []) li_L_118 C (c_X12_thrown l G H.size m0 (updV Fm0 0 (.int 0)) 0 rfl) (kR rfl) hP hD hS [4] [0, 1, 2, 3] rfl rfl rfl rfl (by decide) 0 12 rfl rfl rfl hl.1 rfl (Nat.le_of_ble_eq_true rfl) dL_law_1882 (fun rr34 uu35 H locs hw33 hP hD hS => ?_)
      obtain rfl : rr34 = 0 := hw33
      have hP : va_P G.1 vwCl [(aout, .inl (G.2.2.2.2, 1, .inr (.inl ((fun _ => 0))))), (x0, .inr (11, ofL 17 Fx0)), (x31, .inr (1, ofL 10 Fx31)), (x3, .inr (7, ofL 5 Fx3)), (m0, .inr (12, ofL 88 (updV Fm0 0 (.int 0))))] H := hP
      have hD : va_D A [(aout, .inl (G.2.2.2.2, 1, .inr (.inl ((fun _ => 0))))), (x0, .inr (11, ofL 17 Fx0)), (x31, .inr (1, ofL 10 Fx31)), (x3, .inr (7, ofL 5 Fx3)), (m0, .inr (12, ofL 88 (updV Fm0 0 (.int 0))))] := hD
      refine lv_iload hx hb dL_law_1885 (lv_at hl 1 rfl) ?_
      refine lv_icmp_eq (x := 0) (y := 1) (tgt := 1892) hx hb dL_law_1887 (by decide) (fun c_36 => ?_) (fun c_36 => ?_)
      · exact absurd c_36 (by decide)
      refine lv_iconst (v := 0) hx hb dL_law_1890 (by decide) ?_
      exfalso
      have e9_0 : (0 : Int32).toInt = 0 := by decide
      have e9_1 : (1 : Int32).toInt = 1 := by decide
      simp only [← Int32.toInt_inj] at c_20
      simp only [Int32.lt_iff_toInt_lt, Int32.le_iff_toInt_le] at c_4 c_18 c_19
      omega
    ·
      exact absurd c_4 (by decide)
  ·
    have hP : va_P G.1 vwCl [(m0, .inr (12, ofL 88 Fm0)), (aout, .inl (G.2.2.2.2, 1, .inr (.inl ((fun _ => 0))))), (x0, .inr (11, ofL 17 Fx0)), (x31, .inr (1, ofL 10 Fx31)), (x3, .inr (7, ofL 5 Fx3))] H := hP
    have hD : va_D A [(m0, .inr (12, ofL 88 Fm0)), (aout, .inl (G.2.2.2.2, 1, .inr (.inl ((fun _ => 0))))), (x0, .inr (11, ofL 17 Fx0)), (x31, .inr (1, ofL 10 Fx31)), (x3, .inr (7, ofL 5 Fx3))] := hD
    refine lv_istore (lv' := [(5, .int 1), (0, .ref b), (1, .ref x0), (2, .ref m0), (3, .ref aout), (4, .int 0)]) hx hb dL_law_1867 hl (by decide) rfl (fun ls hl => ?_)
    refine lv_aload_n hx hb dL_law_1869 rfl (lv_at hl 3 rfl) ?_
    refine lv_aload_n hx hb dL_law_1870 rfl (lv_at hl 1 rfl) ?_
    refine lv_iload hx hb dL_law_1871 (lv_at hl 5 rfl) ?_
    refine lv_iconst (v := 1) hx hb dL_law_1873 (by decide) ?_
    refine lv_iadd hx hb dL_law_1874 ?_
    refine k_eqi (y := 1) (by decide) ?_
    refine va_sld hx hb hX hbl hbA hS (k_in (by decide)) dL_law_1875 ?_
    refine k_eqi (y := v1) hv1 ?_
    refine k_callVi (wr := [(aout, .inl (G.2.2.2.2, 1, .inr (.inl ((fun _ => 0))))), (x0, .inr (11, ofL 17 Fx0)), (x31, .inr (1, ofL 10 Fx31)), (x3, .inr (7, ofL 5 Fx3))]) (rest := []) li_L_219 C (c_X12_clash l G H.size m0 v1 Fm0 e_m0_1) (kR rfl) hP hD hS [0] [1, 2, 3, 4] rfl rfl rfl rfl (by decide) 0 12 rfl rfl rfl hl.1 rfl (Nat.le_of_ble_eq_true rfl) dL_law_1876 (fun rr38 uu39 H locs hw37 hP hD hS => ?_)
    rcases hw37 with ⟨rfl, rfl, c_40⟩ | ⟨rfl, rfl, c_41, c_42⟩ | ⟨rfl, rfl, c_43, c_44, c_45⟩ | ⟨rfl, rfl, c_46, c_47, rfl⟩
    ·
      have hP : va_P G.1 vwCl [(aout, .inl (G.2.2.2.2, 1, .inr (.inl ((fun _ => 0))))), (x0, .inr (11, ofL 17 Fx0)), (x31, .inr (1, ofL 10 Fx31)), (x3, .inr (7, ofL 5 Fx3)), (m0, .inr (12, ofL 88 (updV (updV Fm0 0 (.int 0)) 0 (.int 1))))] H := hP
      have hD : va_D A [(aout, .inl (G.2.2.2.2, 1, .inr (.inl ((fun _ => 0))))), (x0, .inr (11, ofL 17 Fx0)), (x31, .inr (1, ofL 10 Fx31)), (x3, .inr (7, ofL 5 Fx3)), (m0, .inr (12, ofL 88 (updV (updV Fm0 0 (.int 0)) 0 (.int 1))))] := hD
      refine lv_istore (lv' := [(6, .int 0), (5, .int 1), (0, .ref b), (1, .ref x0), (2, .ref m0), (3, .ref aout), (4, .int 0)]) hx hb dL_law_1879 hl (by decide) rfl (fun ls hl => ?_)
      refine lv_aload_n hx hb dL_law_1881 rfl (lv_at hl 4 rfl) ?_
      refine k_callVi (wr := [(aout, .inl (G.2.2.2.2, 1, .inr (.inl ((fun _ => 0))))), (x0, .inr (11, ofL 17 Fx0)), (x31, .inr (1, ofL 10 Fx31)), (x3, .inr (7, ofL 5 Fx3))]) (rest := []) li_L_118 C (c_X12_thrown l G H.size m0 (updV (updV Fm0 0 (.int 0)) 0 (.int 1)) 1 rfl) (kR rfl) hP hD hS [4] [0, 1, 2, 3] rfl rfl rfl rfl (by decide) 0 12 rfl rfl rfl hl.1 rfl (Nat.le_of_ble_eq_true rfl) dL_law_1882 (fun rr49 uu50 H locs hw48 hP hD hS => ?_)
      obtain rfl : rr49 = 1 := hw48
      have hP : va_P G.1 vwCl [(aout, .inl (G.2.2.2.2, 1, .inr (.inl ((fun _ => 0))))), (x0, .inr (11, ofL 17 Fx0)), (x31, .inr (1, ofL 10 Fx31)), (x3, .inr (7, ofL 5 Fx3)), (m0, .inr (12, ofL 88 (updV (updV Fm0 0 (.int 0)) 0 (.int 1))))] H := hP
      have hD : va_D A [(aout, .inl (G.2.2.2.2, 1, .inr (.inl ((fun _ => 0))))), (x0, .inr (11, ofL 17 Fx0)), (x31, .inr (1, ofL 10 Fx31)), (x3, .inr (7, ofL 5 Fx3)), (m0, .inr (12, ofL 88 (updV (updV Fm0 0 (.int 0)) 0 (.int 1))))] := hD
      refine lv_iload hx hb dL_law_1885 (lv_at hl 1 rfl) ?_
      refine lv_icmp_eq (x := 1) (y := 1) (tgt := 1892) hx hb dL_law_1887 (by decide) (fun c_51 => ?_) (fun c_51 => ?_)
      rotate_left
      · exact absurd (by decide) c_51
      refine lv_iload hx hb dL_law_1892 (lv_at hl 1 rfl) ?_
      refine lv_if_ne (x := 1) (tgt := 1909) hx hb dL_law_1894 (by decide) (fun c_52 => ?_) (fun c_52 => ?_)
      rotate_left
      · exact absurd c_52 (by decide)
      refine lv_goto (tgt := 2265) hx hb dL_law_1909 (by decide) ?_
      exact law_end hst C0 hA C hS (lv_sub hl [2, 6] rfl) (Nat.le_of_ble_eq_true rfl) (Nat.le_of_ble_eq_true rfl)
    ·
      have hP : va_P G.1 vwCl [(aout, .inl (G.2.2.2.2, 1, .inr (.inl ((fun _ => 0))))), (x0, .inr (11, ofL 17 Fx0)), (x31, .inr (1, ofL 10 Fx31)), (x3, .inr (7, ofL 5 Fx3)), (m0, .inr (12, ofL 88 (updV (updV Fm0 0 (.int 0)) 0 (.int 1))))] H := hP
      have hD : va_D A [(aout, .inl (G.2.2.2.2, 1, .inr (.inl ((fun _ => 0))))), (x0, .inr (11, ofL 17 Fx0)), (x31, .inr (1, ofL 10 Fx31)), (x3, .inr (7, ofL 5 Fx3)), (m0, .inr (12, ofL 88 (updV (updV Fm0 0 (.int 0)) 0 (.int 1))))] := hD
      refine lv_istore (lv' := [(6, .int 0), (5, .int 1), (0, .ref b), (1, .ref x0), (2, .ref m0), (3, .ref aout), (4, .int 0)]) hx hb dL_law_1879 hl (by decide) rfl (fun ls hl => ?_)
      refine lv_aload_n hx hb dL_law_1881 rfl (lv_at hl 4 rfl) ?_
      refine k_callVi (wr := [(aout, .inl (G.2.2.2.2, 1, .inr (.inl ((fun _ => 0))))), (x0, .inr (11, ofL 17 Fx0)), (x31, .inr (1, ofL 10 Fx31)), (x3, .inr (7, ofL 5 Fx3))]) (rest := []) li_L_118 C (c_X12_thrown l G H.size m0 (updV (updV Fm0 0 (.int 0)) 0 (.int 1)) 1 rfl) (kR rfl) hP hD hS [4] [0, 1, 2, 3] rfl rfl rfl rfl (by decide) 0 12 rfl rfl rfl hl.1 rfl (Nat.le_of_ble_eq_true rfl) dL_law_1882 (fun rr54 uu55 H locs hw53 hP hD hS => ?_)
      obtain rfl : rr54 = 1 := hw53
      have hP : va_P G.1 vwCl [(aout, .inl (G.2.2.2.2, 1, .inr (.inl ((fun _ => 0))))), (x0, .inr (11, ofL 17 Fx0)), (x31, .inr (1, ofL 10 Fx31)), (x3, .inr (7, ofL 5 Fx3)), (m0, .inr (12, ofL 88 (updV (updV Fm0 0 (.int 0)) 0 (.int 1))))] H := hP
      have hD : va_D A [(aout, .inl (G.2.2.2.2, 1, .inr (.inl ((fun _ => 0))))), (x0, .inr (11, ofL 17 Fx0)), (x31, .inr (1, ofL 10 Fx31)), (x3, .inr (7, ofL 5 Fx3)), (m0, .inr (12, ofL 88 (updV (updV Fm0 0 (.int 0)) 0 (.int 1))))] := hD
      refine lv_iload hx hb dL_law_1885 (lv_at hl 1 rfl) ?_
      refine lv_icmp_eq (x := 1) (y := 1) (tgt := 1892) hx hb dL_law_1887 (by decide) (fun c_56 => ?_) (fun c_56 => ?_)
      rotate_left
      · exact absurd (by decide) c_56
      refine lv_iload hx hb dL_law_1892 (lv_at hl 1 rfl) ?_
      refine lv_if_ne (x := 1) (tgt := 1909) hx hb dL_law_1894 (by decide) (fun c_57 => ?_) (fun c_57 => ?_)
      rotate_left
      · exact absurd c_57 (by decide)
      refine lv_goto (tgt := 2265) hx hb dL_law_1909 (by decide) ?_
      exact law_end hst C0 hA C hS (lv_sub hl [2, 6] rfl) (Nat.le_of_ble_eq_true rfl) (Nat.le_of_ble_eq_true rfl)
    ·
      have hP : va_P G.1 vwCl [(aout, .inl (G.2.2.2.2, 1, .inr (.inl ((fun _ => 0))))), (x0, .inr (11, ofL 17 Fx0)), (x31, .inr (1, ofL 10 Fx31)), (x3, .inr (7, ofL 5 Fx3)), (m0, .inr (12, ofL 88 (updV Fm0 0 (.int 0))))] H := hP
      have hD : va_D A [(aout, .inl (G.2.2.2.2, 1, .inr (.inl ((fun _ => 0))))), (x0, .inr (11, ofL 17 Fx0)), (x31, .inr (1, ofL 10 Fx31)), (x3, .inr (7, ofL 5 Fx3)), (m0, .inr (12, ofL 88 (updV Fm0 0 (.int 0))))] := hD
      refine lv_istore (lv' := [(6, .int (-1)), (5, .int 1), (0, .ref b), (1, .ref x0), (2, .ref m0), (3, .ref aout), (4, .int 0)]) hx hb dL_law_1879 hl (by decide) rfl (fun ls hl => ?_)
      refine lv_aload_n hx hb dL_law_1881 rfl (lv_at hl 4 rfl) ?_
      refine k_callVi (wr := [(aout, .inl (G.2.2.2.2, 1, .inr (.inl ((fun _ => 0))))), (x0, .inr (11, ofL 17 Fx0)), (x31, .inr (1, ofL 10 Fx31)), (x3, .inr (7, ofL 5 Fx3))]) (rest := []) li_L_118 C (c_X12_thrown l G H.size m0 (updV Fm0 0 (.int 0)) 0 rfl) (kR rfl) hP hD hS [4] [0, 1, 2, 3] rfl rfl rfl rfl (by decide) 0 12 rfl rfl rfl hl.1 rfl (Nat.le_of_ble_eq_true rfl) dL_law_1882 (fun rr59 uu60 H locs hw58 hP hD hS => ?_)
      obtain rfl : rr59 = 0 := hw58
      have hP : va_P G.1 vwCl [(aout, .inl (G.2.2.2.2, 1, .inr (.inl ((fun _ => 0))))), (x0, .inr (11, ofL 17 Fx0)), (x31, .inr (1, ofL 10 Fx31)), (x3, .inr (7, ofL 5 Fx3)), (m0, .inr (12, ofL 88 (updV Fm0 0 (.int 0))))] H := hP
      have hD : va_D A [(aout, .inl (G.2.2.2.2, 1, .inr (.inl ((fun _ => 0))))), (x0, .inr (11, ofL 17 Fx0)), (x31, .inr (1, ofL 10 Fx31)), (x3, .inr (7, ofL 5 Fx3)), (m0, .inr (12, ofL 88 (updV Fm0 0 (.int 0))))] := hD
      refine lv_iload hx hb dL_law_1885 (lv_at hl 1 rfl) ?_
      refine lv_icmp_eq (x := 0) (y := 1) (tgt := 1892) hx hb dL_law_1887 (by decide) (fun c_61 => ?_) (fun c_61 => ?_)
      · exact absurd c_61 (by decide)
      refine lv_iconst (v := 0) hx hb dL_law_1890 (by decide) ?_
      exfalso
      have e9_0 : (0 : Int32).toInt = 0 := by decide
      have e9_1 : (1 : Int32).toInt = 1 := by decide
      have e9_2 : (2 : Int32).toInt = 2 := by decide
      simp only [← Int32.toInt_inj] at c_45
      simp only [Int32.lt_iff_toInt_lt, Int32.le_iff_toInt_le] at c_5 c_6 c_43 c_44
      omega
    ·
      exact absurd (by decide) c_6
  ·
    have hP : va_P G.1 vwCl [(m0, .inr (12, ofL 88 Fm0)), (aout, .inl (G.2.2.2.2, 1, .inr (.inl (vp_updL (fun _ => 0) 0 (-1))))), (x0, .inr (11, ofL 17 Fx0)), (x31, .inr (1, ofL 10 Fx31)), (x3, .inr (7, ofL 5 Fx3))] H := hP
    have hD : va_D A [(m0, .inr (12, ofL 88 Fm0)), (aout, .inl (G.2.2.2.2, 1, .inr (.inl (vp_updL (fun _ => 0) 0 (-1))))), (x0, .inr (11, ofL 17 Fx0)), (x31, .inr (1, ofL 10 Fx31)), (x3, .inr (7, ofL 5 Fx3))] := hD
    refine lv_istore (lv' := [(5, .int 0), (0, .ref b), (1, .ref x0), (2, .ref m0), (3, .ref aout), (4, .int 0)]) hx hb dL_law_1867 hl (by decide) rfl (fun ls hl => ?_)
    refine lv_aload_n hx hb dL_law_1869 rfl (lv_at hl 3 rfl) ?_
    refine lv_aload_n hx hb dL_law_1870 rfl (lv_at hl 1 rfl) ?_
    refine lv_iload hx hb dL_law_1871 (lv_at hl 5 rfl) ?_
    refine lv_iconst (v := 1) hx hb dL_law_1873 (by decide) ?_
    refine lv_iadd hx hb dL_law_1874 ?_
    refine k_eqi (y := 1) (by decide) ?_
    refine va_sld hx hb hX hbl hbA hS (k_in (by decide)) dL_law_1875 ?_
    refine k_eqi (y := v1) hv1 ?_
    refine k_callVi (wr := [(aout, .inl (G.2.2.2.2, 1, .inr (.inl (vp_updL (fun _ => 0) 0 (-1))))), (x0, .inr (11, ofL 17 Fx0)), (x31, .inr (1, ofL 10 Fx31)), (x3, .inr (7, ofL 5 Fx3))]) (rest := []) li_L_219 C (c_X12_clash l G H.size m0 v1 Fm0 e_m0_1) (kR rfl) hP hD hS [0] [1, 2, 3, 4] rfl rfl rfl rfl (by decide) 0 12 rfl rfl rfl hl.1 rfl (Nat.le_of_ble_eq_true rfl) dL_law_1876 (fun rr63 uu64 H locs hw62 hP hD hS => ?_)
    rcases hw62 with ⟨rfl, rfl, c_65⟩ | ⟨rfl, rfl, c_66, c_67⟩ | ⟨rfl, rfl, c_68, c_69, c_70⟩ | ⟨rfl, rfl, c_71, c_72, rfl⟩
    ·
      have hP : va_P G.1 vwCl [(aout, .inl (G.2.2.2.2, 1, .inr (.inl (vp_updL (fun _ => 0) 0 (-1))))), (x0, .inr (11, ofL 17 Fx0)), (x31, .inr (1, ofL 10 Fx31)), (x3, .inr (7, ofL 5 Fx3)), (m0, .inr (12, ofL 88 (updV (updV Fm0 0 (.int 0)) 0 (.int 1))))] H := hP
      have hD : va_D A [(aout, .inl (G.2.2.2.2, 1, .inr (.inl (vp_updL (fun _ => 0) 0 (-1))))), (x0, .inr (11, ofL 17 Fx0)), (x31, .inr (1, ofL 10 Fx31)), (x3, .inr (7, ofL 5 Fx3)), (m0, .inr (12, ofL 88 (updV (updV Fm0 0 (.int 0)) 0 (.int 1))))] := hD
      refine lv_istore (lv' := [(6, .int 0), (5, .int 0), (0, .ref b), (1, .ref x0), (2, .ref m0), (3, .ref aout), (4, .int 0)]) hx hb dL_law_1879 hl (by decide) rfl (fun ls hl => ?_)
      refine lv_aload_n hx hb dL_law_1881 rfl (lv_at hl 4 rfl) ?_
      refine k_callVi (wr := [(aout, .inl (G.2.2.2.2, 1, .inr (.inl (vp_updL (fun _ => 0) 0 (-1))))), (x0, .inr (11, ofL 17 Fx0)), (x31, .inr (1, ofL 10 Fx31)), (x3, .inr (7, ofL 5 Fx3))]) (rest := []) li_L_118 C (c_X12_thrown l G H.size m0 (updV (updV Fm0 0 (.int 0)) 0 (.int 1)) 1 rfl) (kR rfl) hP hD hS [4] [0, 1, 2, 3] rfl rfl rfl rfl (by decide) 0 12 rfl rfl rfl hl.1 rfl (Nat.le_of_ble_eq_true rfl) dL_law_1882 (fun rr74 uu75 H locs hw73 hP hD hS => ?_)
      obtain rfl : rr74 = 1 := hw73
      have hP : va_P G.1 vwCl [(aout, .inl (G.2.2.2.2, 1, .inr (.inl (vp_updL (fun _ => 0) 0 (-1))))), (x0, .inr (11, ofL 17 Fx0)), (x31, .inr (1, ofL 10 Fx31)), (x3, .inr (7, ofL 5 Fx3)), (m0, .inr (12, ofL 88 (updV (updV Fm0 0 (.int 0)) 0 (.int 1))))] H := hP
      have hD : va_D A [(aout, .inl (G.2.2.2.2, 1, .inr (.inl (vp_updL (fun _ => 0) 0 (-1))))), (x0, .inr (11, ofL 17 Fx0)), (x31, .inr (1, ofL 10 Fx31)), (x3, .inr (7, ofL 5 Fx3)), (m0, .inr (12, ofL 88 (updV (updV Fm0 0 (.int 0)) 0 (.int 1))))] := hD
      refine lv_iload hx hb dL_law_1885 (lv_at hl 1 rfl) ?_
      refine lv_icmp_eq (x := 1) (y := 0) (tgt := 1892) hx hb dL_law_1887 (by decide) (fun c_76 => ?_) (fun c_76 => ?_)
      · exact absurd c_76 (by decide)
      refine lv_iconst (v := 0) hx hb dL_law_1890 (by decide) ?_
      exfalso
      have e9_0 : (0 : Int32).toInt = 0 := by decide
      have e9_2 : (2 : Int32).toInt = 2 := by decide
      simp only [← Int32.toInt_inj] at c_9
      simp only [Int32.lt_iff_toInt_lt, Int32.le_iff_toInt_le] at c_7 c_8 c_65
      omega
    ·
      have hP : va_P G.1 vwCl [(aout, .inl (G.2.2.2.2, 1, .inr (.inl (vp_updL (fun _ => 0) 0 (-1))))), (x0, .inr (11, ofL 17 Fx0)), (x31, .inr (1, ofL 10 Fx31)), (x3, .inr (7, ofL 5 Fx3)), (m0, .inr (12, ofL 88 (updV (updV Fm0 0 (.int 0)) 0 (.int 1))))] H := hP
      have hD : va_D A [(aout, .inl (G.2.2.2.2, 1, .inr (.inl (vp_updL (fun _ => 0) 0 (-1))))), (x0, .inr (11, ofL 17 Fx0)), (x31, .inr (1, ofL 10 Fx31)), (x3, .inr (7, ofL 5 Fx3)), (m0, .inr (12, ofL 88 (updV (updV Fm0 0 (.int 0)) 0 (.int 1))))] := hD
      refine lv_istore (lv' := [(6, .int 0), (5, .int 0), (0, .ref b), (1, .ref x0), (2, .ref m0), (3, .ref aout), (4, .int 0)]) hx hb dL_law_1879 hl (by decide) rfl (fun ls hl => ?_)
      refine lv_aload_n hx hb dL_law_1881 rfl (lv_at hl 4 rfl) ?_
      refine k_callVi (wr := [(aout, .inl (G.2.2.2.2, 1, .inr (.inl (vp_updL (fun _ => 0) 0 (-1))))), (x0, .inr (11, ofL 17 Fx0)), (x31, .inr (1, ofL 10 Fx31)), (x3, .inr (7, ofL 5 Fx3))]) (rest := []) li_L_118 C (c_X12_thrown l G H.size m0 (updV (updV Fm0 0 (.int 0)) 0 (.int 1)) 1 rfl) (kR rfl) hP hD hS [4] [0, 1, 2, 3] rfl rfl rfl rfl (by decide) 0 12 rfl rfl rfl hl.1 rfl (Nat.le_of_ble_eq_true rfl) dL_law_1882 (fun rr78 uu79 H locs hw77 hP hD hS => ?_)
      obtain rfl : rr78 = 1 := hw77
      have hP : va_P G.1 vwCl [(aout, .inl (G.2.2.2.2, 1, .inr (.inl (vp_updL (fun _ => 0) 0 (-1))))), (x0, .inr (11, ofL 17 Fx0)), (x31, .inr (1, ofL 10 Fx31)), (x3, .inr (7, ofL 5 Fx3)), (m0, .inr (12, ofL 88 (updV (updV Fm0 0 (.int 0)) 0 (.int 1))))] H := hP
      have hD : va_D A [(aout, .inl (G.2.2.2.2, 1, .inr (.inl (vp_updL (fun _ => 0) 0 (-1))))), (x0, .inr (11, ofL 17 Fx0)), (x31, .inr (1, ofL 10 Fx31)), (x3, .inr (7, ofL 5 Fx3)), (m0, .inr (12, ofL 88 (updV (updV Fm0 0 (.int 0)) 0 (.int 1))))] := hD
      refine lv_iload hx hb dL_law_1885 (lv_at hl 1 rfl) ?_
      refine lv_icmp_eq (x := 1) (y := 0) (tgt := 1892) hx hb dL_law_1887 (by decide) (fun c_80 => ?_) (fun c_80 => ?_)
      · exact absurd c_80 (by decide)
      refine lv_iconst (v := 0) hx hb dL_law_1890 (by decide) ?_
      exfalso
      have e9_0 : (0 : Int32).toInt = 0 := by decide
      have e9_1 : (1 : Int32).toInt = 1 := by decide
      have e9_2 : (2 : Int32).toInt = 2 := by decide
      simp only [← Int32.toInt_inj] at c_9
      simp only [Int32.lt_iff_toInt_lt, Int32.le_iff_toInt_le] at c_7 c_8 c_66 c_67
      omega
    ·
      have hP : va_P G.1 vwCl [(aout, .inl (G.2.2.2.2, 1, .inr (.inl (vp_updL (fun _ => 0) 0 (-1))))), (x0, .inr (11, ofL 17 Fx0)), (x31, .inr (1, ofL 10 Fx31)), (x3, .inr (7, ofL 5 Fx3)), (m0, .inr (12, ofL 88 (updV Fm0 0 (.int 0))))] H := hP
      have hD : va_D A [(aout, .inl (G.2.2.2.2, 1, .inr (.inl (vp_updL (fun _ => 0) 0 (-1))))), (x0, .inr (11, ofL 17 Fx0)), (x31, .inr (1, ofL 10 Fx31)), (x3, .inr (7, ofL 5 Fx3)), (m0, .inr (12, ofL 88 (updV Fm0 0 (.int 0))))] := hD
      refine lv_istore (lv' := [(6, .int (-1)), (5, .int 0), (0, .ref b), (1, .ref x0), (2, .ref m0), (3, .ref aout), (4, .int 0)]) hx hb dL_law_1879 hl (by decide) rfl (fun ls hl => ?_)
      refine lv_aload_n hx hb dL_law_1881 rfl (lv_at hl 4 rfl) ?_
      refine k_callVi (wr := [(aout, .inl (G.2.2.2.2, 1, .inr (.inl (vp_updL (fun _ => 0) 0 (-1))))), (x0, .inr (11, ofL 17 Fx0)), (x31, .inr (1, ofL 10 Fx31)), (x3, .inr (7, ofL 5 Fx3))]) (rest := []) li_L_118 C (c_X12_thrown l G H.size m0 (updV Fm0 0 (.int 0)) 0 rfl) (kR rfl) hP hD hS [4] [0, 1, 2, 3] rfl rfl rfl rfl (by decide) 0 12 rfl rfl rfl hl.1 rfl (Nat.le_of_ble_eq_true rfl) dL_law_1882 (fun rr82 uu83 H locs hw81 hP hD hS => ?_)
      obtain rfl : rr82 = 0 := hw81
      have hP : va_P G.1 vwCl [(aout, .inl (G.2.2.2.2, 1, .inr (.inl (vp_updL (fun _ => 0) 0 (-1))))), (x0, .inr (11, ofL 17 Fx0)), (x31, .inr (1, ofL 10 Fx31)), (x3, .inr (7, ofL 5 Fx3)), (m0, .inr (12, ofL 88 (updV Fm0 0 (.int 0))))] H := hP
      have hD : va_D A [(aout, .inl (G.2.2.2.2, 1, .inr (.inl (vp_updL (fun _ => 0) 0 (-1))))), (x0, .inr (11, ofL 17 Fx0)), (x31, .inr (1, ofL 10 Fx31)), (x3, .inr (7, ofL 5 Fx3)), (m0, .inr (12, ofL 88 (updV Fm0 0 (.int 0))))] := hD
      refine lv_iload hx hb dL_law_1885 (lv_at hl 1 rfl) ?_
      refine lv_icmp_eq (x := 0) (y := 0) (tgt := 1892) hx hb dL_law_1887 (by decide) (fun c_84 => ?_) (fun c_84 => ?_)
      rotate_left
      · exact absurd (by decide) c_84
      refine lv_iload hx hb dL_law_1892 (lv_at hl 1 rfl) ?_
      refine lv_if_ne (x := 0) (tgt := 1909) hx hb dL_law_1894 (by decide) (fun c_85 => ?_) (fun c_85 => ?_)
      · exact absurd (by decide) c_85
      refine lv_aload_n hx hb dL_law_1897 rfl (lv_at hl 5 rfl) ?_
      refine lv_iconst (v := 0) hx hb dL_law_1898 (by decide) ?_
      refine k_lald C hP 0 rfl (k_in (by decide)) dL_law_1899 ?_
      refine k_eql (y := -1) rfl ?_
      refine lv_iload hx hb dL_law_1900 (lv_at hl 0 rfl) ?_
      refine lv_i2l (v := -1) hx hb dL_law_1902 (by decide) ?_
      refine W.lcmp hx hb dL_law_1903 ?_
      refine k_eqi (y := 0) (by decide) ?_
      refine lv_if_eq (x := 0) (tgt := 1909) hx hb dL_law_1904 (by decide) (fun c_86 => ?_) (fun c_86 => ?_)
      rotate_left
      · exact absurd (by decide) c_86
      refine lv_goto (tgt := 2265) hx hb dL_law_1909 (by decide) ?_
      exact law_end hst C0 hA C hS (lv_sub hl [2, 6] rfl) (Nat.le_of_ble_eq_true rfl) (Nat.le_of_ble_eq_true rfl)
    ·
      exact absurd (by decide) c_9
  ·
    have hP : va_P G.1 vwCl [(m0, .inr (12, ofL 88 Fm0)), (aout, .inl (G.2.2.2.2, 1, .inr (.inl (vp_updL (fun _ => 0) 0 0)))), (x0, .inr (11, ofL 17 Fx0)), (x31, .inr (1, ofL 10 Fx31)), (x3, .inr (7, ofL 5 Fx3))] H := hP
    have hD : va_D A [(m0, .inr (12, ofL 88 Fm0)), (aout, .inl (G.2.2.2.2, 1, .inr (.inl (vp_updL (fun _ => 0) 0 0)))), (x0, .inr (11, ofL 17 Fx0)), (x31, .inr (1, ofL 10 Fx31)), (x3, .inr (7, ofL 5 Fx3))] := hD
    refine lv_istore (lv' := [(5, .int 0), (0, .ref b), (1, .ref x0), (2, .ref m0), (3, .ref aout), (4, .int 0)]) hx hb dL_law_1867 hl (by decide) rfl (fun ls hl => ?_)
    refine lv_aload_n hx hb dL_law_1869 rfl (lv_at hl 3 rfl) ?_
    refine lv_aload_n hx hb dL_law_1870 rfl (lv_at hl 1 rfl) ?_
    refine lv_iload hx hb dL_law_1871 (lv_at hl 5 rfl) ?_
    refine lv_iconst (v := 1) hx hb dL_law_1873 (by decide) ?_
    refine lv_iadd hx hb dL_law_1874 ?_
    refine k_eqi (y := 1) (by decide) ?_
    refine va_sld hx hb hX hbl hbA hS (k_in (by decide)) dL_law_1875 ?_
    refine k_eqi (y := 0) hv1 ?_
    refine k_callVi (wr := [(aout, .inl (G.2.2.2.2, 1, .inr (.inl (vp_updL (fun _ => 0) 0 0)))), (x0, .inr (11, ofL 17 Fx0)), (x31, .inr (1, ofL 10 Fx31)), (x3, .inr (7, ofL 5 Fx3))]) (rest := []) li_L_219 C (c_X12_clash l G H.size m0 0 Fm0 e_m0_1) (kR rfl) hP hD hS [0] [1, 2, 3, 4] rfl rfl rfl rfl (by decide) 0 12 rfl rfl rfl hl.1 rfl (Nat.le_of_ble_eq_true rfl) dL_law_1876 (fun rr88 uu89 H locs hw87 hP hD hS => ?_)
    rcases hw87 with ⟨rfl, rfl, c_90⟩ | ⟨rfl, rfl, c_91, c_92⟩ | ⟨rfl, rfl, c_93, c_94, c_95⟩ | ⟨rfl, rfl, c_96, c_97, c_98⟩
    ·
      exact absurd c_90 (by decide)
    ·
      exact absurd c_92 (by decide)
    ·
      exact absurd (by decide) c_95
    ·
      have hP : va_P G.1 vwCl [(aout, .inl (G.2.2.2.2, 1, .inr (.inl (vp_updL (fun _ => 0) 0 0)))), (x0, .inr (11, ofL 17 Fx0)), (x31, .inr (1, ofL 10 Fx31)), (x3, .inr (7, ofL 5 Fx3)), (m0, .inr (12, ofL 88 (updV Fm0 0 (.int 0))))] H := hP
      have hD : va_D A [(aout, .inl (G.2.2.2.2, 1, .inr (.inl (vp_updL (fun _ => 0) 0 0)))), (x0, .inr (11, ofL 17 Fx0)), (x31, .inr (1, ofL 10 Fx31)), (x3, .inr (7, ofL 5 Fx3)), (m0, .inr (12, ofL 88 (updV Fm0 0 (.int 0))))] := hD
      refine lv_istore (lv' := [(6, .int 0), (5, .int 0), (0, .ref b), (1, .ref x0), (2, .ref m0), (3, .ref aout), (4, .int 0)]) hx hb dL_law_1879 hl (by decide) rfl (fun ls hl => ?_)
      refine lv_aload_n hx hb dL_law_1881 rfl (lv_at hl 4 rfl) ?_
      refine k_callVi (wr := [(aout, .inl (G.2.2.2.2, 1, .inr (.inl (vp_updL (fun _ => 0) 0 0)))), (x0, .inr (11, ofL 17 Fx0)), (x31, .inr (1, ofL 10 Fx31)), (x3, .inr (7, ofL 5 Fx3))]) (rest := []) li_L_118 C (c_X12_thrown l G H.size m0 (updV Fm0 0 (.int 0)) 0 rfl) (kR rfl) hP hD hS [4] [0, 1, 2, 3] rfl rfl rfl rfl (by decide) 0 12 rfl rfl rfl hl.1 rfl (Nat.le_of_ble_eq_true rfl) dL_law_1882 (fun rr100 uu101 H locs hw99 hP hD hS => ?_)
      obtain rfl : rr100 = 0 := hw99
      have hP : va_P G.1 vwCl [(aout, .inl (G.2.2.2.2, 1, .inr (.inl (vp_updL (fun _ => 0) 0 0)))), (x0, .inr (11, ofL 17 Fx0)), (x31, .inr (1, ofL 10 Fx31)), (x3, .inr (7, ofL 5 Fx3)), (m0, .inr (12, ofL 88 (updV Fm0 0 (.int 0))))] H := hP
      have hD : va_D A [(aout, .inl (G.2.2.2.2, 1, .inr (.inl (vp_updL (fun _ => 0) 0 0)))), (x0, .inr (11, ofL 17 Fx0)), (x31, .inr (1, ofL 10 Fx31)), (x3, .inr (7, ofL 5 Fx3)), (m0, .inr (12, ofL 88 (updV Fm0 0 (.int 0))))] := hD
      refine lv_iload hx hb dL_law_1885 (lv_at hl 1 rfl) ?_
      refine lv_icmp_eq (x := 0) (y := 0) (tgt := 1892) hx hb dL_law_1887 (by decide) (fun c_102 => ?_) (fun c_102 => ?_)
      rotate_left
      · exact absurd (by decide) c_102
      refine lv_iload hx hb dL_law_1892 (lv_at hl 1 rfl) ?_
      refine lv_if_ne (x := 0) (tgt := 1909) hx hb dL_law_1894 (by decide) (fun c_103 => ?_) (fun c_103 => ?_)
      · exact absurd (by decide) c_103
      refine lv_aload_n hx hb dL_law_1897 rfl (lv_at hl 5 rfl) ?_
      refine lv_iconst (v := 0) hx hb dL_law_1898 (by decide) ?_
      refine k_lald C hP 0 rfl (k_in (by decide)) dL_law_1899 ?_
      refine k_eql (y := 0) rfl ?_
      refine lv_iload hx hb dL_law_1900 (lv_at hl 0 rfl) ?_
      refine lv_i2l (v := 0) hx hb dL_law_1902 (by decide) ?_
      refine W.lcmp hx hb dL_law_1903 ?_
      refine k_eqi (y := 0) (by decide) ?_
      refine lv_if_eq (x := 0) (tgt := 1909) hx hb dL_law_1904 (by decide) (fun c_104 => ?_) (fun c_104 => ?_)
      rotate_left
      · exact absurd (by decide) c_104
      refine lv_goto (tgt := 2265) hx hb dL_law_1909 (by decide) ?_
      exact law_end hst C0 hA C hS (lv_sub hl [2, 6] rfl) (Nat.le_of_ble_eq_true rfl) (Nat.le_of_ble_eq_true rfl)
set_option maxHeartbeats 4000000 in
set_option maxRecDepth 100000 in
theorem law_31 {p : Program} {e : Env} {s : State} {m : MethodId} {below : List Frame} {meth : Method} {c : Code} {l : Launch} (hst : l.stackTraces = false) {b : Nat} {xs : Nat → Int32} {G : kG} {A : Nat → Prop} (C0 : lw_At p s m meth c b 6 xs) (hA : A = fun q : Nat => s.heap.size ≤ q) (C : kC G p s m c cL_law 8 RL A) {v1 : Int32} (hv1 : xs 1 = v1) {v2 : Int32} (hv2 : xs 2 = v2) {v3 : Int32} (hv3 : xs 3 = v3) {v4 : Int32} (hv4 : xs 4 = v4) {v5 : Int32} (hv5 : xs 5 = v5) {x0 : Nat} {Fx0 : Nat → Value} {x31 : Nat} {x32 : Nat} {x3 : Nat} {Fx3 : Nat → Value} {Fx31 : Nat → Value} {Fx32 : Nat → Value} {m0 : Nat} {Fm0 : Nat → Value} {aout : Nat} (e_x0_8 : Fx0 8 = .ref x31) (e_x0_12 : Fx0 12 = .ref x32) (e_x3_2 : Fx3 2 = .int 0) (e_x31_7 : Fx31 7 = .ref x3) (e_x32_0 : Fx32 0 = .ref x31) (e_m0_1 : Fm0 1 = .int 0) {H : Heap} {locs : List Loc} {ls : Array Slot} (hP : va_P G.1 vwCl [(x0, .inr (11, ofL 17 Fx0)), (x3, .inr (7, ofL 5 Fx3)), (x31, .inr (1, ofL 10 Fx31)), (x32, .inr (9, ofL 6 Fx32)), (m0, .inr (12, ofL 88 Fm0)), (aout, .inl (G.2.2.2.2, 1, .inr (.inl (fun _ => 0))))] H) (hD : va_D A [(x0, .inr (11, ofL 17 Fx0)), (x3, .inr (7, ofL 5 Fx3)), (x31, .inr (1, ofL 10 Fx31)), (x32, .inr (9, ofL 6 Fx32)), (m0, .inr (12, ofL 88 Fm0)), (aout, .inl (G.2.2.2.2, 1, .inr (.inl (fun _ => 0))))]) (hS : va_S A s.heap H locs) (hl : lv_has ls 8 [(0, .ref b), (1, .ref x0), (2, .ref m0), (3, .ref aout), (4, .int 0)]) :
    W p l e room_1 s m #[Value.ref b] below meth c H locs 1000 20000 (lw_Z below #[Value.ref b] s) (F0 m 1912 ls []) := by
  obtain ⟨hx, hb, hr, -, -, -, hX, hbl, hlocks, -⟩ := id C0
  have hbA : ¬ A b := by rw [hA]; exact Nat.not_le.mpr hbl
  refine lv_aload_n hx hb dL_law_1912 rfl (lv_at hl 1 rfl) ?_
  refine lv_aload_n hx hb dL_law_1913 rfl (lv_at hl 0 rfl) ?_
  refine lv_iload hx hb dL_law_1914 (lv_at hl 4 rfl) ?_
  refine lv_iconst (v := 1) hx hb dL_law_1916 (by decide) ?_
  refine lv_iadd hx hb dL_law_1917 ?_
  refine k_eqi (y := 1) (by decide) ?_
  refine va_sld hx hb hX hbl hbA hS (k_in (by decide)) dL_law_1918 ?_
  refine k_eqi (y := v1) hv1 ?_
  refine lv_aload_n hx hb dL_law_1919 rfl (lv_at hl 3 rfl) ?_
  refine k_callHi (wr := [(m0, .inr (12, ofL 88 Fm0))]) (rest := []) li_L_220 C (c_L_busiest l hst G H.size x0 v1 aout Fx0 x31 x32 Fx32 Fx31 x3 Fx3 (fun _ => 0) e_x0_12 e_x0_8 e_x32_0 e_x31_7 e_x3_2) (kR rfl) hP hD hS [0, 3, 2, 1, 5] [4] rfl rfl rfl rfl (by decide) rfl hl.1 rfl (Nat.le_of_ble_eq_true rfl) dL_law_1920 (fun rr2 uu3 H locs hw1 hP hD hS => ?_)
  rcases hw1 with ⟨rfl, rfl, c_4⟩ | ⟨rfl, rfl, c_5, c_6⟩ | ⟨rfl, rfl, c_7, c_8, c_9⟩ | ⟨rfl, rfl, c_10, c_11, rfl⟩
  ·
    have hP : va_P G.1 vwCl [(m0, .inr (12, ofL 88 Fm0)), (aout, .inl (G.2.2.2.2, 1, .inr (.inl ((fun _ => 0))))), (x0, .inr (11, ofL 17 Fx0)), (x32, .inr (9, ofL 6 Fx32)), (x31, .inr (1, ofL 10 Fx31)), (x3, .inr (7, ofL 5 Fx3))] H := hP
    have hD : va_D A [(m0, .inr (12, ofL 88 Fm0)), (aout, .inl (G.2.2.2.2, 1, .inr (.inl ((fun _ => 0))))), (x0, .inr (11, ofL 17 Fx0)), (x32, .inr (9, ofL 6 Fx32)), (x31, .inr (1, ofL 10 Fx31)), (x3, .inr (7, ofL 5 Fx3))] := hD
    refine lv_istore (lv' := [(5, .int 1), (0, .ref b), (1, .ref x0), (2, .ref m0), (3, .ref aout), (4, .int 0)]) hx hb dL_law_1923 hl (by decide) rfl (fun ls hl => ?_)
    refine lv_aload_n hx hb dL_law_1925 rfl (lv_at hl 3 rfl) ?_
    refine lv_aload_n hx hb dL_law_1926 rfl (lv_at hl 1 rfl) ?_
    refine lv_iload hx hb dL_law_1927 (lv_at hl 5 rfl) ?_
    refine lv_iconst (v := 1) hx hb dL_law_1929 (by decide) ?_
    refine lv_iadd hx hb dL_law_1930 ?_
    refine k_eqi (y := 1) (by decide) ?_
    refine va_sld hx hb hX hbl hbA hS (k_in (by decide)) dL_law_1931 ?_
    refine k_eqi (y := v1) hv1 ?_
    refine k_callVi (wr := [(aout, .inl (G.2.2.2.2, 1, .inr (.inl ((fun _ => 0))))), (x0, .inr (11, ofL 17 Fx0)), (x32, .inr (9, ofL 6 Fx32)), (x31, .inr (1, ofL 10 Fx31)), (x3, .inr (7, ofL 5 Fx3))]) (rest := []) li_L_222 C (c_X12_busiest l G H.size m0 v1 Fm0 e_m0_1) (kR rfl) hP hD hS [0] [1, 2, 3, 4, 5] rfl rfl rfl rfl (by decide) 0 12 rfl rfl rfl hl.1 rfl (Nat.le_of_ble_eq_true rfl) dL_law_1932 (fun rr13 uu14 H locs hw12 hP hD hS => ?_)
    rcases hw12 with ⟨rfl, rfl, c_15⟩ | ⟨rfl, rfl, c_16, c_17⟩ | ⟨rfl, rfl, c_18, c_19, c_20⟩ | ⟨rfl, rfl, c_21, c_22, rfl⟩
    ·
      have hP : va_P G.1 vwCl [(aout, .inl (G.2.2.2.2, 1, .inr (.inl ((fun _ => 0))))), (x0, .inr (11, ofL 17 Fx0)), (x32, .inr (9, ofL 6 Fx32)), (x31, .inr (1, ofL 10 Fx31)), (x3, .inr (7, ofL 5 Fx3)), (m0, .inr (12, ofL 88 (updV (updV Fm0 0 (.int 0)) 0 (.int 1))))] H := hP
      have hD : va_D A [(aout, .inl (G.2.2.2.2, 1, .inr (.inl ((fun _ => 0))))), (x0, .inr (11, ofL 17 Fx0)), (x32, .inr (9, ofL 6 Fx32)), (x31, .inr (1, ofL 10 Fx31)), (x3, .inr (7, ofL 5 Fx3)), (m0, .inr (12, ofL 88 (updV (updV Fm0 0 (.int 0)) 0 (.int 1))))] := hD
      refine lv_istore (lv' := [(6, .int 0), (5, .int 1), (0, .ref b), (1, .ref x0), (2, .ref m0), (3, .ref aout), (4, .int 0)]) hx hb dL_law_1935 hl (by decide) rfl (fun ls hl => ?_)
      refine lv_aload_n hx hb dL_law_1937 rfl (lv_at hl 4 rfl) ?_
      refine k_callVi (wr := [(aout, .inl (G.2.2.2.2, 1, .inr (.inl ((fun _ => 0))))), (x0, .inr (11, ofL 17 Fx0)), (x32, .inr (9, ofL 6 Fx32)), (x31, .inr (1, ofL 10 Fx31)), (x3, .inr (7, ofL 5 Fx3))]) (rest := []) li_L_118 C (c_X12_thrown l G H.size m0 (updV (updV Fm0 0 (.int 0)) 0 (.int 1)) 1 rfl) (kR rfl) hP hD hS [5] [0, 1, 2, 3, 4] rfl rfl rfl rfl (by decide) 0 12 rfl rfl rfl hl.1 rfl (Nat.le_of_ble_eq_true rfl) dL_law_1938 (fun rr24 uu25 H locs hw23 hP hD hS => ?_)
      obtain rfl : rr24 = 1 := hw23
      have hP : va_P G.1 vwCl [(aout, .inl (G.2.2.2.2, 1, .inr (.inl ((fun _ => 0))))), (x0, .inr (11, ofL 17 Fx0)), (x32, .inr (9, ofL 6 Fx32)), (x31, .inr (1, ofL 10 Fx31)), (x3, .inr (7, ofL 5 Fx3)), (m0, .inr (12, ofL 88 (updV (updV Fm0 0 (.int 0)) 0 (.int 1))))] H := hP
      have hD : va_D A [(aout, .inl (G.2.2.2.2, 1, .inr (.inl ((fun _ => 0))))), (x0, .inr (11, ofL 17 Fx0)), (x32, .inr (9, ofL 6 Fx32)), (x31, .inr (1, ofL 10 Fx31)), (x3, .inr (7, ofL 5 Fx3)), (m0, .inr (12, ofL 88 (updV (updV Fm0 0 (.int 0)) 0 (.int 1))))] := hD
      refine lv_iload hx hb dL_law_1941 (lv_at hl 1 rfl) ?_
      refine lv_icmp_eq (x := 1) (y := 1) (tgt := 1948) hx hb dL_law_1943 (by decide) (fun c_26 => ?_) (fun c_26 => ?_)
      rotate_left
      · exact absurd (by decide) c_26
      refine lv_iload hx hb dL_law_1948 (lv_at hl 1 rfl) ?_
      refine lv_if_ne (x := 1) (tgt := 1965) hx hb dL_law_1950 (by decide) (fun c_27 => ?_) (fun c_27 => ?_)
      rotate_left
      · exact absurd c_27 (by decide)
      refine lv_goto (tgt := 2265) hx hb dL_law_1965 (by decide) ?_
      exact law_end hst C0 hA C hS (lv_sub hl [2, 6] rfl) (Nat.le_of_ble_eq_true rfl) (Nat.le_of_ble_eq_true rfl)
    ·
      have hP : va_P G.1 vwCl [(aout, .inl (G.2.2.2.2, 1, .inr (.inl ((fun _ => 0))))), (x0, .inr (11, ofL 17 Fx0)), (x32, .inr (9, ofL 6 Fx32)), (x31, .inr (1, ofL 10 Fx31)), (x3, .inr (7, ofL 5 Fx3)), (m0, .inr (12, ofL 88 (updV (updV Fm0 0 (.int 0)) 0 (.int 1))))] H := hP
      have hD : va_D A [(aout, .inl (G.2.2.2.2, 1, .inr (.inl ((fun _ => 0))))), (x0, .inr (11, ofL 17 Fx0)), (x32, .inr (9, ofL 6 Fx32)), (x31, .inr (1, ofL 10 Fx31)), (x3, .inr (7, ofL 5 Fx3)), (m0, .inr (12, ofL 88 (updV (updV Fm0 0 (.int 0)) 0 (.int 1))))] := hD
      refine lv_istore (lv' := [(6, .int 0), (5, .int 1), (0, .ref b), (1, .ref x0), (2, .ref m0), (3, .ref aout), (4, .int 0)]) hx hb dL_law_1935 hl (by decide) rfl (fun ls hl => ?_)
      refine lv_aload_n hx hb dL_law_1937 rfl (lv_at hl 4 rfl) ?_
      refine k_callVi (wr := [(aout, .inl (G.2.2.2.2, 1, .inr (.inl ((fun _ => 0))))), (x0, .inr (11, ofL 17 Fx0)), (x32, .inr (9, ofL 6 Fx32)), (x31, .inr (1, ofL 10 Fx31)), (x3, .inr (7, ofL 5 Fx3))]) (rest := []) li_L_118 C (c_X12_thrown l G H.size m0 (updV (updV Fm0 0 (.int 0)) 0 (.int 1)) 1 rfl) (kR rfl) hP hD hS [5] [0, 1, 2, 3, 4] rfl rfl rfl rfl (by decide) 0 12 rfl rfl rfl hl.1 rfl (Nat.le_of_ble_eq_true rfl) dL_law_1938 (fun rr29 uu30 H locs hw28 hP hD hS => ?_)
      obtain rfl : rr29 = 1 := hw28
      have hP : va_P G.1 vwCl [(aout, .inl (G.2.2.2.2, 1, .inr (.inl ((fun _ => 0))))), (x0, .inr (11, ofL 17 Fx0)), (x32, .inr (9, ofL 6 Fx32)), (x31, .inr (1, ofL 10 Fx31)), (x3, .inr (7, ofL 5 Fx3)), (m0, .inr (12, ofL 88 (updV (updV Fm0 0 (.int 0)) 0 (.int 1))))] H := hP
      have hD : va_D A [(aout, .inl (G.2.2.2.2, 1, .inr (.inl ((fun _ => 0))))), (x0, .inr (11, ofL 17 Fx0)), (x32, .inr (9, ofL 6 Fx32)), (x31, .inr (1, ofL 10 Fx31)), (x3, .inr (7, ofL 5 Fx3)), (m0, .inr (12, ofL 88 (updV (updV Fm0 0 (.int 0)) 0 (.int 1))))] := hD
      refine lv_iload hx hb dL_law_1941 (lv_at hl 1 rfl) ?_
      refine lv_icmp_eq (x := 1) (y := 1) (tgt := 1948) hx hb dL_law_1943 (by decide) (fun c_31 => ?_) (fun c_31 => ?_)
      rotate_left
      · exact absurd (by decide) c_31
      refine lv_iload hx hb dL_law_1948 (lv_at hl 1 rfl) ?_
      refine lv_if_ne (x := 1) (tgt := 1965) hx hb dL_law_1950 (by decide) (fun c_32 => ?_) (fun c_32 => ?_)
      rotate_left
      · exact absurd c_32 (by decide)
      refine lv_goto (tgt := 2265) hx hb dL_law_1965 (by decide) ?_
      exact law_end hst C0 hA C hS (lv_sub hl [2, 6] rfl) (Nat.le_of_ble_eq_true rfl) (Nat.le_of_ble_eq_true rfl)
    ·
      have hP : va_P G.1 vwCl [(aout, .inl (G.2.2.2.2, 1, .inr (.inl ((fun _ => 0))))), (x0, .inr (11, ofL 17 Fx0)), (x32, .inr (9, ofL 6 Fx32)), (x31, .inr (1, ofL 10 Fx31)), (x3, .inr (7, ofL 5 Fx3)), (m0, .inr (12, ofL 88 (updV (updV Fm0 0 (.int 0)) 79 (.int 0))))] H := hP
      have hD : va_D A [(aout, .inl (G.2.2.2.2, 1, .inr (.inl ((fun _ => 0))))), (x0, .inr (11, ofL 17 Fx0)), (x32, .inr (9, ofL 6 Fx32)), (x31, .inr (1, ofL 10 Fx31)), (x3, .inr (7, ofL 5 Fx3)), (m0, .inr (12, ofL 88 (updV (updV Fm0 0 (.int 0)) 79 (.int 0))))] := hD
      refine lv_istore (lv' := [(6, .int (-1)), (5, .int 1), (0, .ref b), (1, .ref x0), (2, .ref m0), (3, .ref aout), (4, .int 0)]) hx hb dL_law_1935 hl (by decide) rfl (fun ls hl => ?_)
      refine lv_aload_n hx hb dL_law_1937 rfl (lv_at hl 4 rfl) ?_
      refine k_callVi (wr := [(aout, .inl (G.2.2.2.2, 1, .inr (.inl ((fun _ => 0))))), (x0, .inr (11, ofL 17 Fx0)), (x32, .inr (9, ofL 6 Fx32)), (x31, .inr (1, ofL 10 Fx31)), (x3, .inr (7, ofL 5 Fx3))]) (rest := []) li_L_118 C (c_X12_thrown l G H.size m0 (updV (updV Fm0 0 (.int 0)) 79 (.int 0)) 0 rfl) (kR rfl) hP hD hS [5] [0, 1, 2, 3, 4] rfl rfl rfl rfl (by decide) 0 12 rfl rfl rfl hl.1 rfl (Nat.le_of_ble_eq_true rfl) dL_law_1938 (fun rr34 uu35 H locs hw33 hP hD hS => ?_)
      obtain rfl : rr34 = 0 := hw33
      have hP : va_P G.1 vwCl [(aout, .inl (G.2.2.2.2, 1, .inr (.inl ((fun _ => 0))))), (x0, .inr (11, ofL 17 Fx0)), (x32, .inr (9, ofL 6 Fx32)), (x31, .inr (1, ofL 10 Fx31)), (x3, .inr (7, ofL 5 Fx3)), (m0, .inr (12, ofL 88 (updV (updV Fm0 0 (.int 0)) 79 (.int 0))))] H := hP
      have hD : va_D A [(aout, .inl (G.2.2.2.2, 1, .inr (.inl ((fun _ => 0))))), (x0, .inr (11, ofL 17 Fx0)), (x32, .inr (9, ofL 6 Fx32)), (x31, .inr (1, ofL 10 Fx31)), (x3, .inr (7, ofL 5 Fx3)), (m0, .inr (12, ofL 88 (updV (updV Fm0 0 (.int 0)) 79 (.int 0))))] := hD
      refine lv_iload hx hb dL_law_1941 (lv_at hl 1 rfl) ?_
      refine lv_icmp_eq (x := 0) (y := 1) (tgt := 1948) hx hb dL_law_1943 (by decide) (fun c_36 => ?_) (fun c_36 => ?_)
      · exact absurd c_36 (by decide)
      refine lv_iconst (v := 0) hx hb dL_law_1946 (by decide) ?_
      exfalso
      have e9_0 : (0 : Int32).toInt = 0 := by decide
      have e9_1 : (1 : Int32).toInt = 1 := by decide
      simp only [← Int32.toInt_inj] at c_20
      simp only [Int32.lt_iff_toInt_lt, Int32.le_iff_toInt_le] at c_4 c_18 c_19
      omega
    ·
      exact absurd c_4 (by decide)
  ·
    have hP : va_P G.1 vwCl [(m0, .inr (12, ofL 88 Fm0)), (aout, .inl (G.2.2.2.2, 1, .inr (.inl ((fun _ => 0))))), (x0, .inr (11, ofL 17 Fx0)), (x32, .inr (9, ofL 6 Fx32)), (x31, .inr (1, ofL 10 Fx31)), (x3, .inr (7, ofL 5 Fx3))] H := hP
    have hD : va_D A [(m0, .inr (12, ofL 88 Fm0)), (aout, .inl (G.2.2.2.2, 1, .inr (.inl ((fun _ => 0))))), (x0, .inr (11, ofL 17 Fx0)), (x32, .inr (9, ofL 6 Fx32)), (x31, .inr (1, ofL 10 Fx31)), (x3, .inr (7, ofL 5 Fx3))] := hD
    refine lv_istore (lv' := [(5, .int 1), (0, .ref b), (1, .ref x0), (2, .ref m0), (3, .ref aout), (4, .int 0)]) hx hb dL_law_1923 hl (by decide) rfl (fun ls hl => ?_)
    refine lv_aload_n hx hb dL_law_1925 rfl (lv_at hl 3 rfl) ?_
    refine lv_aload_n hx hb dL_law_1926 rfl (lv_at hl 1 rfl) ?_
    refine lv_iload hx hb dL_law_1927 (lv_at hl 5 rfl) ?_
    refine lv_iconst (v := 1) hx hb dL_law_1929 (by decide) ?_
    refine lv_iadd hx hb dL_law_1930 ?_
    refine k_eqi (y := 1) (by decide) ?_
    refine va_sld hx hb hX hbl hbA hS (k_in (by decide)) dL_law_1931 ?_
    refine k_eqi (y := v1) hv1 ?_
    refine k_callVi (wr := [(aout, .inl (G.2.2.2.2, 1, .inr (.inl ((fun _ => 0))))), (x0, .inr (11, ofL 17 Fx0)), (x32, .inr (9, ofL 6 Fx32)), (x31, .inr (1, ofL 10 Fx31)), (x3, .inr (7, ofL 5 Fx3))]) (rest := []) li_L_222 C (c_X12_busiest l G H.size m0 v1 Fm0 e_m0_1) (kR rfl) hP hD hS [0] [1, 2, 3, 4, 5] rfl rfl rfl rfl (by decide) 0 12 rfl rfl rfl hl.1 rfl (Nat.le_of_ble_eq_true rfl) dL_law_1932 (fun rr38 uu39 H locs hw37 hP hD hS => ?_)
    rcases hw37 with ⟨rfl, rfl, c_40⟩ | ⟨rfl, rfl, c_41, c_42⟩ | ⟨rfl, rfl, c_43, c_44, c_45⟩ | ⟨rfl, rfl, c_46, c_47, rfl⟩
    ·
      have hP : va_P G.1 vwCl [(aout, .inl (G.2.2.2.2, 1, .inr (.inl ((fun _ => 0))))), (x0, .inr (11, ofL 17 Fx0)), (x32, .inr (9, ofL 6 Fx32)), (x31, .inr (1, ofL 10 Fx31)), (x3, .inr (7, ofL 5 Fx3)), (m0, .inr (12, ofL 88 (updV (updV Fm0 0 (.int 0)) 0 (.int 1))))] H := hP
      have hD : va_D A [(aout, .inl (G.2.2.2.2, 1, .inr (.inl ((fun _ => 0))))), (x0, .inr (11, ofL 17 Fx0)), (x32, .inr (9, ofL 6 Fx32)), (x31, .inr (1, ofL 10 Fx31)), (x3, .inr (7, ofL 5 Fx3)), (m0, .inr (12, ofL 88 (updV (updV Fm0 0 (.int 0)) 0 (.int 1))))] := hD
      refine lv_istore (lv' := [(6, .int 0), (5, .int 1), (0, .ref b), (1, .ref x0), (2, .ref m0), (3, .ref aout), (4, .int 0)]) hx hb dL_law_1935 hl (by decide) rfl (fun ls hl => ?_)
      refine lv_aload_n hx hb dL_law_1937 rfl (lv_at hl 4 rfl) ?_
      refine k_callVi (wr := [(aout, .inl (G.2.2.2.2, 1, .inr (.inl ((fun _ => 0))))), (x0, .inr (11, ofL 17 Fx0)), (x32, .inr (9, ofL 6 Fx32)), (x31, .inr (1, ofL 10 Fx31)), (x3, .inr (7, ofL 5 Fx3))]) (rest := []) li_L_118 C (c_X12_thrown l G H.size m0 (updV (updV Fm0 0 (.int 0)) 0 (.int 1)) 1 rfl) (kR rfl) hP hD hS [5] [0, 1, 2, 3, 4] rfl rfl rfl rfl (by decide) 0 12 rfl rfl rfl hl.1 rfl (Nat.le_of_ble_eq_true rfl) dL_law_1938 (fun rr49 uu50 H locs hw48 hP hD hS => ?_)
      obtain rfl : rr49 = 1 := hw48
      have hP : va_P G.1 vwCl [(aout, .inl (G.2.2.2.2, 1, .inr (.inl ((fun _ => 0))))), (x0, .inr (11, ofL 17 Fx0)), (x32, .inr (9, ofL 6 Fx32)), (x31, .inr (1, ofL 10 Fx31)), (x3, .inr (7, ofL 5 Fx3)), (m0, .inr (12, ofL 88 (updV (updV Fm0 0 (.int 0)) 0 (.int 1))))] H := hP
      have hD : va_D A [(aout, .inl (G.2.2.2.2, 1, .inr (.inl ((fun _ => 0))))), (x0, .inr (11, ofL 17 Fx0)), (x32, .inr (9, ofL 6 Fx32)), (x31, .inr (1, ofL 10 Fx31)), (x3, .inr (7, ofL 5 Fx3)), (m0, .inr (12, ofL 88 (updV (updV Fm0 0 (.int 0)) 0 (.int 1))))] := hD
      refine lv_iload hx hb dL_law_1941 (lv_at hl 1 rfl) ?_
      refine lv_icmp_eq (x := 1) (y := 1) (tgt := 1948) hx hb dL_law_1943 (by decide) (fun c_51 => ?_) (fun c_51 => ?_)
      rotate_left
      · exact absurd (by decide) c_51
      refine lv_iload hx hb dL_law_1948 (lv_at hl 1 rfl) ?_
      refine lv_if_ne (x := 1) (tgt := 1965) hx hb dL_law_1950 (by decide) (fun c_52 => ?_) (fun c_52 => ?_)
      rotate_left
      · exact absurd c_52 (by decide)
      refine lv_goto (tgt := 2265) hx hb dL_law_1965 (by decide) ?_
      exact law_end hst C0 hA C hS (lv_sub hl [2, 6] rfl) (Nat.le_of_ble_eq_true rfl) (Nat.le_of_ble_eq_true rfl)
    ·
      have hP : va_P G.1 vwCl [(aout, .inl (G.2.2.2.2, 1, .inr (.inl ((fun _ => 0))))), (x0, .inr (11, ofL 17 Fx0)), (x32, .inr (9, ofL 6 Fx32)), (x31, .inr (1, ofL 10 Fx31)), (x3, .inr (7, ofL 5 Fx3)), (m0, .inr (12, ofL 88 (updV (updV Fm0 0 (.int 0)) 0 (.int 1))))] H := hP
      have hD : va_D A [(aout, .inl (G.2.2.2.2, 1, .inr (.inl ((fun _ => 0))))), (x0, .inr (11, ofL 17 Fx0)), (x32, .inr (9, ofL 6 Fx32)), (x31, .inr (1, ofL 10 Fx31)), (x3, .inr (7, ofL 5 Fx3)), (m0, .inr (12, ofL 88 (updV (updV Fm0 0 (.int 0)) 0 (.int 1))))] := hD
      refine lv_istore (lv' := [(6, .int 0), (5, .int 1), (0, .ref b), (1, .ref x0), (2, .ref m0), (3, .ref aout), (4, .int 0)]) hx hb dL_law_1935 hl (by decide) rfl (fun ls hl => ?_)
      refine lv_aload_n hx hb dL_law_1937 rfl (lv_at hl 4 rfl) ?_
      refine k_callVi (wr := [(aout, .inl (G.2.2.2.2, 1, .inr (.inl ((fun _ => 0))))), (x0, .inr (11, ofL 17 Fx0)), (x32, .inr (9, ofL 6 Fx32)), (x31, .inr (1, ofL 10 Fx31)), (x3, .inr (7, ofL 5 Fx3))]) (rest := []) li_L_118 C (c_X12_thrown l G H.size m0 (updV (updV Fm0 0 (.int 0)) 0 (.int 1)) 1 rfl) (kR rfl) hP hD hS [5] [0, 1, 2, 3, 4] rfl rfl rfl rfl (by decide) 0 12 rfl rfl rfl hl.1 rfl (Nat.le_of_ble_eq_true rfl) dL_law_1938 (fun rr54 uu55 H locs hw53 hP hD hS => ?_)
      obtain rfl : rr54 = 1 := hw53
      have hP : va_P G.1 vwCl [(aout, .inl (G.2.2.2.2, 1, .inr (.inl ((fun _ => 0))))), (x0, .inr (11, ofL 17 Fx0)), (x32, .inr (9, ofL 6 Fx32)), (x31, .inr (1, ofL 10 Fx31)), (x3, .inr (7, ofL 5 Fx3)), (m0, .inr (12, ofL 88 (updV (updV Fm0 0 (.int 0)) 0 (.int 1))))] H := hP
      have hD : va_D A [(aout, .inl (G.2.2.2.2, 1, .inr (.inl ((fun _ => 0))))), (x0, .inr (11, ofL 17 Fx0)), (x32, .inr (9, ofL 6 Fx32)), (x31, .inr (1, ofL 10 Fx31)), (x3, .inr (7, ofL 5 Fx3)), (m0, .inr (12, ofL 88 (updV (updV Fm0 0 (.int 0)) 0 (.int 1))))] := hD
      refine lv_iload hx hb dL_law_1941 (lv_at hl 1 rfl) ?_
      refine lv_icmp_eq (x := 1) (y := 1) (tgt := 1948) hx hb dL_law_1943 (by decide) (fun c_56 => ?_) (fun c_56 => ?_)
      rotate_left
      · exact absurd (by decide) c_56
      refine lv_iload hx hb dL_law_1948 (lv_at hl 1 rfl) ?_
      refine lv_if_ne (x := 1) (tgt := 1965) hx hb dL_law_1950 (by decide) (fun c_57 => ?_) (fun c_57 => ?_)
      rotate_left
      · exact absurd c_57 (by decide)
      refine lv_goto (tgt := 2265) hx hb dL_law_1965 (by decide) ?_
      exact law_end hst C0 hA C hS (lv_sub hl [2, 6] rfl) (Nat.le_of_ble_eq_true rfl) (Nat.le_of_ble_eq_true rfl)
    ·
      have hP : va_P G.1 vwCl [(aout, .inl (G.2.2.2.2, 1, .inr (.inl ((fun _ => 0))))), (x0, .inr (11, ofL 17 Fx0)), (x32, .inr (9, ofL 6 Fx32)), (x31, .inr (1, ofL 10 Fx31)), (x3, .inr (7, ofL 5 Fx3)), (m0, .inr (12, ofL 88 (updV (updV Fm0 0 (.int 0)) 79 (.int 0))))] H := hP
      have hD : va_D A [(aout, .inl (G.2.2.2.2, 1, .inr (.inl ((fun _ => 0))))), (x0, .inr (11, ofL 17 Fx0)), (x32, .inr (9, ofL 6 Fx32)), (x31, .inr (1, ofL 10 Fx31)), (x3, .inr (7, ofL 5 Fx3)), (m0, .inr (12, ofL 88 (updV (updV Fm0 0 (.int 0)) 79 (.int 0))))] := hD
      refine lv_istore (lv' := [(6, .int (-1)), (5, .int 1), (0, .ref b), (1, .ref x0), (2, .ref m0), (3, .ref aout), (4, .int 0)]) hx hb dL_law_1935 hl (by decide) rfl (fun ls hl => ?_)
      refine lv_aload_n hx hb dL_law_1937 rfl (lv_at hl 4 rfl) ?_
      refine k_callVi (wr := [(aout, .inl (G.2.2.2.2, 1, .inr (.inl ((fun _ => 0))))), (x0, .inr (11, ofL 17 Fx0)), (x32, .inr (9, ofL 6 Fx32)), (x31, .inr (1, ofL 10 Fx31)), (x3, .inr (7, ofL 5 Fx3))]) (rest := []) li_L_118 C (c_X12_thrown l G H.size m0 (updV (updV Fm0 0 (.int 0)) 79 (.int 0)) 0 rfl) (kR rfl) hP hD hS [5] [0, 1, 2, 3, 4] rfl rfl rfl rfl (by decide) 0 12 rfl rfl rfl hl.1 rfl (Nat.le_of_ble_eq_true rfl) dL_law_1938 (fun rr59 uu60 H locs hw58 hP hD hS => ?_)
      obtain rfl : rr59 = 0 := hw58
      have hP : va_P G.1 vwCl [(aout, .inl (G.2.2.2.2, 1, .inr (.inl ((fun _ => 0))))), (x0, .inr (11, ofL 17 Fx0)), (x32, .inr (9, ofL 6 Fx32)), (x31, .inr (1, ofL 10 Fx31)), (x3, .inr (7, ofL 5 Fx3)), (m0, .inr (12, ofL 88 (updV (updV Fm0 0 (.int 0)) 79 (.int 0))))] H := hP
      have hD : va_D A [(aout, .inl (G.2.2.2.2, 1, .inr (.inl ((fun _ => 0))))), (x0, .inr (11, ofL 17 Fx0)), (x32, .inr (9, ofL 6 Fx32)), (x31, .inr (1, ofL 10 Fx31)), (x3, .inr (7, ofL 5 Fx3)), (m0, .inr (12, ofL 88 (updV (updV Fm0 0 (.int 0)) 79 (.int 0))))] := hD
      refine lv_iload hx hb dL_law_1941 (lv_at hl 1 rfl) ?_
      refine lv_icmp_eq (x := 0) (y := 1) (tgt := 1948) hx hb dL_law_1943 (by decide) (fun c_61 => ?_) (fun c_61 => ?_)
      · exact absurd c_61 (by decide)
      refine lv_iconst (v := 0) hx hb dL_law_1946 (by decide) ?_
      exfalso
      have e9_0 : (0 : Int32).toInt = 0 := by decide
      have e9_1 : (1 : Int32).toInt = 1 := by decide
      have e9_2 : (2 : Int32).toInt = 2 := by decide
      simp only [← Int32.toInt_inj] at c_45
      simp only [Int32.lt_iff_toInt_lt, Int32.le_iff_toInt_le] at c_5 c_6 c_43 c_44
      omega
    ·
      exact absurd (by decide) c_6
  ·
    have hP : va_P G.1 vwCl [(m0, .inr (12, ofL 88 Fm0)), (aout, .inl (G.2.2.2.2, 1, .inr (.inl (vp_updL (fun _ => 0) 0 0)))), (x0, .inr (11, ofL 17 Fx0)), (x31, .inr (1, ofL 10 Fx31)), (x3, .inr (7, ofL 5 Fx3)), (x32, .inr (9, ofL 6 (updV Fx32 5 (.int 0))))] H := hP
    have hD : va_D A [(m0, .inr (12, ofL 88 Fm0)), (aout, .inl (G.2.2.2.2, 1, .inr (.inl (vp_updL (fun _ => 0) 0 0)))), (x0, .inr (11, ofL 17 Fx0)), (x31, .inr (1, ofL 10 Fx31)), (x3, .inr (7, ofL 5 Fx3)), (x32, .inr (9, ofL 6 (updV Fx32 5 (.int 0))))] := hD
    refine lv_istore (lv' := [(5, .int 0), (0, .ref b), (1, .ref x0), (2, .ref m0), (3, .ref aout), (4, .int 0)]) hx hb dL_law_1923 hl (by decide) rfl (fun ls hl => ?_)
    refine lv_aload_n hx hb dL_law_1925 rfl (lv_at hl 3 rfl) ?_
    refine lv_aload_n hx hb dL_law_1926 rfl (lv_at hl 1 rfl) ?_
    refine lv_iload hx hb dL_law_1927 (lv_at hl 5 rfl) ?_
    refine lv_iconst (v := 1) hx hb dL_law_1929 (by decide) ?_
    refine lv_iadd hx hb dL_law_1930 ?_
    refine k_eqi (y := 1) (by decide) ?_
    refine va_sld hx hb hX hbl hbA hS (k_in (by decide)) dL_law_1931 ?_
    refine k_eqi (y := v1) hv1 ?_
    refine k_callVi (wr := [(aout, .inl (G.2.2.2.2, 1, .inr (.inl (vp_updL (fun _ => 0) 0 0)))), (x0, .inr (11, ofL 17 Fx0)), (x31, .inr (1, ofL 10 Fx31)), (x3, .inr (7, ofL 5 Fx3)), (x32, .inr (9, ofL 6 (updV Fx32 5 (.int 0))))]) (rest := []) li_L_222 C (c_X12_busiest l G H.size m0 v1 Fm0 e_m0_1) (kR rfl) hP hD hS [0] [1, 2, 3, 4, 5] rfl rfl rfl rfl (by decide) 0 12 rfl rfl rfl hl.1 rfl (Nat.le_of_ble_eq_true rfl) dL_law_1932 (fun rr63 uu64 H locs hw62 hP hD hS => ?_)
    rcases hw62 with ⟨rfl, rfl, c_65⟩ | ⟨rfl, rfl, c_66, c_67⟩ | ⟨rfl, rfl, c_68, c_69, c_70⟩ | ⟨rfl, rfl, c_71, c_72, rfl⟩
    ·
      have hP : va_P G.1 vwCl [(aout, .inl (G.2.2.2.2, 1, .inr (.inl (vp_updL (fun _ => 0) 0 0)))), (x0, .inr (11, ofL 17 Fx0)), (x31, .inr (1, ofL 10 Fx31)), (x3, .inr (7, ofL 5 Fx3)), (x32, .inr (9, ofL 6 (updV Fx32 5 (.int 0)))), (m0, .inr (12, ofL 88 (updV (updV Fm0 0 (.int 0)) 0 (.int 1))))] H := hP
      have hD : va_D A [(aout, .inl (G.2.2.2.2, 1, .inr (.inl (vp_updL (fun _ => 0) 0 0)))), (x0, .inr (11, ofL 17 Fx0)), (x31, .inr (1, ofL 10 Fx31)), (x3, .inr (7, ofL 5 Fx3)), (x32, .inr (9, ofL 6 (updV Fx32 5 (.int 0)))), (m0, .inr (12, ofL 88 (updV (updV Fm0 0 (.int 0)) 0 (.int 1))))] := hD
      refine lv_istore (lv' := [(6, .int 0), (5, .int 0), (0, .ref b), (1, .ref x0), (2, .ref m0), (3, .ref aout), (4, .int 0)]) hx hb dL_law_1935 hl (by decide) rfl (fun ls hl => ?_)
      refine lv_aload_n hx hb dL_law_1937 rfl (lv_at hl 4 rfl) ?_
      refine k_callVi (wr := [(aout, .inl (G.2.2.2.2, 1, .inr (.inl (vp_updL (fun _ => 0) 0 0)))), (x0, .inr (11, ofL 17 Fx0)), (x31, .inr (1, ofL 10 Fx31)), (x3, .inr (7, ofL 5 Fx3)), (x32, .inr (9, ofL 6 (updV Fx32 5 (.int 0))))]) (rest := []) li_L_118 C (c_X12_thrown l G H.size m0 (updV (updV Fm0 0 (.int 0)) 0 (.int 1)) 1 rfl) (kR rfl) hP hD hS [5] [0, 1, 2, 3, 4] rfl rfl rfl rfl (by decide) 0 12 rfl rfl rfl hl.1 rfl (Nat.le_of_ble_eq_true rfl) dL_law_1938 (fun rr74 uu75 H locs hw73 hP hD hS => ?_)
      obtain rfl : rr74 = 1 := hw73
      have hP : va_P G.1 vwCl [(aout, .inl (G.2.2.2.2, 1, .inr (.inl (vp_updL (fun _ => 0) 0 0)))), (x0, .inr (11, ofL 17 Fx0)), (x31, .inr (1, ofL 10 Fx31)), (x3, .inr (7, ofL 5 Fx3)), (x32, .inr (9, ofL 6 (updV Fx32 5 (.int 0)))), (m0, .inr (12, ofL 88 (updV (updV Fm0 0 (.int 0)) 0 (.int 1))))] H := hP
      have hD : va_D A [(aout, .inl (G.2.2.2.2, 1, .inr (.inl (vp_updL (fun _ => 0) 0 0)))), (x0, .inr (11, ofL 17 Fx0)), (x31, .inr (1, ofL 10 Fx31)), (x3, .inr (7, ofL 5 Fx3)), (x32, .inr (9, ofL 6 (updV Fx32 5 (.int 0)))), (m0, .inr (12, ofL 88 (updV (updV Fm0 0 (.int 0)) 0 (.int 1))))] := hD
      refine lv_iload hx hb dL_law_1941 (lv_at hl 1 rfl) ?_
      refine lv_icmp_eq (x := 1) (y := 0) (tgt := 1948) hx hb dL_law_1943 (by decide) (fun c_76 => ?_) (fun c_76 => ?_)
      · exact absurd c_76 (by decide)
      refine lv_iconst (v := 0) hx hb dL_law_1946 (by decide) ?_
      exfalso
      have e9_0 : (0 : Int32).toInt = 0 := by decide
      have e9_1 : (1 : Int32).toInt = 1 := by decide
      have e9_2 : (2 : Int32).toInt = 2 := by decide
      simp only [← Int32.toInt_inj] at c_9
      simp only [Int32.lt_iff_toInt_lt, Int32.le_iff_toInt_le] at c_7 c_8 c_65
      omega
    ·
      have hP : va_P G.1 vwCl [(aout, .inl (G.2.2.2.2, 1, .inr (.inl (vp_updL (fun _ => 0) 0 0)))), (x0, .inr (11, ofL 17 Fx0)), (x31, .inr (1, ofL 10 Fx31)), (x3, .inr (7, ofL 5 Fx3)), (x32, .inr (9, ofL 6 (updV Fx32 5 (.int 0)))), (m0, .inr (12, ofL 88 (updV (updV Fm0 0 (.int 0)) 0 (.int 1))))] H := hP
      have hD : va_D A [(aout, .inl (G.2.2.2.2, 1, .inr (.inl (vp_updL (fun _ => 0) 0 0)))), (x0, .inr (11, ofL 17 Fx0)), (x31, .inr (1, ofL 10 Fx31)), (x3, .inr (7, ofL 5 Fx3)), (x32, .inr (9, ofL 6 (updV Fx32 5 (.int 0)))), (m0, .inr (12, ofL 88 (updV (updV Fm0 0 (.int 0)) 0 (.int 1))))] := hD
      refine lv_istore (lv' := [(6, .int 0), (5, .int 0), (0, .ref b), (1, .ref x0), (2, .ref m0), (3, .ref aout), (4, .int 0)]) hx hb dL_law_1935 hl (by decide) rfl (fun ls hl => ?_)
      refine lv_aload_n hx hb dL_law_1937 rfl (lv_at hl 4 rfl) ?_
      refine k_callVi (wr := [(aout, .inl (G.2.2.2.2, 1, .inr (.inl (vp_updL (fun _ => 0) 0 0)))), (x0, .inr (11, ofL 17 Fx0)), (x31, .inr (1, ofL 10 Fx31)), (x3, .inr (7, ofL 5 Fx3)), (x32, .inr (9, ofL 6 (updV Fx32 5 (.int 0))))]) (rest := []) li_L_118 C (c_X12_thrown l G H.size m0 (updV (updV Fm0 0 (.int 0)) 0 (.int 1)) 1 rfl) (kR rfl) hP hD hS [5] [0, 1, 2, 3, 4] rfl rfl rfl rfl (by decide) 0 12 rfl rfl rfl hl.1 rfl (Nat.le_of_ble_eq_true rfl) dL_law_1938 (fun rr78 uu79 H locs hw77 hP hD hS => ?_)
      obtain rfl : rr78 = 1 := hw77
      have hP : va_P G.1 vwCl [(aout, .inl (G.2.2.2.2, 1, .inr (.inl (vp_updL (fun _ => 0) 0 0)))), (x0, .inr (11, ofL 17 Fx0)), (x31, .inr (1, ofL 10 Fx31)), (x3, .inr (7, ofL 5 Fx3)), (x32, .inr (9, ofL 6 (updV Fx32 5 (.int 0)))), (m0, .inr (12, ofL 88 (updV (updV Fm0 0 (.int 0)) 0 (.int 1))))] H := hP
      have hD : va_D A [(aout, .inl (G.2.2.2.2, 1, .inr (.inl (vp_updL (fun _ => 0) 0 0)))), (x0, .inr (11, ofL 17 Fx0)), (x31, .inr (1, ofL 10 Fx31)), (x3, .inr (7, ofL 5 Fx3)), (x32, .inr (9, ofL 6 (updV Fx32 5 (.int 0)))), (m0, .inr (12, ofL 88 (updV (updV Fm0 0 (.int 0)) 0 (.int 1))))] := hD
      refine lv_iload hx hb dL_law_1941 (lv_at hl 1 rfl) ?_
      refine lv_icmp_eq (x := 1) (y := 0) (tgt := 1948) hx hb dL_law_1943 (by decide) (fun c_80 => ?_) (fun c_80 => ?_)
      · exact absurd c_80 (by decide)
      refine lv_iconst (v := 0) hx hb dL_law_1946 (by decide) ?_
      exfalso
      have e9_0 : (0 : Int32).toInt = 0 := by decide
      have e9_1 : (1 : Int32).toInt = 1 := by decide
      have e9_2 : (2 : Int32).toInt = 2 := by decide
      simp only [← Int32.toInt_inj] at c_9
      simp only [Int32.lt_iff_toInt_lt, Int32.le_iff_toInt_le] at c_7 c_8 c_66 c_67
      omega
    ·
      have hP : va_P G.1 vwCl [(aout, .inl (G.2.2.2.2, 1, .inr (.inl (vp_updL (fun _ => 0) 0 0)))), (x0, .inr (11, ofL 17 Fx0)), (x31, .inr (1, ofL 10 Fx31)), (x3, .inr (7, ofL 5 Fx3)), (x32, .inr (9, ofL 6 (updV Fx32 5 (.int 0)))), (m0, .inr (12, ofL 88 (updV (updV Fm0 0 (.int 0)) 79 (.int 0))))] H := hP
      have hD : va_D A [(aout, .inl (G.2.2.2.2, 1, .inr (.inl (vp_updL (fun _ => 0) 0 0)))), (x0, .inr (11, ofL 17 Fx0)), (x31, .inr (1, ofL 10 Fx31)), (x3, .inr (7, ofL 5 Fx3)), (x32, .inr (9, ofL 6 (updV Fx32 5 (.int 0)))), (m0, .inr (12, ofL 88 (updV (updV Fm0 0 (.int 0)) 79 (.int 0))))] := hD
      refine lv_istore (lv' := [(6, .int (-1)), (5, .int 0), (0, .ref b), (1, .ref x0), (2, .ref m0), (3, .ref aout), (4, .int 0)]) hx hb dL_law_1935 hl (by decide) rfl (fun ls hl => ?_)
      refine lv_aload_n hx hb dL_law_1937 rfl (lv_at hl 4 rfl) ?_
      refine k_callVi (wr := [(aout, .inl (G.2.2.2.2, 1, .inr (.inl (vp_updL (fun _ => 0) 0 0)))), (x0, .inr (11, ofL 17 Fx0)), (x31, .inr (1, ofL 10 Fx31)), (x3, .inr (7, ofL 5 Fx3)), (x32, .inr (9, ofL 6 (updV Fx32 5 (.int 0))))]) (rest := []) li_L_118 C (c_X12_thrown l G H.size m0 (updV (updV Fm0 0 (.int 0)) 79 (.int 0)) 0 rfl) (kR rfl) hP hD hS [5] [0, 1, 2, 3, 4] rfl rfl rfl rfl (by decide) 0 12 rfl rfl rfl hl.1 rfl (Nat.le_of_ble_eq_true rfl) dL_law_1938 (fun rr82 uu83 H locs hw81 hP hD hS => ?_)
      obtain rfl : rr82 = 0 := hw81
      have hP : va_P G.1 vwCl [(aout, .inl (G.2.2.2.2, 1, .inr (.inl (vp_updL (fun _ => 0) 0 0)))), (x0, .inr (11, ofL 17 Fx0)), (x31, .inr (1, ofL 10 Fx31)), (x3, .inr (7, ofL 5 Fx3)), (x32, .inr (9, ofL 6 (updV Fx32 5 (.int 0)))), (m0, .inr (12, ofL 88 (updV (updV Fm0 0 (.int 0)) 79 (.int 0))))] H := hP
      have hD : va_D A [(aout, .inl (G.2.2.2.2, 1, .inr (.inl (vp_updL (fun _ => 0) 0 0)))), (x0, .inr (11, ofL 17 Fx0)), (x31, .inr (1, ofL 10 Fx31)), (x3, .inr (7, ofL 5 Fx3)), (x32, .inr (9, ofL 6 (updV Fx32 5 (.int 0)))), (m0, .inr (12, ofL 88 (updV (updV Fm0 0 (.int 0)) 79 (.int 0))))] := hD
      refine lv_iload hx hb dL_law_1941 (lv_at hl 1 rfl) ?_
      refine lv_icmp_eq (x := 0) (y := 0) (tgt := 1948) hx hb dL_law_1943 (by decide) (fun c_84 => ?_) (fun c_84 => ?_)
      rotate_left
      · exact absurd (by decide) c_84
      refine lv_iload hx hb dL_law_1948 (lv_at hl 1 rfl) ?_
      refine lv_if_ne (x := 0) (tgt := 1965) hx hb dL_law_1950 (by decide) (fun c_85 => ?_) (fun c_85 => ?_)
      · exact absurd (by decide) c_85
      refine lv_aload_n hx hb dL_law_1953 rfl (lv_at hl 5 rfl) ?_
      refine lv_iconst (v := 0) hx hb dL_law_1954 (by decide) ?_
      refine k_lald C hP 0 rfl (k_in (by decide)) dL_law_1955 ?_
      refine k_eql (y := 0) rfl ?_
      refine lv_iload hx hb dL_law_1956 (lv_at hl 0 rfl) ?_
      refine lv_i2l (v := -1) hx hb dL_law_1958 (by decide) ?_
      refine W.lcmp hx hb dL_law_1959 ?_
      refine k_eqi (y := 1) (by decide) ?_
      refine lv_if_eq (x := 1) (tgt := 1965) hx hb dL_law_1960 (by decide) (fun c_86 => ?_) (fun c_86 => ?_)
      · exact absurd c_86 (by decide)
      refine lv_iconst (v := 0) hx hb dL_law_1963 (by decide) ?_
      exfalso
      have e9_0 : (0 : Int32).toInt = 0 := by decide
      have e9_1 : (1 : Int32).toInt = 1 := by decide
      have e9_2 : (2 : Int32).toInt = 2 := by decide
      simp only [← Int32.toInt_inj] at c_9 c_70
      simp only [Int32.lt_iff_toInt_lt, Int32.le_iff_toInt_le] at c_7 c_8 c_68 c_69
      omega
    ·
      have hP : va_P G.1 vwCl [(aout, .inl (G.2.2.2.2, 1, .inr (.inl (vp_updL (fun _ => 0) 0 0)))), (x0, .inr (11, ofL 17 Fx0)), (x31, .inr (1, ofL 10 Fx31)), (x3, .inr (7, ofL 5 Fx3)), (x32, .inr (9, ofL 6 (updV Fx32 5 (.int 0)))), (m0, .inr (12, ofL 88 (updV (updV Fm0 0 (.int 0)) 79 (.int 0))))] H := hP
      have hD : va_D A [(aout, .inl (G.2.2.2.2, 1, .inr (.inl (vp_updL (fun _ => 0) 0 0)))), (x0, .inr (11, ofL 17 Fx0)), (x31, .inr (1, ofL 10 Fx31)), (x3, .inr (7, ofL 5 Fx3)), (x32, .inr (9, ofL 6 (updV Fx32 5 (.int 0)))), (m0, .inr (12, ofL 88 (updV (updV Fm0 0 (.int 0)) 79 (.int 0))))] := hD
      refine lv_istore (lv' := [(6, .int 0), (5, .int 0), (0, .ref b), (1, .ref x0), (2, .ref m0), (3, .ref aout), (4, .int 0)]) hx hb dL_law_1935 hl (by decide) rfl (fun ls hl => ?_)
      refine lv_aload_n hx hb dL_law_1937 rfl (lv_at hl 4 rfl) ?_
      refine k_callVi (wr := [(aout, .inl (G.2.2.2.2, 1, .inr (.inl (vp_updL (fun _ => 0) 0 0)))), (x0, .inr (11, ofL 17 Fx0)), (x31, .inr (1, ofL 10 Fx31)), (x3, .inr (7, ofL 5 Fx3)), (x32, .inr (9, ofL 6 (updV Fx32 5 (.int 0))))]) (rest := []) li_L_118 C (c_X12_thrown l G H.size m0 (updV (updV Fm0 0 (.int 0)) 79 (.int 0)) 0 rfl) (kR rfl) hP hD hS [5] [0, 1, 2, 3, 4] rfl rfl rfl rfl (by decide) 0 12 rfl rfl rfl hl.1 rfl (Nat.le_of_ble_eq_true rfl) dL_law_1938 (fun rr88 uu89 H locs hw87 hP hD hS => ?_)
      obtain rfl : rr88 = 0 := hw87
      have hP : va_P G.1 vwCl [(aout, .inl (G.2.2.2.2, 1, .inr (.inl (vp_updL (fun _ => 0) 0 0)))), (x0, .inr (11, ofL 17 Fx0)), (x31, .inr (1, ofL 10 Fx31)), (x3, .inr (7, ofL 5 Fx3)), (x32, .inr (9, ofL 6 (updV Fx32 5 (.int 0)))), (m0, .inr (12, ofL 88 (updV (updV Fm0 0 (.int 0)) 79 (.int 0))))] H := hP
      have hD : va_D A [(aout, .inl (G.2.2.2.2, 1, .inr (.inl (vp_updL (fun _ => 0) 0 0)))), (x0, .inr (11, ofL 17 Fx0)), (x31, .inr (1, ofL 10 Fx31)), (x3, .inr (7, ofL 5 Fx3)), (x32, .inr (9, ofL 6 (updV Fx32 5 (.int 0)))), (m0, .inr (12, ofL 88 (updV (updV Fm0 0 (.int 0)) 79 (.int 0))))] := hD
      refine lv_iload hx hb dL_law_1941 (lv_at hl 1 rfl) ?_
      refine lv_icmp_eq (x := 0) (y := 0) (tgt := 1948) hx hb dL_law_1943 (by decide) (fun c_90 => ?_) (fun c_90 => ?_)
      rotate_left
      · exact absurd (by decide) c_90
      refine lv_iload hx hb dL_law_1948 (lv_at hl 1 rfl) ?_
      refine lv_if_ne (x := 0) (tgt := 1965) hx hb dL_law_1950 (by decide) (fun c_91 => ?_) (fun c_91 => ?_)
      · exact absurd (by decide) c_91
      refine lv_aload_n hx hb dL_law_1953 rfl (lv_at hl 5 rfl) ?_
      refine lv_iconst (v := 0) hx hb dL_law_1954 (by decide) ?_
      refine k_lald C hP 0 rfl (k_in (by decide)) dL_law_1955 ?_
      refine k_eql (y := 0) rfl ?_
      refine lv_iload hx hb dL_law_1956 (lv_at hl 0 rfl) ?_
      refine lv_i2l (v := 0) hx hb dL_law_1958 (by decide) ?_
      refine W.lcmp hx hb dL_law_1959 ?_
      refine k_eqi (y := 0) (by decide) ?_
      refine lv_if_eq (x := 0) (tgt := 1965) hx hb dL_law_1960 (by decide) (fun c_92 => ?_) (fun c_92 => ?_)
      rotate_left
      · exact absurd (by decide) c_92
      refine lv_goto (tgt := 2265) hx hb dL_law_1965 (by decide) ?_
      exact law_end hst C0 hA C hS (lv_sub hl [2, 6] rfl) (Nat.le_of_ble_eq_true rfl) (Nat.le_of_ble_eq_true rfl)
  ·
    have hP : va_P G.1 vwCl [(m0, .inr (12, ofL 88 Fm0)), (aout, .inl (G.2.2.2.2, 1, .inr (.inl (vp_updL (fun _ => 0) 0 (-1))))), (x0, .inr (11, ofL 17 Fx0)), (x31, .inr (1, ofL 10 Fx31)), (x3, .inr (7, ofL 5 Fx3)), (x32, .inr (9, ofL 6 (updV Fx32 5 (.int 0))))] H := hP
    have hD : va_D A [(m0, .inr (12, ofL 88 Fm0)), (aout, .inl (G.2.2.2.2, 1, .inr (.inl (vp_updL (fun _ => 0) 0 (-1))))), (x0, .inr (11, ofL 17 Fx0)), (x31, .inr (1, ofL 10 Fx31)), (x3, .inr (7, ofL 5 Fx3)), (x32, .inr (9, ofL 6 (updV Fx32 5 (.int 0))))] := hD
    refine lv_istore (lv' := [(5, .int 0), (0, .ref b), (1, .ref x0), (2, .ref m0), (3, .ref aout), (4, .int 0)]) hx hb dL_law_1923 hl (by decide) rfl (fun ls hl => ?_)
    refine lv_aload_n hx hb dL_law_1925 rfl (lv_at hl 3 rfl) ?_
    refine lv_aload_n hx hb dL_law_1926 rfl (lv_at hl 1 rfl) ?_
    refine lv_iload hx hb dL_law_1927 (lv_at hl 5 rfl) ?_
    refine lv_iconst (v := 1) hx hb dL_law_1929 (by decide) ?_
    refine lv_iadd hx hb dL_law_1930 ?_
    refine k_eqi (y := 1) (by decide) ?_
    refine va_sld hx hb hX hbl hbA hS (k_in (by decide)) dL_law_1931 ?_
    refine k_eqi (y := 1) hv1 ?_
    refine k_callVi (wr := [(aout, .inl (G.2.2.2.2, 1, .inr (.inl (vp_updL (fun _ => 0) 0 (-1))))), (x0, .inr (11, ofL 17 Fx0)), (x31, .inr (1, ofL 10 Fx31)), (x3, .inr (7, ofL 5 Fx3)), (x32, .inr (9, ofL 6 (updV Fx32 5 (.int 0))))]) (rest := []) li_L_222 C (c_X12_busiest l G H.size m0 1 Fm0 e_m0_1) (kR rfl) hP hD hS [0] [1, 2, 3, 4, 5] rfl rfl rfl rfl (by decide) 0 12 rfl rfl rfl hl.1 rfl (Nat.le_of_ble_eq_true rfl) dL_law_1932 (fun rr94 uu95 H locs hw93 hP hD hS => ?_)
    rcases hw93 with ⟨rfl, rfl, c_96⟩ | ⟨rfl, rfl, c_97, c_98⟩ | ⟨rfl, rfl, c_99, c_100, c_101⟩ | ⟨rfl, rfl, c_102, c_103, c_104⟩
    ·
      exact absurd c_96 (by decide)
    ·
      exact absurd c_98 (by decide)
    ·
      have hP : va_P G.1 vwCl [(aout, .inl (G.2.2.2.2, 1, .inr (.inl (vp_updL (fun _ => 0) 0 (-1))))), (x0, .inr (11, ofL 17 Fx0)), (x31, .inr (1, ofL 10 Fx31)), (x3, .inr (7, ofL 5 Fx3)), (x32, .inr (9, ofL 6 (updV Fx32 5 (.int 0)))), (m0, .inr (12, ofL 88 (updV (updV Fm0 0 (.int 0)) 79 (.int 0))))] H := hP
      have hD : va_D A [(aout, .inl (G.2.2.2.2, 1, .inr (.inl (vp_updL (fun _ => 0) 0 (-1))))), (x0, .inr (11, ofL 17 Fx0)), (x31, .inr (1, ofL 10 Fx31)), (x3, .inr (7, ofL 5 Fx3)), (x32, .inr (9, ofL 6 (updV Fx32 5 (.int 0)))), (m0, .inr (12, ofL 88 (updV (updV Fm0 0 (.int 0)) 79 (.int 0))))] := hD
      refine lv_istore (lv' := [(6, .int (-1)), (5, .int 0), (0, .ref b), (1, .ref x0), (2, .ref m0), (3, .ref aout), (4, .int 0)]) hx hb dL_law_1935 hl (by decide) rfl (fun ls hl => ?_)
      refine lv_aload_n hx hb dL_law_1937 rfl (lv_at hl 4 rfl) ?_
      refine k_callVi (wr := [(aout, .inl (G.2.2.2.2, 1, .inr (.inl (vp_updL (fun _ => 0) 0 (-1))))), (x0, .inr (11, ofL 17 Fx0)), (x31, .inr (1, ofL 10 Fx31)), (x3, .inr (7, ofL 5 Fx3)), (x32, .inr (9, ofL 6 (updV Fx32 5 (.int 0))))]) (rest := []) li_L_118 C (c_X12_thrown l G H.size m0 (updV (updV Fm0 0 (.int 0)) 79 (.int 0)) 0 rfl) (kR rfl) hP hD hS [5] [0, 1, 2, 3, 4] rfl rfl rfl rfl (by decide) 0 12 rfl rfl rfl hl.1 rfl (Nat.le_of_ble_eq_true rfl) dL_law_1938 (fun rr106 uu107 H locs hw105 hP hD hS => ?_)
      obtain rfl : rr106 = 0 := hw105
      have hP : va_P G.1 vwCl [(aout, .inl (G.2.2.2.2, 1, .inr (.inl (vp_updL (fun _ => 0) 0 (-1))))), (x0, .inr (11, ofL 17 Fx0)), (x31, .inr (1, ofL 10 Fx31)), (x3, .inr (7, ofL 5 Fx3)), (x32, .inr (9, ofL 6 (updV Fx32 5 (.int 0)))), (m0, .inr (12, ofL 88 (updV (updV Fm0 0 (.int 0)) 79 (.int 0))))] H := hP
      have hD : va_D A [(aout, .inl (G.2.2.2.2, 1, .inr (.inl (vp_updL (fun _ => 0) 0 (-1))))), (x0, .inr (11, ofL 17 Fx0)), (x31, .inr (1, ofL 10 Fx31)), (x3, .inr (7, ofL 5 Fx3)), (x32, .inr (9, ofL 6 (updV Fx32 5 (.int 0)))), (m0, .inr (12, ofL 88 (updV (updV Fm0 0 (.int 0)) 79 (.int 0))))] := hD
      refine lv_iload hx hb dL_law_1941 (lv_at hl 1 rfl) ?_
      refine lv_icmp_eq (x := 0) (y := 0) (tgt := 1948) hx hb dL_law_1943 (by decide) (fun c_108 => ?_) (fun c_108 => ?_)
      rotate_left
      · exact absurd (by decide) c_108
      refine lv_iload hx hb dL_law_1948 (lv_at hl 1 rfl) ?_
      refine lv_if_ne (x := 0) (tgt := 1965) hx hb dL_law_1950 (by decide) (fun c_109 => ?_) (fun c_109 => ?_)
      · exact absurd (by decide) c_109
      refine lv_aload_n hx hb dL_law_1953 rfl (lv_at hl 5 rfl) ?_
      refine lv_iconst (v := 0) hx hb dL_law_1954 (by decide) ?_
      refine k_lald C hP 0 rfl (k_in (by decide)) dL_law_1955 ?_
      refine k_eql (y := -1) rfl ?_
      refine lv_iload hx hb dL_law_1956 (lv_at hl 0 rfl) ?_
      refine lv_i2l (v := -1) hx hb dL_law_1958 (by decide) ?_
      refine W.lcmp hx hb dL_law_1959 ?_
      refine k_eqi (y := 0) (by decide) ?_
      refine lv_if_eq (x := 0) (tgt := 1965) hx hb dL_law_1960 (by decide) (fun c_110 => ?_) (fun c_110 => ?_)
      rotate_left
      · exact absurd (by decide) c_110
      refine lv_goto (tgt := 2265) hx hb dL_law_1965 (by decide) ?_
      exact law_end hst C0 hA C hS (lv_sub hl [2, 6] rfl) (Nat.le_of_ble_eq_true rfl) (Nat.le_of_ble_eq_true rfl)
    ·
      exact absurd c_104 (by decide)
