theorem dL_law_694 : decode cL_law 694 = .ok (.aload_n 1, 1) := by decide +kernel
theorem dL_law_695 : decode cL_law 695 = .ok (.aload_n 0, 1) := by decide +kernel
theorem dL_law_696 : decode cL_law 696 = .ok (.iload 4, 2) := by decide +kernel
theorem dL_law_698 : decode cL_law 698 = .ok (.iconst 1, 1) := by decide +kernel
theorem dL_law_699 : decode cL_law 699 = .ok (.iadd, 1) := by decide +kernel
theorem dL_law_700 : decode cL_law 700 = .ok (.iaload, 1) := by decide +kernel
theorem tw_549 : (Jvm.Cond.methodLink "MarshBellsLaw" (143 : Nat) ({ cls := "MarshBells", name := "obey", desc := "(I)Z" } : Jvm.MethodName)) ∈ lw_tbl := tk_3 (List.mem_of_getElem? (i := 69) rfl)
theorem tw_552 : (Jvm.Cond.code ({ cls := "MarshBells", name := "obey", desc := "(I)Z" } : Jvm.MethodName) prog_1_method_10_code (2 : Nat) (Option.some Jvm.ClassFile.FieldType.boolean)) ∈ lw_tbl := tk_3 (List.mem_of_getElem? (i := 72) rfl)
theorem tw_550 : (Jvm.Cond.instanceMethod ({ cls := "MarshBells", name := "obey", desc := "(I)Z" } : Jvm.MethodName)) ∈ lw_tbl := tk_3 (List.mem_of_getElem? (i := 70) rfl)
theorem tw_551 : (Jvm.Cond.selects "MarshBells" ({ cls := "MarshBells", name := "obey", desc := "(I)Z" } : Jvm.MethodName) ({ cls := "MarshBells", name := "obey", desc := "(I)Z" } : Jvm.MethodName)) ∈ lw_tbl := tk_3 (List.mem_of_getElem? (i := 71) rfl)
theorem li_L_143 : kLV RL 143 RX11 yX11_obey cX11_obey 2 (some .boolean) 1 := ⟨tw_549, tw_550, tw_551, tw_552, tw_1, by decide +kernel⟩
theorem dL_law_701 : decode cL_law 701 = .ok (.invokevirtual 143, 3) := by decide +kernel
theorem dL_law_704 : decode cL_law 704 = .ok (.aload_n 2, 1) := by decide +kernel
theorem dL_law_705 : decode cL_law 705 = .ok (.aload_n 0, 1) := by decide +kernel
theorem dL_law_706 : decode cL_law 706 = .ok (.iload 4, 2) := by decide +kernel
theorem dL_law_708 : decode cL_law 708 = .ok (.iconst 1, 1) := by decide +kernel
theorem dL_law_709 : decode cL_law 709 = .ok (.iadd, 1) := by decide +kernel
theorem dL_law_710 : decode cL_law 710 = .ok (.iaload, 1) := by decide +kernel
theorem tw_1907 : (Jvm.Cond.methodLink "MarshBellsLaw" (147 : Nat) ({ cls := "MarshBellsModel", name := "obey", desc := "(I)Z" } : Jvm.MethodName)) ∈ lw_tbl := tk_8 (List.mem_of_getElem? (i := 227) rfl)
theorem tw_1910 : (Jvm.Cond.code ({ cls := "MarshBellsModel", name := "obey", desc := "(I)Z" } : Jvm.MethodName) prog_14_method_60_code (2 : Nat) (Option.some Jvm.ClassFile.FieldType.boolean)) ∈ lw_tbl := tk_8 (List.mem_of_getElem? (i := 230) rfl)
theorem tw_1908 : (Jvm.Cond.instanceMethod ({ cls := "MarshBellsModel", name := "obey", desc := "(I)Z" } : Jvm.MethodName)) ∈ lw_tbl := tk_8 (List.mem_of_getElem? (i := 228) rfl)
theorem tw_1909 : (Jvm.Cond.selects "MarshBellsModel" ({ cls := "MarshBellsModel", name := "obey", desc := "(I)Z" } : Jvm.MethodName) ({ cls := "MarshBellsModel", name := "obey", desc := "(I)Z" } : Jvm.MethodName)) ∈ lw_tbl := tk_8 (List.mem_of_getElem? (i := 229) rfl)
theorem li_L_147 : kLV RL 147 RX12 yX12_obey cX12_obey 2 (some .boolean) 1 := ⟨tw_1907, tw_1908, tw_1909, tw_1910, tw_13, by decide +kernel⟩
theorem dL_law_711 : decode cL_law 711 = .ok (.invokevirtual 147, 3) := by decide +kernel
theorem dL_law_714 : decode cL_law 714 = .ok (.if_icmp .eq 1551, 3) := by decide +kernel
theorem dL_law_717 : decode cL_law 717 = .ok (.iconst 0, 1) := by decide +kernel
theorem dL_law_719 : decode cL_law 719 = .ok (.aload_n 1, 1) := by decide +kernel
theorem tw_568 : (Jvm.Cond.methodLink "MarshBellsLaw" (148 : Nat) ({ cls := "MarshBells", name := "undo", desc := "()I" } : Jvm.MethodName)) ∈ lw_tbl := tk_3 (List.mem_of_getElem? (i := 88) rfl)
theorem tw_571 : (Jvm.Cond.code ({ cls := "MarshBells", name := "undo", desc := "()I" } : Jvm.MethodName) prog_1_method_11_code (1 : Nat) (Option.some Jvm.ClassFile.FieldType.int)) ∈ lw_tbl := tk_3 (List.mem_of_getElem? (i := 91) rfl)
theorem tw_569 : (Jvm.Cond.instanceMethod ({ cls := "MarshBells", name := "undo", desc := "()I" } : Jvm.MethodName)) ∈ lw_tbl := tk_3 (List.mem_of_getElem? (i := 89) rfl)
theorem tw_570 : (Jvm.Cond.selects "MarshBells" ({ cls := "MarshBells", name := "undo", desc := "()I" } : Jvm.MethodName) ({ cls := "MarshBells", name := "undo", desc := "()I" } : Jvm.MethodName)) ∈ lw_tbl := tk_3 (List.mem_of_getElem? (i := 90) rfl)
theorem li_L_148 : kLV RL 148 RX11 yX11_undo cX11_undo 1 (some .int) 0 := ⟨tw_568, tw_569, tw_570, tw_571, tw_1, by decide +kernel⟩
theorem dL_law_720 : decode cL_law 720 = .ok (.invokevirtual 148, 3) := by decide +kernel
theorem dL_law_723 : decode cL_law 723 = .ok (.aload_n 2, 1) := by decide +kernel
theorem tw_1911 : (Jvm.Cond.methodLink "MarshBellsLaw" (151 : Nat) ({ cls := "MarshBellsModel", name := "undo", desc := "()I" } : Jvm.MethodName)) ∈ lw_tbl := tk_8 (List.mem_of_getElem? (i := 231) rfl)
theorem tw_1914 : (Jvm.Cond.code ({ cls := "MarshBellsModel", name := "undo", desc := "()I" } : Jvm.MethodName) prog_14_method_61_code (1 : Nat) (Option.some Jvm.ClassFile.FieldType.int)) ∈ lw_tbl := tk_8 (List.mem_of_getElem? (i := 234) rfl)
theorem tw_1912 : (Jvm.Cond.instanceMethod ({ cls := "MarshBellsModel", name := "undo", desc := "()I" } : Jvm.MethodName)) ∈ lw_tbl := tk_8 (List.mem_of_getElem? (i := 232) rfl)
theorem tw_1913 : (Jvm.Cond.selects "MarshBellsModel" ({ cls := "MarshBellsModel", name := "undo", desc := "()I" } : Jvm.MethodName) ({ cls := "MarshBellsModel", name := "undo", desc := "()I" } : Jvm.MethodName)) ∈ lw_tbl := tk_8 (List.mem_of_getElem? (i := 233) rfl)
theorem li_L_151 : kLV RL 151 RX12 yX12_undo cX12_undo 1 (some .int) 0 := ⟨tw_1911, tw_1912, tw_1913, tw_1914, tw_13, by decide +kernel⟩
theorem dL_law_724 : decode cL_law 724 = .ok (.invokevirtual 151, 3) := by decide +kernel
theorem dL_law_727 : decode cL_law 727 = .ok (.if_icmp .eq 1538, 3) := by decide +kernel
theorem dL_law_732 : decode cL_law 732 = .ok (.aload_n 1, 1) := by decide +kernel
theorem dL_law_733 : decode cL_law 733 = .ok (.aload_n 0, 1) := by decide +kernel
theorem dL_law_734 : decode cL_law 734 = .ok (.iload 4, 2) := by decide +kernel
theorem dL_law_736 : decode cL_law 736 = .ok (.iconst 1, 1) := by decide +kernel
theorem dL_law_737 : decode cL_law 737 = .ok (.iadd, 1) := by decide +kernel
theorem dL_law_738 : decode cL_law 738 = .ok (.iaload, 1) := by decide +kernel
theorem dL_law_739 : decode cL_law 739 = .ok (.aload_n 0, 1) := by decide +kernel
theorem dL_law_740 : decode cL_law 740 = .ok (.iload 4, 2) := by decide +kernel
theorem dL_law_742 : decode cL_law 742 = .ok (.iconst 2, 1) := by decide +kernel
theorem dL_law_743 : decode cL_law 743 = .ok (.iadd, 1) := by decide +kernel
theorem dL_law_744 : decode cL_law 744 = .ok (.iaload, 1) := by decide +kernel
theorem dL_law_745 : decode cL_law 745 = .ok (.aload_n 0, 1) := by decide +kernel
theorem dL_law_746 : decode cL_law 746 = .ok (.iload 4, 2) := by decide +kernel
theorem dL_law_748 : decode cL_law 748 = .ok (.iconst 3, 1) := by decide +kernel
theorem dL_law_749 : decode cL_law 749 = .ok (.iadd, 1) := by decide +kernel
theorem dL_law_750 : decode cL_law 750 = .ok (.iaload, 1) := by decide +kernel
theorem dL_law_751 : decode cL_law 751 = .ok (.aload_n 3, 1) := by decide +kernel
theorem tw_1073 : (Jvm.Cond.methodLink "MarshBellsLaw" (152 : Nat) ({ cls := "MarshBellsLaw", name := "far", desc := "(LMarshBells;III[J)I" } : Jvm.MethodName)) ∈ lw_tbl := tk_5 (List.mem_of_getElem? (i := 113) rfl)
theorem tw_1075 : (Jvm.Cond.codeWith ({ cls := "MarshBellsLaw", name := "far", desc := "(LMarshBells;III[J)I" } : Jvm.MethodName) method_9_code (6 : Nat) (Option.some Jvm.ClassFile.FieldType.int) [((0 : Nat), (12 : Nat), (15 : Nat), (18 : Nat)), ((0 : Nat), (12 : Nat), (19 : Nat), (13 : Nat))]) ∈ lw_tbl := tk_5 (List.mem_of_getElem? (i := 115) rfl)
theorem tw_1074 : (Jvm.Cond.static ({ cls := "MarshBellsLaw", name := "far", desc := "(LMarshBells;III[J)I" } : Jvm.MethodName)) ∈ lw_tbl := tk_5 (List.mem_of_getElem? (i := 114) rfl)
theorem li_L_152 : kLH RL 152 yL_far cL_far 6 (some .int) [(0, 12, 15, 18), (0, 12, 19, 13)] 5 := ⟨tw_1073, tw_1074, tw_1075, tw_0, by decide +kernel⟩
theorem dL_law_752 : decode cL_law 752 = .ok (.invokestatic 152, 3) := by decide +kernel
theorem dL_law_755 : decode cL_law 755 = .ok (.istore 5, 2) := by decide +kernel
theorem dL_law_757 : decode cL_law 757 = .ok (.aload_n 2, 1) := by decide +kernel
theorem dL_law_758 : decode cL_law 758 = .ok (.aload_n 0, 1) := by decide +kernel
theorem dL_law_759 : decode cL_law 759 = .ok (.iload 4, 2) := by decide +kernel
theorem dL_law_761 : decode cL_law 761 = .ok (.iconst 1, 1) := by decide +kernel
theorem dL_law_762 : decode cL_law 762 = .ok (.iadd, 1) := by decide +kernel
theorem dL_law_763 : decode cL_law 763 = .ok (.iaload, 1) := by decide +kernel
theorem dL_law_764 : decode cL_law 764 = .ok (.aload_n 0, 1) := by decide +kernel
theorem dL_law_765 : decode cL_law 765 = .ok (.iload 4, 2) := by decide +kernel
theorem dL_law_767 : decode cL_law 767 = .ok (.iconst 2, 1) := by decide +kernel
theorem dL_law_768 : decode cL_law 768 = .ok (.iadd, 1) := by decide +kernel
theorem dL_law_769 : decode cL_law 769 = .ok (.iaload, 1) := by decide +kernel
theorem dL_law_770 : decode cL_law 770 = .ok (.aload_n 0, 1) := by decide +kernel
theorem dL_law_771 : decode cL_law 771 = .ok (.iload 4, 2) := by decide +kernel
theorem dL_law_773 : decode cL_law 773 = .ok (.iconst 3, 1) := by decide +kernel
theorem dL_law_774 : decode cL_law 774 = .ok (.iadd, 1) := by decide +kernel
theorem dL_law_775 : decode cL_law 775 = .ok (.iaload, 1) := by decide +kernel
theorem tw_1915 : (Jvm.Cond.methodLink "MarshBellsLaw" (154 : Nat) ({ cls := "MarshBellsModel", name := "far", desc := "(III)I" } : Jvm.MethodName)) ∈ lw_tbl := tk_8 (List.mem_of_getElem? (i := 235) rfl)
theorem tw_1918 : (Jvm.Cond.code ({ cls := "MarshBellsModel", name := "far", desc := "(III)I" } : Jvm.MethodName) prog_14_method_64_code (5 : Nat) (Option.some Jvm.ClassFile.FieldType.int)) ∈ lw_tbl := tk_8 (List.mem_of_getElem? (i := 238) rfl)
theorem tw_1916 : (Jvm.Cond.instanceMethod ({ cls := "MarshBellsModel", name := "far", desc := "(III)I" } : Jvm.MethodName)) ∈ lw_tbl := tk_8 (List.mem_of_getElem? (i := 236) rfl)
theorem tw_1917 : (Jvm.Cond.selects "MarshBellsModel" ({ cls := "MarshBellsModel", name := "far", desc := "(III)I" } : Jvm.MethodName) ({ cls := "MarshBellsModel", name := "far", desc := "(III)I" } : Jvm.MethodName)) ∈ lw_tbl := tk_8 (List.mem_of_getElem? (i := 237) rfl)
theorem li_L_154 : kLV RL 154 RX12 yX12_far cX12_far 5 (some .int) 3 := ⟨tw_1915, tw_1916, tw_1917, tw_1918, tw_13, by decide +kernel⟩
theorem dL_law_776 : decode cL_law 776 = .ok (.invokevirtual 154, 3) := by decide +kernel
theorem dL_law_779 : decode cL_law 779 = .ok (.istore 6, 2) := by decide +kernel
theorem dL_law_781 : decode cL_law 781 = .ok (.aload_n 2, 1) := by decide +kernel
theorem dL_law_782 : decode cL_law 782 = .ok (.invokevirtual 118, 3) := by decide +kernel
theorem dL_law_785 : decode cL_law 785 = .ok (.iload 5, 2) := by decide +kernel
theorem dL_law_787 : decode cL_law 787 = .ok (.if_icmp .eq 5, 3) := by decide +kernel
theorem dL_law_792 : decode cL_law 792 = .ok (.iload 5, 2) := by decide +kernel
theorem dL_law_794 : decode cL_law 794 = .ok (.ifCond .ne 15, 3) := by decide +kernel
theorem dL_law_809 : decode cL_law 809 = .ok (.goto 1456, 3) := by decide +kernel
theorem dL_law_812 : decode cL_law 812 = .ok (.aload_n 1, 1) := by decide +kernel
theorem dL_law_813 : decode cL_law 813 = .ok (.aload_n 0, 1) := by decide +kernel
theorem dL_law_814 : decode cL_law 814 = .ok (.iload 4, 2) := by decide +kernel
theorem dL_law_816 : decode cL_law 816 = .ok (.iconst 1, 1) := by decide +kernel
theorem dL_law_817 : decode cL_law 817 = .ok (.iadd, 1) := by decide +kernel
theorem dL_law_818 : decode cL_law 818 = .ok (.iaload, 1) := by decide +kernel
theorem dL_law_819 : decode cL_law 819 = .ok (.aload_n 0, 1) := by decide +kernel
theorem dL_law_820 : decode cL_law 820 = .ok (.iload 4, 2) := by decide +kernel
theorem dL_law_822 : decode cL_law 822 = .ok (.iconst 2, 1) := by decide +kernel
theorem dL_law_823 : decode cL_law 823 = .ok (.iadd, 1) := by decide +kernel
theorem dL_law_824 : decode cL_law 824 = .ok (.iaload, 1) := by decide +kernel
theorem dL_law_825 : decode cL_law 825 = .ok (.aload_n 3, 1) := by decide +kernel
theorem tw_1101 : (Jvm.Cond.methodLink "MarshBellsLaw" (155 : Nat) ({ cls := "MarshBellsLaw", name := "reaches", desc := "(LMarshBells;II[J)I" } : Jvm.MethodName)) ∈ lw_tbl := tk_5 (List.mem_of_getElem? (i := 141) rfl)
theorem tw_1103 : (Jvm.Cond.codeWith ({ cls := "MarshBellsLaw", name := "reaches", desc := "(LMarshBells;II[J)I" } : Jvm.MethodName) method_10_code (5 : Nat) (Option.some Jvm.ClassFile.FieldType.int) [((0 : Nat), (10 : Nat), (13 : Nat), (18 : Nat)), ((0 : Nat), (10 : Nat), (17 : Nat), (13 : Nat))]) ∈ lw_tbl := tk_5 (List.mem_of_getElem? (i := 143) rfl)
theorem tw_1102 : (Jvm.Cond.static ({ cls := "MarshBellsLaw", name := "reaches", desc := "(LMarshBells;II[J)I" } : Jvm.MethodName)) ∈ lw_tbl := tk_5 (List.mem_of_getElem? (i := 142) rfl)
theorem li_L_155 : kLH RL 155 yL_reaches cL_reaches 5 (some .int) [(0, 10, 13, 18), (0, 10, 17, 13)] 4 := ⟨tw_1101, tw_1102, tw_1103, tw_0, by decide +kernel⟩
theorem dL_law_826 : decode cL_law 826 = .ok (.invokestatic 155, 3) := by decide +kernel
theorem dL_law_829 : decode cL_law 829 = .ok (.istore 5, 2) := by decide +kernel
theorem dL_law_831 : decode cL_law 831 = .ok (.aload_n 2, 1) := by decide +kernel
theorem dL_law_832 : decode cL_law 832 = .ok (.aload_n 0, 1) := by decide +kernel
theorem dL_law_833 : decode cL_law 833 = .ok (.iload 4, 2) := by decide +kernel
theorem dL_law_835 : decode cL_law 835 = .ok (.iconst 1, 1) := by decide +kernel
theorem dL_law_836 : decode cL_law 836 = .ok (.iadd, 1) := by decide +kernel
theorem dL_law_837 : decode cL_law 837 = .ok (.iaload, 1) := by decide +kernel
theorem dL_law_838 : decode cL_law 838 = .ok (.aload_n 0, 1) := by decide +kernel
theorem dL_law_839 : decode cL_law 839 = .ok (.iload 4, 2) := by decide +kernel
theorem dL_law_841 : decode cL_law 841 = .ok (.iconst 2, 1) := by decide +kernel
theorem dL_law_842 : decode cL_law 842 = .ok (.iadd, 1) := by decide +kernel
theorem dL_law_843 : decode cL_law 843 = .ok (.iaload, 1) := by decide +kernel
theorem tw_1931 : (Jvm.Cond.methodLink "MarshBellsLaw" (157 : Nat) ({ cls := "MarshBellsModel", name := "reaches", desc := "(II)I" } : Jvm.MethodName)) ∈ lw_tbl := tk_9 (List.mem_of_getElem? (i := 11) rfl)
theorem tw_1934 : (Jvm.Cond.code ({ cls := "MarshBellsModel", name := "reaches", desc := "(II)I" } : Jvm.MethodName) prog_14_method_65_code (4 : Nat) (Option.some Jvm.ClassFile.FieldType.int)) ∈ lw_tbl := tk_9 (List.mem_of_getElem? (i := 14) rfl)
theorem tw_1932 : (Jvm.Cond.instanceMethod ({ cls := "MarshBellsModel", name := "reaches", desc := "(II)I" } : Jvm.MethodName)) ∈ lw_tbl := tk_9 (List.mem_of_getElem? (i := 12) rfl)
theorem tw_1933 : (Jvm.Cond.selects "MarshBellsModel" ({ cls := "MarshBellsModel", name := "reaches", desc := "(II)I" } : Jvm.MethodName) ({ cls := "MarshBellsModel", name := "reaches", desc := "(II)I" } : Jvm.MethodName)) ∈ lw_tbl := tk_9 (List.mem_of_getElem? (i := 13) rfl)
theorem li_L_157 : kLV RL 157 RX12 yX12_reaches cX12_reaches 4 (some .int) 2 := ⟨tw_1931, tw_1932, tw_1933, tw_1934, tw_13, by decide +kernel⟩
theorem dL_law_844 : decode cL_law 844 = .ok (.invokevirtual 157, 3) := by decide +kernel
theorem dL_law_847 : decode cL_law 847 = .ok (.istore 6, 2) := by decide +kernel
theorem dL_law_849 : decode cL_law 849 = .ok (.aload_n 2, 1) := by decide +kernel
theorem dL_law_850 : decode cL_law 850 = .ok (.invokevirtual 118, 3) := by decide +kernel
theorem dL_law_853 : decode cL_law 853 = .ok (.iload 5, 2) := by decide +kernel
theorem dL_law_855 : decode cL_law 855 = .ok (.if_icmp .eq 5, 3) := by decide +kernel
theorem dL_law_860 : decode cL_law 860 = .ok (.iload 5, 2) := by decide +kernel
theorem dL_law_862 : decode cL_law 862 = .ok (.ifCond .ne 15, 3) := by decide +kernel
theorem dL_law_877 : decode cL_law 877 = .ok (.goto 1388, 3) := by decide +kernel
theorem dL_law_880 : decode cL_law 880 = .ok (.aload_n 1, 1) := by decide +kernel
theorem dL_law_881 : decode cL_law 881 = .ok (.aload_n 0, 1) := by decide +kernel
theorem dL_law_882 : decode cL_law 882 = .ok (.iload 4, 2) := by decide +kernel
theorem dL_law_884 : decode cL_law 884 = .ok (.iconst 1, 1) := by decide +kernel
theorem dL_law_885 : decode cL_law 885 = .ok (.iadd, 1) := by decide +kernel
theorem dL_law_886 : decode cL_law 886 = .ok (.iaload, 1) := by decide +kernel
theorem dL_law_887 : decode cL_law 887 = .ok (.aload_n 3, 1) := by decide +kernel
theorem tw_1114 : (Jvm.Cond.methodLink "MarshBellsLaw" (158 : Nat) ({ cls := "MarshBellsLaw", name := "slack", desc := "(LMarshBells;I[J)I" } : Jvm.MethodName)) ∈ lw_tbl := tk_5 (List.mem_of_getElem? (i := 154) rfl)
theorem tw_1116 : (Jvm.Cond.codeWith ({ cls := "MarshBellsLaw", name := "slack", desc := "(LMarshBells;I[J)I" } : Jvm.MethodName) method_11_code (4 : Nat) (Option.some Jvm.ClassFile.FieldType.int) [((0 : Nat), (9 : Nat), (12 : Nat), (18 : Nat))]) ∈ lw_tbl := tk_5 (List.mem_of_getElem? (i := 156) rfl)
theorem tw_1115 : (Jvm.Cond.static ({ cls := "MarshBellsLaw", name := "slack", desc := "(LMarshBells;I[J)I" } : Jvm.MethodName)) ∈ lw_tbl := tk_5 (List.mem_of_getElem? (i := 155) rfl)
theorem li_L_158 : kLH RL 158 yL_slack cL_slack 4 (some .int) [(0, 9, 12, 18)] 3 := ⟨tw_1114, tw_1115, tw_1116, tw_0, by decide +kernel⟩
theorem dL_law_888 : decode cL_law 888 = .ok (.invokestatic 158, 3) := by decide +kernel
theorem dL_law_891 : decode cL_law 891 = .ok (.istore 5, 2) := by decide +kernel
theorem dL_law_893 : decode cL_law 893 = .ok (.aload_n 2, 1) := by decide +kernel
theorem dL_law_894 : decode cL_law 894 = .ok (.aload_n 0, 1) := by decide +kernel
theorem dL_law_895 : decode cL_law 895 = .ok (.iload 4, 2) := by decide +kernel
theorem dL_law_897 : decode cL_law 897 = .ok (.iconst 1, 1) := by decide +kernel
theorem dL_law_898 : decode cL_law 898 = .ok (.iadd, 1) := by decide +kernel
theorem dL_law_899 : decode cL_law 899 = .ok (.iaload, 1) := by decide +kernel
theorem tw_1935 : (Jvm.Cond.methodLink "MarshBellsLaw" (160 : Nat) ({ cls := "MarshBellsModel", name := "slack", desc := "(I)I" } : Jvm.MethodName)) ∈ lw_tbl := tk_9 (List.mem_of_getElem? (i := 15) rfl)
theorem tw_1938 : (Jvm.Cond.code ({ cls := "MarshBellsModel", name := "slack", desc := "(I)I" } : Jvm.MethodName) prog_14_method_66_code (3 : Nat) (Option.some Jvm.ClassFile.FieldType.int)) ∈ lw_tbl := tk_9 (List.mem_of_getElem? (i := 18) rfl)
theorem tw_1936 : (Jvm.Cond.instanceMethod ({ cls := "MarshBellsModel", name := "slack", desc := "(I)I" } : Jvm.MethodName)) ∈ lw_tbl := tk_9 (List.mem_of_getElem? (i := 16) rfl)
theorem tw_1937 : (Jvm.Cond.selects "MarshBellsModel" ({ cls := "MarshBellsModel", name := "slack", desc := "(I)I" } : Jvm.MethodName) ({ cls := "MarshBellsModel", name := "slack", desc := "(I)I" } : Jvm.MethodName)) ∈ lw_tbl := tk_9 (List.mem_of_getElem? (i := 17) rfl)
theorem li_L_160 : kLV RL 160 RX12 yX12_slack cX12_slack 3 (some .int) 1 := ⟨tw_1935, tw_1936, tw_1937, tw_1938, tw_13, by decide +kernel⟩
theorem dL_law_900 : decode cL_law 900 = .ok (.invokevirtual 160, 3) := by decide +kernel
theorem dL_law_903 : decode cL_law 903 = .ok (.istore 6, 2) := by decide +kernel
theorem dL_law_905 : decode cL_law 905 = .ok (.aload_n 2, 1) := by decide +kernel
theorem dL_law_906 : decode cL_law 906 = .ok (.invokevirtual 118, 3) := by decide +kernel
theorem dL_law_909 : decode cL_law 909 = .ok (.iload 5, 2) := by decide +kernel
theorem dL_law_911 : decode cL_law 911 = .ok (.if_icmp .eq 5, 3) := by decide +kernel
theorem dL_law_916 : decode cL_law 916 = .ok (.iload 5, 2) := by decide +kernel
theorem dL_law_918 : decode cL_law 918 = .ok (.ifCond .ne 15, 3) := by decide +kernel
theorem dL_law_933 : decode cL_law 933 = .ok (.goto 1332, 3) := by decide +kernel
theorem dL_law_936 : decode cL_law 936 = .ok (.aload_n 1, 1) := by decide +kernel
theorem dL_law_937 : decode cL_law 937 = .ok (.aload_n 0, 1) := by decide +kernel
theorem dL_law_938 : decode cL_law 938 = .ok (.iload 4, 2) := by decide +kernel
theorem dL_law_940 : decode cL_law 940 = .ok (.iconst 1, 1) := by decide +kernel
theorem dL_law_941 : decode cL_law 941 = .ok (.iadd, 1) := by decide +kernel
theorem dL_law_942 : decode cL_law 942 = .ok (.iaload, 1) := by decide +kernel
theorem dL_law_943 : decode cL_law 943 = .ok (.aload_n 0, 1) := by decide +kernel
theorem dL_law_944 : decode cL_law 944 = .ok (.iload 4, 2) := by decide +kernel
theorem dL_law_946 : decode cL_law 946 = .ok (.iconst 2, 1) := by decide +kernel
theorem dL_law_947 : decode cL_law 947 = .ok (.iadd, 1) := by decide +kernel
theorem dL_law_948 : decode cL_law 948 = .ok (.iaload, 1) := by decide +kernel
theorem dL_law_949 : decode cL_law 949 = .ok (.aload_n 0, 1) := by decide +kernel
theorem dL_law_950 : decode cL_law 950 = .ok (.iload 4, 2) := by decide +kernel
theorem dL_law_952 : decode cL_law 952 = .ok (.iconst 3, 1) := by decide +kernel
theorem dL_law_953 : decode cL_law 953 = .ok (.iadd, 1) := by decide +kernel
theorem dL_law_954 : decode cL_law 954 = .ok (.iaload, 1) := by decide +kernel
theorem dL_law_955 : decode cL_law 955 = .ok (.aload_n 3, 1) := by decide +kernel
theorem tw_1126 : (Jvm.Cond.methodLink "MarshBellsLaw" (161 : Nat) ({ cls := "MarshBellsLaw", name := "gaps", desc := "(LMarshBells;III[J)I" } : Jvm.MethodName)) ∈ lw_tbl := tk_5 (List.mem_of_getElem? (i := 166) rfl)
theorem tw_1128 : (Jvm.Cond.codeWith ({ cls := "MarshBellsLaw", name := "gaps", desc := "(LMarshBells;III[J)I" } : Jvm.MethodName) method_12_code (6 : Nat) (Option.some Jvm.ClassFile.FieldType.int) [((0 : Nat), (12 : Nat), (15 : Nat), (18 : Nat)), ((0 : Nat), (12 : Nat), (19 : Nat), (13 : Nat))]) ∈ lw_tbl := tk_5 (List.mem_of_getElem? (i := 168) rfl)
theorem tw_1127 : (Jvm.Cond.static ({ cls := "MarshBellsLaw", name := "gaps", desc := "(LMarshBells;III[J)I" } : Jvm.MethodName)) ∈ lw_tbl := tk_5 (List.mem_of_getElem? (i := 167) rfl)
theorem li_L_161 : kLH RL 161 yL_gaps cL_gaps 6 (some .int) [(0, 12, 15, 18), (0, 12, 19, 13)] 5 := ⟨tw_1126, tw_1127, tw_1128, tw_0, by decide +kernel⟩
theorem dL_law_956 : decode cL_law 956 = .ok (.invokestatic 161, 3) := by decide +kernel
theorem dL_law_959 : decode cL_law 959 = .ok (.istore 5, 2) := by decide +kernel
theorem dL_law_961 : decode cL_law 961 = .ok (.aload_n 2, 1) := by decide +kernel
theorem dL_law_962 : decode cL_law 962 = .ok (.aload_n 0, 1) := by decide +kernel
theorem dL_law_963 : decode cL_law 963 = .ok (.iload 4, 2) := by decide +kernel
theorem dL_law_965 : decode cL_law 965 = .ok (.iconst 1, 1) := by decide +kernel
theorem dL_law_966 : decode cL_law 966 = .ok (.iadd, 1) := by decide +kernel
theorem dL_law_967 : decode cL_law 967 = .ok (.iaload, 1) := by decide +kernel
theorem dL_law_968 : decode cL_law 968 = .ok (.aload_n 0, 1) := by decide +kernel
theorem dL_law_969 : decode cL_law 969 = .ok (.iload 4, 2) := by decide +kernel
theorem dL_law_971 : decode cL_law 971 = .ok (.iconst 2, 1) := by decide +kernel
theorem dL_law_972 : decode cL_law 972 = .ok (.iadd, 1) := by decide +kernel
theorem dL_law_973 : decode cL_law 973 = .ok (.iaload, 1) := by decide +kernel
theorem dL_law_974 : decode cL_law 974 = .ok (.aload_n 0, 1) := by decide +kernel
theorem dL_law_975 : decode cL_law 975 = .ok (.iload 4, 2) := by decide +kernel
theorem dL_law_977 : decode cL_law 977 = .ok (.iconst 3, 1) := by decide +kernel
theorem dL_law_978 : decode cL_law 978 = .ok (.iadd, 1) := by decide +kernel
theorem dL_law_979 : decode cL_law 979 = .ok (.iaload, 1) := by decide +kernel
theorem tw_1939 : (Jvm.Cond.methodLink "MarshBellsLaw" (163 : Nat) ({ cls := "MarshBellsModel", name := "gaps", desc := "(III)I" } : Jvm.MethodName)) ∈ lw_tbl := tk_9 (List.mem_of_getElem? (i := 19) rfl)
theorem tw_1942 : (Jvm.Cond.code ({ cls := "MarshBellsModel", name := "gaps", desc := "(III)I" } : Jvm.MethodName) prog_14_method_68_code (11 : Nat) (Option.some Jvm.ClassFile.FieldType.int)) ∈ lw_tbl := tk_9 (List.mem_of_getElem? (i := 22) rfl)
theorem tw_1940 : (Jvm.Cond.instanceMethod ({ cls := "MarshBellsModel", name := "gaps", desc := "(III)I" } : Jvm.MethodName)) ∈ lw_tbl := tk_9 (List.mem_of_getElem? (i := 20) rfl)
theorem tw_1941 : (Jvm.Cond.selects "MarshBellsModel" ({ cls := "MarshBellsModel", name := "gaps", desc := "(III)I" } : Jvm.MethodName) ({ cls := "MarshBellsModel", name := "gaps", desc := "(III)I" } : Jvm.MethodName)) ∈ lw_tbl := tk_9 (List.mem_of_getElem? (i := 21) rfl)
theorem li_L_163 : kLV RL 163 RX12 yX12_gaps cX12_gaps 11 (some .int) 3 := ⟨tw_1939, tw_1940, tw_1941, tw_1942, tw_13, by decide +kernel⟩
theorem dL_law_980 : decode cL_law 980 = .ok (.invokevirtual 163, 3) := by decide +kernel
theorem dL_law_983 : decode cL_law 983 = .ok (.istore 6, 2) := by decide +kernel
theorem dL_law_985 : decode cL_law 985 = .ok (.aload_n 2, 1) := by decide +kernel
theorem dL_law_986 : decode cL_law 986 = .ok (.invokevirtual 118, 3) := by decide +kernel
theorem dL_law_989 : decode cL_law 989 = .ok (.iload 5, 2) := by decide +kernel
theorem dL_law_991 : decode cL_law 991 = .ok (.if_icmp .eq 5, 3) := by decide +kernel
theorem dL_law_996 : decode cL_law 996 = .ok (.iload 5, 2) := by decide +kernel
theorem dL_law_998 : decode cL_law 998 = .ok (.ifCond .ne 15, 3) := by decide +kernel
theorem dL_law_1013 : decode cL_law 1013 = .ok (.goto 1252, 3) := by decide +kernel
theorem dL_law_1016 : decode cL_law 1016 = .ok (.aload_n 1, 1) := by decide +kernel
theorem dL_law_1017 : decode cL_law 1017 = .ok (.aload_n 0, 1) := by decide +kernel
theorem dL_law_1018 : decode cL_law 1018 = .ok (.iload 4, 2) := by decide +kernel
theorem dL_law_1020 : decode cL_law 1020 = .ok (.iconst 1, 1) := by decide +kernel
theorem dL_law_1021 : decode cL_law 1021 = .ok (.iadd, 1) := by decide +kernel
theorem dL_law_1022 : decode cL_law 1022 = .ok (.iaload, 1) := by decide +kernel
theorem dL_law_1023 : decode cL_law 1023 = .ok (.aload_n 3, 1) := by decide +kernel
theorem tw_1166 : (Jvm.Cond.methodLink "MarshBellsLaw" (164 : Nat) ({ cls := "MarshBellsLaw", name := "gap", desc := "(LMarshBells;I[J)I" } : Jvm.MethodName)) ∈ lw_tbl := tk_5 (List.mem_of_getElem? (i := 206) rfl)
theorem tw_1168 : (Jvm.Cond.codeWith ({ cls := "MarshBellsLaw", name := "gap", desc := "(LMarshBells;I[J)I" } : Jvm.MethodName) method_13_code (4 : Nat) (Option.some Jvm.ClassFile.FieldType.int) [((0 : Nat), (9 : Nat), (12 : Nat), (18 : Nat))]) ∈ lw_tbl := tk_5 (List.mem_of_getElem? (i := 208) rfl)
theorem tw_1167 : (Jvm.Cond.static ({ cls := "MarshBellsLaw", name := "gap", desc := "(LMarshBells;I[J)I" } : Jvm.MethodName)) ∈ lw_tbl := tk_5 (List.mem_of_getElem? (i := 207) rfl)
theorem li_L_164 : kLH RL 164 yL_gap cL_gap 4 (some .int) [(0, 9, 12, 18)] 3 := ⟨tw_1166, tw_1167, tw_1168, tw_0, by decide +kernel⟩
theorem dL_law_1024 : decode cL_law 1024 = .ok (.invokestatic 164, 3) := by decide +kernel
theorem dL_law_1027 : decode cL_law 1027 = .ok (.istore 5, 2) := by decide +kernel
theorem dL_law_1029 : decode cL_law 1029 = .ok (.aload_n 2, 1) := by decide +kernel
theorem dL_law_1030 : decode cL_law 1030 = .ok (.aload_n 0, 1) := by decide +kernel
theorem dL_law_1031 : decode cL_law 1031 = .ok (.iload 4, 2) := by decide +kernel
theorem dL_law_1033 : decode cL_law 1033 = .ok (.iconst 1, 1) := by decide +kernel
theorem dL_law_1034 : decode cL_law 1034 = .ok (.iadd, 1) := by decide +kernel
theorem dL_law_1035 : decode cL_law 1035 = .ok (.iaload, 1) := by decide +kernel
theorem tw_1946 : (Jvm.Cond.methodLink "MarshBellsLaw" (166 : Nat) ({ cls := "MarshBellsModel", name := "gap", desc := "(I)I" } : Jvm.MethodName)) ∈ lw_tbl := tk_9 (List.mem_of_getElem? (i := 26) rfl)
theorem tw_1949 : (Jvm.Cond.code ({ cls := "MarshBellsModel", name := "gap", desc := "(I)I" } : Jvm.MethodName) prog_14_method_69_code (2 : Nat) (Option.some Jvm.ClassFile.FieldType.int)) ∈ lw_tbl := tk_9 (List.mem_of_getElem? (i := 29) rfl)
theorem tw_1947 : (Jvm.Cond.instanceMethod ({ cls := "MarshBellsModel", name := "gap", desc := "(I)I" } : Jvm.MethodName)) ∈ lw_tbl := tk_9 (List.mem_of_getElem? (i := 27) rfl)
theorem tw_1948 : (Jvm.Cond.selects "MarshBellsModel" ({ cls := "MarshBellsModel", name := "gap", desc := "(I)I" } : Jvm.MethodName) ({ cls := "MarshBellsModel", name := "gap", desc := "(I)I" } : Jvm.MethodName)) ∈ lw_tbl := tk_9 (List.mem_of_getElem? (i := 28) rfl)
theorem li_L_166 : kLV RL 166 RX12 yX12_gap cX12_gap 2 (some .int) 1 := ⟨tw_1946, tw_1947, tw_1948, tw_1949, tw_13, by decide +kernel⟩
theorem dL_law_1036 : decode cL_law 1036 = .ok (.invokevirtual 166, 3) := by decide +kernel
theorem dL_law_1039 : decode cL_law 1039 = .ok (.istore 6, 2) := by decide +kernel
theorem dL_law_1041 : decode cL_law 1041 = .ok (.aload_n 2, 1) := by decide +kernel
theorem dL_law_1042 : decode cL_law 1042 = .ok (.invokevirtual 118, 3) := by decide +kernel
theorem dL_law_1045 : decode cL_law 1045 = .ok (.iload 5, 2) := by decide +kernel
theorem dL_law_1047 : decode cL_law 1047 = .ok (.if_icmp .eq 5, 3) := by decide +kernel
theorem dL_law_1052 : decode cL_law 1052 = .ok (.iload 5, 2) := by decide +kernel
theorem dL_law_1054 : decode cL_law 1054 = .ok (.ifCond .ne 15, 3) := by decide +kernel
theorem dL_law_1069 : decode cL_law 1069 = .ok (.goto 1196, 3) := by decide +kernel
theorem dL_law_1072 : decode cL_law 1072 = .ok (.aload_n 1, 1) := by decide +kernel
theorem dL_law_1073 : decode cL_law 1073 = .ok (.aload_n 0, 1) := by decide +kernel
theorem dL_law_1074 : decode cL_law 1074 = .ok (.iload 4, 2) := by decide +kernel
theorem dL_law_1076 : decode cL_law 1076 = .ok (.iconst 1, 1) := by decide +kernel
theorem dL_law_1077 : decode cL_law 1077 = .ok (.iadd, 1) := by decide +kernel
theorem dL_law_1078 : decode cL_law 1078 = .ok (.iaload, 1) := by decide +kernel
theorem dL_law_1079 : decode cL_law 1079 = .ok (.aload_n 0, 1) := by decide +kernel
theorem dL_law_1080 : decode cL_law 1080 = .ok (.iload 4, 2) := by decide +kernel
theorem dL_law_1082 : decode cL_law 1082 = .ok (.iconst 2, 1) := by decide +kernel
theorem dL_law_1083 : decode cL_law 1083 = .ok (.iadd, 1) := by decide +kernel
theorem dL_law_1084 : decode cL_law 1084 = .ok (.iaload, 1) := by decide +kernel
theorem dL_law_1085 : decode cL_law 1085 = .ok (.aload_n 0, 1) := by decide +kernel
theorem dL_law_1086 : decode cL_law 1086 = .ok (.iload 4, 2) := by decide +kernel
theorem dL_law_1088 : decode cL_law 1088 = .ok (.iconst 3, 1) := by decide +kernel
theorem dL_law_1089 : decode cL_law 1089 = .ok (.iadd, 1) := by decide +kernel
theorem dL_law_1090 : decode cL_law 1090 = .ok (.iaload, 1) := by decide +kernel
theorem dL_law_1091 : decode cL_law 1091 = .ok (.aload_n 3, 1) := by decide +kernel
theorem tw_1173 : (Jvm.Cond.methodLink "MarshBellsLaw" (167 : Nat) ({ cls := "MarshBellsLaw", name := "chance", desc := "(LMarshBells;III[J)I" } : Jvm.MethodName)) ∈ lw_tbl := tk_5 (List.mem_of_getElem? (i := 213) rfl)
theorem tw_1175 : (Jvm.Cond.codeWith ({ cls := "MarshBellsLaw", name := "chance", desc := "(LMarshBells;III[J)I" } : Jvm.MethodName) method_14_code (6 : Nat) (Option.some Jvm.ClassFile.FieldType.int) [((0 : Nat), (11 : Nat), (14 : Nat), (18 : Nat)), ((0 : Nat), (11 : Nat), (18 : Nat), (13 : Nat))]) ∈ lw_tbl := tk_5 (List.mem_of_getElem? (i := 215) rfl)
theorem tw_1174 : (Jvm.Cond.static ({ cls := "MarshBellsLaw", name := "chance", desc := "(LMarshBells;III[J)I" } : Jvm.MethodName)) ∈ lw_tbl := tk_5 (List.mem_of_getElem? (i := 214) rfl)
theorem li_L_167 : kLH RL 167 yL_chance cL_chance 6 (some .int) [(0, 11, 14, 18), (0, 11, 18, 13)] 5 := ⟨tw_1173, tw_1174, tw_1175, tw_0, by decide +kernel⟩
theorem dL_law_1092 : decode cL_law 1092 = .ok (.invokestatic 167, 3) := by decide +kernel
theorem dL_law_1095 : decode cL_law 1095 = .ok (.istore 5, 2) := by decide +kernel
theorem dL_law_1097 : decode cL_law 1097 = .ok (.aload_n 2, 1) := by decide +kernel
theorem dL_law_1098 : decode cL_law 1098 = .ok (.aload_n 0, 1) := by decide +kernel
theorem dL_law_1099 : decode cL_law 1099 = .ok (.iload 4, 2) := by decide +kernel
theorem dL_law_1101 : decode cL_law 1101 = .ok (.iconst 1, 1) := by decide +kernel
theorem dL_law_1102 : decode cL_law 1102 = .ok (.iadd, 1) := by decide +kernel
theorem dL_law_1103 : decode cL_law 1103 = .ok (.iaload, 1) := by decide +kernel
theorem dL_law_1104 : decode cL_law 1104 = .ok (.aload_n 0, 1) := by decide +kernel
theorem dL_law_1105 : decode cL_law 1105 = .ok (.iload 4, 2) := by decide +kernel
theorem dL_law_1107 : decode cL_law 1107 = .ok (.iconst 2, 1) := by decide +kernel
theorem dL_law_1108 : decode cL_law 1108 = .ok (.iadd, 1) := by decide +kernel
theorem dL_law_1109 : decode cL_law 1109 = .ok (.iaload, 1) := by decide +kernel
theorem dL_law_1110 : decode cL_law 1110 = .ok (.aload_n 0, 1) := by decide +kernel
theorem dL_law_1111 : decode cL_law 1111 = .ok (.iload 4, 2) := by decide +kernel
theorem dL_law_1113 : decode cL_law 1113 = .ok (.iconst 3, 1) := by decide +kernel
theorem dL_law_1114 : decode cL_law 1114 = .ok (.iadd, 1) := by decide +kernel
theorem dL_law_1115 : decode cL_law 1115 = .ok (.iaload, 1) := by decide +kernel
theorem tw_1950 : (Jvm.Cond.methodLink "MarshBellsLaw" (169 : Nat) ({ cls := "MarshBellsModel", name := "chance", desc := "(III)J" } : Jvm.MethodName)) ∈ lw_tbl := tk_9 (List.mem_of_getElem? (i := 30) rfl)
theorem tw_1953 : (Jvm.Cond.code ({ cls := "MarshBellsModel", name := "chance", desc := "(III)J" } : Jvm.MethodName) prog_14_method_74_code (4 : Nat) (Option.some Jvm.ClassFile.FieldType.long)) ∈ lw_tbl := tk_9 (List.mem_of_getElem? (i := 33) rfl)
theorem tw_1951 : (Jvm.Cond.instanceMethod ({ cls := "MarshBellsModel", name := "chance", desc := "(III)J" } : Jvm.MethodName)) ∈ lw_tbl := tk_9 (List.mem_of_getElem? (i := 31) rfl)
theorem tw_1952 : (Jvm.Cond.selects "MarshBellsModel" ({ cls := "MarshBellsModel", name := "chance", desc := "(III)J" } : Jvm.MethodName) ({ cls := "MarshBellsModel", name := "chance", desc := "(III)J" } : Jvm.MethodName)) ∈ lw_tbl := tk_9 (List.mem_of_getElem? (i := 32) rfl)
theorem li_L_169 : kLV RL 169 RX12 yX12_chance cX12_chance 4 (some .long) 3 := ⟨tw_1950, tw_1951, tw_1952, tw_1953, tw_13, by decide +kernel⟩
theorem dL_law_1116 : decode cL_law 1116 = .ok (.invokevirtual 169, 3) := by decide +kernel
theorem dL_law_1119 : decode cL_law 1119 = .ok (.lstore 6, 2) := by decide +kernel
theorem dL_law_1121 : decode cL_law 1121 = .ok (.aload_n 2, 1) := by decide +kernel
theorem dL_law_1122 : decode cL_law 1122 = .ok (.invokevirtual 118, 3) := by decide +kernel
theorem dL_law_1125 : decode cL_law 1125 = .ok (.iload 5, 2) := by decide +kernel
theorem dL_law_1127 : decode cL_law 1127 = .ok (.if_icmp .eq 5, 3) := by decide +kernel
theorem dL_law_1132 : decode cL_law 1132 = .ok (.iload 5, 2) := by decide +kernel
theorem dL_law_1134 : decode cL_law 1134 = .ok (.ifCond .ne 14, 3) := by decide +kernel
theorem dL_law_1148 : decode cL_law 1148 = .ok (.goto 1117, 3) := by decide +kernel
set_option maxHeartbeats 4000000 in
set_option maxRecDepth 100000 in
theorem law_8 {p : Program} {e : Env} {s : State} {m : MethodId} {below : List Frame} {meth : Method} {c : Code} {l : Launch} (hst : l.stackTraces = false) {b : Nat} {xs : Nat → Int32} {G : kG} {A : Nat → Prop} (C0 : lw_At p s m meth c b 6 xs) (hA : A = fun q : Nat => s.heap.size ≤ q) (C : kC G p s m c cL_law 8 RL A) {v1 : Int32} (hv1 : xs 1 = v1) {v2 : Int32} (hv2 : xs 2 = v2) {v3 : Int32} (hv3 : xs 3 = v3) {v4 : Int32} (hv4 : xs 4 = v4) {v5 : Int32} (hv5 : xs 5 = v5) {x0 : Nat} {Fx0 : Nat → Value} {x2 : Nat} {x3 : Nat} {x8 : Nat} {Fx3 : Nat → Value} {x4 : Nat} {Fx4 : Nat → Value} {Fx8 : Nat → Value} {x13 : Nat} {x14 : Nat} {x15 : Nat} {m0 : Nat} {Fm0 : Nat → Value} {m14 : Nat} {m36 : Nat} {aout : Nat} (e_x0_1 : Fx0 1 = .ref x2) (e_x0_3 : Fx0 3 = .ref x3) (e_x0_6 : Fx0 6 = .ref x8) (e_x3_1 : Fx3 1 = .ref x4) (e_x4_3 : Fx4 3 = .int 0) (e_x8_4 : Fx8 4 = .ref x13) (e_x8_5 : Fx8 5 = .ref x14) (e_x8_6 : Fx8 6 = .ref x15) (e_x8_9 : Fx8 9 = .int 0) (e_x8_11 : Fx8 11 = .int (-1)) (e_m0_2 : Fm0 2 = .int 0) (e_m0_21 : Fm0 21 = .ref m14) (e_m0_52 : Fm0 52 = .int (-1)) (e_m0_62 : Fm0 62 = .int 0) (e_m0_63 : Fm0 63 = .ref m36) {H : Heap} {locs : List Loc} {ls : Array Slot} (hP : va_P G.1 vwCl [(x0, .inr (11, ofL 17 Fx0)), (x2, .inl (G.2.1, 3, .inl (fun _ => 0))), (x3, .inr (7, ofL 5 Fx3)), (x4, .inr (8, ofL 5 Fx4)), (x8, .inr (3, ofL 12 Fx8)), (x13, .inl (G.2.1, 40, .inl (fun _ => 0))), (x14, .inl (G.2.1, 40, .inl (fun _ => 0))), (x15, .inl (G.2.1, 40, .inl (fun _ => 0))), (m0, .inr (12, ofL 88 Fm0)), (m14, .inl (G.2.1, 3, .inl (fun _ => 0))), (m36, .inl (G.2.1, 80, .inl (fun _ => 0)))] H) (hD : va_D A [(x0, .inr (11, ofL 17 Fx0)), (x2, .inl (G.2.1, 3, .inl (fun _ => 0))), (x3, .inr (7, ofL 5 Fx3)), (x4, .inr (8, ofL 5 Fx4)), (x8, .inr (3, ofL 12 Fx8)), (x13, .inl (G.2.1, 40, .inl (fun _ => 0))), (x14, .inl (G.2.1, 40, .inl (fun _ => 0))), (x15, .inl (G.2.1, 40, .inl (fun _ => 0))), (m0, .inr (12, ofL 88 Fm0)), (m14, .inl (G.2.1, 3, .inl (fun _ => 0))), (m36, .inl (G.2.1, 80, .inl (fun _ => 0)))]) (hS : va_S A s.heap H locs) (hl : lv_has ls 8 [(0, .ref b), (1, .ref x0), (2, .ref m0), (3, .ref aout), (4, .int 0)]) :
    W p l e room_1 s m #[Value.ref b] below meth c H locs 1000 20000 (lw_Z below #[Value.ref b] s) (F0 m 694 ls []) := by
  obtain ⟨hx, hb, hr, -, -, -, hX, hbl, hlocks, -⟩ := id C0
  have hbA : ¬ A b := by rw [hA]; exact Nat.not_le.mpr hbl
  refine lv_aload_n hx hb dL_law_694 rfl (lv_at hl 1 rfl) ?_
  refine lv_aload_n hx hb dL_law_695 rfl (lv_at hl 0 rfl) ?_
  refine lv_iload hx hb dL_law_696 (lv_at hl 4 rfl) ?_
  refine lv_iconst (v := 1) hx hb dL_law_698 (by decide) ?_
  refine lv_iadd hx hb dL_law_699 ?_
  refine k_eqi (y := 1) (by decide) ?_
  refine va_sld hx hb hX hbl hbA hS (k_in (by decide)) dL_law_700 ?_
  refine k_eqi (y := v1) hv1 ?_
  refine k_callVi (wr := [(m0, .inr (12, ofL 88 Fm0)), (m14, .inl (G.2.1, 3, .inl (fun _ => 0))), (m36, .inl (G.2.1, 80, .inl (fun _ => 0)))]) (rest := []) li_L_143 C (c_X11_obey l G H.size x0 v1 Fx0 x2 x3 x8 Fx3 x4 Fx4 Fx8 x13 x14 x15 (-1) (fun _ => 0) (fun _ => 0) (fun _ => 0) (fun _ => 0) e_x0_1 e_x0_3 e_x0_6 e_x3_1 e_x4_3 e_x8_9 e_x8_11 e_x8_4 e_x8_5 e_x8_6) (kR rfl) hP hD hS [0, 2, 3, 4, 1, 5, 6, 7] [8, 9, 10] rfl rfl rfl rfl (by decide) 0 11 rfl rfl rfl hl.1 rfl (Nat.le_of_ble_eq_true rfl) dL_law_701 (fun rr2 uu3 H locs hw1 hP hD hS => ?_)
  rcases hw1 with ⟨rfl, rfl, c_4⟩ | ⟨rfl, rfl, c_5, c_6⟩ | ⟨rfl, rfl, c_7, c_8⟩
  ·
    have hP : va_P G.1 vwCl [(m0, .inr (12, ofL 88 Fm0)), (m14, .inl (G.2.1, 3, .inl (fun _ => 0))), (m36, .inl (G.2.1, 80, .inl (fun _ => 0))), (x8, .inr (3, ofL 12 Fx8)), (x2, .inl (G.2.1, 3, .inl (upd (fun _ => 0) 1 (((fun _ => 0) 1) + 1)))), (x13, .inl (G.2.1, 40, .inl ((fun _ => 0)))), (x14, .inl (G.2.1, 40, .inl ((fun _ => 0)))), (x15, .inl (G.2.1, 40, .inl ((fun _ => 0)))), (x0, .inr (11, ofL 17 Fx0)), (x3, .inr (7, ofL 5 Fx3)), (x4, .inr (8, ofL 5 Fx4))] H := hP
    have hD : va_D A [(m0, .inr (12, ofL 88 Fm0)), (m14, .inl (G.2.1, 3, .inl (fun _ => 0))), (m36, .inl (G.2.1, 80, .inl (fun _ => 0))), (x8, .inr (3, ofL 12 Fx8)), (x2, .inl (G.2.1, 3, .inl (upd (fun _ => 0) 1 (((fun _ => 0) 1) + 1)))), (x13, .inl (G.2.1, 40, .inl ((fun _ => 0)))), (x14, .inl (G.2.1, 40, .inl ((fun _ => 0)))), (x15, .inl (G.2.1, 40, .inl ((fun _ => 0)))), (x0, .inr (11, ofL 17 Fx0)), (x3, .inr (7, ofL 5 Fx3)), (x4, .inr (8, ofL 5 Fx4))] := hD
    refine lv_aload_n hx hb dL_law_704 rfl (lv_at hl 2 rfl) ?_
    refine lv_aload_n hx hb dL_law_705 rfl (lv_at hl 0 rfl) ?_
    refine lv_iload hx hb dL_law_706 (lv_at hl 4 rfl) ?_
    refine lv_iconst (v := 1) hx hb dL_law_708 (by decide) ?_
    refine lv_iadd hx hb dL_law_709 ?_
    refine k_eqi (y := 1) (by decide) ?_
    refine va_sld hx hb hX hbl hbA hS (k_in (by decide)) dL_law_710 ?_
    refine k_eqi (y := v1) hv1 ?_
    refine k_callVi (wr := [(x8, .inr (3, ofL 12 Fx8)), (x2, .inl (G.2.1, 3, .inl (upd (fun _ => 0) 1 (((fun _ => 0) 1) + 1)))), (x13, .inl (G.2.1, 40, .inl ((fun _ => 0)))), (x14, .inl (G.2.1, 40, .inl ((fun _ => 0)))), (x15, .inl (G.2.1, 40, .inl ((fun _ => 0)))), (x0, .inr (11, ofL 17 Fx0)), (x3, .inr (7, ofL 5 Fx3)), (x4, .inr (8, ofL 5 Fx4))]) (rest := [.int 0]) li_L_147 C (c_X12_obey l G H.size m0 v1 Fm0 m14 (-1) m36 (fun _ => 0) (fun _ => 0) e_m0_2 e_m0_52 e_m0_62 e_m0_63 e_m0_21) (kR rfl) hP hD hS [0, 2, 1] [3, 4, 5, 6, 7, 8, 9, 10] rfl rfl rfl rfl (by decide) 0 12 rfl rfl rfl hl.1 rfl (Nat.le_of_ble_eq_true rfl) dL_law_711 (fun rr10 uu11 H locs hw9 hP hD hS => ?_)
    rcases hw9 with ⟨rfl, rfl, c_12⟩ | ⟨rfl, rfl, c_13, c_14⟩ | ⟨rfl, rfl, c_15, c_16⟩
    ·
      have hP : va_P G.1 vwCl [(x8, .inr (3, ofL 12 Fx8)), (x2, .inl (G.2.1, 3, .inl (upd (fun _ => 0) 1 (((fun _ => 0) 1) + 1)))), (x13, .inl (G.2.1, 40, .inl ((fun _ => 0)))), (x14, .inl (G.2.1, 40, .inl ((fun _ => 0)))), (x15, .inl (G.2.1, 40, .inl ((fun _ => 0)))), (x0, .inr (11, ofL 17 Fx0)), (x3, .inr (7, ofL 5 Fx3)), (x4, .inr (8, ofL 5 Fx4)), (m36, .inl (G.2.1, 80, .inl ((fun _ => 0)))), (m0, .inr (12, ofL 88 (updV Fm0 0 (.int 0)))), (m14, .inl (G.2.1, 3, .inl (upd (fun _ => 0) 1 (((fun _ => 0) 1) + 1))))] H := hP
      have hD : va_D A [(x8, .inr (3, ofL 12 Fx8)), (x2, .inl (G.2.1, 3, .inl (upd (fun _ => 0) 1 (((fun _ => 0) 1) + 1)))), (x13, .inl (G.2.1, 40, .inl ((fun _ => 0)))), (x14, .inl (G.2.1, 40, .inl ((fun _ => 0)))), (x15, .inl (G.2.1, 40, .inl ((fun _ => 0)))), (x0, .inr (11, ofL 17 Fx0)), (x3, .inr (7, ofL 5 Fx3)), (x4, .inr (8, ofL 5 Fx4)), (m36, .inl (G.2.1, 80, .inl ((fun _ => 0)))), (m0, .inr (12, ofL 88 (updV Fm0 0 (.int 0)))), (m14, .inl (G.2.1, 3, .inl (upd (fun _ => 0) 1 (((fun _ => 0) 1) + 1))))] := hD
      refine lv_icmp_eq (x := 0) (y := 0) (tgt := 2265) hx hb dL_law_714 (by decide) (fun c_17 => ?_) (fun c_17 => ?_)
      rotate_left
      · exact absurd (by decide) c_17
      exact law_end hst C0 hA C hS (lv_sub hl [0, 4] rfl) (Nat.le_of_ble_eq_true rfl) (Nat.le_of_ble_eq_true rfl)
    ·
      have hP : va_P G.1 vwCl [(x8, .inr (3, ofL 12 Fx8)), (x2, .inl (G.2.1, 3, .inl (upd (fun _ => 0) 1 (((fun _ => 0) 1) + 1)))), (x13, .inl (G.2.1, 40, .inl ((fun _ => 0)))), (x14, .inl (G.2.1, 40, .inl ((fun _ => 0)))), (x15, .inl (G.2.1, 40, .inl ((fun _ => 0)))), (x0, .inr (11, ofL 17 Fx0)), (x3, .inr (7, ofL 5 Fx3)), (x4, .inr (8, ofL 5 Fx4)), (m14, .inl (G.2.1, 3, .inl ((fun _ => 0)))), (m0, .inr (12, ofL 88 (updV (updV (updV Fm0 0 (.int 0)) 62 (.int 1)) 52 (.int v1)))), (m36, .inl (G.2.1, 80, .inl (upd (upd (fun _ => 0) 0 48) 1 (-1))))] H := hP
      have hD : va_D A [(x8, .inr (3, ofL 12 Fx8)), (x2, .inl (G.2.1, 3, .inl (upd (fun _ => 0) 1 (((fun _ => 0) 1) + 1)))), (x13, .inl (G.2.1, 40, .inl ((fun _ => 0)))), (x14, .inl (G.2.1, 40, .inl ((fun _ => 0)))), (x15, .inl (G.2.1, 40, .inl ((fun _ => 0)))), (x0, .inr (11, ofL 17 Fx0)), (x3, .inr (7, ofL 5 Fx3)), (x4, .inr (8, ofL 5 Fx4)), (m14, .inl (G.2.1, 3, .inl ((fun _ => 0)))), (m0, .inr (12, ofL 88 (updV (updV (updV Fm0 0 (.int 0)) 62 (.int 1)) 52 (.int v1)))), (m36, .inl (G.2.1, 80, .inl (upd (upd (fun _ => 0) 0 48) 1 (-1))))] := hD
      refine lv_icmp_eq (x := 0) (y := 1) (tgt := 2265) hx hb dL_law_714 (by decide) (fun c_18 => ?_) (fun c_18 => ?_)
      · exact absurd c_18 (by decide)
      refine lv_iconst (v := 0) hx hb dL_law_717 (by decide) ?_
      exfalso
      have e9_m1 : (-1 : Int32).toInt = -1 := by decide
      have e9_0 : (0 : Int32).toInt = 0 := by decide
      simp only [Int32.lt_iff_toInt_lt, Int32.le_iff_toInt_le] at c_4 c_13 c_14
      omega
    ·
      have hP : va_P G.1 vwCl [(x8, .inr (3, ofL 12 Fx8)), (x2, .inl (G.2.1, 3, .inl (upd (fun _ => 0) 1 (((fun _ => 0) 1) + 1)))), (x13, .inl (G.2.1, 40, .inl ((fun _ => 0)))), (x14, .inl (G.2.1, 40, .inl ((fun _ => 0)))), (x15, .inl (G.2.1, 40, .inl ((fun _ => 0)))), (x0, .inr (11, ofL 17 Fx0)), (x3, .inr (7, ofL 5 Fx3)), (x4, .inr (8, ofL 5 Fx4)), (m36, .inl (G.2.1, 80, .inl ((fun _ => 0)))), (m0, .inr (12, ofL 88 (updV Fm0 0 (.int 0)))), (m14, .inl (G.2.1, 3, .inl (upd (fun _ => 0) 1 (((fun _ => 0) 1) + 1))))] H := hP
      have hD : va_D A [(x8, .inr (3, ofL 12 Fx8)), (x2, .inl (G.2.1, 3, .inl (upd (fun _ => 0) 1 (((fun _ => 0) 1) + 1)))), (x13, .inl (G.2.1, 40, .inl ((fun _ => 0)))), (x14, .inl (G.2.1, 40, .inl ((fun _ => 0)))), (x15, .inl (G.2.1, 40, .inl ((fun _ => 0)))), (x0, .inr (11, ofL 17 Fx0)), (x3, .inr (7, ofL 5 Fx3)), (x4, .inr (8, ofL 5 Fx4)), (m36, .inl (G.2.1, 80, .inl ((fun _ => 0)))), (m0, .inr (12, ofL 88 (updV Fm0 0 (.int 0)))), (m14, .inl (G.2.1, 3, .inl (upd (fun _ => 0) 1 (((fun _ => 0) 1) + 1))))] := hD
      refine lv_icmp_eq (x := 0) (y := 0) (tgt := 2265) hx hb dL_law_714 (by decide) (fun c_19 => ?_) (fun c_19 => ?_)
      rotate_left
      · exact absurd (by decide) c_19
      exact law_end hst C0 hA C hS (lv_sub hl [0, 4] rfl) (Nat.le_of_ble_eq_true rfl) (Nat.le_of_ble_eq_true rfl)
  ·
    have hP : va_P G.1 vwCl [(m0, .inr (12, ofL 88 Fm0)), (m14, .inl (G.2.1, 3, .inl (fun _ => 0))), (m36, .inl (G.2.1, 80, .inl (fun _ => 0))), (x8, .inr (3, ofL 12 Fx8)), (x2, .inl (G.2.1, 3, .inl (upd (fun _ => 0) 1 (((fun _ => 0) 1) + 1)))), (x13, .inl (G.2.1, 40, .inl ((fun _ => 0)))), (x14, .inl (G.2.1, 40, .inl ((fun _ => 0)))), (x15, .inl (G.2.1, 40, .inl ((fun _ => 0)))), (x0, .inr (11, ofL 17 Fx0)), (x3, .inr (7, ofL 5 Fx3)), (x4, .inr (8, ofL 5 Fx4))] H := hP
    have hD : va_D A [(m0, .inr (12, ofL 88 Fm0)), (m14, .inl (G.2.1, 3, .inl (fun _ => 0))), (m36, .inl (G.2.1, 80, .inl (fun _ => 0))), (x8, .inr (3, ofL 12 Fx8)), (x2, .inl (G.2.1, 3, .inl (upd (fun _ => 0) 1 (((fun _ => 0) 1) + 1)))), (x13, .inl (G.2.1, 40, .inl ((fun _ => 0)))), (x14, .inl (G.2.1, 40, .inl ((fun _ => 0)))), (x15, .inl (G.2.1, 40, .inl ((fun _ => 0)))), (x0, .inr (11, ofL 17 Fx0)), (x3, .inr (7, ofL 5 Fx3)), (x4, .inr (8, ofL 5 Fx4))] := hD
    refine lv_aload_n hx hb dL_law_704 rfl (lv_at hl 2 rfl) ?_
    refine lv_aload_n hx hb dL_law_705 rfl (lv_at hl 0 rfl) ?_
    refine lv_iload hx hb dL_law_706 (lv_at hl 4 rfl) ?_
    refine lv_iconst (v := 1) hx hb dL_law_708 (by decide) ?_
    refine lv_iadd hx hb dL_law_709 ?_
    refine k_eqi (y := 1) (by decide) ?_
    refine va_sld hx hb hX hbl hbA hS (k_in (by decide)) dL_law_710 ?_
    refine k_eqi (y := v1) hv1 ?_
    refine k_callVi (wr := [(x8, .inr (3, ofL 12 Fx8)), (x2, .inl (G.2.1, 3, .inl (upd (fun _ => 0) 1 (((fun _ => 0) 1) + 1)))), (x13, .inl (G.2.1, 40, .inl ((fun _ => 0)))), (x14, .inl (G.2.1, 40, .inl ((fun _ => 0)))), (x15, .inl (G.2.1, 40, .inl ((fun _ => 0)))), (x0, .inr (11, ofL 17 Fx0)), (x3, .inr (7, ofL 5 Fx3)), (x4, .inr (8, ofL 5 Fx4))]) (rest := [.int 0]) li_L_147 C (c_X12_obey l G H.size m0 v1 Fm0 m14 (-1) m36 (fun _ => 0) (fun _ => 0) e_m0_2 e_m0_52 e_m0_62 e_m0_63 e_m0_21) (kR rfl) hP hD hS [0, 2, 1] [3, 4, 5, 6, 7, 8, 9, 10] rfl rfl rfl rfl (by decide) 0 12 rfl rfl rfl hl.1 rfl (Nat.le_of_ble_eq_true rfl) dL_law_711 (fun rr21 uu22 H locs hw20 hP hD hS => ?_)
    rcases hw20 with ⟨rfl, rfl, c_23⟩ | ⟨rfl, rfl, c_24, c_25⟩ | ⟨rfl, rfl, c_26, c_27⟩
    ·
      have hP : va_P G.1 vwCl [(x8, .inr (3, ofL 12 Fx8)), (x2, .inl (G.2.1, 3, .inl (upd (fun _ => 0) 1 (((fun _ => 0) 1) + 1)))), (x13, .inl (G.2.1, 40, .inl ((fun _ => 0)))), (x14, .inl (G.2.1, 40, .inl ((fun _ => 0)))), (x15, .inl (G.2.1, 40, .inl ((fun _ => 0)))), (x0, .inr (11, ofL 17 Fx0)), (x3, .inr (7, ofL 5 Fx3)), (x4, .inr (8, ofL 5 Fx4)), (m36, .inl (G.2.1, 80, .inl ((fun _ => 0)))), (m0, .inr (12, ofL 88 (updV Fm0 0 (.int 0)))), (m14, .inl (G.2.1, 3, .inl (upd (fun _ => 0) 1 (((fun _ => 0) 1) + 1))))] H := hP
      have hD : va_D A [(x8, .inr (3, ofL 12 Fx8)), (x2, .inl (G.2.1, 3, .inl (upd (fun _ => 0) 1 (((fun _ => 0) 1) + 1)))), (x13, .inl (G.2.1, 40, .inl ((fun _ => 0)))), (x14, .inl (G.2.1, 40, .inl ((fun _ => 0)))), (x15, .inl (G.2.1, 40, .inl ((fun _ => 0)))), (x0, .inr (11, ofL 17 Fx0)), (x3, .inr (7, ofL 5 Fx3)), (x4, .inr (8, ofL 5 Fx4)), (m36, .inl (G.2.1, 80, .inl ((fun _ => 0)))), (m0, .inr (12, ofL 88 (updV Fm0 0 (.int 0)))), (m14, .inl (G.2.1, 3, .inl (upd (fun _ => 0) 1 (((fun _ => 0) 1) + 1))))] := hD
      refine lv_icmp_eq (x := 0) (y := 0) (tgt := 2265) hx hb dL_law_714 (by decide) (fun c_28 => ?_) (fun c_28 => ?_)
      rotate_left
      · exact absurd (by decide) c_28
      exact law_end hst C0 hA C hS (lv_sub hl [0, 4] rfl) (Nat.le_of_ble_eq_true rfl) (Nat.le_of_ble_eq_true rfl)
    ·
      have hP : va_P G.1 vwCl [(x8, .inr (3, ofL 12 Fx8)), (x2, .inl (G.2.1, 3, .inl (upd (fun _ => 0) 1 (((fun _ => 0) 1) + 1)))), (x13, .inl (G.2.1, 40, .inl ((fun _ => 0)))), (x14, .inl (G.2.1, 40, .inl ((fun _ => 0)))), (x15, .inl (G.2.1, 40, .inl ((fun _ => 0)))), (x0, .inr (11, ofL 17 Fx0)), (x3, .inr (7, ofL 5 Fx3)), (x4, .inr (8, ofL 5 Fx4)), (m14, .inl (G.2.1, 3, .inl ((fun _ => 0)))), (m0, .inr (12, ofL 88 (updV (updV (updV Fm0 0 (.int 0)) 62 (.int 1)) 52 (.int v1)))), (m36, .inl (G.2.1, 80, .inl (upd (upd (fun _ => 0) 0 48) 1 (-1))))] H := hP
      have hD : va_D A [(x8, .inr (3, ofL 12 Fx8)), (x2, .inl (G.2.1, 3, .inl (upd (fun _ => 0) 1 (((fun _ => 0) 1) + 1)))), (x13, .inl (G.2.1, 40, .inl ((fun _ => 0)))), (x14, .inl (G.2.1, 40, .inl ((fun _ => 0)))), (x15, .inl (G.2.1, 40, .inl ((fun _ => 0)))), (x0, .inr (11, ofL 17 Fx0)), (x3, .inr (7, ofL 5 Fx3)), (x4, .inr (8, ofL 5 Fx4)), (m14, .inl (G.2.1, 3, .inl ((fun _ => 0)))), (m0, .inr (12, ofL 88 (updV (updV (updV Fm0 0 (.int 0)) 62 (.int 1)) 52 (.int v1)))), (m36, .inl (G.2.1, 80, .inl (upd (upd (fun _ => 0) 0 48) 1 (-1))))] := hD
      refine lv_icmp_eq (x := 0) (y := 1) (tgt := 2265) hx hb dL_law_714 (by decide) (fun c_29 => ?_) (fun c_29 => ?_)
      · exact absurd c_29 (by decide)
      refine lv_iconst (v := 0) hx hb dL_law_717 (by decide) ?_
      exfalso
      have e9_m1 : (-1 : Int32).toInt = -1 := by decide
      have e9_0 : (0 : Int32).toInt = 0 := by decide
      simp only [Int32.lt_iff_toInt_lt, Int32.le_iff_toInt_le] at c_5 c_6 c_24 c_25
      omega
    ·
      have hP : va_P G.1 vwCl [(x8, .inr (3, ofL 12 Fx8)), (x2, .inl (G.2.1, 3, .inl (upd (fun _ => 0) 1 (((fun _ => 0) 1) + 1)))), (x13, .inl (G.2.1, 40, .inl ((fun _ => 0)))), (x14, .inl (G.2.1, 40, .inl ((fun _ => 0)))), (x15, .inl (G.2.1, 40, .inl ((fun _ => 0)))), (x0, .inr (11, ofL 17 Fx0)), (x3, .inr (7, ofL 5 Fx3)), (x4, .inr (8, ofL 5 Fx4)), (m36, .inl (G.2.1, 80, .inl ((fun _ => 0)))), (m0, .inr (12, ofL 88 (updV Fm0 0 (.int 0)))), (m14, .inl (G.2.1, 3, .inl (upd (fun _ => 0) 1 (((fun _ => 0) 1) + 1))))] H := hP
      have hD : va_D A [(x8, .inr (3, ofL 12 Fx8)), (x2, .inl (G.2.1, 3, .inl (upd (fun _ => 0) 1 (((fun _ => 0) 1) + 1)))), (x13, .inl (G.2.1, 40, .inl ((fun _ => 0)))), (x14, .inl (G.2.1, 40, .inl ((fun _ => 0)))), (x15, .inl (G.2.1, 40, .inl ((fun _ => 0)))), (x0, .inr (11, ofL 17 Fx0)), (x3, .inr (7, ofL 5 Fx3)), (x4, .inr (8, ofL 5 Fx4)), (m36, .inl (G.2.1, 80, .inl ((fun _ => 0)))), (m0, .inr (12, ofL 88 (updV Fm0 0 (.int 0)))), (m14, .inl (G.2.1, 3, .inl (upd (fun _ => 0) 1 (((fun _ => 0) 1) + 1))))] := hD
      refine lv_icmp_eq (x := 0) (y := 0) (tgt := 2265) hx hb dL_law_714 (by decide) (fun c_30 => ?_) (fun c_30 => ?_)
      rotate_left
      · exact absurd (by decide) c_30
      exact law_end hst C0 hA C hS (lv_sub hl [0, 4] rfl) (Nat.le_of_ble_eq_true rfl) (Nat.le_of_ble_eq_true rfl)
  ·
    have hP : va_P G.1 vwCl [(m0, .inr (12, ofL 88 Fm0)), (m14, .inl (G.2.1, 3, .inl (fun _ => 0))), (m36, .inl (G.2.1, 80, .inl (fun _ => 0))), (x2, .inl (G.2.1, 3, .inl ((fun _ => 0)))), (x0, .inr (11, ofL 17 Fx0)), (x3, .inr (7, ofL 5 Fx3)), (x4, .inr (8, ofL 5 Fx4)), (x8, .inr (3, ofL 12 (updV (updV Fx8 9 (.int 1)) 11 (.int v1)))), (x13, .inl (G.2.1, 40, .inl (upd (fun _ => 0) 0 4))), (x14, .inl (G.2.1, 40, .inl (upd (fun _ => 0) 0 0))), (x15, .inl (G.2.1, 40, .inl (upd (fun _ => 0) 0 (-1))))] H := hP
    have hD : va_D A [(m0, .inr (12, ofL 88 Fm0)), (m14, .inl (G.2.1, 3, .inl (fun _ => 0))), (m36, .inl (G.2.1, 80, .inl (fun _ => 0))), (x2, .inl (G.2.1, 3, .inl ((fun _ => 0)))), (x0, .inr (11, ofL 17 Fx0)), (x3, .inr (7, ofL 5 Fx3)), (x4, .inr (8, ofL 5 Fx4)), (x8, .inr (3, ofL 12 (updV (updV Fx8 9 (.int 1)) 11 (.int v1)))), (x13, .inl (G.2.1, 40, .inl (upd (fun _ => 0) 0 4))), (x14, .inl (G.2.1, 40, .inl (upd (fun _ => 0) 0 0))), (x15, .inl (G.2.1, 40, .inl (upd (fun _ => 0) 0 (-1))))] := hD
    refine lv_aload_n hx hb dL_law_704 rfl (lv_at hl 2 rfl) ?_
    refine lv_aload_n hx hb dL_law_705 rfl (lv_at hl 0 rfl) ?_
    refine lv_iload hx hb dL_law_706 (lv_at hl 4 rfl) ?_
    refine lv_iconst (v := 1) hx hb dL_law_708 (by decide) ?_
    refine lv_iadd hx hb dL_law_709 ?_
    refine k_eqi (y := 1) (by decide) ?_
    refine va_sld hx hb hX hbl hbA hS (k_in (by decide)) dL_law_710 ?_
    refine k_eqi (y := v1) hv1 ?_
    refine k_callVi (wr := [(x2, .inl (G.2.1, 3, .inl ((fun _ => 0)))), (x0, .inr (11, ofL 17 Fx0)), (x3, .inr (7, ofL 5 Fx3)), (x4, .inr (8, ofL 5 Fx4)), (x8, .inr (3, ofL 12 (updV (updV Fx8 9 (.int 1)) 11 (.int v1)))), (x13, .inl (G.2.1, 40, .inl (upd (fun _ => 0) 0 4))), (x14, .inl (G.2.1, 40, .inl (upd (fun _ => 0) 0 0))), (x15, .inl (G.2.1, 40, .inl (upd (fun _ => 0) 0 (-1))))]) (rest := [.int 1]) li_L_147 C (c_X12_obey l G H.size m0 v1 Fm0 m14 (-1) m36 (fun _ => 0) (fun _ => 0) e_m0_2 e_m0_52 e_m0_62 e_m0_63 e_m0_21) (kR rfl) hP hD hS [0, 2, 1] [3, 4, 5, 6, 7, 8, 9, 10] rfl rfl rfl rfl (by decide) 0 12 rfl rfl rfl hl.1 rfl (Nat.le_of_ble_eq_true rfl) dL_law_711 (fun rr32 uu33 H locs hw31 hP hD hS => ?_)
    rcases hw31 with ⟨rfl, rfl, c_34⟩ | ⟨rfl, rfl, c_35, c_36⟩ | ⟨rfl, rfl, c_37, c_38⟩
    ·
      have hP : va_P G.1 vwCl [(x2, .inl (G.2.1, 3, .inl ((fun _ => 0)))), (x0, .inr (11, ofL 17 Fx0)), (x3, .inr (7, ofL 5 Fx3)), (x4, .inr (8, ofL 5 Fx4)), (x8, .inr (3, ofL 12 (updV (updV Fx8 9 (.int 1)) 11 (.int v1)))), (x13, .inl (G.2.1, 40, .inl (upd (fun _ => 0) 0 4))), (x14, .inl (G.2.1, 40, .inl (upd (fun _ => 0) 0 0))), (x15, .inl (G.2.1, 40, .inl (upd (fun _ => 0) 0 (-1)))), (m36, .inl (G.2.1, 80, .inl ((fun _ => 0)))), (m0, .inr (12, ofL 88 (updV Fm0 0 (.int 0)))), (m14, .inl (G.2.1, 3, .inl (upd (fun _ => 0) 1 (((fun _ => 0) 1) + 1))))] H := hP
      have hD : va_D A [(x2, .inl (G.2.1, 3, .inl ((fun _ => 0)))), (x0, .inr (11, ofL 17 Fx0)), (x3, .inr (7, ofL 5 Fx3)), (x4, .inr (8, ofL 5 Fx4)), (x8, .inr (3, ofL 12 (updV (updV Fx8 9 (.int 1)) 11 (.int v1)))), (x13, .inl (G.2.1, 40, .inl (upd (fun _ => 0) 0 4))), (x14, .inl (G.2.1, 40, .inl (upd (fun _ => 0) 0 0))), (x15, .inl (G.2.1, 40, .inl (upd (fun _ => 0) 0 (-1)))), (m36, .inl (G.2.1, 80, .inl ((fun _ => 0)))), (m0, .inr (12, ofL 88 (updV Fm0 0 (.int 0)))), (m14, .inl (G.2.1, 3, .inl (upd (fun _ => 0) 1 (((fun _ => 0) 1) + 1))))] := hD
      refine lv_icmp_eq (x := 1) (y := 0) (tgt := 2265) hx hb dL_law_714 (by decide) (fun c_39 => ?_) (fun c_39 => ?_)
      · exact absurd c_39 (by decide)
      refine lv_iconst (v := 0) hx hb dL_law_717 (by decide) ?_
      exfalso
      have e9_m1 : (-1 : Int32).toInt = -1 := by decide
      have e9_0 : (0 : Int32).toInt = 0 := by decide
      simp only [Int32.lt_iff_toInt_lt, Int32.le_iff_toInt_le] at c_7 c_8 c_34
      omega
    ·
      have hP : va_P G.1 vwCl [(x2, .inl (G.2.1, 3, .inl ((fun _ => 0)))), (x0, .inr (11, ofL 17 Fx0)), (x3, .inr (7, ofL 5 Fx3)), (x4, .inr (8, ofL 5 Fx4)), (x8, .inr (3, ofL 12 (updV (updV Fx8 9 (.int 1)) 11 (.int v1)))), (x13, .inl (G.2.1, 40, .inl (upd (fun _ => 0) 0 4))), (x14, .inl (G.2.1, 40, .inl (upd (fun _ => 0) 0 0))), (x15, .inl (G.2.1, 40, .inl (upd (fun _ => 0) 0 (-1)))), (m14, .inl (G.2.1, 3, .inl ((fun _ => 0)))), (m0, .inr (12, ofL 88 (updV (updV (updV Fm0 0 (.int 0)) 62 (.int 1)) 52 (.int v1)))), (m36, .inl (G.2.1, 80, .inl (upd (upd (fun _ => 0) 0 48) 1 (-1))))] H := hP
      have hD : va_D A [(x2, .inl (G.2.1, 3, .inl ((fun _ => 0)))), (x0, .inr (11, ofL 17 Fx0)), (x3, .inr (7, ofL 5 Fx3)), (x4, .inr (8, ofL 5 Fx4)), (x8, .inr (3, ofL 12 (updV (updV Fx8 9 (.int 1)) 11 (.int v1)))), (x13, .inl (G.2.1, 40, .inl (upd (fun _ => 0) 0 4))), (x14, .inl (G.2.1, 40, .inl (upd (fun _ => 0) 0 0))), (x15, .inl (G.2.1, 40, .inl (upd (fun _ => 0) 0 (-1)))), (m14, .inl (G.2.1, 3, .inl ((fun _ => 0)))), (m0, .inr (12, ofL 88 (updV (updV (updV Fm0 0 (.int 0)) 62 (.int 1)) 52 (.int v1)))), (m36, .inl (G.2.1, 80, .inl (upd (upd (fun _ => 0) 0 48) 1 (-1))))] := hD
      refine lv_icmp_eq (x := 1) (y := 1) (tgt := 2265) hx hb dL_law_714 (by decide) (fun c_40 => ?_) (fun c_40 => ?_)
      rotate_left
      · exact absurd (by decide) c_40
      exact law_end hst C0 hA C hS (lv_sub hl [0, 4] rfl) (Nat.le_of_ble_eq_true rfl) (Nat.le_of_ble_eq_true rfl)
    ·
      have hP : va_P G.1 vwCl [(x2, .inl (G.2.1, 3, .inl ((fun _ => 0)))), (x0, .inr (11, ofL 17 Fx0)), (x3, .inr (7, ofL 5 Fx3)), (x4, .inr (8, ofL 5 Fx4)), (x8, .inr (3, ofL 12 (updV (updV Fx8 9 (.int 1)) 11 (.int v1)))), (x13, .inl (G.2.1, 40, .inl (upd (fun _ => 0) 0 4))), (x14, .inl (G.2.1, 40, .inl (upd (fun _ => 0) 0 0))), (x15, .inl (G.2.1, 40, .inl (upd (fun _ => 0) 0 (-1)))), (m36, .inl (G.2.1, 80, .inl ((fun _ => 0)))), (m0, .inr (12, ofL 88 (updV Fm0 0 (.int 0)))), (m14, .inl (G.2.1, 3, .inl (upd (fun _ => 0) 1 (((fun _ => 0) 1) + 1))))] H := hP
      have hD : va_D A [(x2, .inl (G.2.1, 3, .inl ((fun _ => 0)))), (x0, .inr (11, ofL 17 Fx0)), (x3, .inr (7, ofL 5 Fx3)), (x4, .inr (8, ofL 5 Fx4)), (x8, .inr (3, ofL 12 (updV (updV Fx8 9 (.int 1)) 11 (.int v1)))), (x13, .inl (G.2.1, 40, .inl (upd (fun _ => 0) 0 4))), (x14, .inl (G.2.1, 40, .inl (upd (fun _ => 0) 0 0))), (x15, .inl (G.2.1, 40, .inl (upd (fun _ => 0) 0 (-1)))), (m36, .inl (G.2.1, 80, .inl ((fun _ => 0)))), (m0, .inr (12, ofL 88 (updV Fm0 0 (.int 0)))), (m14, .inl (G.2.1, 3, .inl (upd (fun _ => 0) 1 (((fun _ => 0) 1) + 1))))] := hD
      refine lv_icmp_eq (x := 1) (y := 0) (tgt := 2265) hx hb dL_law_714 (by decide) (fun c_41 => ?_) (fun c_41 => ?_)
      · exact absurd c_41 (by decide)
      refine lv_iconst (v := 0) hx hb dL_law_717 (by decide) ?_
      exfalso
      have e9_m1 : (-1 : Int32).toInt = -1 := by decide
      have e9_0 : (0 : Int32).toInt = 0 := by decide
      simp only [Int32.lt_iff_toInt_lt, Int32.le_iff_toInt_le] at c_7 c_8 c_37 c_38
      omega
set_option maxHeartbeats 4000000 in
set_option maxRecDepth 100000 in
theorem law_9 {p : Program} {e : Env} {s : State} {m : MethodId} {below : List Frame} {meth : Method} {c : Code} {l : Launch} (hst : l.stackTraces = false) {b : Nat} {xs : Nat → Int32} {G : kG} {A : Nat → Prop} (C0 : lw_At p s m meth c b 6 xs) (hA : A = fun q : Nat => s.heap.size ≤ q) (C : kC G p s m c cL_law 8 RL A) {v1 : Int32} (hv1 : xs 1 = v1) {v2 : Int32} (hv2 : xs 2 = v2) {v3 : Int32} (hv3 : xs 3 = v3) {v4 : Int32} (hv4 : xs 4 = v4) {v5 : Int32} (hv5 : xs 5 = v5) {x0 : Nat} {Fx0 : Nat → Value} {x8 : Nat} {Fx8 : Nat → Value} {m0 : Nat} {Fm0 : Nat → Value} {aout : Nat} (e_x0_6 : Fx0 6 = .ref x8) (e_x8_9 : Fx8 9 = .int 0) (e_m0_62 : Fm0 62 = .int 0) {H : Heap} {locs : List Loc} {ls : Array Slot} (hP : va_P G.1 vwCl [(x0, .inr (11, ofL 17 Fx0)), (x8, .inr (3, ofL 12 Fx8)), (m0, .inr (12, ofL 88 Fm0))] H) (hD : va_D A [(x0, .inr (11, ofL 17 Fx0)), (x8, .inr (3, ofL 12 Fx8)), (m0, .inr (12, ofL 88 Fm0))]) (hS : va_S A s.heap H locs) (hl : lv_has ls 8 [(0, .ref b), (1, .ref x0), (2, .ref m0), (3, .ref aout), (4, .int 0)]) :
    W p l e room_1 s m #[Value.ref b] below meth c H locs 1000 20000 (lw_Z below #[Value.ref b] s) (F0 m 719 ls []) := by
  obtain ⟨hx, hb, hr, -, -, -, hX, hbl, hlocks, -⟩ := id C0
  have hbA : ¬ A b := by rw [hA]; exact Nat.not_le.mpr hbl
  refine lv_aload_n hx hb dL_law_719 rfl (lv_at hl 1 rfl) ?_
  refine k_callVi (wr := [(m0, .inr (12, ofL 88 Fm0))]) (rest := []) li_L_148 C (c_X11_undo l G H.size x0 Fx0 x8 Fx8 e_x0_6 e_x8_9) (kR rfl) hP hD hS [0, 1] [2] rfl rfl rfl rfl (by decide) 0 11 rfl rfl rfl hl.1 rfl (Nat.le_of_ble_eq_true rfl) dL_law_720 (fun rr2 uu3 H locs hw1 hP hD hS => ?_)
  obtain rfl : rr2 = -1 := hw1
  have hP : va_P G.1 vwCl [(m0, .inr (12, ofL 88 Fm0)), (x0, .inr (11, ofL 17 Fx0)), (x8, .inr (3, ofL 12 Fx8))] H := hP
  have hD : va_D A [(m0, .inr (12, ofL 88 Fm0)), (x0, .inr (11, ofL 17 Fx0)), (x8, .inr (3, ofL 12 Fx8))] := hD
  refine lv_aload_n hx hb dL_law_723 rfl (lv_at hl 2 rfl) ?_
  refine k_callVi (wr := [(x0, .inr (11, ofL 17 Fx0)), (x8, .inr (3, ofL 12 Fx8))]) (rest := [.int (-1)]) li_L_151 C (c_X12_undo l G H.size m0 Fm0 e_m0_62) (kR rfl) hP hD hS [0] [1, 2] rfl rfl rfl rfl (by decide) 0 12 rfl rfl rfl hl.1 rfl (Nat.le_of_ble_eq_true rfl) dL_law_724 (fun rr5 uu6 H locs hw4 hP hD hS => ?_)
  obtain rfl : rr5 = -1 := hw4
  have hP : va_P G.1 vwCl [(x0, .inr (11, ofL 17 Fx0)), (x8, .inr (3, ofL 12 Fx8)), (m0, .inr (12, ofL 88 (updV Fm0 0 (.int 0))))] H := hP
  have hD : va_D A [(x0, .inr (11, ofL 17 Fx0)), (x8, .inr (3, ofL 12 Fx8)), (m0, .inr (12, ofL 88 (updV Fm0 0 (.int 0))))] := hD
  refine lv_icmp_eq (x := -1) (y := -1) (tgt := 2265) hx hb dL_law_727 (by decide) (fun c_7 => ?_) (fun c_7 => ?_)
  rotate_left
  · exact absurd (by decide) c_7
  exact law_end hst C0 hA C hS (lv_sub hl [0, 4] rfl) (Nat.le_of_ble_eq_true rfl) (Nat.le_of_ble_eq_true rfl)
set_option maxHeartbeats 4000000 in
set_option maxRecDepth 100000 in
theorem law_10 {p : Program} {e : Env} {s : State} {m : MethodId} {below : List Frame} {meth : Method} {c : Code} {l : Launch} (hst : l.stackTraces = false) {b : Nat} {xs : Nat → Int32} {G : kG} {A : Nat → Prop} (C0 : lw_At p s m meth c b 6 xs) (hA : A = fun q : Nat => s.heap.size ≤ q) (C : kC G p s m c cL_law 8 RL A) {v1 : Int32} (hv1 : xs 1 = v1) {v2 : Int32} (hv2 : xs 2 = v2) {v3 : Int32} (hv3 : xs 3 = v3) {v4 : Int32} (hv4 : xs 4 = v4) {v5 : Int32} (hv5 : xs 5 = v5) {x0 : Nat} {Fx0 : Nat → Value} {x3 : Nat} {Fx3 : Nat → Value} {m0 : Nat} {Fm0 : Nat → Value} {aout : Nat} (e_x0_3 : Fx0 3 = .ref x3) (e_x3_2 : Fx3 2 = .int 0) (e_m0_1 : Fm0 1 = .int 0) {H : Heap} {locs : List Loc} {ls : Array Slot} (hP : va_P G.1 vwCl [(x0, .inr (11, ofL 17 Fx0)), (x3, .inr (7, ofL 5 Fx3)), (m0, .inr (12, ofL 88 Fm0)), (aout, .inl (G.2.2.2.2, 1, .inr (.inl (fun _ => 0))))] H) (hD : va_D A [(x0, .inr (11, ofL 17 Fx0)), (x3, .inr (7, ofL 5 Fx3)), (m0, .inr (12, ofL 88 Fm0)), (aout, .inl (G.2.2.2.2, 1, .inr (.inl (fun _ => 0))))]) (hS : va_S A s.heap H locs) (hl : lv_has ls 8 [(0, .ref b), (1, .ref x0), (2, .ref m0), (3, .ref aout), (4, .int 0)]) :
    W p l e room_1 s m #[Value.ref b] below meth c H locs 1000 20000 (lw_Z below #[Value.ref b] s) (F0 m 732 ls []) := by
  obtain ⟨hx, hb, hr, -, -, -, hX, hbl, hlocks, -⟩ := id C0
  have hbA : ¬ A b := by rw [hA]; exact Nat.not_le.mpr hbl
  refine lv_aload_n hx hb dL_law_732 rfl (lv_at hl 1 rfl) ?_
  refine lv_aload_n hx hb dL_law_733 rfl (lv_at hl 0 rfl) ?_
  refine lv_iload hx hb dL_law_734 (lv_at hl 4 rfl) ?_
  refine lv_iconst (v := 1) hx hb dL_law_736 (by decide) ?_
  refine lv_iadd hx hb dL_law_737 ?_
  refine k_eqi (y := 1) (by decide) ?_
  refine va_sld hx hb hX hbl hbA hS (k_in (by decide)) dL_law_738 ?_
  refine k_eqi (y := v1) hv1 ?_
  refine lv_aload_n hx hb dL_law_739 rfl (lv_at hl 0 rfl) ?_
  refine lv_iload hx hb dL_law_740 (lv_at hl 4 rfl) ?_
  refine lv_iconst (v := 2) hx hb dL_law_742 (by decide) ?_
  refine lv_iadd hx hb dL_law_743 ?_
  refine k_eqi (y := 2) (by decide) ?_
  refine va_sld hx hb hX hbl hbA hS (k_in (by decide)) dL_law_744 ?_
  refine k_eqi (y := v2) hv2 ?_
  refine lv_aload_n hx hb dL_law_745 rfl (lv_at hl 0 rfl) ?_
  refine lv_iload hx hb dL_law_746 (lv_at hl 4 rfl) ?_
  refine lv_iconst (v := 3) hx hb dL_law_748 (by decide) ?_
  refine lv_iadd hx hb dL_law_749 ?_
  refine k_eqi (y := 3) (by decide) ?_
  refine va_sld hx hb hX hbl hbA hS (k_in (by decide)) dL_law_750 ?_
  refine k_eqi (y := v3) hv3 ?_
  refine lv_aload_n hx hb dL_law_751 rfl (lv_at hl 3 rfl) ?_
  refine k_callHi (wr := [(m0, .inr (12, ofL 88 Fm0))]) (rest := []) li_L_152 C (c_L_far l hst G H.size x0 v1 v2 v3 aout Fx0 x3 Fx3 (fun _ => 0) e_x0_3 e_x3_2) (kR rfl) hP hD hS [0, 1, 3] [2] rfl rfl rfl rfl (by decide) rfl hl.1 rfl (Nat.le_of_ble_eq_true rfl) dL_law_752 (fun rr2 uu3 H locs hw1 hP hD hS => ?_)
  rcases hw1 with ⟨rfl, rfl, c_4⟩ | ⟨rfl, rfl, c_5⟩
  ·
    have hP : va_P G.1 vwCl [(m0, .inr (12, ofL 88 Fm0)), (aout, .inl (G.2.2.2.2, 1, .inr (.inl ((fun _ => 0))))), (x0, .inr (11, ofL 17 Fx0)), (x3, .inr (7, ofL 5 Fx3))] H := hP
    have hD : va_D A [(m0, .inr (12, ofL 88 Fm0)), (aout, .inl (G.2.2.2.2, 1, .inr (.inl ((fun _ => 0))))), (x0, .inr (11, ofL 17 Fx0)), (x3, .inr (7, ofL 5 Fx3))] := hD
    refine lv_istore (lv' := [(5, .int 1), (0, .ref b), (1, .ref x0), (2, .ref m0), (3, .ref aout), (4, .int 0)]) hx hb dL_law_755 hl (by decide) rfl (fun ls hl => ?_)
    refine lv_aload_n hx hb dL_law_757 rfl (lv_at hl 3 rfl) ?_
    refine lv_aload_n hx hb dL_law_758 rfl (lv_at hl 1 rfl) ?_
    refine lv_iload hx hb dL_law_759 (lv_at hl 5 rfl) ?_
    refine lv_iconst (v := 1) hx hb dL_law_761 (by decide) ?_
    refine lv_iadd hx hb dL_law_762 ?_
    refine k_eqi (y := 1) (by decide) ?_
    refine va_sld hx hb hX hbl hbA hS (k_in (by decide)) dL_law_763 ?_
    refine k_eqi (y := v1) hv1 ?_
    refine lv_aload_n hx hb dL_law_764 rfl (lv_at hl 1 rfl) ?_
    refine lv_iload hx hb dL_law_765 (lv_at hl 5 rfl) ?_
    refine lv_iconst (v := 2) hx hb dL_law_767 (by decide) ?_
    refine lv_iadd hx hb dL_law_768 ?_
    refine k_eqi (y := 2) (by decide) ?_
    refine va_sld hx hb hX hbl hbA hS (k_in (by decide)) dL_law_769 ?_
    refine k_eqi (y := v2) hv2 ?_
    refine lv_aload_n hx hb dL_law_770 rfl (lv_at hl 1 rfl) ?_
    refine lv_iload hx hb dL_law_771 (lv_at hl 5 rfl) ?_
    refine lv_iconst (v := 3) hx hb dL_law_773 (by decide) ?_
    refine lv_iadd hx hb dL_law_774 ?_
    refine k_eqi (y := 3) (by decide) ?_
    refine va_sld hx hb hX hbl hbA hS (k_in (by decide)) dL_law_775 ?_
    refine k_eqi (y := v3) hv3 ?_
    refine k_callVi (wr := [(aout, .inl (G.2.2.2.2, 1, .inr (.inl ((fun _ => 0))))), (x0, .inr (11, ofL 17 Fx0)), (x3, .inr (7, ofL 5 Fx3))]) (rest := []) li_L_154 C (c_X12_far l G H.size m0 v1 v2 v3 Fm0 e_m0_1) (kR rfl) hP hD hS [0] [1, 2, 3] rfl rfl rfl rfl (by decide) 0 12 rfl rfl rfl hl.1 rfl (Nat.le_of_ble_eq_true rfl) dL_law_776 (fun rr7 uu8 H locs hw6 hP hD hS => ?_)
    rcases hw6 with ⟨rfl, rfl, c_9⟩ | ⟨rfl, rfl, c_10⟩
    ·
      have hP : va_P G.1 vwCl [(aout, .inl (G.2.2.2.2, 1, .inr (.inl ((fun _ => 0))))), (x0, .inr (11, ofL 17 Fx0)), (x3, .inr (7, ofL 5 Fx3)), (m0, .inr (12, ofL 88 (updV (updV Fm0 0 (.int 0)) 0 (.int 1))))] H := hP
      have hD : va_D A [(aout, .inl (G.2.2.2.2, 1, .inr (.inl ((fun _ => 0))))), (x0, .inr (11, ofL 17 Fx0)), (x3, .inr (7, ofL 5 Fx3)), (m0, .inr (12, ofL 88 (updV (updV Fm0 0 (.int 0)) 0 (.int 1))))] := hD
      refine lv_istore (lv' := [(6, .int 0), (5, .int 1), (0, .ref b), (1, .ref x0), (2, .ref m0), (3, .ref aout), (4, .int 0)]) hx hb dL_law_779 hl (by decide) rfl (fun ls hl => ?_)
      refine lv_aload_n hx hb dL_law_781 rfl (lv_at hl 4 rfl) ?_
      refine k_callVi (wr := [(aout, .inl (G.2.2.2.2, 1, .inr (.inl ((fun _ => 0))))), (x0, .inr (11, ofL 17 Fx0)), (x3, .inr (7, ofL 5 Fx3))]) (rest := []) li_L_118 C (c_X12_thrown l G H.size m0 (updV (updV Fm0 0 (.int 0)) 0 (.int 1)) 1 rfl) (kR rfl) hP hD hS [3] [0, 1, 2] rfl rfl rfl rfl (by decide) 0 12 rfl rfl rfl hl.1 rfl (Nat.le_of_ble_eq_true rfl) dL_law_782 (fun rr12 uu13 H locs hw11 hP hD hS => ?_)
      obtain rfl : rr12 = 1 := hw11
      have hP : va_P G.1 vwCl [(aout, .inl (G.2.2.2.2, 1, .inr (.inl ((fun _ => 0))))), (x0, .inr (11, ofL 17 Fx0)), (x3, .inr (7, ofL 5 Fx3)), (m0, .inr (12, ofL 88 (updV (updV Fm0 0 (.int 0)) 0 (.int 1))))] H := hP
      have hD : va_D A [(aout, .inl (G.2.2.2.2, 1, .inr (.inl ((fun _ => 0))))), (x0, .inr (11, ofL 17 Fx0)), (x3, .inr (7, ofL 5 Fx3)), (m0, .inr (12, ofL 88 (updV (updV Fm0 0 (.int 0)) 0 (.int 1))))] := hD
      refine lv_iload hx hb dL_law_785 (lv_at hl 1 rfl) ?_
      refine lv_icmp_eq (x := 1) (y := 1) (tgt := 792) hx hb dL_law_787 (by decide) (fun c_14 => ?_) (fun c_14 => ?_)
      rotate_left
      · exact absurd (by decide) c_14
      refine lv_iload hx hb dL_law_792 (lv_at hl 1 rfl) ?_
      refine lv_if_ne (x := 1) (tgt := 809) hx hb dL_law_794 (by decide) (fun c_15 => ?_) (fun c_15 => ?_)
      rotate_left
      · exact absurd c_15 (by decide)
      refine lv_goto (tgt := 2265) hx hb dL_law_809 (by decide) ?_
      exact law_end hst C0 hA C hS (lv_sub hl [2, 6] rfl) (Nat.le_of_ble_eq_true rfl) (Nat.le_of_ble_eq_true rfl)
    ·
      have hP : va_P G.1 vwCl [(aout, .inl (G.2.2.2.2, 1, .inr (.inl ((fun _ => 0))))), (x0, .inr (11, ofL 17 Fx0)), (x3, .inr (7, ofL 5 Fx3)), (m0, .inr (12, ofL 88 (updV (updV Fm0 0 (.int 0)) 0 (.int 1))))] H := hP
      have hD : va_D A [(aout, .inl (G.2.2.2.2, 1, .inr (.inl ((fun _ => 0))))), (x0, .inr (11, ofL 17 Fx0)), (x3, .inr (7, ofL 5 Fx3)), (m0, .inr (12, ofL 88 (updV (updV Fm0 0 (.int 0)) 0 (.int 1))))] := hD
      refine lv_istore (lv' := [(6, .int 0), (5, .int 1), (0, .ref b), (1, .ref x0), (2, .ref m0), (3, .ref aout), (4, .int 0)]) hx hb dL_law_779 hl (by decide) rfl (fun ls hl => ?_)
      refine lv_aload_n hx hb dL_law_781 rfl (lv_at hl 4 rfl) ?_
      refine k_callVi (wr := [(aout, .inl (G.2.2.2.2, 1, .inr (.inl ((fun _ => 0))))), (x0, .inr (11, ofL 17 Fx0)), (x3, .inr (7, ofL 5 Fx3))]) (rest := []) li_L_118 C (c_X12_thrown l G H.size m0 (updV (updV Fm0 0 (.int 0)) 0 (.int 1)) 1 rfl) (kR rfl) hP hD hS [3] [0, 1, 2] rfl rfl rfl rfl (by decide) 0 12 rfl rfl rfl hl.1 rfl (Nat.le_of_ble_eq_true rfl) dL_law_782 (fun rr17 uu18 H locs hw16 hP hD hS => ?_)
      obtain rfl : rr17 = 1 := hw16
      have hP : va_P G.1 vwCl [(aout, .inl (G.2.2.2.2, 1, .inr (.inl ((fun _ => 0))))), (x0, .inr (11, ofL 17 Fx0)), (x3, .inr (7, ofL 5 Fx3)), (m0, .inr (12, ofL 88 (updV (updV Fm0 0 (.int 0)) 0 (.int 1))))] H := hP
      have hD : va_D A [(aout, .inl (G.2.2.2.2, 1, .inr (.inl ((fun _ => 0))))), (x0, .inr (11, ofL 17 Fx0)), (x3, .inr (7, ofL 5 Fx3)), (m0, .inr (12, ofL 88 (updV (updV Fm0 0 (.int 0)) 0 (.int 1))))] := hD
      refine lv_iload hx hb dL_law_785 (lv_at hl 1 rfl) ?_
      refine lv_icmp_eq (x := 1) (y := 1) (tgt := 792) hx hb dL_law_787 (by decide) (fun c_19 => ?_) (fun c_19 => ?_)
      rotate_left
      · exact absurd (by decide) c_19
      refine lv_iload hx hb dL_law_792 (lv_at hl 1 rfl) ?_
      refine lv_if_ne (x := 1) (tgt := 809) hx hb dL_law_794 (by decide) (fun c_20 => ?_) (fun c_20 => ?_)
      rotate_left
      · exact absurd c_20 (by decide)
      refine lv_goto (tgt := 2265) hx hb dL_law_809 (by decide) ?_
      exact law_end hst C0 hA C hS (lv_sub hl [2, 6] rfl) (Nat.le_of_ble_eq_true rfl) (Nat.le_of_ble_eq_true rfl)
  ·
    have hP : va_P G.1 vwCl [(m0, .inr (12, ofL 88 Fm0)), (aout, .inl (G.2.2.2.2, 1, .inr (.inl ((fun _ => 0))))), (x0, .inr (11, ofL 17 Fx0)), (x3, .inr (7, ofL 5 Fx3))] H := hP
    have hD : va_D A [(m0, .inr (12, ofL 88 Fm0)), (aout, .inl (G.2.2.2.2, 1, .inr (.inl ((fun _ => 0))))), (x0, .inr (11, ofL 17 Fx0)), (x3, .inr (7, ofL 5 Fx3))] := hD
    refine lv_istore (lv' := [(5, .int 1), (0, .ref b), (1, .ref x0), (2, .ref m0), (3, .ref aout), (4, .int 0)]) hx hb dL_law_755 hl (by decide) rfl (fun ls hl => ?_)
    refine lv_aload_n hx hb dL_law_757 rfl (lv_at hl 3 rfl) ?_
    refine lv_aload_n hx hb dL_law_758 rfl (lv_at hl 1 rfl) ?_
    refine lv_iload hx hb dL_law_759 (lv_at hl 5 rfl) ?_
    refine lv_iconst (v := 1) hx hb dL_law_761 (by decide) ?_
    refine lv_iadd hx hb dL_law_762 ?_
    refine k_eqi (y := 1) (by decide) ?_
    refine va_sld hx hb hX hbl hbA hS (k_in (by decide)) dL_law_763 ?_
    refine k_eqi (y := v1) hv1 ?_
    refine lv_aload_n hx hb dL_law_764 rfl (lv_at hl 1 rfl) ?_
    refine lv_iload hx hb dL_law_765 (lv_at hl 5 rfl) ?_
    refine lv_iconst (v := 2) hx hb dL_law_767 (by decide) ?_
    refine lv_iadd hx hb dL_law_768 ?_
    refine k_eqi (y := 2) (by decide) ?_
    refine va_sld hx hb hX hbl hbA hS (k_in (by decide)) dL_law_769 ?_
    refine k_eqi (y := v2) hv2 ?_
    refine lv_aload_n hx hb dL_law_770 rfl (lv_at hl 1 rfl) ?_
    refine lv_iload hx hb dL_law_771 (lv_at hl 5 rfl) ?_
    refine lv_iconst (v := 3) hx hb dL_law_773 (by decide) ?_
    refine lv_iadd hx hb dL_law_774 ?_
    refine k_eqi (y := 3) (by decide) ?_
    refine va_sld hx hb hX hbl hbA hS (k_in (by decide)) dL_law_775 ?_
    refine k_eqi (y := v3) hv3 ?_
    refine k_callVi (wr := [(aout, .inl (G.2.2.2.2, 1, .inr (.inl ((fun _ => 0))))), (x0, .inr (11, ofL 17 Fx0)), (x3, .inr (7, ofL 5 Fx3))]) (rest := []) li_L_154 C (c_X12_far l G H.size m0 v1 v2 v3 Fm0 e_m0_1) (kR rfl) hP hD hS [0] [1, 2, 3] rfl rfl rfl rfl (by decide) 0 12 rfl rfl rfl hl.1 rfl (Nat.le_of_ble_eq_true rfl) dL_law_776 (fun rr22 uu23 H locs hw21 hP hD hS => ?_)
    rcases hw21 with ⟨rfl, rfl, c_24⟩ | ⟨rfl, rfl, c_25⟩
    ·
      have hP : va_P G.1 vwCl [(aout, .inl (G.2.2.2.2, 1, .inr (.inl ((fun _ => 0))))), (x0, .inr (11, ofL 17 Fx0)), (x3, .inr (7, ofL 5 Fx3)), (m0, .inr (12, ofL 88 (updV (updV Fm0 0 (.int 0)) 0 (.int 1))))] H := hP
      have hD : va_D A [(aout, .inl (G.2.2.2.2, 1, .inr (.inl ((fun _ => 0))))), (x0, .inr (11, ofL 17 Fx0)), (x3, .inr (7, ofL 5 Fx3)), (m0, .inr (12, ofL 88 (updV (updV Fm0 0 (.int 0)) 0 (.int 1))))] := hD
      refine lv_istore (lv' := [(6, .int 0), (5, .int 1), (0, .ref b), (1, .ref x0), (2, .ref m0), (3, .ref aout), (4, .int 0)]) hx hb dL_law_779 hl (by decide) rfl (fun ls hl => ?_)
      refine lv_aload_n hx hb dL_law_781 rfl (lv_at hl 4 rfl) ?_
      refine k_callVi (wr := [(aout, .inl (G.2.2.2.2, 1, .inr (.inl ((fun _ => 0))))), (x0, .inr (11, ofL 17 Fx0)), (x3, .inr (7, ofL 5 Fx3))]) (rest := []) li_L_118 C (c_X12_thrown l G H.size m0 (updV (updV Fm0 0 (.int 0)) 0 (.int 1)) 1 rfl) (kR rfl) hP hD hS [3] [0, 1, 2] rfl rfl rfl rfl (by decide) 0 12 rfl rfl rfl hl.1 rfl (Nat.le_of_ble_eq_true rfl) dL_law_782 (fun rr27 uu28 H locs hw26 hP hD hS => ?_)
      obtain rfl : rr27 = 1 := hw26
      have hP : va_P G.1 vwCl [(aout, .inl (G.2.2.2.2, 1, .inr (.inl ((fun _ => 0))))), (x0, .inr (11, ofL 17 Fx0)), (x3, .inr (7, ofL 5 Fx3)), (m0, .inr (12, ofL 88 (updV (updV Fm0 0 (.int 0)) 0 (.int 1))))] H := hP
      have hD : va_D A [(aout, .inl (G.2.2.2.2, 1, .inr (.inl ((fun _ => 0))))), (x0, .inr (11, ofL 17 Fx0)), (x3, .inr (7, ofL 5 Fx3)), (m0, .inr (12, ofL 88 (updV (updV Fm0 0 (.int 0)) 0 (.int 1))))] := hD
      refine lv_iload hx hb dL_law_785 (lv_at hl 1 rfl) ?_
      refine lv_icmp_eq (x := 1) (y := 1) (tgt := 792) hx hb dL_law_787 (by decide) (fun c_29 => ?_) (fun c_29 => ?_)
      rotate_left
      · exact absurd (by decide) c_29
      refine lv_iload hx hb dL_law_792 (lv_at hl 1 rfl) ?_
      refine lv_if_ne (x := 1) (tgt := 809) hx hb dL_law_794 (by decide) (fun c_30 => ?_) (fun c_30 => ?_)
      rotate_left
      · exact absurd c_30 (by decide)
      refine lv_goto (tgt := 2265) hx hb dL_law_809 (by decide) ?_
      exact law_end hst C0 hA C hS (lv_sub hl [2, 6] rfl) (Nat.le_of_ble_eq_true rfl) (Nat.le_of_ble_eq_true rfl)
    ·
      have hP : va_P G.1 vwCl [(aout, .inl (G.2.2.2.2, 1, .inr (.inl ((fun _ => 0))))), (x0, .inr (11, ofL 17 Fx0)), (x3, .inr (7, ofL 5 Fx3)), (m0, .inr (12, ofL 88 (updV (updV Fm0 0 (.int 0)) 0 (.int 1))))] H := hP
      have hD : va_D A [(aout, .inl (G.2.2.2.2, 1, .inr (.inl ((fun _ => 0))))), (x0, .inr (11, ofL 17 Fx0)), (x3, .inr (7, ofL 5 Fx3)), (m0, .inr (12, ofL 88 (updV (updV Fm0 0 (.int 0)) 0 (.int 1))))] := hD
      refine lv_istore (lv' := [(6, .int 0), (5, .int 1), (0, .ref b), (1, .ref x0), (2, .ref m0), (3, .ref aout), (4, .int 0)]) hx hb dL_law_779 hl (by decide) rfl (fun ls hl => ?_)
      refine lv_aload_n hx hb dL_law_781 rfl (lv_at hl 4 rfl) ?_
      refine k_callVi (wr := [(aout, .inl (G.2.2.2.2, 1, .inr (.inl ((fun _ => 0))))), (x0, .inr (11, ofL 17 Fx0)), (x3, .inr (7, ofL 5 Fx3))]) (rest := []) li_L_118 C (c_X12_thrown l G H.size m0 (updV (updV Fm0 0 (.int 0)) 0 (.int 1)) 1 rfl) (kR rfl) hP hD hS [3] [0, 1, 2] rfl rfl rfl rfl (by decide) 0 12 rfl rfl rfl hl.1 rfl (Nat.le_of_ble_eq_true rfl) dL_law_782 (fun rr32 uu33 H locs hw31 hP hD hS => ?_)
      obtain rfl : rr32 = 1 := hw31
      have hP : va_P G.1 vwCl [(aout, .inl (G.2.2.2.2, 1, .inr (.inl ((fun _ => 0))))), (x0, .inr (11, ofL 17 Fx0)), (x3, .inr (7, ofL 5 Fx3)), (m0, .inr (12, ofL 88 (updV (updV Fm0 0 (.int 0)) 0 (.int 1))))] H := hP
      have hD : va_D A [(aout, .inl (G.2.2.2.2, 1, .inr (.inl ((fun _ => 0))))), (x0, .inr (11, ofL 17 Fx0)), (x3, .inr (7, ofL 5 Fx3)), (m0, .inr (12, ofL 88 (updV (updV Fm0 0 (.int 0)) 0 (.int 1))))] := hD
      refine lv_iload hx hb dL_law_785 (lv_at hl 1 rfl) ?_
      refine lv_icmp_eq (x := 1) (y := 1) (tgt := 792) hx hb dL_law_787 (by decide) (fun c_34 => ?_) (fun c_34 => ?_)
      rotate_left
      · exact absurd (by decide) c_34
      refine lv_iload hx hb dL_law_792 (lv_at hl 1 rfl) ?_
      refine lv_if_ne (x := 1) (tgt := 809) hx hb dL_law_794 (by decide) (fun c_35 => ?_) (fun c_35 => ?_)
      rotate_left
      · exact absurd c_35 (by decide)
      refine lv_goto (tgt := 2265) hx hb dL_law_809 (by decide) ?_
      exact law_end hst C0 hA C hS (lv_sub hl [2, 6] rfl) (Nat.le_of_ble_eq_true rfl) (Nat.le_of_ble_eq_true rfl)
set_option maxHeartbeats 4000000 in
set_option maxRecDepth 100000 in
theorem law_11 {p : Program} {e : Env} {s : State} {m : MethodId} {below : List Frame} {meth : Method} {c : Code} {l : Launch} (hst : l.stackTraces = false) {b : Nat} {xs : Nat → Int32} {G : kG} {A : Nat → Prop} (C0 : lw_At p s m meth c b 6 xs) (hA : A = fun q : Nat => s.heap.size ≤ q) (C : kC G p s m c cL_law 8 RL A) {v1 : Int32} (hv1 : xs 1 = v1) {v2 : Int32} (hv2 : xs 2 = v2) {v3 : Int32} (hv3 : xs 3 = v3) {v4 : Int32} (hv4 : xs 4 = v4) {v5 : Int32} (hv5 : xs 5 = v5) {x0 : Nat} {Fx0 : Nat → Value} {x3 : Nat} {Fx3 : Nat → Value} {m0 : Nat} {Fm0 : Nat → Value} {aout : Nat} (e_x0_3 : Fx0 3 = .ref x3) (e_x3_2 : Fx3 2 = .int 0) (e_m0_1 : Fm0 1 = .int 0) {H : Heap} {locs : List Loc} {ls : Array Slot} (hP : va_P G.1 vwCl [(x0, .inr (11, ofL 17 Fx0)), (x3, .inr (7, ofL 5 Fx3)), (m0, .inr (12, ofL 88 Fm0)), (aout, .inl (G.2.2.2.2, 1, .inr (.inl (fun _ => 0))))] H) (hD : va_D A [(x0, .inr (11, ofL 17 Fx0)), (x3, .inr (7, ofL 5 Fx3)), (m0, .inr (12, ofL 88 Fm0)), (aout, .inl (G.2.2.2.2, 1, .inr (.inl (fun _ => 0))))]) (hS : va_S A s.heap H locs) (hl : lv_has ls 8 [(0, .ref b), (1, .ref x0), (2, .ref m0), (3, .ref aout), (4, .int 0)]) :
    W p l e room_1 s m #[Value.ref b] below meth c H locs 1000 20000 (lw_Z below #[Value.ref b] s) (F0 m 812 ls []) := by
  obtain ⟨hx, hb, hr, -, -, -, hX, hbl, hlocks, -⟩ := id C0
  have hbA : ¬ A b := by rw [hA]; exact Nat.not_le.mpr hbl
  refine lv_aload_n hx hb dL_law_812 rfl (lv_at hl 1 rfl) ?_
  refine lv_aload_n hx hb dL_law_813 rfl (lv_at hl 0 rfl) ?_
  refine lv_iload hx hb dL_law_814 (lv_at hl 4 rfl) ?_
  refine lv_iconst (v := 1) hx hb dL_law_816 (by decide) ?_
  refine lv_iadd hx hb dL_law_817 ?_
  refine k_eqi (y := 1) (by decide) ?_
  refine va_sld hx hb hX hbl hbA hS (k_in (by decide)) dL_law_818 ?_
  refine k_eqi (y := v1) hv1 ?_
  refine lv_aload_n hx hb dL_law_819 rfl (lv_at hl 0 rfl) ?_
  refine lv_iload hx hb dL_law_820 (lv_at hl 4 rfl) ?_
  refine lv_iconst (v := 2) hx hb dL_law_822 (by decide) ?_
  refine lv_iadd hx hb dL_law_823 ?_
  refine k_eqi (y := 2) (by decide) ?_
  refine va_sld hx hb hX hbl hbA hS (k_in (by decide)) dL_law_824 ?_
  refine k_eqi (y := v2) hv2 ?_
  refine lv_aload_n hx hb dL_law_825 rfl (lv_at hl 3 rfl) ?_
  refine k_callHi (wr := [(m0, .inr (12, ofL 88 Fm0))]) (rest := []) li_L_155 C (c_L_reaches l hst G H.size x0 v1 v2 aout Fx0 x3 Fx3 (fun _ => 0) e_x0_3 e_x3_2) (kR rfl) hP hD hS [0, 1, 3] [2] rfl rfl rfl rfl (by decide) rfl hl.1 rfl (Nat.le_of_ble_eq_true rfl) dL_law_826 (fun rr2 uu3 H locs hw1 hP hD hS => ?_)
  rcases hw1 with ⟨rfl, rfl, c_4⟩ | ⟨rfl, rfl, c_5⟩
  ·
    have hP : va_P G.1 vwCl [(m0, .inr (12, ofL 88 Fm0)), (aout, .inl (G.2.2.2.2, 1, .inr (.inl ((fun _ => 0))))), (x0, .inr (11, ofL 17 Fx0)), (x3, .inr (7, ofL 5 Fx3))] H := hP
    have hD : va_D A [(m0, .inr (12, ofL 88 Fm0)), (aout, .inl (G.2.2.2.2, 1, .inr (.inl ((fun _ => 0))))), (x0, .inr (11, ofL 17 Fx0)), (x3, .inr (7, ofL 5 Fx3))] := hD
    refine lv_istore (lv' := [(5, .int 1), (0, .ref b), (1, .ref x0), (2, .ref m0), (3, .ref aout), (4, .int 0)]) hx hb dL_law_829 hl (by decide) rfl (fun ls hl => ?_)
    refine lv_aload_n hx hb dL_law_831 rfl (lv_at hl 3 rfl) ?_
    refine lv_aload_n hx hb dL_law_832 rfl (lv_at hl 1 rfl) ?_
    refine lv_iload hx hb dL_law_833 (lv_at hl 5 rfl) ?_
    refine lv_iconst (v := 1) hx hb dL_law_835 (by decide) ?_
    refine lv_iadd hx hb dL_law_836 ?_
    refine k_eqi (y := 1) (by decide) ?_
    refine va_sld hx hb hX hbl hbA hS (k_in (by decide)) dL_law_837 ?_
    refine k_eqi (y := v1) hv1 ?_
    refine lv_aload_n hx hb dL_law_838 rfl (lv_at hl 1 rfl) ?_
    refine lv_iload hx hb dL_law_839 (lv_at hl 5 rfl) ?_
    refine lv_iconst (v := 2) hx hb dL_law_841 (by decide) ?_
    refine lv_iadd hx hb dL_law_842 ?_
    refine k_eqi (y := 2) (by decide) ?_
    refine va_sld hx hb hX hbl hbA hS (k_in (by decide)) dL_law_843 ?_
    refine k_eqi (y := v2) hv2 ?_
    refine k_callVi (wr := [(aout, .inl (G.2.2.2.2, 1, .inr (.inl ((fun _ => 0))))), (x0, .inr (11, ofL 17 Fx0)), (x3, .inr (7, ofL 5 Fx3))]) (rest := []) li_L_157 C (c_X12_reaches l G H.size m0 v1 v2 Fm0 e_m0_1) (kR rfl) hP hD hS [0] [1, 2, 3] rfl rfl rfl rfl (by decide) 0 12 rfl rfl rfl hl.1 rfl (Nat.le_of_ble_eq_true rfl) dL_law_844 (fun rr7 uu8 H locs hw6 hP hD hS => ?_)
    rcases hw6 with ⟨rfl, rfl, c_9⟩ | ⟨rfl, rfl, c_10⟩
    ·
      have hP : va_P G.1 vwCl [(aout, .inl (G.2.2.2.2, 1, .inr (.inl ((fun _ => 0))))), (x0, .inr (11, ofL 17 Fx0)), (x3, .inr (7, ofL 5 Fx3)), (m0, .inr (12, ofL 88 (updV (updV Fm0 0 (.int 0)) 0 (.int 1))))] H := hP
      have hD : va_D A [(aout, .inl (G.2.2.2.2, 1, .inr (.inl ((fun _ => 0))))), (x0, .inr (11, ofL 17 Fx0)), (x3, .inr (7, ofL 5 Fx3)), (m0, .inr (12, ofL 88 (updV (updV Fm0 0 (.int 0)) 0 (.int 1))))] := hD
      refine lv_istore (lv' := [(6, .int 0), (5, .int 1), (0, .ref b), (1, .ref x0), (2, .ref m0), (3, .ref aout), (4, .int 0)]) hx hb dL_law_847 hl (by decide) rfl (fun ls hl => ?_)
      refine lv_aload_n hx hb dL_law_849 rfl (lv_at hl 4 rfl) ?_
      refine k_callVi (wr := [(aout, .inl (G.2.2.2.2, 1, .inr (.inl ((fun _ => 0))))), (x0, .inr (11, ofL 17 Fx0)), (x3, .inr (7, ofL 5 Fx3))]) (rest := []) li_L_118 C (c_X12_thrown l G H.size m0 (updV (updV Fm0 0 (.int 0)) 0 (.int 1)) 1 rfl) (kR rfl) hP hD hS [3] [0, 1, 2] rfl rfl rfl rfl (by decide) 0 12 rfl rfl rfl hl.1 rfl (Nat.le_of_ble_eq_true rfl) dL_law_850 (fun rr12 uu13 H locs hw11 hP hD hS => ?_)
      obtain rfl : rr12 = 1 := hw11
      have hP : va_P G.1 vwCl [(aout, .inl (G.2.2.2.2, 1, .inr (.inl ((fun _ => 0))))), (x0, .inr (11, ofL 17 Fx0)), (x3, .inr (7, ofL 5 Fx3)), (m0, .inr (12, ofL 88 (updV (updV Fm0 0 (.int 0)) 0 (.int 1))))] H := hP
      have hD : va_D A [(aout, .inl (G.2.2.2.2, 1, .inr (.inl ((fun _ => 0))))), (x0, .inr (11, ofL 17 Fx0)), (x3, .inr (7, ofL 5 Fx3)), (m0, .inr (12, ofL 88 (updV (updV Fm0 0 (.int 0)) 0 (.int 1))))] := hD
      refine lv_iload hx hb dL_law_853 (lv_at hl 1 rfl) ?_
      refine lv_icmp_eq (x := 1) (y := 1) (tgt := 860) hx hb dL_law_855 (by decide) (fun c_14 => ?_) (fun c_14 => ?_)
      rotate_left
      · exact absurd (by decide) c_14
      refine lv_iload hx hb dL_law_860 (lv_at hl 1 rfl) ?_
      refine lv_if_ne (x := 1) (tgt := 877) hx hb dL_law_862 (by decide) (fun c_15 => ?_) (fun c_15 => ?_)
      rotate_left
      · exact absurd c_15 (by decide)
      refine lv_goto (tgt := 2265) hx hb dL_law_877 (by decide) ?_
      exact law_end hst C0 hA C hS (lv_sub hl [2, 6] rfl) (Nat.le_of_ble_eq_true rfl) (Nat.le_of_ble_eq_true rfl)
    ·
      have hP : va_P G.1 vwCl [(aout, .inl (G.2.2.2.2, 1, .inr (.inl ((fun _ => 0))))), (x0, .inr (11, ofL 17 Fx0)), (x3, .inr (7, ofL 5 Fx3)), (m0, .inr (12, ofL 88 (updV (updV Fm0 0 (.int 0)) 0 (.int 1))))] H := hP
      have hD : va_D A [(aout, .inl (G.2.2.2.2, 1, .inr (.inl ((fun _ => 0))))), (x0, .inr (11, ofL 17 Fx0)), (x3, .inr (7, ofL 5 Fx3)), (m0, .inr (12, ofL 88 (updV (updV Fm0 0 (.int 0)) 0 (.int 1))))] := hD
      refine lv_istore (lv' := [(6, .int 0), (5, .int 1), (0, .ref b), (1, .ref x0), (2, .ref m0), (3, .ref aout), (4, .int 0)]) hx hb dL_law_847 hl (by decide) rfl (fun ls hl => ?_)
      refine lv_aload_n hx hb dL_law_849 rfl (lv_at hl 4 rfl) ?_
      refine k_callVi (wr := [(aout, .inl (G.2.2.2.2, 1, .inr (.inl ((fun _ => 0))))), (x0, .inr (11, ofL 17 Fx0)), (x3, .inr (7, ofL 5 Fx3))]) (rest := []) li_L_118 C (c_X12_thrown l G H.size m0 (updV (updV Fm0 0 (.int 0)) 0 (.int 1)) 1 rfl) (kR rfl) hP hD hS [3] [0, 1, 2] rfl rfl rfl rfl (by decide) 0 12 rfl rfl rfl hl.1 rfl (Nat.le_of_ble_eq_true rfl) dL_law_850 (fun rr17 uu18 H locs hw16 hP hD hS => ?_)
      obtain rfl : rr17 = 1 := hw16
      have hP : va_P G.1 vwCl [(aout, .inl (G.2.2.2.2, 1, .inr (.inl ((fun _ => 0))))), (x0, .inr (11, ofL 17 Fx0)), (x3, .inr (7, ofL 5 Fx3)), (m0, .inr (12, ofL 88 (updV (updV Fm0 0 (.int 0)) 0 (.int 1))))] H := hP
      have hD : va_D A [(aout, .inl (G.2.2.2.2, 1, .inr (.inl ((fun _ => 0))))), (x0, .inr (11, ofL 17 Fx0)), (x3, .inr (7, ofL 5 Fx3)), (m0, .inr (12, ofL 88 (updV (updV Fm0 0 (.int 0)) 0 (.int 1))))] := hD
      refine lv_iload hx hb dL_law_853 (lv_at hl 1 rfl) ?_
      refine lv_icmp_eq (x := 1) (y := 1) (tgt := 860) hx hb dL_law_855 (by decide) (fun c_19 => ?_) (fun c_19 => ?_)
      rotate_left
      · exact absurd (by decide) c_19
      refine lv_iload hx hb dL_law_860 (lv_at hl 1 rfl) ?_
      refine lv_if_ne (x := 1) (tgt := 877) hx hb dL_law_862 (by decide) (fun c_20 => ?_) (fun c_20 => ?_)
      rotate_left
      · exact absurd c_20 (by decide)
      refine lv_goto (tgt := 2265) hx hb dL_law_877 (by decide) ?_
      exact law_end hst C0 hA C hS (lv_sub hl [2, 6] rfl) (Nat.le_of_ble_eq_true rfl) (Nat.le_of_ble_eq_true rfl)
  ·
    have hP : va_P G.1 vwCl [(m0, .inr (12, ofL 88 Fm0)), (aout, .inl (G.2.2.2.2, 1, .inr (.inl ((fun _ => 0))))), (x0, .inr (11, ofL 17 Fx0)), (x3, .inr (7, ofL 5 Fx3))] H := hP
    have hD : va_D A [(m0, .inr (12, ofL 88 Fm0)), (aout, .inl (G.2.2.2.2, 1, .inr (.inl ((fun _ => 0))))), (x0, .inr (11, ofL 17 Fx0)), (x3, .inr (7, ofL 5 Fx3))] := hD
    refine lv_istore (lv' := [(5, .int 1), (0, .ref b), (1, .ref x0), (2, .ref m0), (3, .ref aout), (4, .int 0)]) hx hb dL_law_829 hl (by decide) rfl (fun ls hl => ?_)
    refine lv_aload_n hx hb dL_law_831 rfl (lv_at hl 3 rfl) ?_
    refine lv_aload_n hx hb dL_law_832 rfl (lv_at hl 1 rfl) ?_
    refine lv_iload hx hb dL_law_833 (lv_at hl 5 rfl) ?_
    refine lv_iconst (v := 1) hx hb dL_law_835 (by decide) ?_
    refine lv_iadd hx hb dL_law_836 ?_
    refine k_eqi (y := 1) (by decide) ?_
    refine va_sld hx hb hX hbl hbA hS (k_in (by decide)) dL_law_837 ?_
    refine k_eqi (y := v1) hv1 ?_
    refine lv_aload_n hx hb dL_law_838 rfl (lv_at hl 1 rfl) ?_
    refine lv_iload hx hb dL_law_839 (lv_at hl 5 rfl) ?_
    refine lv_iconst (v := 2) hx hb dL_law_841 (by decide) ?_
    refine lv_iadd hx hb dL_law_842 ?_
    refine k_eqi (y := 2) (by decide) ?_
    refine va_sld hx hb hX hbl hbA hS (k_in (by decide)) dL_law_843 ?_
    refine k_eqi (y := v2) hv2 ?_
    refine k_callVi (wr := [(aout, .inl (G.2.2.2.2, 1, .inr (.inl ((fun _ => 0))))), (x0, .inr (11, ofL 17 Fx0)), (x3, .inr (7, ofL 5 Fx3))]) (rest := []) li_L_157 C (c_X12_reaches l G H.size m0 v1 v2 Fm0 e_m0_1) (kR rfl) hP hD hS [0] [1, 2, 3] rfl rfl rfl rfl (by decide) 0 12 rfl rfl rfl hl.1 rfl (Nat.le_of_ble_eq_true rfl) dL_law_844 (fun rr22 uu23 H locs hw21 hP hD hS => ?_)
    rcases hw21 with ⟨rfl, rfl, c_24⟩ | ⟨rfl, rfl, c_25⟩
    ·
      have hP : va_P G.1 vwCl [(aout, .inl (G.2.2.2.2, 1, .inr (.inl ((fun _ => 0))))), (x0, .inr (11, ofL 17 Fx0)), (x3, .inr (7, ofL 5 Fx3)), (m0, .inr (12, ofL 88 (updV (updV Fm0 0 (.int 0)) 0 (.int 1))))] H := hP
      have hD : va_D A [(aout, .inl (G.2.2.2.2, 1, .inr (.inl ((fun _ => 0))))), (x0, .inr (11, ofL 17 Fx0)), (x3, .inr (7, ofL 5 Fx3)), (m0, .inr (12, ofL 88 (updV (updV Fm0 0 (.int 0)) 0 (.int 1))))] := hD
      refine lv_istore (lv' := [(6, .int 0), (5, .int 1), (0, .ref b), (1, .ref x0), (2, .ref m0), (3, .ref aout), (4, .int 0)]) hx hb dL_law_847 hl (by decide) rfl (fun ls hl => ?_)
      refine lv_aload_n hx hb dL_law_849 rfl (lv_at hl 4 rfl) ?_
      refine k_callVi (wr := [(aout, .inl (G.2.2.2.2, 1, .inr (.inl ((fun _ => 0))))), (x0, .inr (11, ofL 17 Fx0)), (x3, .inr (7, ofL 5 Fx3))]) (rest := []) li_L_118 C (c_X12_thrown l G H.size m0 (updV (updV Fm0 0 (.int 0)) 0 (.int 1)) 1 rfl) (kR rfl) hP hD hS [3] [0, 1, 2] rfl rfl rfl rfl (by decide) 0 12 rfl rfl rfl hl.1 rfl (Nat.le_of_ble_eq_true rfl) dL_law_850 (fun rr27 uu28 H locs hw26 hP hD hS => ?_)
      obtain rfl : rr27 = 1 := hw26
      have hP : va_P G.1 vwCl [(aout, .inl (G.2.2.2.2, 1, .inr (.inl ((fun _ => 0))))), (x0, .inr (11, ofL 17 Fx0)), (x3, .inr (7, ofL 5 Fx3)), (m0, .inr (12, ofL 88 (updV (updV Fm0 0 (.int 0)) 0 (.int 1))))] H := hP
      have hD : va_D A [(aout, .inl (G.2.2.2.2, 1, .inr (.inl ((fun _ => 0))))), (x0, .inr (11, ofL 17 Fx0)), (x3, .inr (7, ofL 5 Fx3)), (m0, .inr (12, ofL 88 (updV (updV Fm0 0 (.int 0)) 0 (.int 1))))] := hD
      refine lv_iload hx hb dL_law_853 (lv_at hl 1 rfl) ?_
      refine lv_icmp_eq (x := 1) (y := 1) (tgt := 860) hx hb dL_law_855 (by decide) (fun c_29 => ?_) (fun c_29 => ?_)
      rotate_left
      · exact absurd (by decide) c_29
      refine lv_iload hx hb dL_law_860 (lv_at hl 1 rfl) ?_
      refine lv_if_ne (x := 1) (tgt := 877) hx hb dL_law_862 (by decide) (fun c_30 => ?_) (fun c_30 => ?_)
      rotate_left
      · exact absurd c_30 (by decide)
      refine lv_goto (tgt := 2265) hx hb dL_law_877 (by decide) ?_
      exact law_end hst C0 hA C hS (lv_sub hl [2, 6] rfl) (Nat.le_of_ble_eq_true rfl) (Nat.le_of_ble_eq_true rfl)
    ·
      have hP : va_P G.1 vwCl [(aout, .inl (G.2.2.2.2, 1, .inr (.inl ((fun _ => 0))))), (x0, .inr (11, ofL 17 Fx0)), (x3, .inr (7, ofL 5 Fx3)), (m0, .inr (12, ofL 88 (updV (updV Fm0 0 (.int 0)) 0 (.int 1))))] H := hP
      have hD : va_D A [(aout, .inl (G.2.2.2.2, 1, .inr (.inl ((fun _ => 0))))), (x0, .inr (11, ofL 17 Fx0)), (x3, .inr (7, ofL 5 Fx3)), (m0, .inr (12, ofL 88 (updV (updV Fm0 0 (.int 0)) 0 (.int 1))))] := hD
      refine lv_istore (lv' := [(6, .int 0), (5, .int 1), (0, .ref b), (1, .ref x0), (2, .ref m0), (3, .ref aout), (4, .int 0)]) hx hb dL_law_847 hl (by decide) rfl (fun ls hl => ?_)
      refine lv_aload_n hx hb dL_law_849 rfl (lv_at hl 4 rfl) ?_
      refine k_callVi (wr := [(aout, .inl (G.2.2.2.2, 1, .inr (.inl ((fun _ => 0))))), (x0, .inr (11, ofL 17 Fx0)), (x3, .inr (7, ofL 5 Fx3))]) (rest := []) li_L_118 C (c_X12_thrown l G H.size m0 (updV (updV Fm0 0 (.int 0)) 0 (.int 1)) 1 rfl) (kR rfl) hP hD hS [3] [0, 1, 2] rfl rfl rfl rfl (by decide) 0 12 rfl rfl rfl hl.1 rfl (Nat.le_of_ble_eq_true rfl) dL_law_850 (fun rr32 uu33 H locs hw31 hP hD hS => ?_)
      obtain rfl : rr32 = 1 := hw31
      have hP : va_P G.1 vwCl [(aout, .inl (G.2.2.2.2, 1, .inr (.inl ((fun _ => 0))))), (x0, .inr (11, ofL 17 Fx0)), (x3, .inr (7, ofL 5 Fx3)), (m0, .inr (12, ofL 88 (updV (updV Fm0 0 (.int 0)) 0 (.int 1))))] H := hP
      have hD : va_D A [(aout, .inl (G.2.2.2.2, 1, .inr (.inl ((fun _ => 0))))), (x0, .inr (11, ofL 17 Fx0)), (x3, .inr (7, ofL 5 Fx3)), (m0, .inr (12, ofL 88 (updV (updV Fm0 0 (.int 0)) 0 (.int 1))))] := hD
      refine lv_iload hx hb dL_law_853 (lv_at hl 1 rfl) ?_
      refine lv_icmp_eq (x := 1) (y := 1) (tgt := 860) hx hb dL_law_855 (by decide) (fun c_34 => ?_) (fun c_34 => ?_)
      rotate_left
      · exact absurd (by decide) c_34
      refine lv_iload hx hb dL_law_860 (lv_at hl 1 rfl) ?_
      refine lv_if_ne (x := 1) (tgt := 877) hx hb dL_law_862 (by decide) (fun c_35 => ?_) (fun c_35 => ?_)
      rotate_left
      · exact absurd c_35 (by decide)
      refine lv_goto (tgt := 2265) hx hb dL_law_877 (by decide) ?_
      exact law_end hst C0 hA C hS (lv_sub hl [2, 6] rfl) (Nat.le_of_ble_eq_true rfl) (Nat.le_of_ble_eq_true rfl)
set_option maxHeartbeats 4000000 in
set_option maxRecDepth 100000 in
theorem law_12 {p : Program} {e : Env} {s : State} {m : MethodId} {below : List Frame} {meth : Method} {c : Code} {l : Launch} (hst : l.stackTraces = false) {b : Nat} {xs : Nat → Int32} {G : kG} {A : Nat → Prop} (C0 : lw_At p s m meth c b 6 xs) (hA : A = fun q : Nat => s.heap.size ≤ q) (C : kC G p s m c cL_law 8 RL A) {v1 : Int32} (hv1 : xs 1 = v1) {v2 : Int32} (hv2 : xs 2 = v2) {v3 : Int32} (hv3 : xs 3 = v3) {v4 : Int32} (hv4 : xs 4 = v4) {v5 : Int32} (hv5 : xs 5 = v5) {x0 : Nat} {Fx0 : Nat → Value} {x3 : Nat} {Fx3 : Nat → Value} {m0 : Nat} {Fm0 : Nat → Value} {aout : Nat} (e_x0_3 : Fx0 3 = .ref x3) (e_x3_2 : Fx3 2 = .int 0) (e_m0_1 : Fm0 1 = .int 0) {H : Heap} {locs : List Loc} {ls : Array Slot} (hP : va_P G.1 vwCl [(x0, .inr (11, ofL 17 Fx0)), (x3, .inr (7, ofL 5 Fx3)), (m0, .inr (12, ofL 88 Fm0)), (aout, .inl (G.2.2.2.2, 1, .inr (.inl (fun _ => 0))))] H) (hD : va_D A [(x0, .inr (11, ofL 17 Fx0)), (x3, .inr (7, ofL 5 Fx3)), (m0, .inr (12, ofL 88 Fm0)), (aout, .inl (G.2.2.2.2, 1, .inr (.inl (fun _ => 0))))]) (hS : va_S A s.heap H locs) (hl : lv_has ls 8 [(0, .ref b), (1, .ref x0), (2, .ref m0), (3, .ref aout), (4, .int 0)]) :
    W p l e room_1 s m #[Value.ref b] below meth c H locs 1000 20000 (lw_Z below #[Value.ref b] s) (F0 m 880 ls []) := by
  obtain ⟨hx, hb, hr, -, -, -, hX, hbl, hlocks, -⟩ := id C0
  have hbA : ¬ A b := by rw [hA]; exact Nat.not_le.mpr hbl
  refine lv_aload_n hx hb dL_law_880 rfl (lv_at hl 1 rfl) ?_
  refine lv_aload_n hx hb dL_law_881 rfl (lv_at hl 0 rfl) ?_
  refine lv_iload hx hb dL_law_882 (lv_at hl 4 rfl) ?_
  refine lv_iconst (v := 1) hx hb dL_law_884 (by decide) ?_
  refine lv_iadd hx hb dL_law_885 ?_
  refine k_eqi (y := 1) (by decide) ?_
  refine va_sld hx hb hX hbl hbA hS (k_in (by decide)) dL_law_886 ?_
  refine k_eqi (y := v1) hv1 ?_
  refine lv_aload_n hx hb dL_law_887 rfl (lv_at hl 3 rfl) ?_
  refine k_callHi (wr := [(m0, .inr (12, ofL 88 Fm0))]) (rest := []) li_L_158 C (c_L_slack l hst G H.size x0 v1 aout Fx0 x3 Fx3 (fun _ => 0) e_x0_3 e_x3_2) (kR rfl) hP hD hS [0, 1, 3] [2] rfl rfl rfl rfl (by decide) rfl hl.1 rfl (Nat.le_of_ble_eq_true rfl) dL_law_888 (fun rr2 uu3 H locs hw1 hP hD hS => ?_)
  rcases hw1 with ⟨rfl, rfl, c_4⟩ | ⟨rfl, rfl, c_5⟩
  ·
    have hP : va_P G.1 vwCl [(m0, .inr (12, ofL 88 Fm0)), (aout, .inl (G.2.2.2.2, 1, .inr (.inl ((fun _ => 0))))), (x0, .inr (11, ofL 17 Fx0)), (x3, .inr (7, ofL 5 Fx3))] H := hP
    have hD : va_D A [(m0, .inr (12, ofL 88 Fm0)), (aout, .inl (G.2.2.2.2, 1, .inr (.inl ((fun _ => 0))))), (x0, .inr (11, ofL 17 Fx0)), (x3, .inr (7, ofL 5 Fx3))] := hD
    refine lv_istore (lv' := [(5, .int 1), (0, .ref b), (1, .ref x0), (2, .ref m0), (3, .ref aout), (4, .int 0)]) hx hb dL_law_891 hl (by decide) rfl (fun ls hl => ?_)
    refine lv_aload_n hx hb dL_law_893 rfl (lv_at hl 3 rfl) ?_
    refine lv_aload_n hx hb dL_law_894 rfl (lv_at hl 1 rfl) ?_
    refine lv_iload hx hb dL_law_895 (lv_at hl 5 rfl) ?_
    refine lv_iconst (v := 1) hx hb dL_law_897 (by decide) ?_
    refine lv_iadd hx hb dL_law_898 ?_
    refine k_eqi (y := 1) (by decide) ?_
    refine va_sld hx hb hX hbl hbA hS (k_in (by decide)) dL_law_899 ?_
    refine k_eqi (y := v1) hv1 ?_
    refine k_callVi (wr := [(aout, .inl (G.2.2.2.2, 1, .inr (.inl ((fun _ => 0))))), (x0, .inr (11, ofL 17 Fx0)), (x3, .inr (7, ofL 5 Fx3))]) (rest := []) li_L_160 C (c_X12_slack l G H.size m0 v1 Fm0 e_m0_1) (kR rfl) hP hD hS [0] [1, 2, 3] rfl rfl rfl rfl (by decide) 0 12 rfl rfl rfl hl.1 rfl (Nat.le_of_ble_eq_true rfl) dL_law_900 (fun rr7 uu8 H locs hw6 hP hD hS => ?_)
    rcases hw6 with ⟨rfl, rfl, c_9⟩ | ⟨rfl, rfl, c_10⟩
    ·
      have hP : va_P G.1 vwCl [(aout, .inl (G.2.2.2.2, 1, .inr (.inl ((fun _ => 0))))), (x0, .inr (11, ofL 17 Fx0)), (x3, .inr (7, ofL 5 Fx3)), (m0, .inr (12, ofL 88 (updV (updV Fm0 0 (.int 0)) 0 (.int 1))))] H := hP
      have hD : va_D A [(aout, .inl (G.2.2.2.2, 1, .inr (.inl ((fun _ => 0))))), (x0, .inr (11, ofL 17 Fx0)), (x3, .inr (7, ofL 5 Fx3)), (m0, .inr (12, ofL 88 (updV (updV Fm0 0 (.int 0)) 0 (.int 1))))] := hD
      refine lv_istore (lv' := [(6, .int 0), (5, .int 1), (0, .ref b), (1, .ref x0), (2, .ref m0), (3, .ref aout), (4, .int 0)]) hx hb dL_law_903 hl (by decide) rfl (fun ls hl => ?_)
      refine lv_aload_n hx hb dL_law_905 rfl (lv_at hl 4 rfl) ?_
      refine k_callVi (wr := [(aout, .inl (G.2.2.2.2, 1, .inr (.inl ((fun _ => 0))))), (x0, .inr (11, ofL 17 Fx0)), (x3, .inr (7, ofL 5 Fx3))]) (rest := []) li_L_118 C (c_X12_thrown l G H.size m0 (updV (updV Fm0 0 (.int 0)) 0 (.int 1)) 1 rfl) (kR rfl) hP hD hS [3] [0, 1, 2] rfl rfl rfl rfl (by decide) 0 12 rfl rfl rfl hl.1 rfl (Nat.le_of_ble_eq_true rfl) dL_law_906 (fun rr12 uu13 H locs hw11 hP hD hS => ?_)
      obtain rfl : rr12 = 1 := hw11
      have hP : va_P G.1 vwCl [(aout, .inl (G.2.2.2.2, 1, .inr (.inl ((fun _ => 0))))), (x0, .inr (11, ofL 17 Fx0)), (x3, .inr (7, ofL 5 Fx3)), (m0, .inr (12, ofL 88 (updV (updV Fm0 0 (.int 0)) 0 (.int 1))))] H := hP
      have hD : va_D A [(aout, .inl (G.2.2.2.2, 1, .inr (.inl ((fun _ => 0))))), (x0, .inr (11, ofL 17 Fx0)), (x3, .inr (7, ofL 5 Fx3)), (m0, .inr (12, ofL 88 (updV (updV Fm0 0 (.int 0)) 0 (.int 1))))] := hD
      refine lv_iload hx hb dL_law_909 (lv_at hl 1 rfl) ?_
      refine lv_icmp_eq (x := 1) (y := 1) (tgt := 916) hx hb dL_law_911 (by decide) (fun c_14 => ?_) (fun c_14 => ?_)
      rotate_left
      · exact absurd (by decide) c_14
      refine lv_iload hx hb dL_law_916 (lv_at hl 1 rfl) ?_
      refine lv_if_ne (x := 1) (tgt := 933) hx hb dL_law_918 (by decide) (fun c_15 => ?_) (fun c_15 => ?_)
      rotate_left
      · exact absurd c_15 (by decide)
      refine lv_goto (tgt := 2265) hx hb dL_law_933 (by decide) ?_
      exact law_end hst C0 hA C hS (lv_sub hl [2, 6] rfl) (Nat.le_of_ble_eq_true rfl) (Nat.le_of_ble_eq_true rfl)
    ·
      have hP : va_P G.1 vwCl [(aout, .inl (G.2.2.2.2, 1, .inr (.inl ((fun _ => 0))))), (x0, .inr (11, ofL 17 Fx0)), (x3, .inr (7, ofL 5 Fx3)), (m0, .inr (12, ofL 88 (updV (updV Fm0 0 (.int 0)) 0 (.int 1))))] H := hP
      have hD : va_D A [(aout, .inl (G.2.2.2.2, 1, .inr (.inl ((fun _ => 0))))), (x0, .inr (11, ofL 17 Fx0)), (x3, .inr (7, ofL 5 Fx3)), (m0, .inr (12, ofL 88 (updV (updV Fm0 0 (.int 0)) 0 (.int 1))))] := hD
      refine lv_istore (lv' := [(6, .int 0), (5, .int 1), (0, .ref b), (1, .ref x0), (2, .ref m0), (3, .ref aout), (4, .int 0)]) hx hb dL_law_903 hl (by decide) rfl (fun ls hl => ?_)
      refine lv_aload_n hx hb dL_law_905 rfl (lv_at hl 4 rfl) ?_
      refine k_callVi (wr := [(aout, .inl (G.2.2.2.2, 1, .inr (.inl ((fun _ => 0))))), (x0, .inr (11, ofL 17 Fx0)), (x3, .inr (7, ofL 5 Fx3))]) (rest := []) li_L_118 C (c_X12_thrown l G H.size m0 (updV (updV Fm0 0 (.int 0)) 0 (.int 1)) 1 rfl) (kR rfl) hP hD hS [3] [0, 1, 2] rfl rfl rfl rfl (by decide) 0 12 rfl rfl rfl hl.1 rfl (Nat.le_of_ble_eq_true rfl) dL_law_906 (fun rr17 uu18 H locs hw16 hP hD hS => ?_)
      obtain rfl : rr17 = 1 := hw16
      have hP : va_P G.1 vwCl [(aout, .inl (G.2.2.2.2, 1, .inr (.inl ((fun _ => 0))))), (x0, .inr (11, ofL 17 Fx0)), (x3, .inr (7, ofL 5 Fx3)), (m0, .inr (12, ofL 88 (updV (updV Fm0 0 (.int 0)) 0 (.int 1))))] H := hP
      have hD : va_D A [(aout, .inl (G.2.2.2.2, 1, .inr (.inl ((fun _ => 0))))), (x0, .inr (11, ofL 17 Fx0)), (x3, .inr (7, ofL 5 Fx3)), (m0, .inr (12, ofL 88 (updV (updV Fm0 0 (.int 0)) 0 (.int 1))))] := hD
      refine lv_iload hx hb dL_law_909 (lv_at hl 1 rfl) ?_
      refine lv_icmp_eq (x := 1) (y := 1) (tgt := 916) hx hb dL_law_911 (by decide) (fun c_19 => ?_) (fun c_19 => ?_)
      rotate_left
      · exact absurd (by decide) c_19
      refine lv_iload hx hb dL_law_916 (lv_at hl 1 rfl) ?_
      refine lv_if_ne (x := 1) (tgt := 933) hx hb dL_law_918 (by decide) (fun c_20 => ?_) (fun c_20 => ?_)
      rotate_left
      · exact absurd c_20 (by decide)
      refine lv_goto (tgt := 2265) hx hb dL_law_933 (by decide) ?_
      exact law_end hst C0 hA C hS (lv_sub hl [2, 6] rfl) (Nat.le_of_ble_eq_true rfl) (Nat.le_of_ble_eq_true rfl)
  ·
    have hP : va_P G.1 vwCl [(m0, .inr (12, ofL 88 Fm0)), (aout, .inl (G.2.2.2.2, 1, .inr (.inl ((fun _ => 0))))), (x0, .inr (11, ofL 17 Fx0)), (x3, .inr (7, ofL 5 Fx3))] H := hP
    have hD : va_D A [(m0, .inr (12, ofL 88 Fm0)), (aout, .inl (G.2.2.2.2, 1, .inr (.inl ((fun _ => 0))))), (x0, .inr (11, ofL 17 Fx0)), (x3, .inr (7, ofL 5 Fx3))] := hD
    refine lv_istore (lv' := [(5, .int 1), (0, .ref b), (1, .ref x0), (2, .ref m0), (3, .ref aout), (4, .int 0)]) hx hb dL_law_891 hl (by decide) rfl (fun ls hl => ?_)
    refine lv_aload_n hx hb dL_law_893 rfl (lv_at hl 3 rfl) ?_
    refine lv_aload_n hx hb dL_law_894 rfl (lv_at hl 1 rfl) ?_
    refine lv_iload hx hb dL_law_895 (lv_at hl 5 rfl) ?_
    refine lv_iconst (v := 1) hx hb dL_law_897 (by decide) ?_
    refine lv_iadd hx hb dL_law_898 ?_
    refine k_eqi (y := 1) (by decide) ?_
    refine va_sld hx hb hX hbl hbA hS (k_in (by decide)) dL_law_899 ?_
    refine k_eqi (y := v1) hv1 ?_
    refine k_callVi (wr := [(aout, .inl (G.2.2.2.2, 1, .inr (.inl ((fun _ => 0))))), (x0, .inr (11, ofL 17 Fx0)), (x3, .inr (7, ofL 5 Fx3))]) (rest := []) li_L_160 C (c_X12_slack l G H.size m0 v1 Fm0 e_m0_1) (kR rfl) hP hD hS [0] [1, 2, 3] rfl rfl rfl rfl (by decide) 0 12 rfl rfl rfl hl.1 rfl (Nat.le_of_ble_eq_true rfl) dL_law_900 (fun rr22 uu23 H locs hw21 hP hD hS => ?_)
    rcases hw21 with ⟨rfl, rfl, c_24⟩ | ⟨rfl, rfl, c_25⟩
    ·
      have hP : va_P G.1 vwCl [(aout, .inl (G.2.2.2.2, 1, .inr (.inl ((fun _ => 0))))), (x0, .inr (11, ofL 17 Fx0)), (x3, .inr (7, ofL 5 Fx3)), (m0, .inr (12, ofL 88 (updV (updV Fm0 0 (.int 0)) 0 (.int 1))))] H := hP
      have hD : va_D A [(aout, .inl (G.2.2.2.2, 1, .inr (.inl ((fun _ => 0))))), (x0, .inr (11, ofL 17 Fx0)), (x3, .inr (7, ofL 5 Fx3)), (m0, .inr (12, ofL 88 (updV (updV Fm0 0 (.int 0)) 0 (.int 1))))] := hD
      refine lv_istore (lv' := [(6, .int 0), (5, .int 1), (0, .ref b), (1, .ref x0), (2, .ref m0), (3, .ref aout), (4, .int 0)]) hx hb dL_law_903 hl (by decide) rfl (fun ls hl => ?_)
      refine lv_aload_n hx hb dL_law_905 rfl (lv_at hl 4 rfl) ?_
      refine k_callVi (wr := [(aout, .inl (G.2.2.2.2, 1, .inr (.inl ((fun _ => 0))))), (x0, .inr (11, ofL 17 Fx0)), (x3, .inr (7, ofL 5 Fx3))]) (rest := []) li_L_118 C (c_X12_thrown l G H.size m0 (updV (updV Fm0 0 (.int 0)) 0 (.int 1)) 1 rfl) (kR rfl) hP hD hS [3] [0, 1, 2] rfl rfl rfl rfl (by decide) 0 12 rfl rfl rfl hl.1 rfl (Nat.le_of_ble_eq_true rfl) dL_law_906 (fun rr27 uu28 H locs hw26 hP hD hS => ?_)
      obtain rfl : rr27 = 1 := hw26
      have hP : va_P G.1 vwCl [(aout, .inl (G.2.2.2.2, 1, .inr (.inl ((fun _ => 0))))), (x0, .inr (11, ofL 17 Fx0)), (x3, .inr (7, ofL 5 Fx3)), (m0, .inr (12, ofL 88 (updV (updV Fm0 0 (.int 0)) 0 (.int 1))))] H := hP
      have hD : va_D A [(aout, .inl (G.2.2.2.2, 1, .inr (.inl ((fun _ => 0))))), (x0, .inr (11, ofL 17 Fx0)), (x3, .inr (7, ofL 5 Fx3)), (m0, .inr (12, ofL 88 (updV (updV Fm0 0 (.int 0)) 0 (.int 1))))] := hD
      refine lv_iload hx hb dL_law_909 (lv_at hl 1 rfl) ?_
      refine lv_icmp_eq (x := 1) (y := 1) (tgt := 916) hx hb dL_law_911 (by decide) (fun c_29 => ?_) (fun c_29 => ?_)
      rotate_left
      · exact absurd (by decide) c_29
      refine lv_iload hx hb dL_law_916 (lv_at hl 1 rfl) ?_
      refine lv_if_ne (x := 1) (tgt := 933) hx hb dL_law_918 (by decide) (fun c_30 => ?_) (fun c_30 => ?_)
      rotate_left
      · exact absurd c_30 (by decide)
      refine lv_goto (tgt := 2265) hx hb dL_law_933 (by decide) ?_
      exact law_end hst C0 hA C hS (lv_sub hl [2, 6] rfl) (Nat.le_of_ble_eq_true rfl) (Nat.le_of_ble_eq_true rfl)
    ·
      have hP : va_P G.1 vwCl [(aout, .inl (G.2.2.2.2, 1, .inr (.inl ((fun _ => 0))))), (x0, .inr (11, ofL 17 Fx0)), (x3, .inr (7, ofL 5 Fx3)), (m0, .inr (12, ofL 88 (updV (updV Fm0 0 (.int 0)) 0 (.int 1))))] H := hP
      have hD : va_D A [(aout, .inl (G.2.2.2.2, 1, .inr (.inl ((fun _ => 0))))), (x0, .inr (11, ofL 17 Fx0)), (x3, .inr (7, ofL 5 Fx3)), (m0, .inr (12, ofL 88 (updV (updV Fm0 0 (.int 0)) 0 (.int 1))))] := hD
      refine lv_istore (lv' := [(6, .int 0), (5, .int 1), (0, .ref b), (1, .ref x0), (2, .ref m0), (3, .ref aout), (4, .int 0)]) hx hb dL_law_903 hl (by decide) rfl (fun ls hl => ?_)
      refine lv_aload_n hx hb dL_law_905 rfl (lv_at hl 4 rfl) ?_
      refine k_callVi (wr := [(aout, .inl (G.2.2.2.2, 1, .inr (.inl ((fun _ => 0))))), (x0, .inr (11, ofL 17 Fx0)), (x3, .inr (7, ofL 5 Fx3))]) (rest := []) li_L_118 C (c_X12_thrown l G H.size m0 (updV (updV Fm0 0 (.int 0)) 0 (.int 1)) 1 rfl) (kR rfl) hP hD hS [3] [0, 1, 2] rfl rfl rfl rfl (by decide) 0 12 rfl rfl rfl hl.1 rfl (Nat.le_of_ble_eq_true rfl) dL_law_906 (fun rr32 uu33 H locs hw31 hP hD hS => ?_)
      obtain rfl : rr32 = 1 := hw31
      have hP : va_P G.1 vwCl [(aout, .inl (G.2.2.2.2, 1, .inr (.inl ((fun _ => 0))))), (x0, .inr (11, ofL 17 Fx0)), (x3, .inr (7, ofL 5 Fx3)), (m0, .inr (12, ofL 88 (updV (updV Fm0 0 (.int 0)) 0 (.int 1))))] H := hP
      have hD : va_D A [(aout, .inl (G.2.2.2.2, 1, .inr (.inl ((fun _ => 0))))), (x0, .inr (11, ofL 17 Fx0)), (x3, .inr (7, ofL 5 Fx3)), (m0, .inr (12, ofL 88 (updV (updV Fm0 0 (.int 0)) 0 (.int 1))))] := hD
      refine lv_iload hx hb dL_law_909 (lv_at hl 1 rfl) ?_
      refine lv_icmp_eq (x := 1) (y := 1) (tgt := 916) hx hb dL_law_911 (by decide) (fun c_34 => ?_) (fun c_34 => ?_)
      rotate_left
      · exact absurd (by decide) c_34
      refine lv_iload hx hb dL_law_916 (lv_at hl 1 rfl) ?_
      refine lv_if_ne (x := 1) (tgt := 933) hx hb dL_law_918 (by decide) (fun c_35 => ?_) (fun c_35 => ?_)
      rotate_left
      · exact absurd c_35 (by decide)
      refine lv_goto (tgt := 2265) hx hb dL_law_933 (by decide) ?_
      exact law_end hst C0 hA C hS (lv_sub hl [2, 6] rfl) (Nat.le_of_ble_eq_true rfl) (Nat.le_of_ble_eq_true rfl)
set_option maxHeartbeats 4000000 in
set_option maxRecDepth 100000 in
theorem law_13 {p : Program} {e : Env} {s : State} {m : MethodId} {below : List Frame} {meth : Method} {c : Code} {l : Launch} (hst : l.stackTraces = false) {b : Nat} {xs : Nat → Int32} {G : kG} {A : Nat → Prop} (C0 : lw_At p s m meth c b 6 xs) (hA : A = fun q : Nat => s.heap.size ≤ q) (C : kC G p s m c cL_law 8 RL A) {v1 : Int32} (hv1 : xs 1 = v1) {v2 : Int32} (hv2 : xs 2 = v2) {v3 : Int32} (hv3 : xs 3 = v3) {v4 : Int32} (hv4 : xs 4 = v4) {v5 : Int32} (hv5 : xs 5 = v5) {x0 : Nat} {Fx0 : Nat → Value} {x3 : Nat} {Fx3 : Nat → Value} {m0 : Nat} {Fm0 : Nat → Value} {aout : Nat} (e_x0_3 : Fx0 3 = .ref x3) (e_x3_2 : Fx3 2 = .int 0) (e_m0_1 : Fm0 1 = .int 0) {H : Heap} {locs : List Loc} {ls : Array Slot} (hP : va_P G.1 vwCl [(x0, .inr (11, ofL 17 Fx0)), (x3, .inr (7, ofL 5 Fx3)), (m0, .inr (12, ofL 88 Fm0)), (aout, .inl (G.2.2.2.2, 1, .inr (.inl (fun _ => 0))))] H) (hD : va_D A [(x0, .inr (11, ofL 17 Fx0)), (x3, .inr (7, ofL 5 Fx3)), (m0, .inr (12, ofL 88 Fm0)), (aout, .inl (G.2.2.2.2, 1, .inr (.inl (fun _ => 0))))]) (hS : va_S A s.heap H locs) (hl : lv_has ls 8 [(0, .ref b), (1, .ref x0), (2, .ref m0), (3, .ref aout), (4, .int 0)]) :
    W p l e room_1 s m #[Value.ref b] below meth c H locs 1000 20000 (lw_Z below #[Value.ref b] s) (F0 m 936 ls []) := by
  obtain ⟨hx, hb, hr, -, -, -, hX, hbl, hlocks, -⟩ := id C0
  have hbA : ¬ A b := by rw [hA]; exact Nat.not_le.mpr hbl
  refine lv_aload_n hx hb dL_law_936 rfl (lv_at hl 1 rfl) ?_
  refine lv_aload_n hx hb dL_law_937 rfl (lv_at hl 0 rfl) ?_
  refine lv_iload hx hb dL_law_938 (lv_at hl 4 rfl) ?_
  refine lv_iconst (v := 1) hx hb dL_law_940 (by decide) ?_
  refine lv_iadd hx hb dL_law_941 ?_
  refine k_eqi (y := 1) (by decide) ?_
  refine va_sld hx hb hX hbl hbA hS (k_in (by decide)) dL_law_942 ?_
  refine k_eqi (y := v1) hv1 ?_
  refine lv_aload_n hx hb dL_law_943 rfl (lv_at hl 0 rfl) ?_
  refine lv_iload hx hb dL_law_944 (lv_at hl 4 rfl) ?_
  refine lv_iconst (v := 2) hx hb dL_law_946 (by decide) ?_
  refine lv_iadd hx hb dL_law_947 ?_
  refine k_eqi (y := 2) (by decide) ?_
  refine va_sld hx hb hX hbl hbA hS (k_in (by decide)) dL_law_948 ?_
  refine k_eqi (y := v2) hv2 ?_
  refine lv_aload_n hx hb dL_law_949 rfl (lv_at hl 0 rfl) ?_
  refine lv_iload hx hb dL_law_950 (lv_at hl 4 rfl) ?_
  refine lv_iconst (v := 3) hx hb dL_law_952 (by decide) ?_
  refine lv_iadd hx hb dL_law_953 ?_
  refine k_eqi (y := 3) (by decide) ?_
  refine va_sld hx hb hX hbl hbA hS (k_in (by decide)) dL_law_954 ?_
  refine k_eqi (y := v3) hv3 ?_
  refine lv_aload_n hx hb dL_law_955 rfl (lv_at hl 3 rfl) ?_
  refine k_callHi (wr := [(m0, .inr (12, ofL 88 Fm0))]) (rest := []) li_L_161 C (c_L_gaps l hst G H.size x0 v1 v2 v3 aout Fx0 x3 Fx3 (fun _ => 0) e_x0_3 e_x3_2) (kR rfl) hP hD hS [0, 1, 3] [2] rfl rfl rfl rfl (by decide) rfl hl.1 rfl (Nat.le_of_ble_eq_true rfl) dL_law_956 (fun rr2 uu3 H locs hw1 hP hD hS => ?_)
  rcases hw1 with ⟨rfl, rfl, c_4⟩ | ⟨rfl, rfl, c_5⟩
  ·
    have hP : va_P G.1 vwCl [(m0, .inr (12, ofL 88 Fm0)), (aout, .inl (G.2.2.2.2, 1, .inr (.inl ((fun _ => 0))))), (x0, .inr (11, ofL 17 Fx0)), (x3, .inr (7, ofL 5 Fx3))] H := hP
    have hD : va_D A [(m0, .inr (12, ofL 88 Fm0)), (aout, .inl (G.2.2.2.2, 1, .inr (.inl ((fun _ => 0))))), (x0, .inr (11, ofL 17 Fx0)), (x3, .inr (7, ofL 5 Fx3))] := hD
    refine lv_istore (lv' := [(5, .int 1), (0, .ref b), (1, .ref x0), (2, .ref m0), (3, .ref aout), (4, .int 0)]) hx hb dL_law_959 hl (by decide) rfl (fun ls hl => ?_)
    refine lv_aload_n hx hb dL_law_961 rfl (lv_at hl 3 rfl) ?_
    refine lv_aload_n hx hb dL_law_962 rfl (lv_at hl 1 rfl) ?_
    refine lv_iload hx hb dL_law_963 (lv_at hl 5 rfl) ?_
    refine lv_iconst (v := 1) hx hb dL_law_965 (by decide) ?_
    refine lv_iadd hx hb dL_law_966 ?_
    refine k_eqi (y := 1) (by decide) ?_
    refine va_sld hx hb hX hbl hbA hS (k_in (by decide)) dL_law_967 ?_
    refine k_eqi (y := v1) hv1 ?_
    refine lv_aload_n hx hb dL_law_968 rfl (lv_at hl 1 rfl) ?_
    refine lv_iload hx hb dL_law_969 (lv_at hl 5 rfl) ?_
    refine lv_iconst (v := 2) hx hb dL_law_971 (by decide) ?_
    refine lv_iadd hx hb dL_law_972 ?_
    refine k_eqi (y := 2) (by decide) ?_
    refine va_sld hx hb hX hbl hbA hS (k_in (by decide)) dL_law_973 ?_
    refine k_eqi (y := v2) hv2 ?_
    refine lv_aload_n hx hb dL_law_974 rfl (lv_at hl 1 rfl) ?_
    refine lv_iload hx hb dL_law_975 (lv_at hl 5 rfl) ?_
    refine lv_iconst (v := 3) hx hb dL_law_977 (by decide) ?_
    refine lv_iadd hx hb dL_law_978 ?_
    refine k_eqi (y := 3) (by decide) ?_
    refine va_sld hx hb hX hbl hbA hS (k_in (by decide)) dL_law_979 ?_
    refine k_eqi (y := v3) hv3 ?_
    refine k_callVi (wr := [(aout, .inl (G.2.2.2.2, 1, .inr (.inl ((fun _ => 0))))), (x0, .inr (11, ofL 17 Fx0)), (x3, .inr (7, ofL 5 Fx3))]) (rest := []) li_L_163 C (c_X12_gaps l G H.size m0 v1 v2 v3 Fm0 e_m0_1) (kR rfl) hP hD hS [0] [1, 2, 3] rfl rfl rfl rfl (by decide) 0 12 rfl rfl rfl hl.1 rfl (Nat.le_of_ble_eq_true rfl) dL_law_980 (fun rr7 uu8 H locs hw6 hP hD hS => ?_)
    rcases hw6 with ⟨rfl, rfl, c_9⟩ | ⟨rfl, rfl, c_10⟩
    ·
      have hP : va_P G.1 vwCl [(aout, .inl (G.2.2.2.2, 1, .inr (.inl ((fun _ => 0))))), (x0, .inr (11, ofL 17 Fx0)), (x3, .inr (7, ofL 5 Fx3)), (m0, .inr (12, ofL 88 (updV (updV Fm0 0 (.int 0)) 0 (.int 1))))] H := hP
      have hD : va_D A [(aout, .inl (G.2.2.2.2, 1, .inr (.inl ((fun _ => 0))))), (x0, .inr (11, ofL 17 Fx0)), (x3, .inr (7, ofL 5 Fx3)), (m0, .inr (12, ofL 88 (updV (updV Fm0 0 (.int 0)) 0 (.int 1))))] := hD
      refine lv_istore (lv' := [(6, .int 0), (5, .int 1), (0, .ref b), (1, .ref x0), (2, .ref m0), (3, .ref aout), (4, .int 0)]) hx hb dL_law_983 hl (by decide) rfl (fun ls hl => ?_)
      refine lv_aload_n hx hb dL_law_985 rfl (lv_at hl 4 rfl) ?_
      refine k_callVi (wr := [(aout, .inl (G.2.2.2.2, 1, .inr (.inl ((fun _ => 0))))), (x0, .inr (11, ofL 17 Fx0)), (x3, .inr (7, ofL 5 Fx3))]) (rest := []) li_L_118 C (c_X12_thrown l G H.size m0 (updV (updV Fm0 0 (.int 0)) 0 (.int 1)) 1 rfl) (kR rfl) hP hD hS [3] [0, 1, 2] rfl rfl rfl rfl (by decide) 0 12 rfl rfl rfl hl.1 rfl (Nat.le_of_ble_eq_true rfl) dL_law_986 (fun rr12 uu13 H locs hw11 hP hD hS => ?_)
      obtain rfl : rr12 = 1 := hw11
      have hP : va_P G.1 vwCl [(aout, .inl (G.2.2.2.2, 1, .inr (.inl ((fun _ => 0))))), (x0, .inr (11, ofL 17 Fx0)), (x3, .inr (7, ofL 5 Fx3)), (m0, .inr (12, ofL 88 (updV (updV Fm0 0 (.int 0)) 0 (.int 1))))] H := hP
      have hD : va_D A [(aout, .inl (G.2.2.2.2, 1, .inr (.inl ((fun _ => 0))))), (x0, .inr (11, ofL 17 Fx0)), (x3, .inr (7, ofL 5 Fx3)), (m0, .inr (12, ofL 88 (updV (updV Fm0 0 (.int 0)) 0 (.int 1))))] := hD
      refine lv_iload hx hb dL_law_989 (lv_at hl 1 rfl) ?_
      refine lv_icmp_eq (x := 1) (y := 1) (tgt := 996) hx hb dL_law_991 (by decide) (fun c_14 => ?_) (fun c_14 => ?_)
      rotate_left
      · exact absurd (by decide) c_14
      refine lv_iload hx hb dL_law_996 (lv_at hl 1 rfl) ?_
      refine lv_if_ne (x := 1) (tgt := 1013) hx hb dL_law_998 (by decide) (fun c_15 => ?_) (fun c_15 => ?_)
      rotate_left
      · exact absurd c_15 (by decide)
      refine lv_goto (tgt := 2265) hx hb dL_law_1013 (by decide) ?_
      exact law_end hst C0 hA C hS (lv_sub hl [2, 6] rfl) (Nat.le_of_ble_eq_true rfl) (Nat.le_of_ble_eq_true rfl)
    ·
      have hP : va_P G.1 vwCl [(aout, .inl (G.2.2.2.2, 1, .inr (.inl ((fun _ => 0))))), (x0, .inr (11, ofL 17 Fx0)), (x3, .inr (7, ofL 5 Fx3)), (m0, .inr (12, ofL 88 (updV (updV Fm0 0 (.int 0)) 0 (.int 1))))] H := hP
      have hD : va_D A [(aout, .inl (G.2.2.2.2, 1, .inr (.inl ((fun _ => 0))))), (x0, .inr (11, ofL 17 Fx0)), (x3, .inr (7, ofL 5 Fx3)), (m0, .inr (12, ofL 88 (updV (updV Fm0 0 (.int 0)) 0 (.int 1))))] := hD
      refine lv_istore (lv' := [(6, .int 0), (5, .int 1), (0, .ref b), (1, .ref x0), (2, .ref m0), (3, .ref aout), (4, .int 0)]) hx hb dL_law_983 hl (by decide) rfl (fun ls hl => ?_)
      refine lv_aload_n hx hb dL_law_985 rfl (lv_at hl 4 rfl) ?_
      refine k_callVi (wr := [(aout, .inl (G.2.2.2.2, 1, .inr (.inl ((fun _ => 0))))), (x0, .inr (11, ofL 17 Fx0)), (x3, .inr (7, ofL 5 Fx3))]) (rest := []) li_L_118 C (c_X12_thrown l G H.size m0 (updV (updV Fm0 0 (.int 0)) 0 (.int 1)) 1 rfl) (kR rfl) hP hD hS [3] [0, 1, 2] rfl rfl rfl rfl (by decide) 0 12 rfl rfl rfl hl.1 rfl (Nat.le_of_ble_eq_true rfl) dL_law_986 (fun rr17 uu18 H locs hw16 hP hD hS => ?_)
      obtain rfl : rr17 = 1 := hw16
      have hP : va_P G.1 vwCl [(aout, .inl (G.2.2.2.2, 1, .inr (.inl ((fun _ => 0))))), (x0, .inr (11, ofL 17 Fx0)), (x3, .inr (7, ofL 5 Fx3)), (m0, .inr (12, ofL 88 (updV (updV Fm0 0 (.int 0)) 0 (.int 1))))] H := hP
      have hD : va_D A [(aout, .inl (G.2.2.2.2, 1, .inr (.inl ((fun _ => 0))))), (x0, .inr (11, ofL 17 Fx0)), (x3, .inr (7, ofL 5 Fx3)), (m0, .inr (12, ofL 88 (updV (updV Fm0 0 (.int 0)) 0 (.int 1))))] := hD
      refine lv_iload hx hb dL_law_989 (lv_at hl 1 rfl) ?_
      refine lv_icmp_eq (x := 1) (y := 1) (tgt := 996) hx hb dL_law_991 (by decide) (fun c_19 => ?_) (fun c_19 => ?_)
      rotate_left
      · exact absurd (by decide) c_19
      refine lv_iload hx hb dL_law_996 (lv_at hl 1 rfl) ?_
      refine lv_if_ne (x := 1) (tgt := 1013) hx hb dL_law_998 (by decide) (fun c_20 => ?_) (fun c_20 => ?_)
      rotate_left
      · exact absurd c_20 (by decide)
      refine lv_goto (tgt := 2265) hx hb dL_law_1013 (by decide) ?_
      exact law_end hst C0 hA C hS (lv_sub hl [2, 6] rfl) (Nat.le_of_ble_eq_true rfl) (Nat.le_of_ble_eq_true rfl)
  ·
    have hP : va_P G.1 vwCl [(m0, .inr (12, ofL 88 Fm0)), (aout, .inl (G.2.2.2.2, 1, .inr (.inl ((fun _ => 0))))), (x0, .inr (11, ofL 17 Fx0)), (x3, .inr (7, ofL 5 Fx3))] H := hP
    have hD : va_D A [(m0, .inr (12, ofL 88 Fm0)), (aout, .inl (G.2.2.2.2, 1, .inr (.inl ((fun _ => 0))))), (x0, .inr (11, ofL 17 Fx0)), (x3, .inr (7, ofL 5 Fx3))] := hD
    refine lv_istore (lv' := [(5, .int 1), (0, .ref b), (1, .ref x0), (2, .ref m0), (3, .ref aout), (4, .int 0)]) hx hb dL_law_959 hl (by decide) rfl (fun ls hl => ?_)
    refine lv_aload_n hx hb dL_law_961 rfl (lv_at hl 3 rfl) ?_
    refine lv_aload_n hx hb dL_law_962 rfl (lv_at hl 1 rfl) ?_
    refine lv_iload hx hb dL_law_963 (lv_at hl 5 rfl) ?_
    refine lv_iconst (v := 1) hx hb dL_law_965 (by decide) ?_
    refine lv_iadd hx hb dL_law_966 ?_
    refine k_eqi (y := 1) (by decide) ?_
    refine va_sld hx hb hX hbl hbA hS (k_in (by decide)) dL_law_967 ?_
    refine k_eqi (y := v1) hv1 ?_
    refine lv_aload_n hx hb dL_law_968 rfl (lv_at hl 1 rfl) ?_
    refine lv_iload hx hb dL_law_969 (lv_at hl 5 rfl) ?_
    refine lv_iconst (v := 2) hx hb dL_law_971 (by decide) ?_
    refine lv_iadd hx hb dL_law_972 ?_
    refine k_eqi (y := 2) (by decide) ?_
    refine va_sld hx hb hX hbl hbA hS (k_in (by decide)) dL_law_973 ?_
    refine k_eqi (y := v2) hv2 ?_
    refine lv_aload_n hx hb dL_law_974 rfl (lv_at hl 1 rfl) ?_
    refine lv_iload hx hb dL_law_975 (lv_at hl 5 rfl) ?_
    refine lv_iconst (v := 3) hx hb dL_law_977 (by decide) ?_
    refine lv_iadd hx hb dL_law_978 ?_
    refine k_eqi (y := 3) (by decide) ?_
    refine va_sld hx hb hX hbl hbA hS (k_in (by decide)) dL_law_979 ?_
    refine k_eqi (y := v3) hv3 ?_
    refine k_callVi (wr := [(aout, .inl (G.2.2.2.2, 1, .inr (.inl ((fun _ => 0))))), (x0, .inr (11, ofL 17 Fx0)), (x3, .inr (7, ofL 5 Fx3))]) (rest := []) li_L_163 C (c_X12_gaps l G H.size m0 v1 v2 v3 Fm0 e_m0_1) (kR rfl) hP hD hS [0] [1, 2, 3] rfl rfl rfl rfl (by decide) 0 12 rfl rfl rfl hl.1 rfl (Nat.le_of_ble_eq_true rfl) dL_law_980 (fun rr22 uu23 H locs hw21 hP hD hS => ?_)
    rcases hw21 with ⟨rfl, rfl, c_24⟩ | ⟨rfl, rfl, c_25⟩
    ·
      have hP : va_P G.1 vwCl [(aout, .inl (G.2.2.2.2, 1, .inr (.inl ((fun _ => 0))))), (x0, .inr (11, ofL 17 Fx0)), (x3, .inr (7, ofL 5 Fx3)), (m0, .inr (12, ofL 88 (updV (updV Fm0 0 (.int 0)) 0 (.int 1))))] H := hP
      have hD : va_D A [(aout, .inl (G.2.2.2.2, 1, .inr (.inl ((fun _ => 0))))), (x0, .inr (11, ofL 17 Fx0)), (x3, .inr (7, ofL 5 Fx3)), (m0, .inr (12, ofL 88 (updV (updV Fm0 0 (.int 0)) 0 (.int 1))))] := hD
      refine lv_istore (lv' := [(6, .int 0), (5, .int 1), (0, .ref b), (1, .ref x0), (2, .ref m0), (3, .ref aout), (4, .int 0)]) hx hb dL_law_983 hl (by decide) rfl (fun ls hl => ?_)
      refine lv_aload_n hx hb dL_law_985 rfl (lv_at hl 4 rfl) ?_
      refine k_callVi (wr := [(aout, .inl (G.2.2.2.2, 1, .inr (.inl ((fun _ => 0))))), (x0, .inr (11, ofL 17 Fx0)), (x3, .inr (7, ofL 5 Fx3))]) (rest := []) li_L_118 C (c_X12_thrown l G H.size m0 (updV (updV Fm0 0 (.int 0)) 0 (.int 1)) 1 rfl) (kR rfl) hP hD hS [3] [0, 1, 2] rfl rfl rfl rfl (by decide) 0 12 rfl rfl rfl hl.1 rfl (Nat.le_of_ble_eq_true rfl) dL_law_986 (fun rr27 uu28 H locs hw26 hP hD hS => ?_)
      obtain rfl : rr27 = 1 := hw26
      have hP : va_P G.1 vwCl [(aout, .inl (G.2.2.2.2, 1, .inr (.inl ((fun _ => 0))))), (x0, .inr (11, ofL 17 Fx0)), (x3, .inr (7, ofL 5 Fx3)), (m0, .inr (12, ofL 88 (updV (updV Fm0 0 (.int 0)) 0 (.int 1))))] H := hP
      have hD : va_D A [(aout, .inl (G.2.2.2.2, 1, .inr (.inl ((fun _ => 0))))), (x0, .inr (11, ofL 17 Fx0)), (x3, .inr (7, ofL 5 Fx3)), (m0, .inr (12, ofL 88 (updV (updV Fm0 0 (.int 0)) 0 (.int 1))))] := hD
      refine lv_iload hx hb dL_law_989 (lv_at hl 1 rfl) ?_
      refine lv_icmp_eq (x := 1) (y := 1) (tgt := 996) hx hb dL_law_991 (by decide) (fun c_29 => ?_) (fun c_29 => ?_)
      rotate_left
      · exact absurd (by decide) c_29
      refine lv_iload hx hb dL_law_996 (lv_at hl 1 rfl) ?_
      refine lv_if_ne (x := 1) (tgt := 1013) hx hb dL_law_998 (by decide) (fun c_30 => ?_) (fun c_30 => ?_)
      rotate_left
      · exact absurd c_30 (by decide)
      refine lv_goto (tgt := 2265) hx hb dL_law_1013 (by decide) ?_
      exact law_end hst C0 hA C hS (lv_sub hl [2, 6] rfl) (Nat.le_of_ble_eq_true rfl) (Nat.le_of_ble_eq_true rfl)
    ·
      have hP : va_P G.1 vwCl [(aout, .inl (G.2.2.2.2, 1, .inr (.inl ((fun _ => 0))))), (x0, .inr (11, ofL 17 Fx0)), (x3, .inr (7, ofL 5 Fx3)), (m0, .inr (12, ofL 88 (updV (updV Fm0 0 (.int 0)) 0 (.int 1))))] H := hP
      have hD : va_D A [(aout, .inl (G.2.2.2.2, 1, .inr (.inl ((fun _ => 0))))), (x0, .inr (11, ofL 17 Fx0)), (x3, .inr (7, ofL 5 Fx3)), (m0, .inr (12, ofL 88 (updV (updV Fm0 0 (.int 0)) 0 (.int 1))))] := hD
      refine lv_istore (lv' := [(6, .int 0), (5, .int 1), (0, .ref b), (1, .ref x0), (2, .ref m0), (3, .ref aout), (4, .int 0)]) hx hb dL_law_983 hl (by decide) rfl (fun ls hl => ?_)
      refine lv_aload_n hx hb dL_law_985 rfl (lv_at hl 4 rfl) ?_
      refine k_callVi (wr := [(aout, .inl (G.2.2.2.2, 1, .inr (.inl ((fun _ => 0))))), (x0, .inr (11, ofL 17 Fx0)), (x3, .inr (7, ofL 5 Fx3))]) (rest := []) li_L_118 C (c_X12_thrown l G H.size m0 (updV (updV Fm0 0 (.int 0)) 0 (.int 1)) 1 rfl) (kR rfl) hP hD hS [3] [0, 1, 2] rfl rfl rfl rfl (by decide) 0 12 rfl rfl rfl hl.1 rfl (Nat.le_of_ble_eq_true rfl) dL_law_986 (fun rr32 uu33 H locs hw31 hP hD hS => ?_)
      obtain rfl : rr32 = 1 := hw31
      have hP : va_P G.1 vwCl [(aout, .inl (G.2.2.2.2, 1, .inr (.inl ((fun _ => 0))))), (x0, .inr (11, ofL 17 Fx0)), (x3, .inr (7, ofL 5 Fx3)), (m0, .inr (12, ofL 88 (updV (updV Fm0 0 (.int 0)) 0 (.int 1))))] H := hP
      have hD : va_D A [(aout, .inl (G.2.2.2.2, 1, .inr (.inl ((fun _ => 0))))), (x0, .inr (11, ofL 17 Fx0)), (x3, .inr (7, ofL 5 Fx3)), (m0, .inr (12, ofL 88 (updV (updV Fm0 0 (.int 0)) 0 (.int 1))))] := hD
      refine lv_iload hx hb dL_law_989 (lv_at hl 1 rfl) ?_
      refine lv_icmp_eq (x := 1) (y := 1) (tgt := 996) hx hb dL_law_991 (by decide) (fun c_34 => ?_) (fun c_34 => ?_)
      rotate_left
      · exact absurd (by decide) c_34
      refine lv_iload hx hb dL_law_996 (lv_at hl 1 rfl) ?_
      refine lv_if_ne (x := 1) (tgt := 1013) hx hb dL_law_998 (by decide) (fun c_35 => ?_) (fun c_35 => ?_)
      rotate_left
      · exact absurd c_35 (by decide)
      refine lv_goto (tgt := 2265) hx hb dL_law_1013 (by decide) ?_
      exact law_end hst C0 hA C hS (lv_sub hl [2, 6] rfl) (Nat.le_of_ble_eq_true rfl) (Nat.le_of_ble_eq_true rfl)
set_option maxHeartbeats 4000000 in
set_option maxRecDepth 100000 in
theorem law_14 {p : Program} {e : Env} {s : State} {m : MethodId} {below : List Frame} {meth : Method} {c : Code} {l : Launch} (hst : l.stackTraces = false) {b : Nat} {xs : Nat → Int32} {G : kG} {A : Nat → Prop} (C0 : lw_At p s m meth c b 6 xs) (hA : A = fun q : Nat => s.heap.size ≤ q) (C : kC G p s m c cL_law 8 RL A) {v1 : Int32} (hv1 : xs 1 = v1) {v2 : Int32} (hv2 : xs 2 = v2) {v3 : Int32} (hv3 : xs 3 = v3) {v4 : Int32} (hv4 : xs 4 = v4) {v5 : Int32} (hv5 : xs 5 = v5) {x0 : Nat} {Fx0 : Nat → Value} {x3 : Nat} {Fx3 : Nat → Value} {m0 : Nat} {Fm0 : Nat → Value} {aout : Nat} (e_x0_3 : Fx0 3 = .ref x3) (e_x3_2 : Fx3 2 = .int 0) (e_m0_1 : Fm0 1 = .int 0) {H : Heap} {locs : List Loc} {ls : Array Slot} (hP : va_P G.1 vwCl [(x0, .inr (11, ofL 17 Fx0)), (x3, .inr (7, ofL 5 Fx3)), (m0, .inr (12, ofL 88 Fm0)), (aout, .inl (G.2.2.2.2, 1, .inr (.inl (fun _ => 0))))] H) (hD : va_D A [(x0, .inr (11, ofL 17 Fx0)), (x3, .inr (7, ofL 5 Fx3)), (m0, .inr (12, ofL 88 Fm0)), (aout, .inl (G.2.2.2.2, 1, .inr (.inl (fun _ => 0))))]) (hS : va_S A s.heap H locs) (hl : lv_has ls 8 [(0, .ref b), (1, .ref x0), (2, .ref m0), (3, .ref aout), (4, .int 0)]) :
    W p l e room_1 s m #[Value.ref b] below meth c H locs 1000 20000 (lw_Z below #[Value.ref b] s) (F0 m 1016 ls []) := by
  obtain ⟨hx, hb, hr, -, -, -, hX, hbl, hlocks, -⟩ := id C0
  have hbA : ¬ A b := by rw [hA]; exact Nat.not_le.mpr hbl
  refine lv_aload_n hx hb dL_law_1016 rfl (lv_at hl 1 rfl) ?_
  refine lv_aload_n hx hb dL_law_1017 rfl (lv_at hl 0 rfl) ?_
  refine lv_iload hx hb dL_law_1018 (lv_at hl 4 rfl) ?_
  refine lv_iconst (v := 1) hx hb dL_law_1020 (by decide) ?_
  refine lv_iadd hx hb dL_law_1021 ?_
  refine k_eqi (y := 1) (by decide) ?_
  refine va_sld hx hb hX hbl hbA hS (k_in (by decide)) dL_law_1022 ?_
  refine k_eqi (y := v1) hv1 ?_
  refine lv_aload_n hx hb dL_law_1023 rfl (lv_at hl 3 rfl) ?_
  refine k_callHi (wr := [(m0, .inr (12, ofL 88 Fm0))]) (rest := []) li_L_164 C (c_L_gap l hst G H.size x0 v1 aout Fx0 x3 Fx3 (fun _ => 0) e_x0_3 e_x3_2) (kR rfl) hP hD hS [0, 1, 3] [2] rfl rfl rfl rfl (by decide) rfl hl.1 rfl (Nat.le_of_ble_eq_true rfl) dL_law_1024 (fun rr2 uu3 H locs hw1 hP hD hS => ?_)
  rcases hw1 with ⟨rfl, rfl, c_4⟩ | ⟨rfl, rfl, c_5⟩
  ·
    have hP : va_P G.1 vwCl [(m0, .inr (12, ofL 88 Fm0)), (aout, .inl (G.2.2.2.2, 1, .inr (.inl ((fun _ => 0))))), (x0, .inr (11, ofL 17 Fx0)), (x3, .inr (7, ofL 5 Fx3))] H := hP
    have hD : va_D A [(m0, .inr (12, ofL 88 Fm0)), (aout, .inl (G.2.2.2.2, 1, .inr (.inl ((fun _ => 0))))), (x0, .inr (11, ofL 17 Fx0)), (x3, .inr (7, ofL 5 Fx3))] := hD
    refine lv_istore (lv' := [(5, .int 1), (0, .ref b), (1, .ref x0), (2, .ref m0), (3, .ref aout), (4, .int 0)]) hx hb dL_law_1027 hl (by decide) rfl (fun ls hl => ?_)
    refine lv_aload_n hx hb dL_law_1029 rfl (lv_at hl 3 rfl) ?_
    refine lv_aload_n hx hb dL_law_1030 rfl (lv_at hl 1 rfl) ?_
    refine lv_iload hx hb dL_law_1031 (lv_at hl 5 rfl) ?_
    refine lv_iconst (v := 1) hx hb dL_law_1033 (by decide) ?_
    refine lv_iadd hx hb dL_law_1034 ?_
    refine k_eqi (y := 1) (by decide) ?_
    refine va_sld hx hb hX hbl hbA hS (k_in (by decide)) dL_law_1035 ?_
    refine k_eqi (y := v1) hv1 ?_
    refine k_callVi (wr := [(aout, .inl (G.2.2.2.2, 1, .inr (.inl ((fun _ => 0))))), (x0, .inr (11, ofL 17 Fx0)), (x3, .inr (7, ofL 5 Fx3))]) (rest := []) li_L_166 C (c_X12_gap l G H.size m0 v1 Fm0 e_m0_1) (kR rfl) hP hD hS [0] [1, 2, 3] rfl rfl rfl rfl (by decide) 0 12 rfl rfl rfl hl.1 rfl (Nat.le_of_ble_eq_true rfl) dL_law_1036 (fun rr7 uu8 H locs hw6 hP hD hS => ?_)
    rcases hw6 with ⟨rfl, rfl, c_9⟩ | ⟨rfl, rfl, c_10⟩
    ·
      have hP : va_P G.1 vwCl [(aout, .inl (G.2.2.2.2, 1, .inr (.inl ((fun _ => 0))))), (x0, .inr (11, ofL 17 Fx0)), (x3, .inr (7, ofL 5 Fx3)), (m0, .inr (12, ofL 88 (updV (updV Fm0 0 (.int 0)) 0 (.int 1))))] H := hP
      have hD : va_D A [(aout, .inl (G.2.2.2.2, 1, .inr (.inl ((fun _ => 0))))), (x0, .inr (11, ofL 17 Fx0)), (x3, .inr (7, ofL 5 Fx3)), (m0, .inr (12, ofL 88 (updV (updV Fm0 0 (.int 0)) 0 (.int 1))))] := hD
      refine lv_istore (lv' := [(6, .int 0), (5, .int 1), (0, .ref b), (1, .ref x0), (2, .ref m0), (3, .ref aout), (4, .int 0)]) hx hb dL_law_1039 hl (by decide) rfl (fun ls hl => ?_)
      refine lv_aload_n hx hb dL_law_1041 rfl (lv_at hl 4 rfl) ?_
      refine k_callVi (wr := [(aout, .inl (G.2.2.2.2, 1, .inr (.inl ((fun _ => 0))))), (x0, .inr (11, ofL 17 Fx0)), (x3, .inr (7, ofL 5 Fx3))]) (rest := []) li_L_118 C (c_X12_thrown l G H.size m0 (updV (updV Fm0 0 (.int 0)) 0 (.int 1)) 1 rfl) (kR rfl) hP hD hS [3] [0, 1, 2] rfl rfl rfl rfl (by decide) 0 12 rfl rfl rfl hl.1 rfl (Nat.le_of_ble_eq_true rfl) dL_law_1042 (fun rr12 uu13 H locs hw11 hP hD hS => ?_)
      obtain rfl : rr12 = 1 := hw11
      have hP : va_P G.1 vwCl [(aout, .inl (G.2.2.2.2, 1, .inr (.inl ((fun _ => 0))))), (x0, .inr (11, ofL 17 Fx0)), (x3, .inr (7, ofL 5 Fx3)), (m0, .inr (12, ofL 88 (updV (updV Fm0 0 (.int 0)) 0 (.int 1))))] H := hP
      have hD : va_D A [(aout, .inl (G.2.2.2.2, 1, .inr (.inl ((fun _ => 0))))), (x0, .inr (11, ofL 17 Fx0)), (x3, .inr (7, ofL 5 Fx3)), (m0, .inr (12, ofL 88 (updV (updV Fm0 0 (.int 0)) 0 (.int 1))))] := hD
      refine lv_iload hx hb dL_law_1045 (lv_at hl 1 rfl) ?_
      refine lv_icmp_eq (x := 1) (y := 1) (tgt := 1052) hx hb dL_law_1047 (by decide) (fun c_14 => ?_) (fun c_14 => ?_)
      rotate_left
      · exact absurd (by decide) c_14
      refine lv_iload hx hb dL_law_1052 (lv_at hl 1 rfl) ?_
      refine lv_if_ne (x := 1) (tgt := 1069) hx hb dL_law_1054 (by decide) (fun c_15 => ?_) (fun c_15 => ?_)
      rotate_left
      · exact absurd c_15 (by decide)
      refine lv_goto (tgt := 2265) hx hb dL_law_1069 (by decide) ?_
      exact law_end hst C0 hA C hS (lv_sub hl [2, 6] rfl) (Nat.le_of_ble_eq_true rfl) (Nat.le_of_ble_eq_true rfl)
    ·
      have hP : va_P G.1 vwCl [(aout, .inl (G.2.2.2.2, 1, .inr (.inl ((fun _ => 0))))), (x0, .inr (11, ofL 17 Fx0)), (x3, .inr (7, ofL 5 Fx3)), (m0, .inr (12, ofL 88 (updV (updV Fm0 0 (.int 0)) 0 (.int 1))))] H := hP
      have hD : va_D A [(aout, .inl (G.2.2.2.2, 1, .inr (.inl ((fun _ => 0))))), (x0, .inr (11, ofL 17 Fx0)), (x3, .inr (7, ofL 5 Fx3)), (m0, .inr (12, ofL 88 (updV (updV Fm0 0 (.int 0)) 0 (.int 1))))] := hD
      refine lv_istore (lv' := [(6, .int 0), (5, .int 1), (0, .ref b), (1, .ref x0), (2, .ref m0), (3, .ref aout), (4, .int 0)]) hx hb dL_law_1039 hl (by decide) rfl (fun ls hl => ?_)
      refine lv_aload_n hx hb dL_law_1041 rfl (lv_at hl 4 rfl) ?_
      refine k_callVi (wr := [(aout, .inl (G.2.2.2.2, 1, .inr (.inl ((fun _ => 0))))), (x0, .inr (11, ofL 17 Fx0)), (x3, .inr (7, ofL 5 Fx3))]) (rest := []) li_L_118 C (c_X12_thrown l G H.size m0 (updV (updV Fm0 0 (.int 0)) 0 (.int 1)) 1 rfl) (kR rfl) hP hD hS [3] [0, 1, 2] rfl rfl rfl rfl (by decide) 0 12 rfl rfl rfl hl.1 rfl (Nat.le_of_ble_eq_true rfl) dL_law_1042 (fun rr17 uu18 H locs hw16 hP hD hS => ?_)
      obtain rfl : rr17 = 1 := hw16
      have hP : va_P G.1 vwCl [(aout, .inl (G.2.2.2.2, 1, .inr (.inl ((fun _ => 0))))), (x0, .inr (11, ofL 17 Fx0)), (x3, .inr (7, ofL 5 Fx3)), (m0, .inr (12, ofL 88 (updV (updV Fm0 0 (.int 0)) 0 (.int 1))))] H := hP
      have hD : va_D A [(aout, .inl (G.2.2.2.2, 1, .inr (.inl ((fun _ => 0))))), (x0, .inr (11, ofL 17 Fx0)), (x3, .inr (7, ofL 5 Fx3)), (m0, .inr (12, ofL 88 (updV (updV Fm0 0 (.int 0)) 0 (.int 1))))] := hD
      refine lv_iload hx hb dL_law_1045 (lv_at hl 1 rfl) ?_
      refine lv_icmp_eq (x := 1) (y := 1) (tgt := 1052) hx hb dL_law_1047 (by decide) (fun c_19 => ?_) (fun c_19 => ?_)
      rotate_left
      · exact absurd (by decide) c_19
      refine lv_iload hx hb dL_law_1052 (lv_at hl 1 rfl) ?_
      refine lv_if_ne (x := 1) (tgt := 1069) hx hb dL_law_1054 (by decide) (fun c_20 => ?_) (fun c_20 => ?_)
      rotate_left
      · exact absurd c_20 (by decide)
      refine lv_goto (tgt := 2265) hx hb dL_law_1069 (by decide) ?_
      exact law_end hst C0 hA C hS (lv_sub hl [2, 6] rfl) (Nat.le_of_ble_eq_true rfl) (Nat.le_of_ble_eq_true rfl)
  ·
    have hP : va_P G.1 vwCl [(m0, .inr (12, ofL 88 Fm0)), (aout, .inl (G.2.2.2.2, 1, .inr (.inl ((fun _ => 0))))), (x0, .inr (11, ofL 17 Fx0)), (x3, .inr (7, ofL 5 Fx3))] H := hP
    have hD : va_D A [(m0, .inr (12, ofL 88 Fm0)), (aout, .inl (G.2.2.2.2, 1, .inr (.inl ((fun _ => 0))))), (x0, .inr (11, ofL 17 Fx0)), (x3, .inr (7, ofL 5 Fx3))] := hD
    refine lv_istore (lv' := [(5, .int 1), (0, .ref b), (1, .ref x0), (2, .ref m0), (3, .ref aout), (4, .int 0)]) hx hb dL_law_1027 hl (by decide) rfl (fun ls hl => ?_)
    refine lv_aload_n hx hb dL_law_1029 rfl (lv_at hl 3 rfl) ?_
    refine lv_aload_n hx hb dL_law_1030 rfl (lv_at hl 1 rfl) ?_
    refine lv_iload hx hb dL_law_1031 (lv_at hl 5 rfl) ?_
    refine lv_iconst (v := 1) hx hb dL_law_1033 (by decide) ?_
    refine lv_iadd hx hb dL_law_1034 ?_
    refine k_eqi (y := 1) (by decide) ?_
    refine va_sld hx hb hX hbl hbA hS (k_in (by decide)) dL_law_1035 ?_
    refine k_eqi (y := v1) hv1 ?_
    refine k_callVi (wr := [(aout, .inl (G.2.2.2.2, 1, .inr (.inl ((fun _ => 0))))), (x0, .inr (11, ofL 17 Fx0)), (x3, .inr (7, ofL 5 Fx3))]) (rest := []) li_L_166 C (c_X12_gap l G H.size m0 v1 Fm0 e_m0_1) (kR rfl) hP hD hS [0] [1, 2, 3] rfl rfl rfl rfl (by decide) 0 12 rfl rfl rfl hl.1 rfl (Nat.le_of_ble_eq_true rfl) dL_law_1036 (fun rr22 uu23 H locs hw21 hP hD hS => ?_)
    rcases hw21 with ⟨rfl, rfl, c_24⟩ | ⟨rfl, rfl, c_25⟩
    ·
      have hP : va_P G.1 vwCl [(aout, .inl (G.2.2.2.2, 1, .inr (.inl ((fun _ => 0))))), (x0, .inr (11, ofL 17 Fx0)), (x3, .inr (7, ofL 5 Fx3)), (m0, .inr (12, ofL 88 (updV (updV Fm0 0 (.int 0)) 0 (.int 1))))] H := hP
      have hD : va_D A [(aout, .inl (G.2.2.2.2, 1, .inr (.inl ((fun _ => 0))))), (x0, .inr (11, ofL 17 Fx0)), (x3, .inr (7, ofL 5 Fx3)), (m0, .inr (12, ofL 88 (updV (updV Fm0 0 (.int 0)) 0 (.int 1))))] := hD
      refine lv_istore (lv' := [(6, .int 0), (5, .int 1), (0, .ref b), (1, .ref x0), (2, .ref m0), (3, .ref aout), (4, .int 0)]) hx hb dL_law_1039 hl (by decide) rfl (fun ls hl => ?_)
      refine lv_aload_n hx hb dL_law_1041 rfl (lv_at hl 4 rfl) ?_
      refine k_callVi (wr := [(aout, .inl (G.2.2.2.2, 1, .inr (.inl ((fun _ => 0))))), (x0, .inr (11, ofL 17 Fx0)), (x3, .inr (7, ofL 5 Fx3))]) (rest := []) li_L_118 C (c_X12_thrown l G H.size m0 (updV (updV Fm0 0 (.int 0)) 0 (.int 1)) 1 rfl) (kR rfl) hP hD hS [3] [0, 1, 2] rfl rfl rfl rfl (by decide) 0 12 rfl rfl rfl hl.1 rfl (Nat.le_of_ble_eq_true rfl) dL_law_1042 (fun rr27 uu28 H locs hw26 hP hD hS => ?_)
      obtain rfl : rr27 = 1 := hw26
      have hP : va_P G.1 vwCl [(aout, .inl (G.2.2.2.2, 1, .inr (.inl ((fun _ => 0))))), (x0, .inr (11, ofL 17 Fx0)), (x3, .inr (7, ofL 5 Fx3)), (m0, .inr (12, ofL 88 (updV (updV Fm0 0 (.int 0)) 0 (.int 1))))] H := hP
      have hD : va_D A [(aout, .inl (G.2.2.2.2, 1, .inr (.inl ((fun _ => 0))))), (x0, .inr (11, ofL 17 Fx0)), (x3, .inr (7, ofL 5 Fx3)), (m0, .inr (12, ofL 88 (updV (updV Fm0 0 (.int 0)) 0 (.int 1))))] := hD
      refine lv_iload hx hb dL_law_1045 (lv_at hl 1 rfl) ?_
      refine lv_icmp_eq (x := 1) (y := 1) (tgt := 1052) hx hb dL_law_1047 (by decide) (fun c_29 => ?_) (fun c_29 => ?_)
      rotate_left
      · exact absurd (by decide) c_29
      refine lv_iload hx hb dL_law_1052 (lv_at hl 1 rfl) ?_
      refine lv_if_ne (x := 1) (tgt := 1069) hx hb dL_law_1054 (by decide) (fun c_30 => ?_) (fun c_30 => ?_)
      rotate_left
      · exact absurd c_30 (by decide)
      refine lv_goto (tgt := 2265) hx hb dL_law_1069 (by decide) ?_
      exact law_end hst C0 hA C hS (lv_sub hl [2, 6] rfl) (Nat.le_of_ble_eq_true rfl) (Nat.le_of_ble_eq_true rfl)
    ·
      have hP : va_P G.1 vwCl [(aout, .inl (G.2.2.2.2, 1, .inr (.inl ((fun _ => 0))))), (x0, .inr (11, ofL 17 Fx0)), (x3, .inr (7, ofL 5 Fx3)), (m0, .inr (12, ofL 88 (updV (updV Fm0 0 (.int 0)) 0 (.int 1))))] H := hP
      have hD : va_D A [(aout, .inl (G.2.2.2.2, 1, .inr (.inl ((fun _ => 0))))), (x0, .inr (11, ofL 17 Fx0)), (x3, .inr (7, ofL 5 Fx3)), (m0, .inr (12, ofL 88 (updV (updV Fm0 0 (.int 0)) 0 (.int 1))))] := hD
      refine lv_istore (lv' := [(6, .int 0), (5, .int 1), (0, .ref b), (1, .ref x0), (2, .ref m0), (3, .ref aout), (4, .int 0)]) hx hb dL_law_1039 hl (by decide) rfl (fun ls hl => ?_)
      refine lv_aload_n hx hb dL_law_1041 rfl (lv_at hl 4 rfl) ?_
      refine k_callVi (wr := [(aout, .inl (G.2.2.2.2, 1, .inr (.inl ((fun _ => 0))))), (x0, .inr (11, ofL 17 Fx0)), (x3, .inr (7, ofL 5 Fx3))]) (rest := []) li_L_118 C (c_X12_thrown l G H.size m0 (updV (updV Fm0 0 (.int 0)) 0 (.int 1)) 1 rfl) (kR rfl) hP hD hS [3] [0, 1, 2] rfl rfl rfl rfl (by decide) 0 12 rfl rfl rfl hl.1 rfl (Nat.le_of_ble_eq_true rfl) dL_law_1042 (fun rr32 uu33 H locs hw31 hP hD hS => ?_)
      obtain rfl : rr32 = 1 := hw31
      have hP : va_P G.1 vwCl [(aout, .inl (G.2.2.2.2, 1, .inr (.inl ((fun _ => 0))))), (x0, .inr (11, ofL 17 Fx0)), (x3, .inr (7, ofL 5 Fx3)), (m0, .inr (12, ofL 88 (updV (updV Fm0 0 (.int 0)) 0 (.int 1))))] H := hP
      have hD : va_D A [(aout, .inl (G.2.2.2.2, 1, .inr (.inl ((fun _ => 0))))), (x0, .inr (11, ofL 17 Fx0)), (x3, .inr (7, ofL 5 Fx3)), (m0, .inr (12, ofL 88 (updV (updV Fm0 0 (.int 0)) 0 (.int 1))))] := hD
      refine lv_iload hx hb dL_law_1045 (lv_at hl 1 rfl) ?_
      refine lv_icmp_eq (x := 1) (y := 1) (tgt := 1052) hx hb dL_law_1047 (by decide) (fun c_34 => ?_) (fun c_34 => ?_)
      rotate_left
      · exact absurd (by decide) c_34
      refine lv_iload hx hb dL_law_1052 (lv_at hl 1 rfl) ?_
      refine lv_if_ne (x := 1) (tgt := 1069) hx hb dL_law_1054 (by decide) (fun c_35 => ?_) (fun c_35 => ?_)
      rotate_left
      · exact absurd c_35 (by decide)
      refine lv_goto (tgt := 2265) hx hb dL_law_1069 (by decide) ?_
      exact law_end hst C0 hA C hS (lv_sub hl [2, 6] rfl) (Nat.le_of_ble_eq_true rfl) (Nat.le_of_ble_eq_true rfl)
set_option maxHeartbeats 4000000 in
set_option maxRecDepth 100000 in
theorem law_15 {p : Program} {e : Env} {s : State} {m : MethodId} {below : List Frame} {meth : Method} {c : Code} {l : Launch} (hst : l.stackTraces = false) {b : Nat} {xs : Nat → Int32} {G : kG} {A : Nat → Prop} (C0 : lw_At p s m meth c b 6 xs) (hA : A = fun q : Nat => s.heap.size ≤ q) (C : kC G p s m c cL_law 8 RL A) {v1 : Int32} (hv1 : xs 1 = v1) {v2 : Int32} (hv2 : xs 2 = v2) {v3 : Int32} (hv3 : xs 3 = v3) {v4 : Int32} (hv4 : xs 4 = v4) {v5 : Int32} (hv5 : xs 5 = v5) {x0 : Nat} {Fx0 : Nat → Value} {x3 : Nat} {Fx3 : Nat → Value} {m0 : Nat} {Fm0 : Nat → Value} {aout : Nat} (e_x0_3 : Fx0 3 = .ref x3) (e_x3_2 : Fx3 2 = .int 0) (e_m0_1 : Fm0 1 = .int 0) {H : Heap} {locs : List Loc} {ls : Array Slot} (hP : va_P G.1 vwCl [(x0, .inr (11, ofL 17 Fx0)), (x3, .inr (7, ofL 5 Fx3)), (m0, .inr (12, ofL 88 Fm0)), (aout, .inl (G.2.2.2.2, 1, .inr (.inl (fun _ => 0))))] H) (hD : va_D A [(x0, .inr (11, ofL 17 Fx0)), (x3, .inr (7, ofL 5 Fx3)), (m0, .inr (12, ofL 88 Fm0)), (aout, .inl (G.2.2.2.2, 1, .inr (.inl (fun _ => 0))))]) (hS : va_S A s.heap H locs) (hl : lv_has ls 8 [(0, .ref b), (1, .ref x0), (2, .ref m0), (3, .ref aout), (4, .int 0)]) :
    W p l e room_1 s m #[Value.ref b] below meth c H locs 1000 20000 (lw_Z below #[Value.ref b] s) (F0 m 1072 ls []) := by
  obtain ⟨hx, hb, hr, -, -, -, hX, hbl, hlocks, -⟩ := id C0
  have hbA : ¬ A b := by rw [hA]; exact Nat.not_le.mpr hbl
  refine lv_aload_n hx hb dL_law_1072 rfl (lv_at hl 1 rfl) ?_
  refine lv_aload_n hx hb dL_law_1073 rfl (lv_at hl 0 rfl) ?_
  refine lv_iload hx hb dL_law_1074 (lv_at hl 4 rfl) ?_
  refine lv_iconst (v := 1) hx hb dL_law_1076 (by decide) ?_
  refine lv_iadd hx hb dL_law_1077 ?_
  refine k_eqi (y := 1) (by decide) ?_
  refine va_sld hx hb hX hbl hbA hS (k_in (by decide)) dL_law_1078 ?_
  refine k_eqi (y := v1) hv1 ?_
  refine lv_aload_n hx hb dL_law_1079 rfl (lv_at hl 0 rfl) ?_
  refine lv_iload hx hb dL_law_1080 (lv_at hl 4 rfl) ?_
  refine lv_iconst (v := 2) hx hb dL_law_1082 (by decide) ?_
  refine lv_iadd hx hb dL_law_1083 ?_
  refine k_eqi (y := 2) (by decide) ?_
  refine va_sld hx hb hX hbl hbA hS (k_in (by decide)) dL_law_1084 ?_
  refine k_eqi (y := v2) hv2 ?_
  refine lv_aload_n hx hb dL_law_1085 rfl (lv_at hl 0 rfl) ?_
  refine lv_iload hx hb dL_law_1086 (lv_at hl 4 rfl) ?_
  refine lv_iconst (v := 3) hx hb dL_law_1088 (by decide) ?_
  refine lv_iadd hx hb dL_law_1089 ?_
  refine k_eqi (y := 3) (by decide) ?_
  refine va_sld hx hb hX hbl hbA hS (k_in (by decide)) dL_law_1090 ?_
  refine k_eqi (y := v3) hv3 ?_
  refine lv_aload_n hx hb dL_law_1091 rfl (lv_at hl 3 rfl) ?_
  refine k_callHi (wr := [(m0, .inr (12, ofL 88 Fm0))]) (rest := []) li_L_167 C (c_L_chance l hst G H.size x0 v1 v2 v3 aout Fx0 x3 Fx3 (fun _ => 0) e_x0_3 e_x3_2) (kR rfl) hP hD hS [0, 1, 3] [2] rfl rfl rfl rfl (by decide) rfl hl.1 rfl (Nat.le_of_ble_eq_true rfl) dL_law_1092 (fun rr2 uu3 H locs hw1 hP hD hS => ?_)
  rcases hw1 with ⟨rfl, rfl, c_4⟩ | ⟨rfl, rfl, c_5⟩
  ·
    have hP : va_P G.1 vwCl [(m0, .inr (12, ofL 88 Fm0)), (aout, .inl (G.2.2.2.2, 1, .inr (.inl ((fun _ => 0))))), (x0, .inr (11, ofL 17 Fx0)), (x3, .inr (7, ofL 5 Fx3))] H := hP
    have hD : va_D A [(m0, .inr (12, ofL 88 Fm0)), (aout, .inl (G.2.2.2.2, 1, .inr (.inl ((fun _ => 0))))), (x0, .inr (11, ofL 17 Fx0)), (x3, .inr (7, ofL 5 Fx3))] := hD
    refine lv_istore (lv' := [(5, .int 1), (0, .ref b), (1, .ref x0), (2, .ref m0), (3, .ref aout), (4, .int 0)]) hx hb dL_law_1095 hl (by decide) rfl (fun ls hl => ?_)
    refine lv_aload_n hx hb dL_law_1097 rfl (lv_at hl 3 rfl) ?_
    refine lv_aload_n hx hb dL_law_1098 rfl (lv_at hl 1 rfl) ?_
    refine lv_iload hx hb dL_law_1099 (lv_at hl 5 rfl) ?_
    refine lv_iconst (v := 1) hx hb dL_law_1101 (by decide) ?_
    refine lv_iadd hx hb dL_law_1102 ?_
    refine k_eqi (y := 1) (by decide) ?_
    refine va_sld hx hb hX hbl hbA hS (k_in (by decide)) dL_law_1103 ?_
    refine k_eqi (y := v1) hv1 ?_
    refine lv_aload_n hx hb dL_law_1104 rfl (lv_at hl 1 rfl) ?_
    refine lv_iload hx hb dL_law_1105 (lv_at hl 5 rfl) ?_
    refine lv_iconst (v := 2) hx hb dL_law_1107 (by decide) ?_
    refine lv_iadd hx hb dL_law_1108 ?_
    refine k_eqi (y := 2) (by decide) ?_
    refine va_sld hx hb hX hbl hbA hS (k_in (by decide)) dL_law_1109 ?_
    refine k_eqi (y := v2) hv2 ?_
    refine lv_aload_n hx hb dL_law_1110 rfl (lv_at hl 1 rfl) ?_
    refine lv_iload hx hb dL_law_1111 (lv_at hl 5 rfl) ?_
    refine lv_iconst (v := 3) hx hb dL_law_1113 (by decide) ?_
    refine lv_iadd hx hb dL_law_1114 ?_
    refine k_eqi (y := 3) (by decide) ?_
    refine va_sld hx hb hX hbl hbA hS (k_in (by decide)) dL_law_1115 ?_
    refine k_eqi (y := v3) hv3 ?_
    refine k_callVl (wr := [(aout, .inl (G.2.2.2.2, 1, .inr (.inl ((fun _ => 0))))), (x0, .inr (11, ofL 17 Fx0)), (x3, .inr (7, ofL 5 Fx3))]) (rest := []) li_L_169 C (c_X12_chance l G H.size m0 v1 v2 v3 Fm0 e_m0_1) (kR rfl) hP hD hS [0] [1, 2, 3] rfl rfl rfl rfl (by decide) 0 12 rfl rfl rfl hl.1 rfl (Nat.le_of_ble_eq_true rfl) dL_law_1116 (fun rr7 uu8 H locs hw6 hP hD hS => ?_)
    rcases hw6 with ⟨rfl, rfl, c_9⟩ | ⟨rfl, rfl, c_10⟩
    ·
      have hP : va_P G.1 vwCl [(aout, .inl (G.2.2.2.2, 1, .inr (.inl ((fun _ => 0))))), (x0, .inr (11, ofL 17 Fx0)), (x3, .inr (7, ofL 5 Fx3)), (m0, .inr (12, ofL 88 (updV (updV Fm0 0 (.int 0)) 0 (.int 1))))] H := hP
      have hD : va_D A [(aout, .inl (G.2.2.2.2, 1, .inr (.inl ((fun _ => 0))))), (x0, .inr (11, ofL 17 Fx0)), (x3, .inr (7, ofL 5 Fx3)), (m0, .inr (12, ofL 88 (updV (updV Fm0 0 (.int 0)) 0 (.int 1))))] := hD
      refine lv_lstore (lv' := [(6, .long 0), (5, .int 1), (0, .ref b), (1, .ref x0), (2, .ref m0), (3, .ref aout), (4, .int 0)]) hx hb dL_law_1119 hl (by decide) rfl (fun ls hl => ?_)
      refine lv_aload_n hx hb dL_law_1121 rfl (lv_at hl 4 rfl) ?_
      refine k_callVi (wr := [(aout, .inl (G.2.2.2.2, 1, .inr (.inl ((fun _ => 0))))), (x0, .inr (11, ofL 17 Fx0)), (x3, .inr (7, ofL 5 Fx3))]) (rest := []) li_L_118 C (c_X12_thrown l G H.size m0 (updV (updV Fm0 0 (.int 0)) 0 (.int 1)) 1 rfl) (kR rfl) hP hD hS [3] [0, 1, 2] rfl rfl rfl rfl (by decide) 0 12 rfl rfl rfl hl.1 rfl (Nat.le_of_ble_eq_true rfl) dL_law_1122 (fun rr12 uu13 H locs hw11 hP hD hS => ?_)
      obtain rfl : rr12 = 1 := hw11
      have hP : va_P G.1 vwCl [(aout, .inl (G.2.2.2.2, 1, .inr (.inl ((fun _ => 0))))), (x0, .inr (11, ofL 17 Fx0)), (x3, .inr (7, ofL 5 Fx3)), (m0, .inr (12, ofL 88 (updV (updV Fm0 0 (.int 0)) 0 (.int 1))))] H := hP
      have hD : va_D A [(aout, .inl (G.2.2.2.2, 1, .inr (.inl ((fun _ => 0))))), (x0, .inr (11, ofL 17 Fx0)), (x3, .inr (7, ofL 5 Fx3)), (m0, .inr (12, ofL 88 (updV (updV Fm0 0 (.int 0)) 0 (.int 1))))] := hD
      refine lv_iload hx hb dL_law_1125 (lv_at hl 1 rfl) ?_
      refine lv_icmp_eq (x := 1) (y := 1) (tgt := 1132) hx hb dL_law_1127 (by decide) (fun c_14 => ?_) (fun c_14 => ?_)
      rotate_left
      · exact absurd (by decide) c_14
      refine lv_iload hx hb dL_law_1132 (lv_at hl 1 rfl) ?_
      refine lv_if_ne (x := 1) (tgt := 1148) hx hb dL_law_1134 (by decide) (fun c_15 => ?_) (fun c_15 => ?_)
      rotate_left
      · exact absurd c_15 (by decide)
      refine lv_goto (tgt := 2265) hx hb dL_law_1148 (by decide) ?_
      exact law_end hst C0 hA C hS (lv_sub hl [2, 6] rfl) (Nat.le_of_ble_eq_true rfl) (Nat.le_of_ble_eq_true rfl)
    ·
      have hP : va_P G.1 vwCl [(aout, .inl (G.2.2.2.2, 1, .inr (.inl ((fun _ => 0))))), (x0, .inr (11, ofL 17 Fx0)), (x3, .inr (7, ofL 5 Fx3)), (m0, .inr (12, ofL 88 (updV (updV Fm0 0 (.int 0)) 0 (.int 1))))] H := hP
      have hD : va_D A [(aout, .inl (G.2.2.2.2, 1, .inr (.inl ((fun _ => 0))))), (x0, .inr (11, ofL 17 Fx0)), (x3, .inr (7, ofL 5 Fx3)), (m0, .inr (12, ofL 88 (updV (updV Fm0 0 (.int 0)) 0 (.int 1))))] := hD
      refine lv_lstore (lv' := [(6, .long 0), (5, .int 1), (0, .ref b), (1, .ref x0), (2, .ref m0), (3, .ref aout), (4, .int 0)]) hx hb dL_law_1119 hl (by decide) rfl (fun ls hl => ?_)
      refine lv_aload_n hx hb dL_law_1121 rfl (lv_at hl 4 rfl) ?_
      refine k_callVi (wr := [(aout, .inl (G.2.2.2.2, 1, .inr (.inl ((fun _ => 0))))), (x0, .inr (11, ofL 17 Fx0)), (x3, .inr (7, ofL 5 Fx3))]) (rest := []) li_L_118 C (c_X12_thrown l G H.size m0 (updV (updV Fm0 0 (.int 0)) 0 (.int 1)) 1 rfl) (kR rfl) hP hD hS [3] [0, 1, 2] rfl rfl rfl rfl (by decide) 0 12 rfl rfl rfl hl.1 rfl (Nat.le_of_ble_eq_true rfl) dL_law_1122 (fun rr17 uu18 H locs hw16 hP hD hS => ?_)
      obtain rfl : rr17 = 1 := hw16
      have hP : va_P G.1 vwCl [(aout, .inl (G.2.2.2.2, 1, .inr (.inl ((fun _ => 0))))), (x0, .inr (11, ofL 17 Fx0)), (x3, .inr (7, ofL 5 Fx3)), (m0, .inr (12, ofL 88 (updV (updV Fm0 0 (.int 0)) 0 (.int 1))))] H := hP
      have hD : va_D A [(aout, .inl (G.2.2.2.2, 1, .inr (.inl ((fun _ => 0))))), (x0, .inr (11, ofL 17 Fx0)), (x3, .inr (7, ofL 5 Fx3)), (m0, .inr (12, ofL 88 (updV (updV Fm0 0 (.int 0)) 0 (.int 1))))] := hD
      refine lv_iload hx hb dL_law_1125 (lv_at hl 1 rfl) ?_
      refine lv_icmp_eq (x := 1) (y := 1) (tgt := 1132) hx hb dL_law_1127 (by decide) (fun c_19 => ?_) (fun c_19 => ?_)
      rotate_left
      · exact absurd (by decide) c_19
      refine lv_iload hx hb dL_law_1132 (lv_at hl 1 rfl) ?_
      refine lv_if_ne (x := 1) (tgt := 1148) hx hb dL_law_1134 (by decide) (fun c_20 => ?_) (fun c_20 => ?_)
      rotate_left
      · exact absurd c_20 (by decide)
      refine lv_goto (tgt := 2265) hx hb dL_law_1148 (by decide) ?_
      exact law_end hst C0 hA C hS (lv_sub hl [2, 6] rfl) (Nat.le_of_ble_eq_true rfl) (Nat.le_of_ble_eq_true rfl)
  ·
    have hP : va_P G.1 vwCl [(m0, .inr (12, ofL 88 Fm0)), (aout, .inl (G.2.2.2.2, 1, .inr (.inl ((fun _ => 0))))), (x0, .inr (11, ofL 17 Fx0)), (x3, .inr (7, ofL 5 Fx3))] H := hP
    have hD : va_D A [(m0, .inr (12, ofL 88 Fm0)), (aout, .inl (G.2.2.2.2, 1, .inr (.inl ((fun _ => 0))))), (x0, .inr (11, ofL 17 Fx0)), (x3, .inr (7, ofL 5 Fx3))] := hD
    refine lv_istore (lv' := [(5, .int 1), (0, .ref b), (1, .ref x0), (2, .ref m0), (3, .ref aout), (4, .int 0)]) hx hb dL_law_1095 hl (by decide) rfl (fun ls hl => ?_)
    refine lv_aload_n hx hb dL_law_1097 rfl (lv_at hl 3 rfl) ?_
    refine lv_aload_n hx hb dL_law_1098 rfl (lv_at hl 1 rfl) ?_
    refine lv_iload hx hb dL_law_1099 (lv_at hl 5 rfl) ?_
    refine lv_iconst (v := 1) hx hb dL_law_1101 (by decide) ?_
    refine lv_iadd hx hb dL_law_1102 ?_
    refine k_eqi (y := 1) (by decide) ?_
    refine va_sld hx hb hX hbl hbA hS (k_in (by decide)) dL_law_1103 ?_
    refine k_eqi (y := v1) hv1 ?_
    refine lv_aload_n hx hb dL_law_1104 rfl (lv_at hl 1 rfl) ?_
    refine lv_iload hx hb dL_law_1105 (lv_at hl 5 rfl) ?_
    refine lv_iconst (v := 2) hx hb dL_law_1107 (by decide) ?_
    refine lv_iadd hx hb dL_law_1108 ?_
    refine k_eqi (y := 2) (by decide) ?_
    refine va_sld hx hb hX hbl hbA hS (k_in (by decide)) dL_law_1109 ?_
    refine k_eqi (y := v2) hv2 ?_
    refine lv_aload_n hx hb dL_law_1110 rfl (lv_at hl 1 rfl) ?_
    refine lv_iload hx hb dL_law_1111 (lv_at hl 5 rfl) ?_
    refine lv_iconst (v := 3) hx hb dL_law_1113 (by decide) ?_
    refine lv_iadd hx hb dL_law_1114 ?_
    refine k_eqi (y := 3) (by decide) ?_
    refine va_sld hx hb hX hbl hbA hS (k_in (by decide)) dL_law_1115 ?_
    refine k_eqi (y := v3) hv3 ?_
    refine k_callVl (wr := [(aout, .inl (G.2.2.2.2, 1, .inr (.inl ((fun _ => 0))))), (x0, .inr (11, ofL 17 Fx0)), (x3, .inr (7, ofL 5 Fx3))]) (rest := []) li_L_169 C (c_X12_chance l G H.size m0 v1 v2 v3 Fm0 e_m0_1) (kR rfl) hP hD hS [0] [1, 2, 3] rfl rfl rfl rfl (by decide) 0 12 rfl rfl rfl hl.1 rfl (Nat.le_of_ble_eq_true rfl) dL_law_1116 (fun rr22 uu23 H locs hw21 hP hD hS => ?_)
    rcases hw21 with ⟨rfl, rfl, c_24⟩ | ⟨rfl, rfl, c_25⟩
    ·
      have hP : va_P G.1 vwCl [(aout, .inl (G.2.2.2.2, 1, .inr (.inl ((fun _ => 0))))), (x0, .inr (11, ofL 17 Fx0)), (x3, .inr (7, ofL 5 Fx3)), (m0, .inr (12, ofL 88 (updV (updV Fm0 0 (.int 0)) 0 (.int 1))))] H := hP
      have hD : va_D A [(aout, .inl (G.2.2.2.2, 1, .inr (.inl ((fun _ => 0))))), (x0, .inr (11, ofL 17 Fx0)), (x3, .inr (7, ofL 5 Fx3)), (m0, .inr (12, ofL 88 (updV (updV Fm0 0 (.int 0)) 0 (.int 1))))] := hD
      refine lv_lstore (lv' := [(6, .long 0), (5, .int 1), (0, .ref b), (1, .ref x0), (2, .ref m0), (3, .ref aout), (4, .int 0)]) hx hb dL_law_1119 hl (by decide) rfl (fun ls hl => ?_)
      refine lv_aload_n hx hb dL_law_1121 rfl (lv_at hl 4 rfl) ?_
      refine k_callVi (wr := [(aout, .inl (G.2.2.2.2, 1, .inr (.inl ((fun _ => 0))))), (x0, .inr (11, ofL 17 Fx0)), (x3, .inr (7, ofL 5 Fx3))]) (rest := []) li_L_118 C (c_X12_thrown l G H.size m0 (updV (updV Fm0 0 (.int 0)) 0 (.int 1)) 1 rfl) (kR rfl) hP hD hS [3] [0, 1, 2] rfl rfl rfl rfl (by decide) 0 12 rfl rfl rfl hl.1 rfl (Nat.le_of_ble_eq_true rfl) dL_law_1122 (fun rr27 uu28 H locs hw26 hP hD hS => ?_)
      obtain rfl : rr27 = 1 := hw26
      have hP : va_P G.1 vwCl [(aout, .inl (G.2.2.2.2, 1, .inr (.inl ((fun _ => 0))))), (x0, .inr (11, ofL 17 Fx0)), (x3, .inr (7, ofL 5 Fx3)), (m0, .inr (12, ofL 88 (updV (updV Fm0 0 (.int 0)) 0 (.int 1))))] H := hP
      have hD : va_D A [(aout, .inl (G.2.2.2.2, 1, .inr (.inl ((fun _ => 0))))), (x0, .inr (11, ofL 17 Fx0)), (x3, .inr (7, ofL 5 Fx3)), (m0, .inr (12, ofL 88 (updV (updV Fm0 0 (.int 0)) 0 (.int 1))))] := hD
      refine lv_iload hx hb dL_law_1125 (lv_at hl 1 rfl) ?_
      refine lv_icmp_eq (x := 1) (y := 1) (tgt := 1132) hx hb dL_law_1127 (by decide) (fun c_29 => ?_) (fun c_29 => ?_)
      rotate_left
      · exact absurd (by decide) c_29
      refine lv_iload hx hb dL_law_1132 (lv_at hl 1 rfl) ?_
      refine lv_if_ne (x := 1) (tgt := 1148) hx hb dL_law_1134 (by decide) (fun c_30 => ?_) (fun c_30 => ?_)
      rotate_left
      · exact absurd c_30 (by decide)
      refine lv_goto (tgt := 2265) hx hb dL_law_1148 (by decide) ?_
      exact law_end hst C0 hA C hS (lv_sub hl [2, 6] rfl) (Nat.le_of_ble_eq_true rfl) (Nat.le_of_ble_eq_true rfl)
    ·
      have hP : va_P G.1 vwCl [(aout, .inl (G.2.2.2.2, 1, .inr (.inl ((fun _ => 0))))), (x0, .inr (11, ofL 17 Fx0)), (x3, .inr (7, ofL 5 Fx3)), (m0, .inr (12, ofL 88 (updV (updV Fm0 0 (.int 0)) 0 (.int 1))))] H := hP
      have hD : va_D A [(aout, .inl (G.2.2.2.2, 1, .inr (.inl ((fun _ => 0))))), (x0, .inr (11, ofL 17 Fx0)), (x3, .inr (7, ofL 5 Fx3)), (m0, .inr (12, ofL 88 (updV (updV Fm0 0 (.int 0)) 0 (.int 1))))] := hD
      refine lv_lstore (lv' := [(6, .long 0), (5, .int 1), (0, .ref b), (1, .ref x0), (2, .ref m0), (3, .ref aout), (4, .int 0)]) hx hb dL_law_1119 hl (by decide) rfl (fun ls hl => ?_)
      refine lv_aload_n hx hb dL_law_1121 rfl (lv_at hl 4 rfl) ?_
      refine k_callVi (wr := [(aout, .inl (G.2.2.2.2, 1, .inr (.inl ((fun _ => 0))))), (x0, .inr (11, ofL 17 Fx0)), (x3, .inr (7, ofL 5 Fx3))]) (rest := []) li_L_118 C (c_X12_thrown l G H.size m0 (updV (updV Fm0 0 (.int 0)) 0 (.int 1)) 1 rfl) (kR rfl) hP hD hS [3] [0, 1, 2] rfl rfl rfl rfl (by decide) 0 12 rfl rfl rfl hl.1 rfl (Nat.le_of_ble_eq_true rfl) dL_law_1122 (fun rr32 uu33 H locs hw31 hP hD hS => ?_)
      obtain rfl : rr32 = 1 := hw31
      have hP : va_P G.1 vwCl [(aout, .inl (G.2.2.2.2, 1, .inr (.inl ((fun _ => 0))))), (x0, .inr (11, ofL 17 Fx0)), (x3, .inr (7, ofL 5 Fx3)), (m0, .inr (12, ofL 88 (updV (updV Fm0 0 (.int 0)) 0 (.int 1))))] H := hP
      have hD : va_D A [(aout, .inl (G.2.2.2.2, 1, .inr (.inl ((fun _ => 0))))), (x0, .inr (11, ofL 17 Fx0)), (x3, .inr (7, ofL 5 Fx3)), (m0, .inr (12, ofL 88 (updV (updV Fm0 0 (.int 0)) 0 (.int 1))))] := hD
      refine lv_iload hx hb dL_law_1125 (lv_at hl 1 rfl) ?_
      refine lv_icmp_eq (x := 1) (y := 1) (tgt := 1132) hx hb dL_law_1127 (by decide) (fun c_34 => ?_) (fun c_34 => ?_)
      rotate_left
      · exact absurd (by decide) c_34
      refine lv_iload hx hb dL_law_1132 (lv_at hl 1 rfl) ?_
      refine lv_if_ne (x := 1) (tgt := 1148) hx hb dL_law_1134 (by decide) (fun c_35 => ?_) (fun c_35 => ?_)
      rotate_left
      · exact absurd c_35 (by decide)
      refine lv_goto (tgt := 2265) hx hb dL_law_1148 (by decide) ?_
      exact law_end hst C0 hA C hS (lv_sub hl [2, 6] rfl) (Nat.le_of_ble_eq_true rfl) (Nat.le_of_ble_eq_true rfl)
