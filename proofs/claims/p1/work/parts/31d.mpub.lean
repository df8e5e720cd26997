theorem dX12_obey_0 : decode cX12_obey 0 = .ok (.aload_n 0, 1) := by decide +kernel
theorem dX12_obey_1 : decode cX12_obey 1 = .ok (.iconst 0, 1) := by decide +kernel
theorem dX12_obey_2 : decode cX12_obey 2 = .ok (.putfield 177, 3) := by decide +kernel
theorem dX12_obey_5 : decode cX12_obey 5 = .ok (.iload_n 1, 1) := by decide +kernel
theorem dX12_obey_6 : decode cX12_obey 6 = .ok (.iconst (-1), 1) := by decide +kernel
theorem dX12_obey_7 : decode cX12_obey 7 = .ok (.if_icmp .lt 11, 3) := by decide +kernel
theorem dX12_obey_18 : decode cX12_obey 18 = .ok (.aload_n 0, 1) := by decide +kernel
theorem dX12_obey_19 : decode cX12_obey 19 = .ok (.iconst 1, 1) := by decide +kernel
theorem tw_1899 : (Jvm.Cond.methodLink "MarshBellsModel" (411 : Nat) ({ cls := "MarshBellsModel", name := "refuses", desc := "(I)I" } : Jvm.MethodName)) ∈ lw_tbl := tk_8 (List.mem_of_getElem? (i := 219) rfl)
theorem tw_1902 : (Jvm.Cond.code ({ cls := "MarshBellsModel", name := "refuses", desc := "(I)I" } : Jvm.MethodName) prog_14_method_58_code (2 : Nat) (Option.some Jvm.ClassFile.FieldType.int)) ∈ lw_tbl := tk_8 (List.mem_of_getElem? (i := 222) rfl)
theorem tw_1901 : (Jvm.Cond.instanceMethod ({ cls := "MarshBellsModel", name := "refuses", desc := "(I)I" } : Jvm.MethodName)) ∈ lw_tbl := tk_8 (List.mem_of_getElem? (i := 221) rfl)
theorem se_X12_refuses : Cond.selects RX12 yX12_refuses yX12_refuses ∈ lw_tbl := List.mem_append_left _ (List.mem_of_getElem? (i := 144) rfl)
theorem li_X12_411 : kLV RX12 411 RX12 yX12_refuses cX12_refuses 2 (some .int) 1 := ⟨tw_1899, tw_1901, se_X12_refuses, tw_1902, tw_13, by decide +kernel⟩
theorem dX12_obey_20 : decode cX12_obey 20 = .ok (.invokevirtual 411, 3) := by decide +kernel
theorem dX12_obey_23 : decode cX12_obey 23 = .ok (.ifCond .le 7, 3) := by decide +kernel
theorem dX12_obey_30 : decode cX12_obey 30 = .ok (.iconst 0, 1) := by decide +kernel
theorem dX12_obey_31 : decode cX12_obey 31 = .ok (.ireturn, 1) := by decide +kernel
theorem dX12_obey_10 : decode cX12_obey 10 = .ok (.iload_n 1, 1) := by decide +kernel
theorem dX12_obey_11 : decode cX12_obey 11 = .ok (.aload_n 0, 1) := by decide +kernel
theorem dX12_obey_12 : decode cX12_obey 12 = .ok (.getfield 338, 3) := by decide +kernel
theorem dX12_obey_15 : decode cX12_obey 15 = .ok (.if_icmp .lt 17, 3) := by decide +kernel
theorem dX12_obey_32 : decode cX12_obey 32 = .ok (.aload_n 0, 1) := by decide +kernel
theorem dX12_obey_33 : decode cX12_obey 33 = .ok (.bipush 48, 2) := by decide +kernel
theorem dX12_obey_35 : decode cX12_obey 35 = .ok (.aload_n 0, 1) := by decide +kernel
theorem dX12_obey_36 : decode cX12_obey 36 = .ok (.getfield 105, 3) := by decide +kernel
theorem tw_1903 : (Jvm.Cond.methodLink "MarshBellsModel" (414 : Nat) ({ cls := "MarshBellsModel", name := "keeps", desc := "(II)V" } : Jvm.MethodName)) ∈ lw_tbl := tk_8 (List.mem_of_getElem? (i := 223) rfl)
theorem tw_1906 : (Jvm.Cond.code ({ cls := "MarshBellsModel", name := "keeps", desc := "(II)V" } : Jvm.MethodName) prog_14_method_57_code (4 : Nat) (Option.none : Option Jvm.ClassFile.FieldType)) ∈ lw_tbl := tk_8 (List.mem_of_getElem? (i := 226) rfl)
theorem tw_1905 : (Jvm.Cond.instanceMethod ({ cls := "MarshBellsModel", name := "keeps", desc := "(II)V" } : Jvm.MethodName)) ∈ lw_tbl := tk_8 (List.mem_of_getElem? (i := 225) rfl)
theorem se_X12_keeps : Cond.selects RX12 yX12_keeps yX12_keeps ∈ lw_tbl := List.mem_append_left _ (List.mem_of_getElem? (i := 145) rfl)
theorem li_X12_414 : kLV RX12 414 RX12 yX12_keeps cX12_keeps 4 none 2 := ⟨tw_1903, tw_1905, se_X12_keeps, tw_1906, tw_13, by decide +kernel⟩
theorem dX12_obey_39 : decode cX12_obey 39 = .ok (.invokevirtual 414, 3) := by decide +kernel
theorem dX12_obey_42 : decode cX12_obey 42 = .ok (.aload_n 0, 1) := by decide +kernel
theorem dX12_obey_43 : decode cX12_obey 43 = .ok (.iload_n 1, 1) := by decide +kernel
theorem dX12_obey_44 : decode cX12_obey 44 = .ok (.putfield 105, 3) := by decide +kernel
theorem dX12_obey_47 : decode cX12_obey 47 = .ok (.iconst 1, 1) := by decide +kernel
theorem dX12_obey_48 : decode cX12_obey 48 = .ok (.ireturn, 1) := by decide +kernel
theorem dX12_undo_0 : decode cX12_undo 0 = .ok (.aload_n 0, 1) := by decide +kernel
theorem dX12_undo_1 : decode cX12_undo 1 = .ok (.iconst 0, 1) := by decide +kernel
theorem dX12_undo_2 : decode cX12_undo 2 = .ok (.putfield 177, 3) := by decide +kernel
theorem dX12_undo_5 : decode cX12_undo 5 = .ok (.aload_n 0, 1) := by decide +kernel
theorem dX12_undo_6 : decode cX12_undo 6 = .ok (.getfield 345, 3) := by decide +kernel
theorem dX12_undo_9 : decode cX12_undo 9 = .ok (.ifCond .ne 5, 3) := by decide +kernel
theorem dX12_undo_12 : decode cX12_undo 12 = .ok (.iconst (-1), 1) := by decide +kernel
theorem dX12_undo_13 : decode cX12_undo 13 = .ok (.ireturn, 1) := by decide +kernel
theorem dX12_swap_0 : decode cX12_swap 0 = .ok (.aload_n 0, 1) := by decide +kernel
theorem dX12_swap_1 : decode cX12_swap 1 = .ok (.iconst 0, 1) := by decide +kernel
theorem dX12_swap_2 : decode cX12_swap 2 = .ok (.putfield 177, 3) := by decide +kernel
theorem dX12_swap_5 : decode cX12_swap 5 = .ok (.aload_n 0, 1) := by decide +kernel
theorem dX12_swap_6 : decode cX12_swap 6 = .ok (.iload_n 1, 1) := by decide +kernel
theorem dX12_swap_7 : decode cX12_swap 7 = .ok (.iconst 1, 1) := by decide +kernel
theorem tw_1879 : (Jvm.Cond.methodLink "MarshBellsModel" (405 : Nat) ({ cls := "MarshBellsModel", name := "isWhat", desc := "(II)Z" } : Jvm.MethodName)) ∈ lw_tbl := tk_8 (List.mem_of_getElem? (i := 199) rfl)
theorem tw_1882 : (Jvm.Cond.code ({ cls := "MarshBellsModel", name := "isWhat", desc := "(II)Z" } : Jvm.MethodName) prog_14_method_52_code (3 : Nat) (Option.some Jvm.ClassFile.FieldType.boolean)) ∈ lw_tbl := tk_8 (List.mem_of_getElem? (i := 202) rfl)
theorem tw_1881 : (Jvm.Cond.instanceMethod ({ cls := "MarshBellsModel", name := "isWhat", desc := "(II)Z" } : Jvm.MethodName)) ∈ lw_tbl := tk_8 (List.mem_of_getElem? (i := 201) rfl)
theorem se_X12_isWhat : Cond.selects RX12 yX12_isWhat yX12_isWhat ∈ lw_tbl := List.mem_append_left _ (List.mem_of_getElem? (i := 142) rfl)
theorem li_X12_405 : kLV RX12 405 RX12 yX12_isWhat cX12_isWhat 3 (some .boolean) 2 := ⟨tw_1879, tw_1881, se_X12_isWhat, tw_1882, tw_13, by decide +kernel⟩
theorem dX12_swap_8 : decode cX12_swap 8 = .ok (.invokevirtual 405, 3) := by decide +kernel
theorem dX12_swap_11 : decode cX12_swap 11 = .ok (.ifCond .ne 5, 3) := by decide +kernel
theorem dX12_swap_14 : decode cX12_swap 14 = .ok (.iconst 0, 1) := by decide +kernel
theorem dX12_swap_15 : decode cX12_swap 15 = .ok (.ireturn, 1) := by decide +kernel
theorem dX12_swap_16 : decode cX12_swap 16 = .ok (.iconst (-1), 1) := by decide +kernel
theorem dX12_swap_17 : decode cX12_swap 17 = .ok (.istore_n 2, 1) := by decide +kernel
theorem dX12_swap_18 : decode cX12_swap 18 = .ok (.aload_n 0, 1) := by decide +kernel
theorem dX12_swap_19 : decode cX12_swap 19 = .ok (.invokevirtual 399, 3) := by decide +kernel
theorem dX12_swap_22 : decode cX12_swap 22 = .ok (.istore_n 3, 1) := by decide +kernel
theorem dX12_swap_23 : decode cX12_swap 23 = .ok (.iconst 0, 1) := by decide +kernel
theorem dX12_swap_24 : decode cX12_swap 24 = .ok (.istore 4, 2) := by decide +kernel
theorem dX12_swap_26 : decode cX12_swap 26 = .ok (.iload 4, 2) := by decide +kernel
theorem dX12_swap_28 : decode cX12_swap 28 = .ok (.aload_n 0, 1) := by decide +kernel
theorem dX12_swap_29 : decode cX12_swap 29 = .ok (.getfield 335, 3) := by decide +kernel
theorem dX12_swap_32 : decode cX12_swap 32 = .ok (.if_icmp .ge 73, 3) := by decide +kernel
theorem dX12_swap_105 : decode cX12_swap 105 = .ok (.iload_n 2, 1) := by decide +kernel
theorem dX12_swap_106 : decode cX12_swap 106 = .ok (.iconst (-1), 1) := by decide +kernel
theorem dX12_swap_107 : decode cX12_swap 107 = .ok (.if_icmp .eq 7, 3) := by decide +kernel
theorem dX12_swap_114 : decode cX12_swap 114 = .ok (.iload_n 2, 1) := by decide +kernel
theorem dX12_swap_115 : decode cX12_swap 115 = .ok (.goto 4, 3) := by decide +kernel
theorem dX12_swap_119 : decode cX12_swap 119 = .ok (.ireturn, 1) := by decide +kernel
theorem dX12_last_0 : decode cX12_last 0 = .ok (.aload_n 0, 1) := by decide +kernel
theorem dX12_last_1 : decode cX12_last 1 = .ok (.iconst 0, 1) := by decide +kernel
theorem dX12_last_2 : decode cX12_last 2 = .ok (.putfield 177, 3) := by decide +kernel
theorem dX12_last_5 : decode cX12_last 5 = .ok (.iconst (-1), 1) := by decide +kernel
theorem dX12_last_6 : decode cX12_last 6 = .ok (.istore_n 1, 1) := by decide +kernel
theorem dX12_last_7 : decode cX12_last 7 = .ok (.iconst 0, 1) := by decide +kernel
theorem dX12_last_8 : decode cX12_last 8 = .ok (.istore_n 2, 1) := by decide +kernel
theorem dX12_last_9 : decode cX12_last 9 = .ok (.iconst 0, 1) := by decide +kernel
theorem dX12_last_10 : decode cX12_last 10 = .ok (.istore_n 3, 1) := by decide +kernel
theorem dX12_last_11 : decode cX12_last 11 = .ok (.iload_n 3, 1) := by decide +kernel
theorem dX12_last_12 : decode cX12_last 12 = .ok (.aload_n 0, 1) := by decide +kernel
theorem dX12_last_13 : decode cX12_last 13 = .ok (.getfield 335, 3) := by decide +kernel
theorem dX12_last_16 : decode cX12_last 16 = .ok (.if_icmp .ge 63, 3) := by decide +kernel
theorem dX12_last_79 : decode cX12_last 79 = .ok (.iload_n 1, 1) := by decide +kernel
theorem dX12_last_80 : decode cX12_last 80 = .ok (.ireturn, 1) := by decide +kernel
theorem dX12_compare_0 : decode cX12_compare 0 = .ok (.aload_n 0, 1) := by decide +kernel
theorem dX12_compare_1 : decode cX12_compare 1 = .ok (.iconst 0, 1) := by decide +kernel
theorem dX12_compare_2 : decode cX12_compare 2 = .ok (.putfield 177, 3) := by decide +kernel
theorem dX12_compare_5 : decode cX12_compare 5 = .ok (.aload_n 0, 1) := by decide +kernel
theorem dX12_compare_6 : decode cX12_compare 6 = .ok (.iload_n 1, 1) := by decide +kernel
theorem dX12_compare_7 : decode cX12_compare 7 = .ok (.iconst (-1), 1) := by decide +kernel
theorem dX12_compare_8 : decode cX12_compare 8 = .ok (.if_icmp .lt 15, 3) := by decide +kernel
theorem dX12_compare_23 : decode cX12_compare 23 = .ok (.iconst 0, 1) := by decide +kernel
theorem dX12_compare_24 : decode cX12_compare 24 = .ok (.iconst 1, 1) := by decide +kernel
theorem dX12_compare_25 : decode cX12_compare 25 = .ok (.invokevirtual 328, 3) := by decide +kernel
theorem dX12_compare_28 : decode cX12_compare 28 = .ok (.ifCond .eq 11, 3) := by decide +kernel
theorem dX12_compare_39 : decode cX12_compare 39 = .ok (.iconst 0, 1) := by decide +kernel
theorem dX12_compare_40 : decode cX12_compare 40 = .ok (.ireturn, 1) := by decide +kernel
theorem dX12_compare_11 : decode cX12_compare 11 = .ok (.iload_n 1, 1) := by decide +kernel
theorem dX12_compare_12 : decode cX12_compare 12 = .ok (.aload_n 0, 1) := by decide +kernel
theorem dX12_compare_13 : decode cX12_compare 13 = .ok (.getfield 338, 3) := by decide +kernel
theorem dX12_compare_16 : decode cX12_compare 16 = .ok (.if_icmp .ge 7, 3) := by decide +kernel
theorem dX12_compare_19 : decode cX12_compare 19 = .ok (.iconst 1, 1) := by decide +kernel
theorem dX12_compare_20 : decode cX12_compare 20 = .ok (.goto 4, 3) := by decide +kernel
theorem dX12_compare_31 : decode cX12_compare 31 = .ok (.aload_n 0, 1) := by decide +kernel
theorem dX12_compare_32 : decode cX12_compare 32 = .ok (.iload_n 1, 1) := by decide +kernel
theorem tw_2002 : (Jvm.Cond.methodLink "MarshBellsModel" (459 : Nat) ({ cls := "MarshBellsModel", name := "lostBy", desc := "(I)I" } : Jvm.MethodName)) ∈ lw_tbl := tk_9 (List.mem_of_getElem? (i := 82) rfl)
theorem tw_2005 : (Jvm.Cond.code ({ cls := "MarshBellsModel", name := "lostBy", desc := "(I)I" } : Jvm.MethodName) prog_14_method_82_code (4 : Nat) (Option.some Jvm.ClassFile.FieldType.int)) ∈ lw_tbl := tk_9 (List.mem_of_getElem? (i := 85) rfl)
theorem tw_2004 : (Jvm.Cond.instanceMethod ({ cls := "MarshBellsModel", name := "lostBy", desc := "(I)I" } : Jvm.MethodName)) ∈ lw_tbl := tk_9 (List.mem_of_getElem? (i := 84) rfl)
theorem se_X12_lostBy : Cond.selects RX12 yX12_lostBy yX12_lostBy ∈ lw_tbl := List.mem_append_left _ (List.mem_of_getElem? (i := 154) rfl)
theorem li_X12_459 : kLV RX12 459 RX12 yX12_lostBy cX12_lostBy 4 (some .int) 1 := ⟨tw_2002, tw_2004, se_X12_lostBy, tw_2005, tw_13, by decide +kernel⟩
theorem dX12_compare_33 : decode cX12_compare 33 = .ok (.invokevirtual 459, 3) := by decide +kernel
theorem dX12_compare_36 : decode cX12_compare 36 = .ok (.goto 4, 3) := by decide +kernel
theorem dX12_best_0 : decode cX12_best 0 = .ok (.aload_n 0, 1) := by decide +kernel
theorem dX12_best_1 : decode cX12_best 1 = .ok (.iconst 0, 1) := by decide +kernel
theorem dX12_best_2 : decode cX12_best 2 = .ok (.putfield 177, 3) := by decide +kernel
theorem dX12_best_5 : decode cX12_best 5 = .ok (.iconst (-1), 1) := by decide +kernel
theorem dX12_best_6 : decode cX12_best 6 = .ok (.istore_n 1, 1) := by decide +kernel
theorem dX12_best_7 : decode cX12_best 7 = .ok (.iconst 0, 1) := by decide +kernel
theorem dX12_best_8 : decode cX12_best 8 = .ok (.istore_n 2, 1) := by decide +kernel
theorem dX12_best_9 : decode cX12_best 9 = .ok (.iload_n 2, 1) := by decide +kernel
theorem dX12_best_10 : decode cX12_best 10 = .ok (.aload_n 0, 1) := by decide +kernel
theorem dX12_best_11 : decode cX12_best 11 = .ok (.getfield 338, 3) := by decide +kernel
theorem dX12_best_14 : decode cX12_best 14 = .ok (.if_icmp .ge 24, 3) := by decide +kernel
theorem dX12_best_38 : decode cX12_best 38 = .ok (.iload_n 1, 1) := by decide +kernel
theorem dX12_best_39 : decode cX12_best 39 = .ok (.ireturn, 1) := by decide +kernel
theorem dX12_bell_0 : decode cX12_bell 0 = .ok (.aload_n 0, 1) := by decide +kernel
theorem dX12_bell_1 : decode cX12_bell 1 = .ok (.iconst 0, 1) := by decide +kernel
theorem dX12_bell_2 : decode cX12_bell 2 = .ok (.putfield 177, 3) := by decide +kernel
theorem dX12_bell_5 : decode cX12_bell 5 = .ok (.aload_n 0, 1) := by decide +kernel
theorem dX12_bell_6 : decode cX12_bell 6 = .ok (.iload_n 1, 1) := by decide +kernel
theorem dX12_bell_7 : decode cX12_bell 7 = .ok (.iconst 0, 1) := by decide +kernel
theorem dX12_bell_8 : decode cX12_bell 8 = .ok (.bipush 60, 2) := by decide +kernel
theorem dX12_bell_10 : decode cX12_bell 10 = .ok (.invokestatic 392, 3) := by decide +kernel
theorem dX12_bell_13 : decode cX12_bell 13 = .ok (.iconst 1, 1) := by decide +kernel
theorem dX12_bell_14 : decode cX12_bell 14 = .ok (.invokevirtual 328, 3) := by decide +kernel
theorem dX12_bell_17 : decode cX12_bell 17 = .ok (.ifCond .ne 5, 3) := by decide +kernel
theorem dX12_bell_20 : decode cX12_bell 20 = .ok (.iconst 0, 1) := by decide +kernel
theorem dX12_bell_21 : decode cX12_bell 21 = .ok (.ireturn, 1) := by decide +kernel
theorem dX12_bell_22 : decode cX12_bell 22 = .ok (.aload_n 0, 1) := by decide +kernel
theorem dX12_bell_23 : decode cX12_bell 23 = .ok (.invokevirtual 399, 3) := by decide +kernel
theorem dX12_bell_26 : decode cX12_bell 26 = .ok (.istore_n 2, 1) := by decide +kernel
theorem dX12_bell_27 : decode cX12_bell 27 = .ok (.aload_n 0, 1) := by decide +kernel
theorem dX12_bell_28 : decode cX12_bell 28 = .ok (.aload_n 0, 1) := by decide +kernel
theorem dX12_bell_29 : decode cX12_bell 29 = .ok (.getfield 50, 3) := by decide +kernel
theorem dX12_bell_32 : decode cX12_bell 32 = .ok (.aload_n 0, 1) := by decide +kernel
theorem dX12_bell_33 : decode cX12_bell 33 = .ok (.getfield 150, 3) := by decide +kernel
theorem dX12_bell_36 : decode cX12_bell 36 = .ok (.invokevirtual 341, 3) := by decide +kernel
theorem dX12_bell_39 : decode cX12_bell 39 = .ok (.iconst 0, 1) := by decide +kernel
theorem dX12_bell_40 : decode cX12_bell 40 = .ok (.istore_n 3, 1) := by decide +kernel
theorem dX12_bell_41 : decode cX12_bell 41 = .ok (.iload_n 3, 1) := by decide +kernel
theorem dX12_bell_42 : decode cX12_bell 42 = .ok (.aload_n 0, 1) := by decide +kernel
theorem dX12_bell_43 : decode cX12_bell 43 = .ok (.getfield 335, 3) := by decide +kernel
theorem dX12_bell_46 : decode cX12_bell 46 = .ok (.if_icmp .ge 30, 3) := by decide +kernel
theorem dX12_bell_76 : decode cX12_bell 76 = .ok (.iload_n 2, 1) := by decide +kernel
theorem dX12_bell_77 : decode cX12_bell 77 = .ok (.aload_n 0, 1) := by decide +kernel
theorem dX12_bell_78 : decode cX12_bell 78 = .ok (.invokevirtual 399, 3) := by decide +kernel
theorem dX12_bell_81 : decode cX12_bell 81 = .ok (.isub, 1) := by decide +kernel
theorem dX12_bell_82 : decode cX12_bell 82 = .ok (.istore_n 2, 1) := by decide +kernel
theorem dX12_bell_83 : decode cX12_bell 83 = .ok (.aload_n 0, 1) := by decide +kernel
theorem dX12_bell_84 : decode cX12_bell 84 = .ok (.aload_n 0, 1) := by decide +kernel
theorem dX12_bell_85 : decode cX12_bell 85 = .ok (.getfield 150, 3) := by decide +kernel
theorem dX12_bell_88 : decode cX12_bell 88 = .ok (.aload_n 0, 1) := by decide +kernel
theorem dX12_bell_89 : decode cX12_bell 89 = .ok (.getfield 50, 3) := by decide +kernel
theorem dX12_bell_92 : decode cX12_bell 92 = .ok (.invokevirtual 341, 3) := by decide +kernel
theorem dX12_bell_95 : decode cX12_bell 95 = .ok (.iload_n 2, 1) := by decide +kernel
theorem dX12_bell_96 : decode cX12_bell 96 = .ok (.ireturn, 1) := by decide +kernel
theorem dX12_pair_0 : decode cX12_pair 0 = .ok (.aload_n 0, 1) := by decide +kernel
theorem dX12_pair_1 : decode cX12_pair 1 = .ok (.iconst 0, 1) := by decide +kernel
theorem dX12_pair_2 : decode cX12_pair 2 = .ok (.putfield 177, 3) := by decide +kernel
theorem dX12_pair_5 : decode cX12_pair 5 = .ok (.aload_n 0, 1) := by decide +kernel
theorem dX12_pair_6 : decode cX12_pair 6 = .ok (.iload_n 1, 1) := by decide +kernel
theorem dX12_pair_7 : decode cX12_pair 7 = .ok (.iconst 1, 1) := by decide +kernel
theorem dX12_pair_8 : decode cX12_pair 8 = .ok (.invokevirtual 405, 3) := by decide +kernel
theorem dX12_pair_11 : decode cX12_pair 11 = .ok (.ifCond .ne 5, 3) := by decide +kernel
theorem dX12_pair_14 : decode cX12_pair 14 = .ok (.iconst 0, 1) := by decide +kernel
theorem dX12_pair_15 : decode cX12_pair 15 = .ok (.ireturn, 1) := by decide +kernel
theorem dX12_pair_16 : decode cX12_pair 16 = .ok (.iconst (-1), 1) := by decide +kernel
theorem dX12_pair_17 : decode cX12_pair 17 = .ok (.istore_n 2, 1) := by decide +kernel
theorem dX12_pair_18 : decode cX12_pair 18 = .ok (.iconst 0, 1) := by decide +kernel
theorem dX12_pair_19 : decode cX12_pair 19 = .ok (.istore_n 3, 1) := by decide +kernel
theorem dX12_pair_20 : decode cX12_pair 20 = .ok (.aload_n 0, 1) := by decide +kernel
theorem dX12_pair_21 : decode cX12_pair 21 = .ok (.aload_n 0, 1) := by decide +kernel
theorem dX12_pair_22 : decode cX12_pair 22 = .ok (.getfield 50, 3) := by decide +kernel
theorem dX12_pair_25 : decode cX12_pair 25 = .ok (.aload_n 0, 1) := by decide +kernel
theorem dX12_pair_26 : decode cX12_pair 26 = .ok (.getfield 150, 3) := by decide +kernel
theorem dX12_pair_29 : decode cX12_pair 29 = .ok (.invokevirtual 341, 3) := by decide +kernel
theorem dX12_pair_32 : decode cX12_pair 32 = .ok (.iconst 0, 1) := by decide +kernel
theorem dX12_pair_33 : decode cX12_pair 33 = .ok (.istore 4, 2) := by decide +kernel
theorem dX12_pair_35 : decode cX12_pair 35 = .ok (.iload 4, 2) := by decide +kernel
theorem dX12_pair_37 : decode cX12_pair 37 = .ok (.aload_n 0, 1) := by decide +kernel
theorem dX12_pair_38 : decode cX12_pair 38 = .ok (.getfield 335, 3) := by decide +kernel
theorem dX12_pair_41 : decode cX12_pair 41 = .ok (.if_icmp .ge 94, 3) := by decide +kernel
theorem dX12_pair_135 : decode cX12_pair 135 = .ok (.iload_n 2, 1) := by decide +kernel
theorem dX12_pair_136 : decode cX12_pair 136 = .ok (.iconst (-1), 1) := by decide +kernel
theorem dX12_pair_137 : decode cX12_pair 137 = .ok (.if_icmp .eq 7, 3) := by decide +kernel
theorem dX12_pair_144 : decode cX12_pair 144 = .ok (.iload_n 2, 1) := by decide +kernel
theorem dX12_pair_145 : decode cX12_pair 145 = .ok (.goto 4, 3) := by decide +kernel
theorem dX12_pair_149 : decode cX12_pair 149 = .ok (.ireturn, 1) := by decide +kernel
theorem dX12_pause_0 : decode cX12_pause 0 = .ok (.aload_n 0, 1) := by decide +kernel
theorem dX12_pause_1 : decode cX12_pause 1 = .ok (.iconst 0, 1) := by decide +kernel
theorem dX12_pause_2 : decode cX12_pause 2 = .ok (.putfield 177, 3) := by decide +kernel
theorem dX12_pause_5 : decode cX12_pause 5 = .ok (.aload_n 0, 1) := by decide +kernel
theorem dX12_pause_6 : decode cX12_pause 6 = .ok (.iload_n 2, 1) := by decide +kernel
theorem dX12_pause_7 : decode cX12_pause 7 = .ok (.iconst 1, 1) := by decide +kernel
theorem dX12_pause_8 : decode cX12_pause 8 = .ok (.invokevirtual 405, 3) := by decide +kernel
theorem dX12_pause_11 : decode cX12_pause 11 = .ok (.ifCond .eq 18, 3) := by decide +kernel
theorem dX12_pause_29 : decode cX12_pause 29 = .ok (.iconst 0, 1) := by decide +kernel
theorem dX12_pause_30 : decode cX12_pause 30 = .ok (.ireturn, 1) := by decide +kernel
theorem dX12_pause_14 : decode cX12_pause 14 = .ok (.aload_n 0, 1) := by decide +kernel
theorem dX12_pause_15 : decode cX12_pause 15 = .ok (.iload_n 1, 1) := by decide +kernel
theorem dX12_pause_16 : decode cX12_pause 16 = .ok (.iconst 1, 1) := by decide +kernel
theorem dX12_pause_17 : decode cX12_pause 17 = .ok (.bipush 30, 2) := by decide +kernel
theorem dX12_pause_19 : decode cX12_pause 19 = .ok (.invokestatic 392, 3) := by decide +kernel
theorem dX12_pause_22 : decode cX12_pause 22 = .ok (.iconst 2, 1) := by decide +kernel
theorem dX12_pause_23 : decode cX12_pause 23 = .ok (.invokevirtual 328, 3) := by decide +kernel
theorem dX12_pause_26 : decode cX12_pause 26 = .ok (.ifCond .ne 5, 3) := by decide +kernel
theorem dX12_pause_31 : decode cX12_pause 31 = .ok (.iconst (-1), 1) := by decide +kernel
theorem dX12_pause_32 : decode cX12_pause 32 = .ok (.istore_n 3, 1) := by decide +kernel
theorem dX12_pause_33 : decode cX12_pause 33 = .ok (.iconst 0, 1) := by decide +kernel
theorem dX12_pause_34 : decode cX12_pause 34 = .ok (.istore 4, 2) := by decide +kernel
theorem dX12_pause_36 : decode cX12_pause 36 = .ok (.aload_n 0, 1) := by decide +kernel
theorem dX12_pause_37 : decode cX12_pause 37 = .ok (.aload_n 0, 1) := by decide +kernel
theorem dX12_pause_38 : decode cX12_pause 38 = .ok (.getfield 50, 3) := by decide +kernel
theorem dX12_pause_41 : decode cX12_pause 41 = .ok (.aload_n 0, 1) := by decide +kernel
theorem dX12_pause_42 : decode cX12_pause 42 = .ok (.getfield 150, 3) := by decide +kernel
theorem dX12_pause_45 : decode cX12_pause 45 = .ok (.invokevirtual 341, 3) := by decide +kernel
theorem dX12_pause_48 : decode cX12_pause 48 = .ok (.iconst 0, 1) := by decide +kernel
theorem dX12_pause_49 : decode cX12_pause 49 = .ok (.istore 5, 2) := by decide +kernel
theorem dX12_pause_51 : decode cX12_pause 51 = .ok (.iload 5, 2) := by decide +kernel
theorem dX12_pause_53 : decode cX12_pause 53 = .ok (.aload_n 0, 1) := by decide +kernel
theorem dX12_pause_54 : decode cX12_pause 54 = .ok (.getfield 335, 3) := by decide +kernel
theorem dX12_pause_57 : decode cX12_pause 57 = .ok (.if_icmp .ge 125, 3) := by decide +kernel
theorem dX12_pause_182 : decode cX12_pause 182 = .ok (.iload_n 3, 1) := by decide +kernel
theorem dX12_pause_183 : decode cX12_pause 183 = .ok (.iconst (-1), 1) := by decide +kernel
theorem dX12_pause_184 : decode cX12_pause 184 = .ok (.if_icmp .eq 7, 3) := by decide +kernel
theorem dX12_pause_191 : decode cX12_pause 191 = .ok (.iload_n 3, 1) := by decide +kernel
theorem dX12_pause_192 : decode cX12_pause 192 = .ok (.goto 5, 3) := by decide +kernel
theorem dX12_pause_197 : decode cX12_pause 197 = .ok (.ireturn, 1) := by decide +kernel
theorem dX12_forget_0 : decode cX12_forget 0 = .ok (.aload_n 0, 1) := by decide +kernel
theorem dX12_forget_1 : decode cX12_forget 1 = .ok (.iconst 0, 1) := by decide +kernel
theorem dX12_forget_2 : decode cX12_forget 2 = .ok (.putfield 177, 3) := by decide +kernel
theorem dX12_forget_5 : decode cX12_forget 5 = .ok (.aload_n 0, 1) := by decide +kernel
theorem dX12_forget_6 : decode cX12_forget 6 = .ok (.iconst 0, 1) := by decide +kernel
theorem dX12_forget_7 : decode cX12_forget 7 = .ok (.putfield 348, 3) := by decide +kernel
theorem dX12_forget_10 : decode cX12_forget 10 = .ok (.return_, 1) := by decide +kernel
theorem dX12_fits_0 : decode cX12_fits 0 = .ok (.aload_n 0, 1) := by decide +kernel
theorem dX12_fits_1 : decode cX12_fits 1 = .ok (.iconst 0, 1) := by decide +kernel
theorem dX12_fits_2 : decode cX12_fits 2 = .ok (.putfield 177, 3) := by decide +kernel
theorem dX12_fits_5 : decode cX12_fits 5 = .ok (.aload_n 0, 1) := by decide +kernel
theorem dX12_fits_6 : decode cX12_fits 6 = .ok (.iload_n 1, 1) := by decide +kernel
theorem dX12_fits_7 : decode cX12_fits 7 = .ok (.iconst 2, 1) := by decide +kernel
theorem dX12_fits_8 : decode cX12_fits 8 = .ok (.invokevirtual 405, 3) := by decide +kernel
theorem dX12_fits_11 : decode cX12_fits 11 = .ok (.ifCond .ne 5, 3) := by decide +kernel
theorem dX12_fits_14 : decode cX12_fits 14 = .ok (.iconst 0, 1) := by decide +kernel
theorem dX12_fits_15 : decode cX12_fits 15 = .ok (.ireturn, 1) := by decide +kernel
theorem dX12_fits_16 : decode cX12_fits 16 = .ok (.iconst 0, 1) := by decide +kernel
theorem dX12_fits_17 : decode cX12_fits 17 = .ok (.istore_n 2, 1) := by decide +kernel
theorem dX12_fits_18 : decode cX12_fits 18 = .ok (.iconst (-1), 1) := by decide +kernel
theorem dX12_fits_19 : decode cX12_fits 19 = .ok (.istore_n 3, 1) := by decide +kernel
theorem dX12_fits_20 : decode cX12_fits 20 = .ok (.iconst (-1), 1) := by decide +kernel
theorem dX12_fits_21 : decode cX12_fits 21 = .ok (.istore 4, 2) := by decide +kernel
theorem dX12_fits_23 : decode cX12_fits 23 = .ok (.iconst 1, 1) := by decide +kernel
theorem dX12_fits_24 : decode cX12_fits 24 = .ok (.istore 5, 2) := by decide +kernel
theorem dX12_fits_26 : decode cX12_fits 26 = .ok (.iconst 0, 1) := by decide +kernel
theorem dX12_fits_27 : decode cX12_fits 27 = .ok (.istore 6, 2) := by decide +kernel
theorem dX12_fits_29 : decode cX12_fits 29 = .ok (.iload 6, 2) := by decide +kernel
theorem dX12_fits_31 : decode cX12_fits 31 = .ok (.aload_n 0, 1) := by decide +kernel
theorem dX12_fits_32 : decode cX12_fits 32 = .ok (.getfield 335, 3) := by decide +kernel
theorem dX12_fits_35 : decode cX12_fits 35 = .ok (.if_icmp .ge 114, 3) := by decide +kernel
theorem dX12_fits_149 : decode cX12_fits 149 = .ok (.iload_n 1, 1) := by decide +kernel
theorem dX12_fits_150 : decode cX12_fits 150 = .ok (.ifCond .ne 7, 3) := by decide +kernel
theorem dX12_fits_157 : decode cX12_fits 157 = .ok (.iload_n 1, 1) := by decide +kernel
theorem dX12_fits_158 : decode cX12_fits 158 = .ok (.iconst 1, 1) := by decide +kernel
theorem dX12_fits_159 : decode cX12_fits 159 = .ok (.if_icmp .ne 7, 3) := by decide +kernel
theorem dX12_fits_166 : decode cX12_fits 166 = .ok (.iload 5, 2) := by decide +kernel
theorem dX12_fits_168 : decode cX12_fits 168 = .ok (.ifCond .eq 8, 3) := by decide +kernel
theorem dX12_fits_171 : decode cX12_fits 171 = .ok (.iload 4, 2) := by decide +kernel
theorem dX12_fits_173 : decode cX12_fits 173 = .ok (.goto 4, 3) := by decide +kernel
theorem dX12_fits_177 : decode cX12_fits 177 = .ok (.ireturn, 1) := by decide +kernel
theorem dX12_fits_162 : decode cX12_fits 162 = .ok (.iload_n 3, 1) := by decide +kernel
theorem dX12_fits_163 : decode cX12_fits 163 = .ok (.goto 14, 3) := by decide +kernel
theorem dX12_fits_153 : decode cX12_fits 153 = .ok (.iload_n 2, 1) := by decide +kernel
theorem dX12_fits_154 : decode cX12_fits 154 = .ok (.goto 23, 3) := by decide +kernel
theorem dX12_streams_0 : decode cX12_streams 0 = .ok (.aload_n 0, 1) := by decide +kernel
theorem dX12_streams_1 : decode cX12_streams 1 = .ok (.iconst 0, 1) := by decide +kernel
theorem dX12_streams_2 : decode cX12_streams 2 = .ok (.putfield 177, 3) := by decide +kernel
theorem dX12_streams_5 : decode cX12_streams 5 = .ok (.aload_n 0, 1) := by decide +kernel
theorem tw_2050 : (Jvm.Cond.methodLink "MarshBellsModel" (468 : Nat) ({ cls := "MarshBellsModel", name := "ways", desc := "()V" } : Jvm.MethodName)) ∈ lw_tbl := tk_9 (List.mem_of_getElem? (i := 130) rfl)
theorem tw_2053 : (Jvm.Cond.code ({ cls := "MarshBellsModel", name := "ways", desc := "()V" } : Jvm.MethodName) prog_14_method_94_code (4 : Nat) (Option.none : Option Jvm.ClassFile.FieldType)) ∈ lw_tbl := tk_9 (List.mem_of_getElem? (i := 133) rfl)
theorem tw_2052 : (Jvm.Cond.instanceMethod ({ cls := "MarshBellsModel", name := "ways", desc := "()V" } : Jvm.MethodName)) ∈ lw_tbl := tk_9 (List.mem_of_getElem? (i := 132) rfl)
theorem se_X12_ways : Cond.selects RX12 yX12_ways yX12_ways ∈ lw_tbl := List.mem_append_left _ (List.mem_of_getElem? (i := 156) rfl)
theorem li_X12_468 : kLV RX12 468 RX12 yX12_ways cX12_ways 4 none 0 := ⟨tw_2050, tw_2052, se_X12_ways, tw_2053, tw_13, by decide +kernel⟩
theorem dX12_streams_6 : decode cX12_streams 6 = .ok (.invokevirtual 468, 3) := by decide +kernel
theorem dX12_streams_9 : decode cX12_streams 9 = .ok (.iconst 0, 1) := by decide +kernel
theorem dX12_streams_10 : decode cX12_streams 10 = .ok (.istore_n 1, 1) := by decide +kernel
theorem dX12_streams_11 : decode cX12_streams 11 = .ok (.iconst 0, 1) := by decide +kernel
theorem dX12_streams_12 : decode cX12_streams 12 = .ok (.istore_n 2, 1) := by decide +kernel
theorem dX12_streams_13 : decode cX12_streams 13 = .ok (.iload_n 2, 1) := by decide +kernel
theorem dX12_streams_14 : decode cX12_streams 14 = .ok (.aload_n 0, 1) := by decide +kernel
theorem dX12_streams_15 : decode cX12_streams 15 = .ok (.getfield 465, 3) := by decide +kernel
theorem dX12_streams_18 : decode cX12_streams 18 = .ok (.if_icmp .ge 97, 3) := by decide +kernel
theorem dX12_streams_115 : decode cX12_streams 115 = .ok (.iload_n 1, 1) := by decide +kernel
theorem dX12_streams_116 : decode cX12_streams 116 = .ok (.ireturn, 1) := by decide +kernel
theorem dX12_on_0 : decode cX12_on 0 = .ok (.aload_n 0, 1) := by decide +kernel
theorem dX12_on_1 : decode cX12_on 1 = .ok (.iconst 0, 1) := by decide +kernel
theorem dX12_on_2 : decode cX12_on 2 = .ok (.putfield 177, 3) := by decide +kernel
theorem dX12_on_5 : decode cX12_on 5 = .ok (.aload_n 0, 1) := by decide +kernel
theorem dX12_on_6 : decode cX12_on 6 = .ok (.iload_n 2, 1) := by decide +kernel
theorem dX12_on_7 : decode cX12_on 7 = .ok (.iconst 1, 1) := by decide +kernel
theorem dX12_on_8 : decode cX12_on 8 = .ok (.invokevirtual 405, 3) := by decide +kernel
theorem dX12_on_11 : decode cX12_on 11 = .ok (.ifCond .eq 19, 3) := by decide +kernel
theorem dX12_on_30 : decode cX12_on 30 = .ok (.iconst 0, 1) := by decide +kernel
theorem dX12_on_31 : decode cX12_on 31 = .ok (.ireturn, 1) := by decide +kernel
theorem dX12_on_14 : decode cX12_on 14 = .ok (.aload_n 0, 1) := by decide +kernel
theorem dX12_on_15 : decode cX12_on 15 = .ok (.iload_n 1, 1) := by decide +kernel
theorem dX12_on_16 : decode cX12_on 16 = .ok (.iconst 0, 1) := by decide +kernel
theorem dX12_on_17 : decode cX12_on 17 = .ok (.sipush 4000, 3) := by decide +kernel
theorem dX12_on_20 : decode cX12_on 20 = .ok (.invokestatic 392, 3) := by decide +kernel
theorem dX12_on_23 : decode cX12_on 23 = .ok (.iconst 2, 1) := by decide +kernel
theorem dX12_on_24 : decode cX12_on 24 = .ok (.invokevirtual 328, 3) := by decide +kernel
theorem dX12_on_27 : decode cX12_on 27 = .ok (.ifCond .ne 5, 3) := by decide +kernel
theorem dX12_on_32 : decode cX12_on 32 = .ok (.aload_n 0, 1) := by decide +kernel
theorem dX12_on_33 : decode cX12_on 33 = .ok (.invokevirtual 468, 3) := by decide +kernel
theorem dX12_on_36 : decode cX12_on 36 = .ok (.iload_n 2, 1) := by decide +kernel
theorem dX12_on_37 : decode cX12_on 37 = .ok (.iconst 1, 1) := by decide +kernel
theorem dX12_on_38 : decode cX12_on 38 = .ok (.if_icmp .ne 9, 3) := by decide +kernel
theorem dX12_on_47 : decode cX12_on 47 = .ok (.iconst 0, 1) := by decide +kernel
theorem dX12_on_48 : decode cX12_on 48 = .ok (.istore_n 3, 1) := by decide +kernel
theorem dX12_on_49 : decode cX12_on 49 = .ok (.iconst 0, 1) := by decide +kernel
theorem dX12_on_50 : decode cX12_on 50 = .ok (.istore 4, 2) := by decide +kernel
theorem dX12_on_52 : decode cX12_on 52 = .ok (.iload 4, 2) := by decide +kernel
theorem dX12_on_54 : decode cX12_on 54 = .ok (.aload_n 0, 1) := by decide +kernel
theorem dX12_on_55 : decode cX12_on 55 = .ok (.getfield 335, 3) := by decide +kernel
theorem dX12_on_58 : decode cX12_on 58 = .ok (.if_icmp .ge 42, 3) := by decide +kernel
theorem dX12_on_100 : decode cX12_on 100 = .ok (.iload_n 3, 1) := by decide +kernel
theorem dX12_on_101 : decode cX12_on 101 = .ok (.ireturn, 1) := by decide +kernel
theorem dX12_on_41 : decode cX12_on 41 = .ok (.aload_n 0, 1) := by decide +kernel
theorem dX12_on_42 : decode cX12_on 42 = .ok (.iload_n 1, 1) := by decide +kernel
theorem tw_2058 : (Jvm.Cond.methodLink "MarshBellsModel" (471 : Nat) ({ cls := "MarshBellsModel", name := "onStair", desc := "(I)I" } : Jvm.MethodName)) ∈ lw_tbl := tk_9 (List.mem_of_getElem? (i := 138) rfl)
theorem tw_2061 : (Jvm.Cond.code ({ cls := "MarshBellsModel", name := "onStair", desc := "(I)I" } : Jvm.MethodName) prog_14_method_96_code (4 : Nat) (Option.some Jvm.ClassFile.FieldType.int)) ∈ lw_tbl := tk_9 (List.mem_of_getElem? (i := 141) rfl)
theorem tw_2060 : (Jvm.Cond.instanceMethod ({ cls := "MarshBellsModel", name := "onStair", desc := "(I)I" } : Jvm.MethodName)) ∈ lw_tbl := tk_9 (List.mem_of_getElem? (i := 140) rfl)
theorem se_X12_onStair : Cond.selects RX12 yX12_onStair yX12_onStair ∈ lw_tbl := List.mem_append_left _ (List.mem_of_getElem? (i := 157) rfl)
theorem li_X12_471 : kLV RX12 471 RX12 yX12_onStair cX12_onStair 4 (some .int) 1 := ⟨tw_2058, tw_2060, se_X12_onStair, tw_2061, tw_13, by decide +kernel⟩
theorem dX12_on_43 : decode cX12_on 43 = .ok (.invokevirtual 471, 3) := by decide +kernel
theorem dX12_on_46 : decode cX12_on 46 = .ok (.ireturn, 1) := by decide +kernel
theorem dX12_busiest_0 : decode cX12_busiest 0 = .ok (.aload_n 0, 1) := by decide +kernel
theorem dX12_busiest_1 : decode cX12_busiest 1 = .ok (.iconst 0, 1) := by decide +kernel
theorem dX12_busiest_2 : decode cX12_busiest 2 = .ok (.putfield 177, 3) := by decide +kernel
theorem dX12_busiest_5 : decode cX12_busiest 5 = .ok (.aload_n 0, 1) := by decide +kernel
theorem dX12_busiest_6 : decode cX12_busiest 6 = .ok (.iload_n 1, 1) := by decide +kernel
theorem dX12_busiest_7 : decode cX12_busiest 7 = .ok (.iconst 1, 1) := by decide +kernel
theorem dX12_busiest_8 : decode cX12_busiest 8 = .ok (.invokevirtual 405, 3) := by decide +kernel
theorem dX12_busiest_11 : decode cX12_busiest 11 = .ok (.ifCond .ne 5, 3) := by decide +kernel
theorem dX12_busiest_14 : decode cX12_busiest 14 = .ok (.iconst 0, 1) := by decide +kernel
theorem dX12_busiest_15 : decode cX12_busiest 15 = .ok (.ireturn, 1) := by decide +kernel
theorem dX12_busiest_16 : decode cX12_busiest 16 = .ok (.aload_n 0, 1) := by decide +kernel
theorem dX12_busiest_17 : decode cX12_busiest 17 = .ok (.invokevirtual 468, 3) := by decide +kernel
theorem dX12_busiest_20 : decode cX12_busiest 20 = .ok (.iconst (-1), 1) := by decide +kernel
theorem dX12_busiest_21 : decode cX12_busiest 21 = .ok (.istore_n 2, 1) := by decide +kernel
theorem dX12_busiest_22 : decode cX12_busiest 22 = .ok (.iconst 0, 1) := by decide +kernel
theorem dX12_busiest_23 : decode cX12_busiest 23 = .ok (.istore_n 3, 1) := by decide +kernel
theorem dX12_busiest_24 : decode cX12_busiest 24 = .ok (.iconst 0, 1) := by decide +kernel
theorem dX12_busiest_25 : decode cX12_busiest 25 = .ok (.istore 4, 2) := by decide +kernel
theorem dX12_busiest_27 : decode cX12_busiest 27 = .ok (.iload 4, 2) := by decide +kernel
theorem dX12_busiest_29 : decode cX12_busiest 29 = .ok (.aload_n 0, 1) := by decide +kernel
theorem dX12_busiest_30 : decode cX12_busiest 30 = .ok (.getfield 465, 3) := by decide +kernel
theorem dX12_busiest_33 : decode cX12_busiest 33 = .ok (.if_icmp .ge 64, 3) := by decide +kernel
theorem dX12_busiest_97 : decode cX12_busiest 97 = .ok (.iload_n 1, 1) := by decide +kernel
theorem dX12_busiest_98 : decode cX12_busiest 98 = .ok (.ifCond .ne 7, 3) := by decide +kernel
theorem dX12_busiest_105 : decode cX12_busiest 105 = .ok (.iload_n 2, 1) := by decide +kernel
theorem dX12_busiest_106 : decode cX12_busiest 106 = .ok (.ireturn, 1) := by decide +kernel
theorem dX12_busiest_101 : decode cX12_busiest 101 = .ok (.iload_n 3, 1) := by decide +kernel
theorem dX12_busiest_102 : decode cX12_busiest 102 = .ok (.goto 4, 3) := by decide +kernel
theorem dX12_clash_0 : decode cX12_clash 0 = .ok (.aload_n 0, 1) := by decide +kernel
theorem dX12_clash_1 : decode cX12_clash 1 = .ok (.iconst 0, 1) := by decide +kernel
theorem dX12_clash_2 : decode cX12_clash 2 = .ok (.putfield 177, 3) := by decide +kernel
theorem dX12_clash_5 : decode cX12_clash 5 = .ok (.aload_n 0, 1) := by decide +kernel
theorem dX12_clash_6 : decode cX12_clash 6 = .ok (.iload_n 1, 1) := by decide +kernel
theorem dX12_clash_7 : decode cX12_clash 7 = .ok (.iconst 1, 1) := by decide +kernel
theorem dX12_clash_8 : decode cX12_clash 8 = .ok (.invokevirtual 405, 3) := by decide +kernel
theorem dX12_clash_11 : decode cX12_clash 11 = .ok (.ifCond .ne 5, 3) := by decide +kernel
theorem dX12_clash_14 : decode cX12_clash 14 = .ok (.iconst 0, 1) := by decide +kernel
theorem dX12_clash_15 : decode cX12_clash 15 = .ok (.ireturn, 1) := by decide +kernel
theorem dX12_clash_16 : decode cX12_clash 16 = .ok (.aload_n 0, 1) := by decide +kernel
theorem dX12_clash_17 : decode cX12_clash 17 = .ok (.invokevirtual 386, 3) := by decide +kernel
theorem dX12_clash_20 : decode cX12_clash 20 = .ok (.iconst 0, 1) := by decide +kernel
theorem dX12_clash_21 : decode cX12_clash 21 = .ok (.istore_n 2, 1) := by decide +kernel
theorem dX12_clash_22 : decode cX12_clash 22 = .ok (.iconst (-1), 1) := by decide +kernel
theorem dX12_clash_23 : decode cX12_clash 23 = .ok (.istore_n 3, 1) := by decide +kernel
theorem dX12_clash_24 : decode cX12_clash 24 = .ok (.iconst 0, 1) := by decide +kernel
theorem dX12_clash_25 : decode cX12_clash 25 = .ok (.istore 4, 2) := by decide +kernel
theorem dX12_clash_27 : decode cX12_clash 27 = .ok (.iload 4, 2) := by decide +kernel
theorem dX12_clash_29 : decode cX12_clash 29 = .ok (.aload_n 0, 1) := by decide +kernel
theorem dX12_clash_30 : decode cX12_clash 30 = .ok (.getfield 335, 3) := by decide +kernel
theorem dX12_clash_33 : decode cX12_clash 33 = .ok (.if_icmp .ge 133, 3) := by decide +kernel
theorem dX12_clash_166 : decode cX12_clash 166 = .ok (.iload_n 1, 1) := by decide +kernel
theorem dX12_clash_167 : decode cX12_clash 167 = .ok (.ifCond .ne 7, 3) := by decide +kernel
theorem dX12_clash_174 : decode cX12_clash 174 = .ok (.iload_n 3, 1) := by decide +kernel
theorem dX12_clash_175 : decode cX12_clash 175 = .ok (.ireturn, 1) := by decide +kernel
theorem dX12_clash_170 : decode cX12_clash 170 = .ok (.iload_n 2, 1) := by decide +kernel
theorem dX12_clash_171 : decode cX12_clash 171 = .ok (.goto 4, 3) := by decide +kernel
theorem dX12_idle_0 : decode cX12_idle 0 = .ok (.aload_n 0, 1) := by decide +kernel
theorem dX12_idle_1 : decode cX12_idle 1 = .ok (.iconst 0, 1) := by decide +kernel
theorem dX12_idle_2 : decode cX12_idle 2 = .ok (.putfield 177, 3) := by decide +kernel
theorem dX12_idle_5 : decode cX12_idle 5 = .ok (.aload_n 0, 1) := by decide +kernel
theorem dX12_idle_6 : decode cX12_idle 6 = .ok (.invokevirtual 386, 3) := by decide +kernel
theorem dX12_idle_9 : decode cX12_idle 9 = .ok (.iconst 0, 1) := by decide +kernel
theorem dX12_idle_10 : decode cX12_idle 10 = .ok (.istore_n 1, 1) := by decide +kernel
theorem dX12_idle_11 : decode cX12_idle 11 = .ok (.iconst 0, 1) := by decide +kernel
theorem dX12_idle_12 : decode cX12_idle 12 = .ok (.istore_n 2, 1) := by decide +kernel
theorem dX12_idle_13 : decode cX12_idle 13 = .ok (.iload_n 2, 1) := by decide +kernel
theorem dX12_idle_14 : decode cX12_idle 14 = .ok (.aload_n 0, 1) := by decide +kernel
theorem dX12_idle_15 : decode cX12_idle 15 = .ok (.getfield 335, 3) := by decide +kernel
theorem dX12_idle_18 : decode cX12_idle 18 = .ok (.if_icmp .ge 78, 3) := by decide +kernel
theorem dX12_idle_96 : decode cX12_idle 96 = .ok (.iload_n 1, 1) := by decide +kernel
theorem dX12_idle_97 : decode cX12_idle 97 = .ok (.ireturn, 1) := by decide +kernel
theorem dX12_image_0 : decode cX12_image 0 = .ok (.aload_n 0, 1) := by decide +kernel
theorem dX12_image_1 : decode cX12_image 1 = .ok (.iconst 0, 1) := by decide +kernel
theorem dX12_image_2 : decode cX12_image 2 = .ok (.putfield 177, 3) := by decide +kernel
theorem dX12_image_5 : decode cX12_image 5 = .ok (.aload_n 0, 1) := by decide +kernel
theorem dX12_image_6 : decode cX12_image 6 = .ok (.iconst 1, 1) := by decide +kernel
theorem dX12_image_7 : decode cX12_image 7 = .ok (.putfield 355, 3) := by decide +kernel
theorem dX12_image_10 : decode cX12_image 10 = .ok (.aload_n 0, 1) := by decide +kernel
theorem dX12_image_11 : decode cX12_image 11 = .ok (.aload_n 0, 1) := by decide +kernel
theorem dX12_image_12 : decode cX12_image 12 = .ok (.getfield 105, 3) := by decide +kernel
theorem tw_1505 : (Jvm.Cond.fieldLink "MarshBellsModel" (481 : Nat) "MarshBellsModel" "imageForce" "I") ∈ lw_tbl := tk_7 (List.mem_of_getElem? (i := 65) rfl)
theorem fl_X12_481 : kFL RX12 481 12 88 82 := ⟨RX12, TX12, rfl, by decide, inWX12, tw_1505⟩
theorem ft_X12_82 : kFT 12 82 .int false RX12 := ⟨RX12, TX12, 88, tyX12, rfl, tyX12_ok, nmX12, rfl, by decide +kernel, rfl⟩
theorem dX12_image_15 : decode cX12_image 15 = .ok (.putfield 481, 3) := by decide +kernel
theorem dX12_image_18 : decode cX12_image 18 = .ok (.aload_n 0, 1) := by decide +kernel
theorem dX12_image_19 : decode cX12_image 19 = .ok (.aload_n 0, 1) := by decide +kernel
theorem dX12_image_20 : decode cX12_image 20 = .ok (.getfield 345, 3) := by decide +kernel
theorem tw_1506 : (Jvm.Cond.fieldLink "MarshBellsModel" (484 : Nat) "MarshBellsModel" "imageActs" "I") ∈ lw_tbl := tk_7 (List.mem_of_getElem? (i := 66) rfl)
theorem fl_X12_484 : kFL RX12 484 12 88 83 := ⟨RX12, TX12, rfl, by decide, inWX12, tw_1506⟩
theorem ft_X12_83 : kFT 12 83 .int false RX12 := ⟨RX12, TX12, 88, tyX12, rfl, tyX12_ok, nmX12, rfl, by decide +kernel, rfl⟩
theorem dX12_image_23 : decode cX12_image 23 = .ok (.putfield 484, 3) := by decide +kernel
theorem dX12_image_26 : decode cX12_image 26 = .ok (.aload_n 0, 1) := by decide +kernel
theorem dX12_image_27 : decode cX12_image 27 = .ok (.aload_n 0, 1) := by decide +kernel
theorem dX12_image_28 : decode cX12_image 28 = .ok (.getfield 348, 3) := by decide +kernel
theorem tw_1507 : (Jvm.Cond.fieldLink "MarshBellsModel" (487 : Nat) "MarshBellsModel" "imageSeen" "I") ∈ lw_tbl := tk_7 (List.mem_of_getElem? (i := 67) rfl)
theorem fl_X12_487 : kFL RX12 487 12 88 84 := ⟨RX12, TX12, rfl, by decide, inWX12, tw_1507⟩
theorem ft_X12_84 : kFT 12 84 .int false RX12 := ⟨RX12, TX12, 88, tyX12, rfl, tyX12_ok, nmX12, rfl, by decide +kernel, rfl⟩
theorem dX12_image_31 : decode cX12_image 31 = .ok (.putfield 487, 3) := by decide +kernel
theorem dX12_image_34 : decode cX12_image 34 = .ok (.aload_n 0, 1) := by decide +kernel
theorem dX12_image_35 : decode cX12_image 35 = .ok (.aload_n 0, 1) := by decide +kernel
theorem dX12_image_36 : decode cX12_image 36 = .ok (.getfield 50, 3) := by decide +kernel
theorem dX12_image_39 : decode cX12_image 39 = .ok (.aload_n 0, 1) := by decide +kernel
theorem dX12_image_40 : decode cX12_image 40 = .ok (.getfield 168, 3) := by decide +kernel
theorem dX12_image_43 : decode cX12_image 43 = .ok (.invokevirtual 341, 3) := by decide +kernel
theorem dX12_image_46 : decode cX12_image 46 = .ok (.aload_n 0, 1) := by decide +kernel
theorem dX12_image_47 : decode cX12_image 47 = .ok (.aload_n 0, 1) := by decide +kernel
theorem dX12_image_48 : decode cX12_image 48 = .ok (.getfield 132, 3) := by decide +kernel
theorem dX12_image_51 : decode cX12_image 51 = .ok (.aload_n 0, 1) := by decide +kernel
theorem dX12_image_52 : decode cX12_image 52 = .ok (.getfield 171, 3) := by decide +kernel
theorem dX12_image_55 : decode cX12_image 55 = .ok (.invokevirtual 341, 3) := by decide +kernel
theorem dX12_image_58 : decode cX12_image 58 = .ok (.aload_n 0, 1) := by decide +kernel
theorem dX12_image_59 : decode cX12_image 59 = .ok (.aload_n 0, 1) := by decide +kernel
theorem dX12_image_60 : decode cX12_image 60 = .ok (.getfield 153, 3) := by decide +kernel
theorem dX12_image_63 : decode cX12_image 63 = .ok (.aload_n 0, 1) := by decide +kernel
theorem dX12_image_64 : decode cX12_image 64 = .ok (.getfield 174, 3) := by decide +kernel
theorem dX12_image_67 : decode cX12_image 67 = .ok (.invokevirtual 341, 3) := by decide +kernel
theorem dX12_image_70 : decode cX12_image 70 = .ok (.return_, 1) := by decide +kernel
theorem dX12_restore_0 : decode cX12_restore 0 = .ok (.aload_n 0, 1) := by decide +kernel
theorem dX12_restore_1 : decode cX12_restore 1 = .ok (.iconst 0, 1) := by decide +kernel
theorem dX12_restore_2 : decode cX12_restore 2 = .ok (.putfield 177, 3) := by decide +kernel
theorem dX12_restore_5 : decode cX12_restore 5 = .ok (.aload_n 0, 1) := by decide +kernel
theorem dX12_restore_6 : decode cX12_restore 6 = .ok (.getfield 355, 3) := by decide +kernel
theorem dX12_restore_9 : decode cX12_restore 9 = .ok (.ifCond .ne 5, 3) := by decide +kernel
theorem dX12_restore_12 : decode cX12_restore 12 = .ok (.iconst 0, 1) := by decide +kernel
theorem dX12_restore_13 : decode cX12_restore 13 = .ok (.ireturn, 1) := by decide +kernel
set_option maxHeartbeats 4000000 in
set_option maxRecDepth 100000 in
theorem c_X12_obey (l : Launch) (G : kG) (sz : Nat) (h0 : Nat) (n0 : Int32) (Fh0 : Nat → Value) (arf : Nat) (n9 : Int32) (aa : Nat) (f0 : Nat → Int32) (f1 : Nat → Int32) (e_h0_2 : Fh0 2 = .int 0) (e_h0_52 : Fh0 52 = .int n9) (e_h0_62 : Fh0 62 = .int 0) (e_h0_63 : Fh0 63 = .ref aa) (e_h0_21 : Fh0 21 = .ref arf) : kM l yX12_obey cX12_obey 2 (some .boolean) { frames := 7, cells := 0, slots := 0, locals := 133 } G [.ref h0, .int n0] [(h0, .inr (12, ofL 88 Fh0)), (aa, .inl (G.2.1, 80, .inl f0)), (arf, .inl (G.2.1, 3, .inl f1))] sz (kQi G (S := Nat) (fun r u => (u = 0 ∧ r = 0 ∧ n0 < (-1)) ∨ (u = 1 ∧ r = 1 ∧ ¬ n0 < (-1) ∧ n0 < 0) ∨ (u = 2 ∧ r = 0 ∧ ¬ n0 < (-1) ∧ ¬ n0 < 0)) (fun u => match u with | 0 => [(aa, .inl (G.2.1, 80, .inl f0)), (h0, .inr (12, ofL 88 (updV Fh0 0 (.int 0)))), (arf, .inl (G.2.1, 3, .inl (upd f1 1 ((f1 1) + 1))))] | 1 => [(arf, .inl (G.2.1, 3, .inl f1)), (h0, .inr (12, ofL 88 (updV (updV (updV Fh0 0 (.int 0)) 62 (.int 1)) 52 (.int n0)))), (aa, .inl (G.2.1, 80, .inl (upd (upd f0 0 48) 1 n9)))] | _ => [(aa, .inl (G.2.1, 80, .inl f0)), (h0, .inr (12, ofL 88 (updV Fh0 0 (.int 0)))), (arf, .inl (G.2.1, 3, .inl (upd f1 1 ((f1 1) + 1))))])) := by
  refine kM.of (by decide) (Nat.le_of_ble_eq_true rfl) ?_
  intro p e s m below meth c A ls H C hr hlk hnm hP hD hS hl
  have C : kC G p s m c cX12_obey 2 RX12 A := C
  have hx := C.1
  have hb := C.2.1
  have hl : lv_has ls 2 [(0, .ref h0), (1, .int n0)] := hl
  refine lv_aload_n hx hb dX12_obey_0 rfl (lv_at hl 0 rfl) ?_
  refine lv_iconst (v := 0) hx hb dX12_obey_1 (by decide) ?_
  refine k_put fl_X12_177 ft_X12_0 C hP hD hS 0 rfl rfl rfl dX12_obey_2 (fun H locs hP hD hS => ?_)
  have hP : va_P G.1 vwCl [(h0, .inr (12, ofL 88 (updV Fh0 0 (.int 0)))), (aa, .inl (G.2.1, 80, .inl f0)), (arf, .inl (G.2.1, 3, .inl f1))] H := hP
  have hD : va_D A [(h0, .inr (12, ofL 88 (updV Fh0 0 (.int 0)))), (aa, .inl (G.2.1, 80, .inl f0)), (arf, .inl (G.2.1, 3, .inl f1))] := hD
  refine lv_iload_n hx hb dX12_obey_5 rfl (lv_at hl 1 rfl) ?_
  refine lv_iconst (v := -1) hx hb dX12_obey_6 (by decide) ?_
  refine lv_icmp_lt (x := n0) (y := -1) (tgt := 18) hx hb dX12_obey_7 (by decide) (fun c_1 => ?_) (fun c_1 => ?_)
  ·
    refine lv_aload_n hx hb dX12_obey_18 rfl (lv_at hl 0 rfl) ?_
    refine lv_iconst (v := 1) hx hb dX12_obey_19 (by decide) ?_
    refine k_callVi (wr := [(aa, .inl (G.2.1, 80, .inl f0))]) (rest := []) li_X12_411 C (c_X12_refuses l G H.size h0 (updV Fh0 0 (.int 0)) arf f1 e_h0_21) (kR rfl) hP hD hS [0, 2] [1] rfl rfl rfl rfl (by decide) 0 12 rfl rfl rfl hl.1 rfl (Nat.le_of_ble_eq_true rfl) dX12_obey_20 (fun rr3 uu4 H locs hw2 hP hD hS => ?_)
    obtain rfl : rr3 = -1 := hw2
    have hP : va_P G.1 vwCl [(aa, .inl (G.2.1, 80, .inl f0)), (h0, .inr (12, ofL 88 (updV Fh0 0 (.int 0)))), (arf, .inl (G.2.1, 3, .inl (upd f1 1 ((f1 1) + 1))))] H := hP
    have hD : va_D A [(aa, .inl (G.2.1, 80, .inl f0)), (h0, .inr (12, ofL 88 (updV Fh0 0 (.int 0)))), (arf, .inl (G.2.1, 3, .inl (upd f1 1 ((f1 1) + 1))))] := hD
    refine lv_if_le (x := -1) (tgt := 30) hx hb dX12_obey_23 (by decide) (fun c_5 => ?_) (fun c_5 => ?_)
    rotate_left
    · exact absurd (by decide) c_5
    refine lv_iconst (v := 0) hx hb dX12_obey_30 (by decide) ?_
    exact k_zret C hr hlk rfl hP hD hS 0 (Or.inl ⟨rfl, rfl, c_1⟩) [0, 1, 2] rfl rfl (Nat.le_of_ble_eq_true rfl) (Nat.le_of_ble_eq_true rfl) dX12_obey_31
  ·
    refine lv_iload_n hx hb dX12_obey_10 rfl (lv_at hl 1 rfl) ?_
    refine lv_aload_n hx hb dX12_obey_11 rfl (lv_at hl 0 rfl) ?_
    refine k_get (v := .int 0) fl_X12_338 C hP 0 rfl e_h0_2 dX12_obey_12 ?_
    refine lv_icmp_lt (x := n0) (y := 0) (tgt := 32) hx hb dX12_obey_15 (by decide) (fun c_6 => ?_) (fun c_6 => ?_)
    ·
      refine lv_aload_n hx hb dX12_obey_32 rfl (lv_at hl 0 rfl) ?_
      refine lv_bipush (v := 48) hx hb dX12_obey_33 (by decide) ?_
      refine lv_aload_n hx hb dX12_obey_35 rfl (lv_at hl 0 rfl) ?_
      refine k_get (v := .int n9) fl_X12_105 C hP 0 rfl e_h0_52 dX12_obey_36 ?_
      refine k_callVv (wr := [(arf, .inl (G.2.1, 3, .inl f1))]) (rest := []) li_X12_414 C (c_X12_keeps l G H.size h0 48 n9 (updV Fh0 0 (.int 0)) aa f0 e_h0_62 e_h0_63) (kR rfl) hP hD hS [0, 1] [2] rfl rfl rfl rfl (by decide) 0 12 rfl rfl rfl hl.1 rfl (Nat.le_of_ble_eq_true rfl) dX12_obey_39 (fun uu9 H locs hw7 hP hD hS => ?_)
      have hP : va_P G.1 vwCl [(arf, .inl (G.2.1, 3, .inl f1)), (h0, .inr (12, ofL 88 (updV (updV Fh0 0 (.int 0)) 62 (.int 1)))), (aa, .inl (G.2.1, 80, .inl (upd (upd f0 0 48) 1 n9)))] H := hP
      have hD : va_D A [(arf, .inl (G.2.1, 3, .inl f1)), (h0, .inr (12, ofL 88 (updV (updV Fh0 0 (.int 0)) 62 (.int 1)))), (aa, .inl (G.2.1, 80, .inl (upd (upd f0 0 48) 1 n9)))] := hD
      refine lv_aload_n hx hb dX12_obey_42 rfl (lv_at hl 0 rfl) ?_
      refine lv_iload_n hx hb dX12_obey_43 rfl (lv_at hl 1 rfl) ?_
      refine k_put fl_X12_105 ft_X12_52 C hP hD hS 1 rfl rfl rfl dX12_obey_44 (fun H locs hP hD hS => ?_)
      have hP : va_P G.1 vwCl [(arf, .inl (G.2.1, 3, .inl f1)), (h0, .inr (12, ofL 88 (updV (updV (updV Fh0 0 (.int 0)) 62 (.int 1)) 52 (.int n0)))), (aa, .inl (G.2.1, 80, .inl (upd (upd f0 0 48) 1 n9)))] H := hP
      have hD : va_D A [(arf, .inl (G.2.1, 3, .inl f1)), (h0, .inr (12, ofL 88 (updV (updV (updV Fh0 0 (.int 0)) 62 (.int 1)) 52 (.int n0)))), (aa, .inl (G.2.1, 80, .inl (upd (upd f0 0 48) 1 n9)))] := hD
      refine lv_iconst (v := 1) hx hb dX12_obey_47 (by decide) ?_
      exact k_zret C hr hlk rfl hP hD hS 1 (Or.inr (Or.inl ⟨rfl, rfl, c_1, c_6⟩)) [0, 1, 2] rfl rfl (Nat.le_of_ble_eq_true rfl) (Nat.le_of_ble_eq_true rfl) dX12_obey_48
    ·
      refine lv_aload_n hx hb dX12_obey_18 rfl (lv_at hl 0 rfl) ?_
      refine lv_iconst (v := 1) hx hb dX12_obey_19 (by decide) ?_
      refine k_callVi (wr := [(aa, .inl (G.2.1, 80, .inl f0))]) (rest := []) li_X12_411 C (c_X12_refuses l G H.size h0 (updV Fh0 0 (.int 0)) arf f1 e_h0_21) (kR rfl) hP hD hS [0, 2] [1] rfl rfl rfl rfl (by decide) 0 12 rfl rfl rfl hl.1 rfl (Nat.le_of_ble_eq_true rfl) dX12_obey_20 (fun rr11 uu12 H locs hw10 hP hD hS => ?_)
      obtain rfl : rr11 = -1 := hw10
      have hP : va_P G.1 vwCl [(aa, .inl (G.2.1, 80, .inl f0)), (h0, .inr (12, ofL 88 (updV Fh0 0 (.int 0)))), (arf, .inl (G.2.1, 3, .inl (upd f1 1 ((f1 1) + 1))))] H := hP
      have hD : va_D A [(aa, .inl (G.2.1, 80, .inl f0)), (h0, .inr (12, ofL 88 (updV Fh0 0 (.int 0)))), (arf, .inl (G.2.1, 3, .inl (upd f1 1 ((f1 1) + 1))))] := hD
      refine lv_if_le (x := -1) (tgt := 30) hx hb dX12_obey_23 (by decide) (fun c_13 => ?_) (fun c_13 => ?_)
      rotate_left
      · exact absurd (by decide) c_13
      refine lv_iconst (v := 0) hx hb dX12_obey_30 (by decide) ?_
      exact k_zret C hr hlk rfl hP hD hS 2 (Or.inr (Or.inr (⟨rfl, rfl, c_1, c_6⟩))) [0, 1, 2] rfl rfl (Nat.le_of_ble_eq_true rfl) (Nat.le_of_ble_eq_true rfl) dX12_obey_31
set_option maxHeartbeats 4000000 in
set_option maxRecDepth 100000 in
theorem c_X12_undo (l : Launch) (G : kG) (sz : Nat) (h0 : Nat) (Fh0 : Nat → Value) (e_h0_62 : Fh0 62 = .int 0) : kM l yX12_undo cX12_undo 1 (some .int) { frames := 6, cells := 0, slots := 0, locals := 110 } G [.ref h0] [(h0, .inr (12, ofL 88 Fh0))] sz (kQi G (S := Unit) (fun r (_ : Unit) => r = -1) (fun _ => [(h0, .inr (12, ofL 88 (updV Fh0 0 (.int 0))))])) := by
  refine kM.of (by decide) (Nat.le_of_ble_eq_true rfl) ?_
  intro p e s m below meth c A ls H C hr hlk hnm hP hD hS hl
  have C : kC G p s m c cX12_undo 1 RX12 A := C
  have hx := C.1
  have hb := C.2.1
  have hl : lv_has ls 1 [(0, .ref h0)] := hl
  refine lv_aload_n hx hb dX12_undo_0 rfl (lv_at hl 0 rfl) ?_
  refine lv_iconst (v := 0) hx hb dX12_undo_1 (by decide) ?_
  refine k_put fl_X12_177 ft_X12_0 C hP hD hS 0 rfl rfl rfl dX12_undo_2 (fun H locs hP hD hS => ?_)
  have hP : va_P G.1 vwCl [(h0, .inr (12, ofL 88 (updV Fh0 0 (.int 0))))] H := hP
  have hD : va_D A [(h0, .inr (12, ofL 88 (updV Fh0 0 (.int 0))))] := hD
  refine lv_aload_n hx hb dX12_undo_5 rfl (lv_at hl 0 rfl) ?_
  refine k_get (v := .int 0) fl_X12_345 C hP 0 rfl e_h0_62 dX12_undo_6 ?_
  refine lv_if_ne (x := 0) (tgt := 14) hx hb dX12_undo_9 (by decide) (fun c_1 => ?_) (fun c_1 => ?_)
  · exact absurd (by decide) c_1
  refine lv_iconst (v := -1) hx hb dX12_undo_12 (by decide) ?_
  exact k_iret C hr hlk hP hD hS () (rfl) [0] rfl rfl (Nat.le_of_ble_eq_true rfl) (Nat.le_of_ble_eq_true rfl) dX12_undo_13
set_option maxHeartbeats 4000000 in
set_option maxRecDepth 100000 in
theorem c_X12_swap (l : Launch) (G : kG) (sz : Nat) (h0 : Nat) (n0 : Int32) (Fh0 : Nat → Value) (e_h0_1 : Fh0 1 = .int 0) : kM l yX12_swap cX12_swap 7 (some .int) { frames := 8, cells := 0, slots := 0, locals := 157 } G [.ref h0, .int n0] [(h0, .inr (12, ofL 88 Fh0))] sz (kQi G (S := Nat) (fun r u => (u = 0 ∧ r = 0 ∧ n0 < 0) ∨ (u = 1 ∧ r = 0 ∧ ¬ n0 < 0 ∧ 1 < n0) ∨ (u = 2 ∧ r = -1 ∧ ¬ n0 < 0 ∧ ¬ 1 < n0)) (fun u => match u with | 0 => [(h0, .inr (12, ofL 88 (updV (updV Fh0 0 (.int 0)) 0 (.int 1))))] | 1 => [(h0, .inr (12, ofL 88 (updV (updV Fh0 0 (.int 0)) 0 (.int 1))))] | _ => [(h0, .inr (12, ofL 88 (updV Fh0 0 (.int 0))))])) := by
  refine kM.of (by decide) (Nat.le_of_ble_eq_true rfl) ?_
  intro p e s m below meth c A ls H C hr hlk hnm hP hD hS hl
  have C : kC G p s m c cX12_swap 7 RX12 A := C
  have hx := C.1
  have hb := C.2.1
  have hl : lv_has ls 7 [(0, .ref h0), (1, .int n0)] := hl
  refine lv_aload_n hx hb dX12_swap_0 rfl (lv_at hl 0 rfl) ?_
  refine lv_iconst (v := 0) hx hb dX12_swap_1 (by decide) ?_
  refine k_put fl_X12_177 ft_X12_0 C hP hD hS 0 rfl rfl rfl dX12_swap_2 (fun H locs hP hD hS => ?_)
  have hP : va_P G.1 vwCl [(h0, .inr (12, ofL 88 (updV Fh0 0 (.int 0))))] H := hP
  have hD : va_D A [(h0, .inr (12, ofL 88 (updV Fh0 0 (.int 0))))] := hD
  refine lv_aload_n hx hb dX12_swap_5 rfl (lv_at hl 0 rfl) ?_
  refine lv_iload_n hx hb dX12_swap_6 rfl (lv_at hl 1 rfl) ?_
  refine lv_iconst (v := 1) hx hb dX12_swap_7 (by decide) ?_
  refine k_callVi (wr := []) (rest := []) li_X12_405 C (c_X12_isWhat l G H.size h0 n0 1 (updV Fh0 0 (.int 0)) rfl) (kR rfl) hP hD hS [0] [] rfl rfl rfl rfl (by decide) 0 12 rfl rfl rfl hl.1 rfl (Nat.le_of_ble_eq_true rfl) dX12_swap_8 (fun rr2 uu3 H locs hw1 hP hD hS => ?_)
  rcases hw1 with ⟨rfl, rfl, c_4⟩ | ⟨rfl, rfl, c_5, c_6⟩ | ⟨rfl, rfl, c_7, c_8⟩
  ·
    have hP : va_P G.1 vwCl [(h0, .inr (12, ofL 88 (updV (updV Fh0 0 (.int 0)) 0 (.int 1))))] H := hP
    have hD : va_D A [(h0, .inr (12, ofL 88 (updV (updV Fh0 0 (.int 0)) 0 (.int 1))))] := hD
    refine lv_if_ne (x := 0) (tgt := 16) hx hb dX12_swap_11 (by decide) (fun c_9 => ?_) (fun c_9 => ?_)
    · exact absurd (by decide) c_9
    refine lv_iconst (v := 0) hx hb dX12_swap_14 (by decide) ?_
    exact k_iret C hr hlk hP hD hS 0 (Or.inl ⟨rfl, rfl, c_4⟩) [0] rfl rfl (Nat.le_of_ble_eq_true rfl) (Nat.le_of_ble_eq_true rfl) dX12_swap_15
  ·
    have hP : va_P G.1 vwCl [(h0, .inr (12, ofL 88 (updV (updV Fh0 0 (.int 0)) 0 (.int 1))))] H := hP
    have hD : va_D A [(h0, .inr (12, ofL 88 (updV (updV Fh0 0 (.int 0)) 0 (.int 1))))] := hD
    refine lv_if_ne (x := 0) (tgt := 16) hx hb dX12_swap_11 (by decide) (fun c_10 => ?_) (fun c_10 => ?_)
    · exact absurd (by decide) c_10
    refine lv_iconst (v := 0) hx hb dX12_swap_14 (by decide) ?_
    exact k_iret C hr hlk hP hD hS 1 (Or.inr (Or.inl ⟨rfl, rfl, c_5, c_6⟩)) [0] rfl rfl (Nat.le_of_ble_eq_true rfl) (Nat.le_of_ble_eq_true rfl) dX12_swap_15
  ·
    have hP : va_P G.1 vwCl [(h0, .inr (12, ofL 88 (updV Fh0 0 (.int 0))))] H := hP
    have hD : va_D A [(h0, .inr (12, ofL 88 (updV Fh0 0 (.int 0))))] := hD
    refine lv_if_ne (x := 1) (tgt := 16) hx hb dX12_swap_11 (by decide) (fun c_11 => ?_) (fun c_11 => ?_)
    rotate_left
    · exact absurd c_11 (by decide)
    refine lv_iconst (v := -1) hx hb dX12_swap_16 (by decide) ?_
    refine lv_istore_n (lv' := [(2, .int (-1)), (0, .ref h0), (1, .int n0)]) hx hb dX12_swap_17 rfl hl (by decide) rfl (fun ls hl => ?_)
    refine lv_aload_n hx hb dX12_swap_18 rfl (lv_at hl 1 rfl) ?_
    refine k_callVi (wr := []) (rest := []) li_X12_399 C (c_X12_lost l G H.size h0 (updV Fh0 0 (.int 0)) e_h0_1) (kR rfl) hP hD hS [0] [] rfl rfl rfl rfl (by decide) 0 12 rfl rfl rfl hl.1 rfl (Nat.le_of_ble_eq_true rfl) dX12_swap_19 (fun rr13 uu14 H locs hw12 hP hD hS => ?_)
    obtain rfl : rr13 = 0 := hw12
    have hP : va_P G.1 vwCl [(h0, .inr (12, ofL 88 (updV Fh0 0 (.int 0))))] H := hP
    have hD : va_D A [(h0, .inr (12, ofL 88 (updV Fh0 0 (.int 0))))] := hD
    refine lv_istore_n (lv' := [(3, .int 0), (2, .int (-1)), (0, .ref h0), (1, .int n0)]) hx hb dX12_swap_22 rfl hl (by decide) rfl (fun ls hl => ?_)
    refine lv_iconst (v := 0) hx hb dX12_swap_23 (by decide) ?_
    refine lv_istore (lv' := [(4, .int 0), (3, .int 0), (2, .int (-1)), (0, .ref h0), (1, .int n0)]) hx hb dX12_swap_24 hl (by decide) rfl (fun ls hl => ?_)
    refine lv_iload hx hb dX12_swap_26 (lv_at hl 0 rfl) ?_
    refine lv_aload_n hx hb dX12_swap_28 rfl (lv_at hl 3 rfl) ?_
    refine k_get (v := .int 0) fl_X12_335 C hP 0 rfl e_h0_1 dX12_swap_29 ?_
    refine lv_icmp_ge (x := 0) (y := 0) (tgt := 105) hx hb dX12_swap_32 (by decide) (fun c_15 => ?_) (fun c_15 => ?_)
    rotate_left
    · exact absurd (by decide) c_15
    refine lv_iload_n hx hb dX12_swap_105 rfl (lv_at hl 2 rfl) ?_
    refine lv_iconst (v := -1) hx hb dX12_swap_106 (by decide) ?_
    refine lv_icmp_eq (x := -1) (y := -1) (tgt := 114) hx hb dX12_swap_107 (by decide) (fun c_16 => ?_) (fun c_16 => ?_)
    rotate_left
    · exact absurd (by decide) c_16
    refine lv_iload_n hx hb dX12_swap_114 rfl (lv_at hl 2 rfl) ?_
    refine lv_goto (tgt := 119) hx hb dX12_swap_115 (by decide) ?_
    exact k_iret C hr hlk hP hD hS 2 (Or.inr (Or.inr (⟨rfl, rfl, c_7, c_8⟩))) [0] rfl rfl (Nat.le_of_ble_eq_true rfl) (Nat.le_of_ble_eq_true rfl) dX12_swap_119
set_option maxHeartbeats 4000000 in
set_option maxRecDepth 100000 in
theorem c_X12_last (l : Launch) (G : kG) (sz : Nat) (h0 : Nat) (Fh0 : Nat → Value) (e_h0_1 : Fh0 1 = .int 0) : kM l yX12_last cX12_last 6 (some .int) { frames := 6, cells := 0, slots := 0, locals := 110 } G [.ref h0] [(h0, .inr (12, ofL 88 Fh0))] sz (kQi G (S := Unit) (fun r (_ : Unit) => r = -1) (fun _ => [(h0, .inr (12, ofL 88 (updV Fh0 0 (.int 0))))])) := by
  refine kM.of (by decide) (Nat.le_of_ble_eq_true rfl) ?_
  intro p e s m below meth c A ls H C hr hlk hnm hP hD hS hl
  have C : kC G p s m c cX12_last 6 RX12 A := C
  have hx := C.1
  have hb := C.2.1
  have hl : lv_has ls 6 [(0, .ref h0)] := hl
  refine lv_aload_n hx hb dX12_last_0 rfl (lv_at hl 0 rfl) ?_
  refine lv_iconst (v := 0) hx hb dX12_last_1 (by decide) ?_
  refine k_put fl_X12_177 ft_X12_0 C hP hD hS 0 rfl rfl rfl dX12_last_2 (fun H locs hP hD hS => ?_)
  have hP : va_P G.1 vwCl [(h0, .inr (12, ofL 88 (updV Fh0 0 (.int 0))))] H := hP
  have hD : va_D A [(h0, .inr (12, ofL 88 (updV Fh0 0 (.int 0))))] := hD
  refine lv_iconst (v := -1) hx hb dX12_last_5 (by decide) ?_
  refine lv_istore_n (lv' := [(1, .int (-1)), (0, .ref h0)]) hx hb dX12_last_6 rfl hl (by decide) rfl (fun ls hl => ?_)
  refine lv_iconst (v := 0) hx hb dX12_last_7 (by decide) ?_
  refine lv_istore_n (lv' := [(2, .int 0), (1, .int (-1)), (0, .ref h0)]) hx hb dX12_last_8 rfl hl (by decide) rfl (fun ls hl => ?_)
  refine lv_iconst (v := 0) hx hb dX12_last_9 (by decide) ?_
  refine lv_istore_n (lv' := [(3, .int 0), (2, .int 0), (1, .int (-1)), (0, .ref h0)]) hx hb dX12_last_10 rfl hl (by decide) rfl (fun ls hl => ?_)
  refine lv_iload_n hx hb dX12_last_11 rfl (lv_at hl 0 rfl) ?_
  refine lv_aload_n hx hb dX12_last_12 rfl (lv_at hl 3 rfl) ?_
  refine k_get (v := .int 0) fl_X12_335 C hP 0 rfl e_h0_1 dX12_last_13 ?_
  refine lv_icmp_ge (x := 0) (y := 0) (tgt := 79) hx hb dX12_last_16 (by decide) (fun c_1 => ?_) (fun c_1 => ?_)
  rotate_left
  · exact absurd (by decide) c_1
  refine lv_iload_n hx hb dX12_last_79 rfl (lv_at hl 2 rfl) ?_
  exact k_iret C hr hlk hP hD hS () (rfl) [0] rfl rfl (Nat.le_of_ble_eq_true rfl) (Nat.le_of_ble_eq_true rfl) dX12_last_80
set_option maxHeartbeats 4000000 in
set_option maxRecDepth 100000 in
theorem c_X12_compare (l : Launch) (G : kG) (sz : Nat) (h0 : Nat) (n0 : Int32) (Fh0 : Nat → Value) (n9 : Int32) (e_h0_1 : Fh0 1 = .int 0) (e_h0_2 : Fh0 2 = .int 0) (e_h0_52 : Fh0 52 = .int n9) : kM l yX12_compare cX12_compare 2 (some .int) { frames := 9, cells := 0, slots := 0, locals := 180 } G [.ref h0, .int n0] [(h0, .inr (12, ofL 88 Fh0))] sz (kQi G (S := Nat) (fun r u => (u = 0 ∧ r = 0 ∧ n0 < (-1)) ∨ (u = 1 ∧ r = 0 ∧ ¬ n0 < (-1) ∧ 0 ≤ n0) ∨ (u = 2 ∧ r = 0 ∧ ¬ n0 < (-1) ∧ ¬ 0 ≤ n0)) (fun u => match u with | 0 => [(h0, .inr (12, ofL 88 (updV (updV Fh0 0 (.int 0)) 0 (.int 1))))] | 1 => [(h0, .inr (12, ofL 88 (updV (updV Fh0 0 (.int 0)) 0 (.int 1))))] | _ => [(h0, .inr (12, ofL 88 (updV (updV (updV Fh0 0 (.int 0)) 52 (.int n0)) 52 (.int n9))))])) := by
  refine kM.of (by decide) (Nat.le_of_ble_eq_true rfl) ?_
  intro p e s m below meth c A ls H C hr hlk hnm hP hD hS hl
  have C : kC G p s m c cX12_compare 2 RX12 A := C
  have hx := C.1
  have hb := C.2.1
  have hl : lv_has ls 2 [(0, .ref h0), (1, .int n0)] := hl
  refine lv_aload_n hx hb dX12_compare_0 rfl (lv_at hl 0 rfl) ?_
  refine lv_iconst (v := 0) hx hb dX12_compare_1 (by decide) ?_
  refine k_put fl_X12_177 ft_X12_0 C hP hD hS 0 rfl rfl rfl dX12_compare_2 (fun H locs hP hD hS => ?_)
  have hP : va_P G.1 vwCl [(h0, .inr (12, ofL 88 (updV Fh0 0 (.int 0))))] H := hP
  have hD : va_D A [(h0, .inr (12, ofL 88 (updV Fh0 0 (.int 0))))] := hD
  refine lv_aload_n hx hb dX12_compare_5 rfl (lv_at hl 0 rfl) ?_
  refine lv_iload_n hx hb dX12_compare_6 rfl (lv_at hl 1 rfl) ?_
  refine lv_iconst (v := -1) hx hb dX12_compare_7 (by decide) ?_
  refine lv_icmp_lt (x := n0) (y := -1) (tgt := 23) hx hb dX12_compare_8 (by decide) (fun c_1 => ?_) (fun c_1 => ?_)
  ·
    refine lv_iconst (v := 0) hx hb dX12_compare_23 (by decide) ?_
    refine lv_iconst (v := 1) hx hb dX12_compare_24 (by decide) ?_
    refine k_callVi (wr := []) (rest := []) li_X12_328 C (c_X12_right0 l G H.size h0 1 (updV Fh0 0 (.int 0)) rfl) (kR rfl) hP hD hS [0] [] rfl rfl rfl rfl (by decide) 0 12 rfl rfl rfl hl.1 rfl (Nat.le_of_ble_eq_true rfl) dX12_compare_25 (fun rr3 uu4 H locs hw2 hP hD hS => ?_)
    rcases hw2 with ⟨rfl, rfl, c_5⟩ | ⟨rfl, rfl, c_6⟩
    ·
      have hP : va_P G.1 vwCl [(h0, .inr (12, ofL 88 (updV (updV Fh0 0 (.int 0)) 0 (.int 1))))] H := hP
      have hD : va_D A [(h0, .inr (12, ofL 88 (updV (updV Fh0 0 (.int 0)) 0 (.int 1))))] := hD
      refine lv_if_eq (x := 0) (tgt := 39) hx hb dX12_compare_28 (by decide) (fun c_7 => ?_) (fun c_7 => ?_)
      rotate_left
      · exact absurd (by decide) c_7
      refine lv_iconst (v := 0) hx hb dX12_compare_39 (by decide) ?_
      exact k_iret C hr hlk hP hD hS 0 (Or.inl ⟨rfl, rfl, c_1⟩) [0] rfl rfl (Nat.le_of_ble_eq_true rfl) (Nat.le_of_ble_eq_true rfl) dX12_compare_40
    ·
      exact absurd c_6 (by decide)
  ·
    refine lv_iload_n hx hb dX12_compare_11 rfl (lv_at hl 1 rfl) ?_
    refine lv_aload_n hx hb dX12_compare_12 rfl (lv_at hl 0 rfl) ?_
    refine k_get (v := .int 0) fl_X12_338 C hP 0 rfl e_h0_2 dX12_compare_13 ?_
    refine lv_icmp_ge (x := n0) (y := 0) (tgt := 23) hx hb dX12_compare_16 (by decide) (fun c_8 => ?_) (fun c_8 => ?_)
    ·
      refine lv_iconst (v := 0) hx hb dX12_compare_23 (by decide) ?_
      refine lv_iconst (v := 1) hx hb dX12_compare_24 (by decide) ?_
      refine k_callVi (wr := []) (rest := []) li_X12_328 C (c_X12_right0 l G H.size h0 1 (updV Fh0 0 (.int 0)) rfl) (kR rfl) hP hD hS [0] [] rfl rfl rfl rfl (by decide) 0 12 rfl rfl rfl hl.1 rfl (Nat.le_of_ble_eq_true rfl) dX12_compare_25 (fun rr10 uu11 H locs hw9 hP hD hS => ?_)
      rcases hw9 with ⟨rfl, rfl, c_12⟩ | ⟨rfl, rfl, c_13⟩
      ·
        have hP : va_P G.1 vwCl [(h0, .inr (12, ofL 88 (updV (updV Fh0 0 (.int 0)) 0 (.int 1))))] H := hP
        have hD : va_D A [(h0, .inr (12, ofL 88 (updV (updV Fh0 0 (.int 0)) 0 (.int 1))))] := hD
        refine lv_if_eq (x := 0) (tgt := 39) hx hb dX12_compare_28 (by decide) (fun c_14 => ?_) (fun c_14 => ?_)
        rotate_left
        · exact absurd (by decide) c_14
        refine lv_iconst (v := 0) hx hb dX12_compare_39 (by decide) ?_
        exact k_iret C hr hlk hP hD hS 1 (Or.inr (Or.inl ⟨rfl, rfl, c_1, c_8⟩)) [0] rfl rfl (Nat.le_of_ble_eq_true rfl) (Nat.le_of_ble_eq_true rfl) dX12_compare_40
      ·
        exact absurd c_13 (by decide)
    ·
      refine lv_iconst (v := 1) hx hb dX12_compare_19 (by decide) ?_
      refine lv_goto (tgt := 24) hx hb dX12_compare_20 (by decide) ?_
      refine lv_iconst (v := 1) hx hb dX12_compare_24 (by decide) ?_
      refine k_callVi (wr := []) (rest := []) li_X12_328 C (c_X12_right1 l G H.size h0 1 (updV Fh0 0 (.int 0)) rfl) (kR rfl) hP hD hS [0] [] rfl rfl rfl rfl (by decide) 0 12 rfl rfl rfl hl.1 rfl (Nat.le_of_ble_eq_true rfl) dX12_compare_25 (fun rr16 uu17 H locs hw15 hP hD hS => ?_)
      obtain rfl : rr16 = 1 := hw15
      have hP : va_P G.1 vwCl [(h0, .inr (12, ofL 88 (updV Fh0 0 (.int 0))))] H := hP
      have hD : va_D A [(h0, .inr (12, ofL 88 (updV Fh0 0 (.int 0))))] := hD
      refine lv_if_eq (x := 1) (tgt := 39) hx hb dX12_compare_28 (by decide) (fun c_18 => ?_) (fun c_18 => ?_)
      · exact absurd c_18 (by decide)
      refine lv_aload_n hx hb dX12_compare_31 rfl (lv_at hl 0 rfl) ?_
      refine lv_iload_n hx hb dX12_compare_32 rfl (lv_at hl 1 rfl) ?_
      refine k_callVi (wr := []) (rest := []) li_X12_459 C (c_X12_lostBy l G H.size h0 n0 (updV Fh0 0 (.int 0)) n9 e_h0_1 e_h0_52) (kR rfl) hP hD hS [0] [] rfl rfl rfl rfl (by decide) 0 12 rfl rfl rfl hl.1 rfl (Nat.le_of_ble_eq_true rfl) dX12_compare_33 (fun rr20 uu21 H locs hw19 hP hD hS => ?_)
      obtain rfl : rr20 = 0 := hw19
      have hP : va_P G.1 vwCl [(h0, .inr (12, ofL 88 (updV (updV (updV Fh0 0 (.int 0)) 52 (.int n0)) 52 (.int n9))))] H := hP
      have hD : va_D A [(h0, .inr (12, ofL 88 (updV (updV (updV Fh0 0 (.int 0)) 52 (.int n0)) 52 (.int n9))))] := hD
      refine lv_goto (tgt := 40) hx hb dX12_compare_36 (by decide) ?_
      exact k_iret C hr hlk hP hD hS 2 (Or.inr (Or.inr (⟨rfl, rfl, c_1, c_8⟩))) [0] rfl rfl (Nat.le_of_ble_eq_true rfl) (Nat.le_of_ble_eq_true rfl) dX12_compare_40
set_option maxHeartbeats 4000000 in
set_option maxRecDepth 100000 in
theorem c_X12_best (l : Launch) (G : kG) (sz : Nat) (h0 : Nat) (Fh0 : Nat → Value) (e_h0_2 : Fh0 2 = .int 0) : kM l yX12_best cX12_best 3 (some .int) { frames := 6, cells := 0, slots := 0, locals := 110 } G [.ref h0] [(h0, .inr (12, ofL 88 Fh0))] sz (kQi G (S := Unit) (fun r (_ : Unit) => r = -1) (fun _ => [(h0, .inr (12, ofL 88 (updV Fh0 0 (.int 0))))])) := by
  refine kM.of (by decide) (Nat.le_of_ble_eq_true rfl) ?_
  intro p e s m below meth c A ls H C hr hlk hnm hP hD hS hl
  have C : kC G p s m c cX12_best 3 RX12 A := C
  have hx := C.1
  have hb := C.2.1
  have hl : lv_has ls 3 [(0, .ref h0)] := hl
  refine lv_aload_n hx hb dX12_best_0 rfl (lv_at hl 0 rfl) ?_
  refine lv_iconst (v := 0) hx hb dX12_best_1 (by decide) ?_
  refine k_put fl_X12_177 ft_X12_0 C hP hD hS 0 rfl rfl rfl dX12_best_2 (fun H locs hP hD hS => ?_)
  have hP : va_P G.1 vwCl [(h0, .inr (12, ofL 88 (updV Fh0 0 (.int 0))))] H := hP
  have hD : va_D A [(h0, .inr (12, ofL 88 (updV Fh0 0 (.int 0))))] := hD
  refine lv_iconst (v := -1) hx hb dX12_best_5 (by decide) ?_
  refine lv_istore_n (lv' := [(1, .int (-1)), (0, .ref h0)]) hx hb dX12_best_6 rfl hl (by decide) rfl (fun ls hl => ?_)
  refine lv_iconst (v := 0) hx hb dX12_best_7 (by decide) ?_
  refine lv_istore_n (lv' := [(2, .int 0), (1, .int (-1)), (0, .ref h0)]) hx hb dX12_best_8 rfl hl (by decide) rfl (fun ls hl => ?_)
  refine lv_iload_n hx hb dX12_best_9 rfl (lv_at hl 0 rfl) ?_
  refine lv_aload_n hx hb dX12_best_10 rfl (lv_at hl 2 rfl) ?_
  refine k_get (v := .int 0) fl_X12_338 C hP 0 rfl e_h0_2 dX12_best_11 ?_
  refine lv_icmp_ge (x := 0) (y := 0) (tgt := 38) hx hb dX12_best_14 (by decide) (fun c_1 => ?_) (fun c_1 => ?_)
  rotate_left
  · exact absurd (by decide) c_1
  refine lv_iload_n hx hb dX12_best_38 rfl (lv_at hl 1 rfl) ?_
  exact k_iret C hr hlk hP hD hS () (rfl) [0] rfl rfl (Nat.le_of_ble_eq_true rfl) (Nat.le_of_ble_eq_true rfl) dX12_best_39
set_option maxHeartbeats 4000000 in
set_option maxRecDepth 100000 in
theorem c_X12_bell (l : Launch) (G : kG) (sz : Nat) (h0 : Nat) (n0 : Int32) (Fh0 : Nat → Value) (an : Nat) (ath : Nat) (f0 : Nat → Int32) (f1 : Nat → Int32) (e_h0_1 : Fh0 1 = .int 0) (e_h0_16 : Fh0 16 = .ref an) (e_h0_72 : Fh0 72 = .ref ath) : kM l yX12_bell cX12_bell 4 (some .int) { frames := 8, cells := 0, slots := 0, locals := 157 } G [.ref h0, .int n0] [(h0, .inr (12, ofL 88 Fh0)), (an, .inl (G.2.1, 48, .inl f0)), (ath, .inl (G.2.1, 48, .inl f1))] sz (kQi G (S := Nat) (fun r u => (u = 0 ∧ r = 0 ∧ n0 < 0) ∨ (u = 1 ∧ r = 0 ∧ ¬ n0 < 0 ∧ 60 < n0) ∨ (u = 2 ∧ r = 0 ∧ ¬ n0 < 0 ∧ ¬ 60 < n0)) (fun u => match u with | 0 => [(h0, .inr (12, ofL 88 (updV (updV Fh0 0 (.int 0)) 0 (.int 1))))] | 1 => [(h0, .inr (12, ofL 88 (updV (updV Fh0 0 (.int 0)) 0 (.int 1))))] | _ => [(h0, .inr (12, ofL 88 (updV Fh0 0 (.int 0))))])) := by
  refine kM.of (by decide) (Nat.le_of_ble_eq_true rfl) ?_
  intro p e s m below meth c A ls H C hr hlk hnm hP hD hS hl
  have C : kC G p s m c cX12_bell 4 RX12 A := C
  have hx := C.1
  have hb := C.2.1
  have hl : lv_has ls 4 [(0, .ref h0), (1, .int n0)] := hl
  refine lv_aload_n hx hb dX12_bell_0 rfl (lv_at hl 0 rfl) ?_
  refine lv_iconst (v := 0) hx hb dX12_bell_1 (by decide) ?_
  refine k_put fl_X12_177 ft_X12_0 C hP hD hS 0 rfl rfl rfl dX12_bell_2 (fun H locs hP hD hS => ?_)
  have hP : va_P G.1 vwCl [(h0, .inr (12, ofL 88 (updV Fh0 0 (.int 0)))), (an, .inl (G.2.1, 48, .inl f0)), (ath, .inl (G.2.1, 48, .inl f1))] H := hP
  have hD : va_D A [(h0, .inr (12, ofL 88 (updV Fh0 0 (.int 0)))), (an, .inl (G.2.1, 48, .inl f0)), (ath, .inl (G.2.1, 48, .inl f1))] := hD
  refine lv_aload_n hx hb dX12_bell_5 rfl (lv_at hl 0 rfl) ?_
  refine lv_iload_n hx hb dX12_bell_6 rfl (lv_at hl 1 rfl) ?_
  refine lv_iconst (v := 0) hx hb dX12_bell_7 (by decide) ?_
  refine lv_bipush (v := 60) hx hb dX12_bell_8 (by decide) ?_
  refine k_callSi (wr := [(h0, .inr (12, ofL 88 (updV Fh0 0 (.int 0)))), (an, .inl (G.2.1, 48, .inl f0)), (ath, .inl (G.2.1, 48, .inl f1))]) (rest := [.ref h0]) li_X12_392 C (c_X12_within l G H.size n0 0 60) (kR rfl) hP hD hS [] [0, 1, 2] rfl rfl rfl rfl (by decide) rfl hl.1 rfl (Nat.le_of_ble_eq_true rfl) dX12_bell_10 (fun rr2 uu3 H locs hw1 hP hD hS => ?_)
  rcases hw1 with ⟨rfl, rfl, c_4⟩ | ⟨rfl, rfl, c_5, c_6⟩ | ⟨rfl, rfl, c_7, c_8⟩
  ·
    have hP : va_P G.1 vwCl [(h0, .inr (12, ofL 88 (updV Fh0 0 (.int 0)))), (an, .inl (G.2.1, 48, .inl f0)), (ath, .inl (G.2.1, 48, .inl f1))] H := hP
    have hD : va_D A [(h0, .inr (12, ofL 88 (updV Fh0 0 (.int 0)))), (an, .inl (G.2.1, 48, .inl f0)), (ath, .inl (G.2.1, 48, .inl f1))] := hD
    refine lv_iconst (v := 1) hx hb dX12_bell_13 (by decide) ?_
    refine k_callVi (wr := [(an, .inl (G.2.1, 48, .inl f0)), (ath, .inl (G.2.1, 48, .inl f1))]) (rest := []) li_X12_328 C (c_X12_right0 l G H.size h0 1 (updV Fh0 0 (.int 0)) rfl) (kR rfl) hP hD hS [0] [1, 2] rfl rfl rfl rfl (by decide) 0 12 rfl rfl rfl hl.1 rfl (Nat.le_of_ble_eq_true rfl) dX12_bell_14 (fun rr10 uu11 H locs hw9 hP hD hS => ?_)
    rcases hw9 with ⟨rfl, rfl, c_12⟩ | ⟨rfl, rfl, c_13⟩
    ·
      have hP : va_P G.1 vwCl [(an, .inl (G.2.1, 48, .inl f0)), (ath, .inl (G.2.1, 48, .inl f1)), (h0, .inr (12, ofL 88 (updV (updV Fh0 0 (.int 0)) 0 (.int 1))))] H := hP
      have hD : va_D A [(an, .inl (G.2.1, 48, .inl f0)), (ath, .inl (G.2.1, 48, .inl f1)), (h0, .inr (12, ofL 88 (updV (updV Fh0 0 (.int 0)) 0 (.int 1))))] := hD
      refine lv_if_ne (x := 0) (tgt := 22) hx hb dX12_bell_17 (by decide) (fun c_14 => ?_) (fun c_14 => ?_)
      · exact absurd (by decide) c_14
      refine lv_iconst (v := 0) hx hb dX12_bell_20 (by decide) ?_
      exact k_iret C hr hlk hP hD hS 0 (Or.inl ⟨rfl, rfl, c_4⟩) [2] rfl rfl (Nat.le_of_ble_eq_true rfl) (Nat.le_of_ble_eq_true rfl) dX12_bell_21
    ·
      exact absurd c_13 (by decide)
  ·
    have hP : va_P G.1 vwCl [(h0, .inr (12, ofL 88 (updV Fh0 0 (.int 0)))), (an, .inl (G.2.1, 48, .inl f0)), (ath, .inl (G.2.1, 48, .inl f1))] H := hP
    have hD : va_D A [(h0, .inr (12, ofL 88 (updV Fh0 0 (.int 0)))), (an, .inl (G.2.1, 48, .inl f0)), (ath, .inl (G.2.1, 48, .inl f1))] := hD
    refine lv_iconst (v := 1) hx hb dX12_bell_13 (by decide) ?_
    refine k_callVi (wr := [(an, .inl (G.2.1, 48, .inl f0)), (ath, .inl (G.2.1, 48, .inl f1))]) (rest := []) li_X12_328 C (c_X12_right0 l G H.size h0 1 (updV Fh0 0 (.int 0)) rfl) (kR rfl) hP hD hS [0] [1, 2] rfl rfl rfl rfl (by decide) 0 12 rfl rfl rfl hl.1 rfl (Nat.le_of_ble_eq_true rfl) dX12_bell_14 (fun rr16 uu17 H locs hw15 hP hD hS => ?_)
    rcases hw15 with ⟨rfl, rfl, c_18⟩ | ⟨rfl, rfl, c_19⟩
    ·
      have hP : va_P G.1 vwCl [(an, .inl (G.2.1, 48, .inl f0)), (ath, .inl (G.2.1, 48, .inl f1)), (h0, .inr (12, ofL 88 (updV (updV Fh0 0 (.int 0)) 0 (.int 1))))] H := hP
      have hD : va_D A [(an, .inl (G.2.1, 48, .inl f0)), (ath, .inl (G.2.1, 48, .inl f1)), (h0, .inr (12, ofL 88 (updV (updV Fh0 0 (.int 0)) 0 (.int 1))))] := hD
      refine lv_if_ne (x := 0) (tgt := 22) hx hb dX12_bell_17 (by decide) (fun c_20 => ?_) (fun c_20 => ?_)
      · exact absurd (by decide) c_20
      refine lv_iconst (v := 0) hx hb dX12_bell_20 (by decide) ?_
      exact k_iret C hr hlk hP hD hS 1 (Or.inr (Or.inl ⟨rfl, rfl, c_5, c_6⟩)) [2] rfl rfl (Nat.le_of_ble_eq_true rfl) (Nat.le_of_ble_eq_true rfl) dX12_bell_21
    ·
      exact absurd c_19 (by decide)
  ·
    have hP : va_P G.1 vwCl [(h0, .inr (12, ofL 88 (updV Fh0 0 (.int 0)))), (an, .inl (G.2.1, 48, .inl f0)), (ath, .inl (G.2.1, 48, .inl f1))] H := hP
    have hD : va_D A [(h0, .inr (12, ofL 88 (updV Fh0 0 (.int 0)))), (an, .inl (G.2.1, 48, .inl f0)), (ath, .inl (G.2.1, 48, .inl f1))] := hD
    refine lv_iconst (v := 1) hx hb dX12_bell_13 (by decide) ?_
    refine k_callVi (wr := [(an, .inl (G.2.1, 48, .inl f0)), (ath, .inl (G.2.1, 48, .inl f1))]) (rest := []) li_X12_328 C (c_X12_right1 l G H.size h0 1 (updV Fh0 0 (.int 0)) rfl) (kR rfl) hP hD hS [0] [1, 2] rfl rfl rfl rfl (by decide) 0 12 rfl rfl rfl hl.1 rfl (Nat.le_of_ble_eq_true rfl) dX12_bell_14 (fun rr22 uu23 H locs hw21 hP hD hS => ?_)
    obtain rfl : rr22 = 1 := hw21
    have hP : va_P G.1 vwCl [(an, .inl (G.2.1, 48, .inl f0)), (ath, .inl (G.2.1, 48, .inl f1)), (h0, .inr (12, ofL 88 (updV Fh0 0 (.int 0))))] H := hP
    have hD : va_D A [(an, .inl (G.2.1, 48, .inl f0)), (ath, .inl (G.2.1, 48, .inl f1)), (h0, .inr (12, ofL 88 (updV Fh0 0 (.int 0))))] := hD
    refine lv_if_ne (x := 1) (tgt := 22) hx hb dX12_bell_17 (by decide) (fun c_24 => ?_) (fun c_24 => ?_)
    rotate_left
    · exact absurd c_24 (by decide)
    refine lv_aload_n hx hb dX12_bell_22 rfl (lv_at hl 0 rfl) ?_
    refine k_callVi (wr := [(an, .inl (G.2.1, 48, .inl f0)), (ath, .inl (G.2.1, 48, .inl f1))]) (rest := []) li_X12_399 C (c_X12_lost l G H.size h0 (updV Fh0 0 (.int 0)) e_h0_1) (kR rfl) hP hD hS [2] [0, 1] rfl rfl rfl rfl (by decide) 0 12 rfl rfl rfl hl.1 rfl (Nat.le_of_ble_eq_true rfl) dX12_bell_23 (fun rr26 uu27 H locs hw25 hP hD hS => ?_)
    obtain rfl : rr26 = 0 := hw25
    have hP : va_P G.1 vwCl [(an, .inl (G.2.1, 48, .inl f0)), (ath, .inl (G.2.1, 48, .inl f1)), (h0, .inr (12, ofL 88 (updV Fh0 0 (.int 0))))] H := hP
    have hD : va_D A [(an, .inl (G.2.1, 48, .inl f0)), (ath, .inl (G.2.1, 48, .inl f1)), (h0, .inr (12, ofL 88 (updV Fh0 0 (.int 0))))] := hD
    refine lv_istore_n (lv' := [(2, .int 0), (0, .ref h0), (1, .int n0)]) hx hb dX12_bell_26 rfl hl (by decide) rfl (fun ls hl => ?_)
    refine lv_aload_n hx hb dX12_bell_27 rfl (lv_at hl 1 rfl) ?_
    refine lv_aload_n hx hb dX12_bell_28 rfl (lv_at hl 1 rfl) ?_
    refine k_get (v := .ref an) fl_X12_50 C hP 2 rfl e_h0_16 dX12_bell_29 ?_
    refine lv_aload_n hx hb dX12_bell_32 rfl (lv_at hl 1 rfl) ?_
    refine k_get (v := .ref ath) fl_X12_150 C hP 2 rfl e_h0_72 dX12_bell_33 ?_
    refine k_callVv (wr := []) (rest := []) li_X12_341 C (c_X12_copies l G H.size h0 an ath (updV Fh0 0 (.int 0)) 48 f0 f1 (by decide)) (kR rfl) hP hD hS [2, 0, 1] [] rfl rfl rfl rfl (by decide) 0 12 rfl rfl rfl hl.1 rfl (Nat.le_of_ble_eq_true rfl) dX12_bell_36 (fun uu30 H locs hw28 hP hD hS => ?_)
    have hP : va_P G.1 vwCl [(h0, .inr (12, ofL 88 (updV Fh0 0 (.int 0)))), (an, .inl (G.2.1, 48, .inl f0)), (ath, .inl (G.2.1, 48, .inl uu30))] H := hP
    have hD : va_D A [(h0, .inr (12, ofL 88 (updV Fh0 0 (.int 0)))), (an, .inl (G.2.1, 48, .inl f0)), (ath, .inl (G.2.1, 48, .inl uu30))] := hD
    refine lv_iconst (v := 0) hx hb dX12_bell_39 (by decide) ?_
    refine lv_istore_n (lv' := [(3, .int 0), (2, .int 0), (0, .ref h0), (1, .int n0)]) hx hb dX12_bell_40 rfl hl (by decide) rfl (fun ls hl => ?_)
    refine lv_iload_n hx hb dX12_bell_41 rfl (lv_at hl 0 rfl) ?_
    refine lv_aload_n hx hb dX12_bell_42 rfl (lv_at hl 2 rfl) ?_
    refine k_get (v := .int 0) fl_X12_335 C hP 0 rfl e_h0_1 dX12_bell_43 ?_
    refine lv_icmp_ge (x := 0) (y := 0) (tgt := 76) hx hb dX12_bell_46 (by decide) (fun c_31 => ?_) (fun c_31 => ?_)
    rotate_left
    · exact absurd (by decide) c_31
    refine lv_iload_n hx hb dX12_bell_76 rfl (lv_at hl 1 rfl) ?_
    refine lv_aload_n hx hb dX12_bell_77 rfl (lv_at hl 2 rfl) ?_
    refine k_callVi (wr := [(an, .inl (G.2.1, 48, .inl f0)), (ath, .inl (G.2.1, 48, .inl uu30))]) (rest := [.int 0]) li_X12_399 C (c_X12_lost l G H.size h0 (updV Fh0 0 (.int 0)) e_h0_1) (kR rfl) hP hD hS [0] [1, 2] rfl rfl rfl rfl (by decide) 0 12 rfl rfl rfl hl.1 rfl (Nat.le_of_ble_eq_true rfl) dX12_bell_78 (fun rr33 uu34 H locs hw32 hP hD hS => ?_)
    obtain rfl : rr33 = 0 := hw32
    have hP : va_P G.1 vwCl [(an, .inl (G.2.1, 48, .inl f0)), (ath, .inl (G.2.1, 48, .inl uu30)), (h0, .inr (12, ofL 88 (updV Fh0 0 (.int 0))))] H := hP
    have hD : va_D A [(an, .inl (G.2.1, 48, .inl f0)), (ath, .inl (G.2.1, 48, .inl uu30)), (h0, .inr (12, ofL 88 (updV Fh0 0 (.int 0))))] := hD
    refine lv_isub hx hb dX12_bell_81 ?_
    refine k_eqi (y := 0) (by decide) ?_
    refine lv_istore_n (lv' := [(2, .int 0), (3, .int 0), (0, .ref h0), (1, .int n0)]) hx hb dX12_bell_82 rfl hl (by decide) rfl (fun ls hl => ?_)
    refine lv_aload_n hx hb dX12_bell_83 rfl (lv_at hl 2 rfl) ?_
    refine lv_aload_n hx hb dX12_bell_84 rfl (lv_at hl 2 rfl) ?_
    refine k_get (v := .ref ath) fl_X12_150 C hP 2 rfl e_h0_72 dX12_bell_85 ?_
    refine lv_aload_n hx hb dX12_bell_88 rfl (lv_at hl 2 rfl) ?_
    refine k_get (v := .ref an) fl_X12_50 C hP 2 rfl e_h0_16 dX12_bell_89 ?_
    refine k_callVv (wr := []) (rest := []) li_X12_341 C (c_X12_copies l G H.size h0 ath an (updV Fh0 0 (.int 0)) 48 uu30 f0 (by decide)) (kR rfl) hP hD hS [2, 1, 0] [] rfl rfl rfl rfl (by decide) 0 12 rfl rfl rfl hl.1 rfl (Nat.le_of_ble_eq_true rfl) dX12_bell_92 (fun uu37 H locs hw35 hP hD hS => ?_)
    have hP : va_P G.1 vwCl [(h0, .inr (12, ofL 88 (updV Fh0 0 (.int 0)))), (ath, .inl (G.2.1, 48, .inl uu30)), (an, .inl (G.2.1, 48, .inl uu37))] H := hP
    have hD : va_D A [(h0, .inr (12, ofL 88 (updV Fh0 0 (.int 0)))), (ath, .inl (G.2.1, 48, .inl uu30)), (an, .inl (G.2.1, 48, .inl uu37))] := hD
    refine lv_iload_n hx hb dX12_bell_95 rfl (lv_at hl 0 rfl) ?_
    exact k_iret C hr hlk hP hD hS 2 (Or.inr (Or.inr (⟨rfl, rfl, c_7, c_8⟩))) [0] rfl rfl (Nat.le_of_ble_eq_true rfl) (Nat.le_of_ble_eq_true rfl) dX12_bell_96
set_option maxHeartbeats 4000000 in
set_option maxRecDepth 100000 in
theorem c_X12_pair (l : Launch) (G : kG) (sz : Nat) (h0 : Nat) (n0 : Int32) (Fh0 : Nat → Value) (an : Nat) (ath : Nat) (f0 : Nat → Int32) (f1 : Nat → Int32) (e_h0_1 : Fh0 1 = .int 0) (e_h0_16 : Fh0 16 = .ref an) (e_h0_72 : Fh0 72 = .ref ath) : kM l yX12_pair cX12_pair 7 (some .int) { frames := 8, cells := 0, slots := 0, locals := 154 } G [.ref h0, .int n0] [(h0, .inr (12, ofL 88 Fh0)), (an, .inl (G.2.1, 48, .inl f0)), (ath, .inl (G.2.1, 48, .inl f1))] sz (kQi G (S := Nat) (fun r u => (u = 0 ∧ r = 0 ∧ n0 < 0) ∨ (u = 1 ∧ r = 0 ∧ ¬ n0 < 0 ∧ 1 < n0) ∨ (u = 2 ∧ r = -1 ∧ ¬ n0 < 0 ∧ ¬ 1 < n0)) (fun u => match u with | 0 => [(h0, .inr (12, ofL 88 (updV (updV Fh0 0 (.int 0)) 0 (.int 1))))] | 1 => [(h0, .inr (12, ofL 88 (updV (updV Fh0 0 (.int 0)) 0 (.int 1))))] | _ => [(h0, .inr (12, ofL 88 (updV Fh0 0 (.int 0))))])) := by
  refine kM.of (by decide) (Nat.le_of_ble_eq_true rfl) ?_
  intro p e s m below meth c A ls H C hr hlk hnm hP hD hS hl
  have C : kC G p s m c cX12_pair 7 RX12 A := C
  have hx := C.1
  have hb := C.2.1
  have hl : lv_has ls 7 [(0, .ref h0), (1, .int n0)] := hl
  refine lv_aload_n hx hb dX12_pair_0 rfl (lv_at hl 0 rfl) ?_
  refine lv_iconst (v := 0) hx hb dX12_pair_1 (by decide) ?_
  refine k_put fl_X12_177 ft_X12_0 C hP hD hS 0 rfl rfl rfl dX12_pair_2 (fun H locs hP hD hS => ?_)
  have hP : va_P G.1 vwCl [(h0, .inr (12, ofL 88 (updV Fh0 0 (.int 0)))), (an, .inl (G.2.1, 48, .inl f0)), (ath, .inl (G.2.1, 48, .inl f1))] H := hP
  have hD : va_D A [(h0, .inr (12, ofL 88 (updV Fh0 0 (.int 0)))), (an, .inl (G.2.1, 48, .inl f0)), (ath, .inl (G.2.1, 48, .inl f1))] := hD
  refine lv_aload_n hx hb dX12_pair_5 rfl (lv_at hl 0 rfl) ?_
  refine lv_iload_n hx hb dX12_pair_6 rfl (lv_at hl 1 rfl) ?_
  refine lv_iconst (v := 1) hx hb dX12_pair_7 (by decide) ?_
  refine k_callVi (wr := [(an, .inl (G.2.1, 48, .inl f0)), (ath, .inl (G.2.1, 48, .inl f1))]) (rest := []) li_X12_405 C (c_X12_isWhat l G H.size h0 n0 1 (updV Fh0 0 (.int 0)) rfl) (kR rfl) hP hD hS [0] [1, 2] rfl rfl rfl rfl (by decide) 0 12 rfl rfl rfl hl.1 rfl (Nat.le_of_ble_eq_true rfl) dX12_pair_8 (fun rr2 uu3 H locs hw1 hP hD hS => ?_)
  rcases hw1 with ⟨rfl, rfl, c_4⟩ | ⟨rfl, rfl, c_5, c_6⟩ | ⟨rfl, rfl, c_7, c_8⟩
  ·
    have hP : va_P G.1 vwCl [(an, .inl (G.2.1, 48, .inl f0)), (ath, .inl (G.2.1, 48, .inl f1)), (h0, .inr (12, ofL 88 (updV (updV Fh0 0 (.int 0)) 0 (.int 1))))] H := hP
    have hD : va_D A [(an, .inl (G.2.1, 48, .inl f0)), (ath, .inl (G.2.1, 48, .inl f1)), (h0, .inr (12, ofL 88 (updV (updV Fh0 0 (.int 0)) 0 (.int 1))))] := hD
    refine lv_if_ne (x := 0) (tgt := 16) hx hb dX12_pair_11 (by decide) (fun c_9 => ?_) (fun c_9 => ?_)
    · exact absurd (by decide) c_9
    refine lv_iconst (v := 0) hx hb dX12_pair_14 (by decide) ?_
    exact k_iret C hr hlk hP hD hS 0 (Or.inl ⟨rfl, rfl, c_4⟩) [2] rfl rfl (Nat.le_of_ble_eq_true rfl) (Nat.le_of_ble_eq_true rfl) dX12_pair_15
  ·
    have hP : va_P G.1 vwCl [(an, .inl (G.2.1, 48, .inl f0)), (ath, .inl (G.2.1, 48, .inl f1)), (h0, .inr (12, ofL 88 (updV (updV Fh0 0 (.int 0)) 0 (.int 1))))] H := hP
    have hD : va_D A [(an, .inl (G.2.1, 48, .inl f0)), (ath, .inl (G.2.1, 48, .inl f1)), (h0, .inr (12, ofL 88 (updV (updV Fh0 0 (.int 0)) 0 (.int 1))))] := hD
    refine lv_if_ne (x := 0) (tgt := 16) hx hb dX12_pair_11 (by decide) (fun c_10 => ?_) (fun c_10 => ?_)
    · exact absurd (by decide) c_10
    refine lv_iconst (v := 0) hx hb dX12_pair_14 (by decide) ?_
    exact k_iret C hr hlk hP hD hS 1 (Or.inr (Or.inl ⟨rfl, rfl, c_5, c_6⟩)) [2] rfl rfl (Nat.le_of_ble_eq_true rfl) (Nat.le_of_ble_eq_true rfl) dX12_pair_15
  ·
    have hP : va_P G.1 vwCl [(an, .inl (G.2.1, 48, .inl f0)), (ath, .inl (G.2.1, 48, .inl f1)), (h0, .inr (12, ofL 88 (updV Fh0 0 (.int 0))))] H := hP
    have hD : va_D A [(an, .inl (G.2.1, 48, .inl f0)), (ath, .inl (G.2.1, 48, .inl f1)), (h0, .inr (12, ofL 88 (updV Fh0 0 (.int 0))))] := hD
    refine lv_if_ne (x := 1) (tgt := 16) hx hb dX12_pair_11 (by decide) (fun c_11 => ?_) (fun c_11 => ?_)
    rotate_left
    · exact absurd c_11 (by decide)
    refine lv_iconst (v := -1) hx hb dX12_pair_16 (by decide) ?_
    refine lv_istore_n (lv' := [(2, .int (-1)), (0, .ref h0), (1, .int n0)]) hx hb dX12_pair_17 rfl hl (by decide) rfl (fun ls hl => ?_)
    refine lv_iconst (v := 0) hx hb dX12_pair_18 (by decide) ?_
    refine lv_istore_n (lv' := [(3, .int 0), (2, .int (-1)), (0, .ref h0), (1, .int n0)]) hx hb dX12_pair_19 rfl hl (by decide) rfl (fun ls hl => ?_)
    refine lv_aload_n hx hb dX12_pair_20 rfl (lv_at hl 2 rfl) ?_
    refine lv_aload_n hx hb dX12_pair_21 rfl (lv_at hl 2 rfl) ?_
    refine k_get (v := .ref an) fl_X12_50 C hP 2 rfl e_h0_16 dX12_pair_22 ?_
    refine lv_aload_n hx hb dX12_pair_25 rfl (lv_at hl 2 rfl) ?_
    refine k_get (v := .ref ath) fl_X12_150 C hP 2 rfl e_h0_72 dX12_pair_26 ?_
    refine k_callVv (wr := []) (rest := []) li_X12_341 C (c_X12_copies l G H.size h0 an ath (updV Fh0 0 (.int 0)) 48 f0 f1 (by decide)) (kR rfl) hP hD hS [2, 0, 1] [] rfl rfl rfl rfl (by decide) 0 12 rfl rfl rfl hl.1 rfl (Nat.le_of_ble_eq_true rfl) dX12_pair_29 (fun uu14 H locs hw12 hP hD hS => ?_)
    have hP : va_P G.1 vwCl [(h0, .inr (12, ofL 88 (updV Fh0 0 (.int 0)))), (an, .inl (G.2.1, 48, .inl f0)), (ath, .inl (G.2.1, 48, .inl uu14))] H := hP
    have hD : va_D A [(h0, .inr (12, ofL 88 (updV Fh0 0 (.int 0)))), (an, .inl (G.2.1, 48, .inl f0)), (ath, .inl (G.2.1, 48, .inl uu14))] := hD
    refine lv_iconst (v := 0) hx hb dX12_pair_32 (by decide) ?_
    refine lv_istore (lv' := [(4, .int 0), (3, .int 0), (2, .int (-1)), (0, .ref h0), (1, .int n0)]) hx hb dX12_pair_33 hl (by decide) rfl (fun ls hl => ?_)
    refine lv_iload hx hb dX12_pair_35 (lv_at hl 0 rfl) ?_
    refine lv_aload_n hx hb dX12_pair_37 rfl (lv_at hl 3 rfl) ?_
    refine k_get (v := .int 0) fl_X12_335 C hP 0 rfl e_h0_1 dX12_pair_38 ?_
    refine lv_icmp_ge (x := 0) (y := 0) (tgt := 135) hx hb dX12_pair_41 (by decide) (fun c_15 => ?_) (fun c_15 => ?_)
    rotate_left
    · exact absurd (by decide) c_15
    refine lv_iload_n hx hb dX12_pair_135 rfl (lv_at hl 2 rfl) ?_
    refine lv_iconst (v := -1) hx hb dX12_pair_136 (by decide) ?_
    refine lv_icmp_eq (x := -1) (y := -1) (tgt := 144) hx hb dX12_pair_137 (by decide) (fun c_16 => ?_) (fun c_16 => ?_)
    rotate_left
    · exact absurd (by decide) c_16
    refine lv_iload_n hx hb dX12_pair_144 rfl (lv_at hl 2 rfl) ?_
    refine lv_goto (tgt := 149) hx hb dX12_pair_145 (by decide) ?_
    exact k_iret C hr hlk hP hD hS 2 (Or.inr (Or.inr (⟨rfl, rfl, c_7, c_8⟩))) [0] rfl rfl (Nat.le_of_ble_eq_true rfl) (Nat.le_of_ble_eq_true rfl) dX12_pair_149
set_option maxHeartbeats 4000000 in
set_option maxRecDepth 100000 in
theorem c_X12_pause (l : Launch) (G : kG) (sz : Nat) (h0 : Nat) (n0 : Int32) (n1 : Int32) (Fh0 : Nat → Value) (an : Nat) (ath : Nat) (f0 : Nat → Int32) (f1 : Nat → Int32) (e_h0_1 : Fh0 1 = .int 0) (e_h0_16 : Fh0 16 = .ref an) (e_h0_72 : Fh0 72 = .ref ath) : kM l yX12_pause cX12_pause 7 (some .int) { frames := 8, cells := 0, slots := 0, locals := 154 } G [.ref h0, .int n0, .int n1] [(h0, .inr (12, ofL 88 Fh0)), (an, .inl (G.2.1, 48, .inl f0)), (ath, .inl (G.2.1, 48, .inl f1))] sz (kQi G (S := Nat) (fun r u => (u = 0 ∧ r = 0 ∧ n1 < 0) ∨ (u = 1 ∧ r = 0 ∧ ¬ n1 < 0 ∧ 1 < n1) ∨ (u = 2 ∧ r = 0 ∧ ¬ n1 < 0 ∧ ¬ 1 < n1 ∧ n0 < 1) ∨ (u = 3 ∧ r = 0 ∧ ¬ n1 < 0 ∧ ¬ 1 < n1 ∧ ¬ n0 < 1 ∧ 30 < n0) ∨ (u = 4 ∧ r = -1 ∧ ¬ n1 < 0 ∧ ¬ 1 < n1 ∧ ¬ n0 < 1 ∧ ¬ 30 < n0)) (fun u => match u with | 0 => [(h0, .inr (12, ofL 88 (updV (updV Fh0 0 (.int 0)) 0 (.int 1))))] | 1 => [(h0, .inr (12, ofL 88 (updV (updV Fh0 0 (.int 0)) 0 (.int 1))))] | 2 => [(h0, .inr (12, ofL 88 (updV (updV Fh0 0 (.int 0)) 0 (.int 2))))] | 3 => [(h0, .inr (12, ofL 88 (updV (updV Fh0 0 (.int 0)) 0 (.int 2))))] | _ => [(h0, .inr (12, ofL 88 (updV Fh0 0 (.int 0))))])) := by
  refine kM.of (by decide) (Nat.le_of_ble_eq_true rfl) ?_
  intro p e s m below meth c A ls H C hr hlk hnm hP hD hS hl
  have C : kC G p s m c cX12_pause 7 RX12 A := C
  have hx := C.1
  have hb := C.2.1
  have hl : lv_has ls 7 [(0, .ref h0), (1, .int n0), (2, .int n1)] := hl
  refine lv_aload_n hx hb dX12_pause_0 rfl (lv_at hl 0 rfl) ?_
  refine lv_iconst (v := 0) hx hb dX12_pause_1 (by decide) ?_
  refine k_put fl_X12_177 ft_X12_0 C hP hD hS 0 rfl rfl rfl dX12_pause_2 (fun H locs hP hD hS => ?_)
  have hP : va_P G.1 vwCl [(h0, .inr (12, ofL 88 (updV Fh0 0 (.int 0)))), (an, .inl (G.2.1, 48, .inl f0)), (ath, .inl (G.2.1, 48, .inl f1))] H := hP
  have hD : va_D A [(h0, .inr (12, ofL 88 (updV Fh0 0 (.int 0)))), (an, .inl (G.2.1, 48, .inl f0)), (ath, .inl (G.2.1, 48, .inl f1))] := hD
  refine lv_aload_n hx hb dX12_pause_5 rfl (lv_at hl 0 rfl) ?_
  refine lv_iload_n hx hb dX12_pause_6 rfl (lv_at hl 2 rfl) ?_
  refine lv_iconst (v := 1) hx hb dX12_pause_7 (by decide) ?_
  refine k_callVi (wr := [(an, .inl (G.2.1, 48, .inl f0)), (ath, .inl (G.2.1, 48, .inl f1))]) (rest := []) li_X12_405 C (c_X12_isWhat l G H.size h0 n1 1 (updV Fh0 0 (.int 0)) rfl) (kR rfl) hP hD hS [0] [1, 2] rfl rfl rfl rfl (by decide) 0 12 rfl rfl rfl hl.1 rfl (Nat.le_of_ble_eq_true rfl) dX12_pause_8 (fun rr2 uu3 H locs hw1 hP hD hS => ?_)
  rcases hw1 with ⟨rfl, rfl, c_4⟩ | ⟨rfl, rfl, c_5, c_6⟩ | ⟨rfl, rfl, c_7, c_8⟩
  ·
    have hP : va_P G.1 vwCl [(an, .inl (G.2.1, 48, .inl f0)), (ath, .inl (G.2.1, 48, .inl f1)), (h0, .inr (12, ofL 88 (updV (updV Fh0 0 (.int 0)) 0 (.int 1))))] H := hP
    have hD : va_D A [(an, .inl (G.2.1, 48, .inl f0)), (ath, .inl (G.2.1, 48, .inl f1)), (h0, .inr (12, ofL 88 (updV (updV Fh0 0 (.int 0)) 0 (.int 1))))] := hD
    refine lv_if_eq (x := 0) (tgt := 29) hx hb dX12_pause_11 (by decide) (fun c_9 => ?_) (fun c_9 => ?_)
    rotate_left
    · exact absurd (by decide) c_9
    refine lv_iconst (v := 0) hx hb dX12_pause_29 (by decide) ?_
    exact k_iret C hr hlk hP hD hS 0 (Or.inl ⟨rfl, rfl, c_4⟩) [2] rfl rfl (Nat.le_of_ble_eq_true rfl) (Nat.le_of_ble_eq_true rfl) dX12_pause_30
  ·
    have hP : va_P G.1 vwCl [(an, .inl (G.2.1, 48, .inl f0)), (ath, .inl (G.2.1, 48, .inl f1)), (h0, .inr (12, ofL 88 (updV (updV Fh0 0 (.int 0)) 0 (.int 1))))] H := hP
    have hD : va_D A [(an, .inl (G.2.1, 48, .inl f0)), (ath, .inl (G.2.1, 48, .inl f1)), (h0, .inr (12, ofL 88 (updV (updV Fh0 0 (.int 0)) 0 (.int 1))))] := hD
    refine lv_if_eq (x := 0) (tgt := 29) hx hb dX12_pause_11 (by decide) (fun c_10 => ?_) (fun c_10 => ?_)
    rotate_left
    · exact absurd (by decide) c_10
    refine lv_iconst (v := 0) hx hb dX12_pause_29 (by decide) ?_
    exact k_iret C hr hlk hP hD hS 1 (Or.inr (Or.inl ⟨rfl, rfl, c_5, c_6⟩)) [2] rfl rfl (Nat.le_of_ble_eq_true rfl) (Nat.le_of_ble_eq_true rfl) dX12_pause_30
  ·
    have hP : va_P G.1 vwCl [(an, .inl (G.2.1, 48, .inl f0)), (ath, .inl (G.2.1, 48, .inl f1)), (h0, .inr (12, ofL 88 (updV Fh0 0 (.int 0))))] H := hP
    have hD : va_D A [(an, .inl (G.2.1, 48, .inl f0)), (ath, .inl (G.2.1, 48, .inl f1)), (h0, .inr (12, ofL 88 (updV Fh0 0 (.int 0))))] := hD
    refine lv_if_eq (x := 1) (tgt := 29) hx hb dX12_pause_11 (by decide) (fun c_11 => ?_) (fun c_11 => ?_)
    · exact absurd c_11 (by decide)
    refine lv_aload_n hx hb dX12_pause_14 rfl (lv_at hl 0 rfl) ?_
    refine lv_iload_n hx hb dX12_pause_15 rfl (lv_at hl 1 rfl) ?_
    refine lv_iconst (v := 1) hx hb dX12_pause_16 (by decide) ?_
    refine lv_bipush (v := 30) hx hb dX12_pause_17 (by decide) ?_
    refine k_callSi (wr := [(an, .inl (G.2.1, 48, .inl f0)), (ath, .inl (G.2.1, 48, .inl f1)), (h0, .inr (12, ofL 88 (updV Fh0 0 (.int 0))))]) (rest := [.ref h0]) li_X12_392 C (c_X12_within l G H.size n0 1 30) (kR rfl) hP hD hS [] [0, 1, 2] rfl rfl rfl rfl (by decide) rfl hl.1 rfl (Nat.le_of_ble_eq_true rfl) dX12_pause_19 (fun rr13 uu14 H locs hw12 hP hD hS => ?_)
    rcases hw12 with ⟨rfl, rfl, c_15⟩ | ⟨rfl, rfl, c_16, c_17⟩ | ⟨rfl, rfl, c_18, c_19⟩
    ·
      have hP : va_P G.1 vwCl [(an, .inl (G.2.1, 48, .inl f0)), (ath, .inl (G.2.1, 48, .inl f1)), (h0, .inr (12, ofL 88 (updV Fh0 0 (.int 0))))] H := hP
      have hD : va_D A [(an, .inl (G.2.1, 48, .inl f0)), (ath, .inl (G.2.1, 48, .inl f1)), (h0, .inr (12, ofL 88 (updV Fh0 0 (.int 0))))] := hD
      refine lv_iconst (v := 2) hx hb dX12_pause_22 (by decide) ?_
      refine k_callVi (wr := [(an, .inl (G.2.1, 48, .inl f0)), (ath, .inl (G.2.1, 48, .inl f1))]) (rest := []) li_X12_328 C (c_X12_right0 l G H.size h0 2 (updV Fh0 0 (.int 0)) rfl) (kR rfl) hP hD hS [2] [0, 1] rfl rfl rfl rfl (by decide) 0 12 rfl rfl rfl hl.1 rfl (Nat.le_of_ble_eq_true rfl) dX12_pause_23 (fun rr21 uu22 H locs hw20 hP hD hS => ?_)
      rcases hw20 with ⟨rfl, rfl, c_23⟩ | ⟨rfl, rfl, c_24⟩
      ·
        have hP : va_P G.1 vwCl [(an, .inl (G.2.1, 48, .inl f0)), (ath, .inl (G.2.1, 48, .inl f1)), (h0, .inr (12, ofL 88 (updV (updV Fh0 0 (.int 0)) 0 (.int 2))))] H := hP
        have hD : va_D A [(an, .inl (G.2.1, 48, .inl f0)), (ath, .inl (G.2.1, 48, .inl f1)), (h0, .inr (12, ofL 88 (updV (updV Fh0 0 (.int 0)) 0 (.int 2))))] := hD
        refine lv_if_ne (x := 0) (tgt := 31) hx hb dX12_pause_26 (by decide) (fun c_25 => ?_) (fun c_25 => ?_)
        · exact absurd (by decide) c_25
        refine lv_iconst (v := 0) hx hb dX12_pause_29 (by decide) ?_
        exact k_iret C hr hlk hP hD hS 2 (Or.inr (Or.inr (Or.inl ⟨rfl, rfl, c_7, c_8, c_15⟩))) [2] rfl rfl (Nat.le_of_ble_eq_true rfl) (Nat.le_of_ble_eq_true rfl) dX12_pause_30
      ·
        exact absurd c_24 (by decide)
    ·
      have hP : va_P G.1 vwCl [(an, .inl (G.2.1, 48, .inl f0)), (ath, .inl (G.2.1, 48, .inl f1)), (h0, .inr (12, ofL 88 (updV Fh0 0 (.int 0))))] H := hP
      have hD : va_D A [(an, .inl (G.2.1, 48, .inl f0)), (ath, .inl (G.2.1, 48, .inl f1)), (h0, .inr (12, ofL 88 (updV Fh0 0 (.int 0))))] := hD
      refine lv_iconst (v := 2) hx hb dX12_pause_22 (by decide) ?_
      refine k_callVi (wr := [(an, .inl (G.2.1, 48, .inl f0)), (ath, .inl (G.2.1, 48, .inl f1))]) (rest := []) li_X12_328 C (c_X12_right0 l G H.size h0 2 (updV Fh0 0 (.int 0)) rfl) (kR rfl) hP hD hS [2] [0, 1] rfl rfl rfl rfl (by decide) 0 12 rfl rfl rfl hl.1 rfl (Nat.le_of_ble_eq_true rfl) dX12_pause_23 (fun rr27 uu28 H locs hw26 hP hD hS => ?_)
      rcases hw26 with ⟨rfl, rfl, c_29⟩ | ⟨rfl, rfl, c_30⟩
      ·
        have hP : va_P G.1 vwCl [(an, .inl (G.2.1, 48, .inl f0)), (ath, .inl (G.2.1, 48, .inl f1)), (h0, .inr (12, ofL 88 (updV (updV Fh0 0 (.int 0)) 0 (.int 2))))] H := hP
        have hD : va_D A [(an, .inl (G.2.1, 48, .inl f0)), (ath, .inl (G.2.1, 48, .inl f1)), (h0, .inr (12, ofL 88 (updV (updV Fh0 0 (.int 0)) 0 (.int 2))))] := hD
        refine lv_if_ne (x := 0) (tgt := 31) hx hb dX12_pause_26 (by decide) (fun c_31 => ?_) (fun c_31 => ?_)
        · exact absurd (by decide) c_31
        refine lv_iconst (v := 0) hx hb dX12_pause_29 (by decide) ?_
        exact k_iret C hr hlk hP hD hS 3 (Or.inr (Or.inr (Or.inr (Or.inl ⟨rfl, rfl, c_7, c_8, c_16, c_17⟩)))) [2] rfl rfl (Nat.le_of_ble_eq_true rfl) (Nat.le_of_ble_eq_true rfl) dX12_pause_30
      ·
        exact absurd c_30 (by decide)
    ·
      have hP : va_P G.1 vwCl [(an, .inl (G.2.1, 48, .inl f0)), (ath, .inl (G.2.1, 48, .inl f1)), (h0, .inr (12, ofL 88 (updV Fh0 0 (.int 0))))] H := hP
      have hD : va_D A [(an, .inl (G.2.1, 48, .inl f0)), (ath, .inl (G.2.1, 48, .inl f1)), (h0, .inr (12, ofL 88 (updV Fh0 0 (.int 0))))] := hD
      refine lv_iconst (v := 2) hx hb dX12_pause_22 (by decide) ?_
      refine k_callVi (wr := [(an, .inl (G.2.1, 48, .inl f0)), (ath, .inl (G.2.1, 48, .inl f1))]) (rest := []) li_X12_328 C (c_X12_right1 l G H.size h0 2 (updV Fh0 0 (.int 0)) rfl) (kR rfl) hP hD hS [2] [0, 1] rfl rfl rfl rfl (by decide) 0 12 rfl rfl rfl hl.1 rfl (Nat.le_of_ble_eq_true rfl) dX12_pause_23 (fun rr33 uu34 H locs hw32 hP hD hS => ?_)
      obtain rfl : rr33 = 1 := hw32
      have hP : va_P G.1 vwCl [(an, .inl (G.2.1, 48, .inl f0)), (ath, .inl (G.2.1, 48, .inl f1)), (h0, .inr (12, ofL 88 (updV Fh0 0 (.int 0))))] H := hP
      have hD : va_D A [(an, .inl (G.2.1, 48, .inl f0)), (ath, .inl (G.2.1, 48, .inl f1)), (h0, .inr (12, ofL 88 (updV Fh0 0 (.int 0))))] := hD
      refine lv_if_ne (x := 1) (tgt := 31) hx hb dX12_pause_26 (by decide) (fun c_35 => ?_) (fun c_35 => ?_)
      rotate_left
      · exact absurd c_35 (by decide)
      refine lv_iconst (v := -1) hx hb dX12_pause_31 (by decide) ?_
      refine lv_istore_n (lv' := [(3, .int (-1)), (0, .ref h0), (1, .int n0), (2, .int n1)]) hx hb dX12_pause_32 rfl hl (by decide) rfl (fun ls hl => ?_)
      refine lv_iconst (v := 0) hx hb dX12_pause_33 (by decide) ?_
      refine lv_istore (lv' := [(4, .int 0), (3, .int (-1)), (0, .ref h0), (1, .int n0), (2, .int n1)]) hx hb dX12_pause_34 hl (by decide) rfl (fun ls hl => ?_)
      refine lv_aload_n hx hb dX12_pause_36 rfl (lv_at hl 2 rfl) ?_
      refine lv_aload_n hx hb dX12_pause_37 rfl (lv_at hl 2 rfl) ?_
      refine k_get (v := .ref an) fl_X12_50 C hP 2 rfl e_h0_16 dX12_pause_38 ?_
      refine lv_aload_n hx hb dX12_pause_41 rfl (lv_at hl 2 rfl) ?_
      refine k_get (v := .ref ath) fl_X12_150 C hP 2 rfl e_h0_72 dX12_pause_42 ?_
      refine k_callVv (wr := []) (rest := []) li_X12_341 C (c_X12_copies l G H.size h0 an ath (updV Fh0 0 (.int 0)) 48 f0 f1 (by decide)) (kR rfl) hP hD hS [2, 0, 1] [] rfl rfl rfl rfl (by decide) 0 12 rfl rfl rfl hl.1 rfl (Nat.le_of_ble_eq_true rfl) dX12_pause_45 (fun uu38 H locs hw36 hP hD hS => ?_)
      have hP : va_P G.1 vwCl [(h0, .inr (12, ofL 88 (updV Fh0 0 (.int 0)))), (an, .inl (G.2.1, 48, .inl f0)), (ath, .inl (G.2.1, 48, .inl uu38))] H := hP
      have hD : va_D A [(h0, .inr (12, ofL 88 (updV Fh0 0 (.int 0)))), (an, .inl (G.2.1, 48, .inl f0)), (ath, .inl (G.2.1, 48, .inl uu38))] := hD
      refine lv_iconst (v := 0) hx hb dX12_pause_48 (by decide) ?_
      refine lv_istore (lv' := [(5, .int 0), (4, .int 0), (3, .int (-1)), (0, .ref h0), (1, .int n0), (2, .int n1)]) hx hb dX12_pause_49 hl (by decide) rfl (fun ls hl => ?_)
      refine lv_iload hx hb dX12_pause_51 (lv_at hl 0 rfl) ?_
      refine lv_aload_n hx hb dX12_pause_53 rfl (lv_at hl 3 rfl) ?_
      refine k_get (v := .int 0) fl_X12_335 C hP 0 rfl e_h0_1 dX12_pause_54 ?_
      refine lv_icmp_ge (x := 0) (y := 0) (tgt := 182) hx hb dX12_pause_57 (by decide) (fun c_39 => ?_) (fun c_39 => ?_)
      rotate_left
      · exact absurd (by decide) c_39
      refine lv_iload_n hx hb dX12_pause_182 rfl (lv_at hl 2 rfl) ?_
      refine lv_iconst (v := -1) hx hb dX12_pause_183 (by decide) ?_
      refine lv_icmp_eq (x := -1) (y := -1) (tgt := 191) hx hb dX12_pause_184 (by decide) (fun c_40 => ?_) (fun c_40 => ?_)
      rotate_left
      · exact absurd (by decide) c_40
      refine lv_iload_n hx hb dX12_pause_191 rfl (lv_at hl 2 rfl) ?_
      refine lv_goto (tgt := 197) hx hb dX12_pause_192 (by decide) ?_
      exact k_iret C hr hlk hP hD hS 4 (Or.inr (Or.inr (Or.inr (Or.inr (⟨rfl, rfl, c_7, c_8, c_18, c_19⟩))))) [0] rfl rfl (Nat.le_of_ble_eq_true rfl) (Nat.le_of_ble_eq_true rfl) dX12_pause_197
set_option maxHeartbeats 4000000 in
set_option maxRecDepth 100000 in
theorem c_X12_forget (l : Launch) (G : kG) (sz : Nat) (h0 : Nat) (Fh0 : Nat → Value) : kM l yX12_forget cX12_forget 1 none { frames := 6, cells := 0, slots := 0, locals := 110 } G [.ref h0] [(h0, .inr (12, ofL 88 Fh0))] sz (kQv G (S := Unit) (fun (_ : Unit) => True) (fun _ => [(h0, .inr (12, ofL 88 (updV (updV Fh0 0 (.int 0)) 73 (.int 0))))])) := by
  refine kM.of (by decide) (Nat.le_of_ble_eq_true rfl) ?_
  intro p e s m below meth c A ls H C hr hlk hnm hP hD hS hl
  have C : kC G p s m c cX12_forget 1 RX12 A := C
  have hx := C.1
  have hb := C.2.1
  have hl : lv_has ls 1 [(0, .ref h0)] := hl
  refine lv_aload_n hx hb dX12_forget_0 rfl (lv_at hl 0 rfl) ?_
  refine lv_iconst (v := 0) hx hb dX12_forget_1 (by decide) ?_
  refine k_put fl_X12_177 ft_X12_0 C hP hD hS 0 rfl rfl rfl dX12_forget_2 (fun H locs hP hD hS => ?_)
  have hP : va_P G.1 vwCl [(h0, .inr (12, ofL 88 (updV Fh0 0 (.int 0))))] H := hP
  have hD : va_D A [(h0, .inr (12, ofL 88 (updV Fh0 0 (.int 0))))] := hD
  refine lv_aload_n hx hb dX12_forget_5 rfl (lv_at hl 0 rfl) ?_
  refine lv_iconst (v := 0) hx hb dX12_forget_6 (by decide) ?_
  refine k_put fl_X12_348 ft_X12_73 C hP hD hS 0 rfl rfl rfl dX12_forget_7 (fun H locs hP hD hS => ?_)
  have hP : va_P G.1 vwCl [(h0, .inr (12, ofL 88 (updV (updV Fh0 0 (.int 0)) 73 (.int 0))))] H := hP
  have hD : va_D A [(h0, .inr (12, ofL 88 (updV (updV Fh0 0 (.int 0)) 73 (.int 0))))] := hD
  exact k_vret C hr hlk hP hD hS () (trivial) [0] rfl rfl (Nat.le_of_ble_eq_true rfl) (Nat.le_of_ble_eq_true rfl) dX12_forget_10
set_option maxHeartbeats 4000000 in
set_option maxRecDepth 100000 in
theorem c_X12_fits (l : Launch) (G : kG) (sz : Nat) (h0 : Nat) (n0 : Int32) (Fh0 : Nat → Value) (e_h0_1 : Fh0 1 = .int 0) : kM l yX12_fits cX12_fits 9 (some .int) { frames := 8, cells := 0, slots := 0, locals := 154 } G [.ref h0, .int n0] [(h0, .inr (12, ofL 88 Fh0))] sz (kQi G (S := Nat) (fun r u => (u = 0 ∧ r = 0 ∧ n0 < 0) ∨ (u = 1 ∧ r = 0 ∧ ¬ n0 < 0 ∧ 2 < n0) ∨ (u = 2 ∧ r = -1 ∧ ¬ n0 < 0 ∧ ¬ 2 < n0 ∧ ¬ n0 = 0 ∧ ¬ n0 = 1) ∨ (u = 3 ∧ r = -1 ∧ ¬ n0 < 0 ∧ ¬ 2 < n0 ∧ ¬ n0 = 0 ∧ n0 = 1) ∨ (u = 4 ∧ r = 0 ∧ ¬ n0 < 0 ∧ ¬ 2 < n0 ∧ n0 = 0)) (fun u => match u with | 0 => [(h0, .inr (12, ofL 88 (updV (updV Fh0 0 (.int 0)) 0 (.int 1))))] | 1 => [(h0, .inr (12, ofL 88 (updV (updV Fh0 0 (.int 0)) 0 (.int 1))))] | 2 => [(h0, .inr (12, ofL 88 (updV Fh0 0 (.int 0))))] | 3 => [(h0, .inr (12, ofL 88 (updV Fh0 0 (.int 0))))] | _ => [(h0, .inr (12, ofL 88 (updV Fh0 0 (.int 0))))])) := by
  refine kM.of (by decide) (Nat.le_of_ble_eq_true rfl) ?_
  intro p e s m below meth c A ls H C hr hlk hnm hP hD hS hl
  have C : kC G p s m c cX12_fits 9 RX12 A := C
  have hx := C.1
  have hb := C.2.1
  have hl : lv_has ls 9 [(0, .ref h0), (1, .int n0)] := hl
  refine lv_aload_n hx hb dX12_fits_0 rfl (lv_at hl 0 rfl) ?_
  refine lv_iconst (v := 0) hx hb dX12_fits_1 (by decide) ?_
  refine k_put fl_X12_177 ft_X12_0 C hP hD hS 0 rfl rfl rfl dX12_fits_2 (fun H locs hP hD hS => ?_)
  have hP : va_P G.1 vwCl [(h0, .inr (12, ofL 88 (updV Fh0 0 (.int 0))))] H := hP
  have hD : va_D A [(h0, .inr (12, ofL 88 (updV Fh0 0 (.int 0))))] := hD
  refine lv_aload_n hx hb dX12_fits_5 rfl (lv_at hl 0 rfl) ?_
  refine lv_iload_n hx hb dX12_fits_6 rfl (lv_at hl 1 rfl) ?_
  refine lv_iconst (v := 2) hx hb dX12_fits_7 (by decide) ?_
  refine k_callVi (wr := []) (rest := []) li_X12_405 C (c_X12_isWhat l G H.size h0 n0 2 (updV Fh0 0 (.int 0)) rfl) (kR rfl) hP hD hS [0] [] rfl rfl rfl rfl (by decide) 0 12 rfl rfl rfl hl.1 rfl (Nat.le_of_ble_eq_true rfl) dX12_fits_8 (fun rr2 uu3 H locs hw1 hP hD hS => ?_)
  rcases hw1 with ⟨rfl, rfl, c_4⟩ | ⟨rfl, rfl, c_5, c_6⟩ | ⟨rfl, rfl, c_7, c_8⟩
  ·
    have hP : va_P G.1 vwCl [(h0, .inr (12, ofL 88 (updV (updV Fh0 0 (.int 0)) 0 (.int 1))))] H := hP
    have hD : va_D A [(h0, .inr (12, ofL 88 (updV (updV Fh0 0 (.int 0)) 0 (.int 1))))] := hD
    refine lv_if_ne (x := 0) (tgt := 16) hx hb dX12_fits_11 (by decide) (fun c_9 => ?_) (fun c_9 => ?_)
    · exact absurd (by decide) c_9
    refine lv_iconst (v := 0) hx hb dX12_fits_14 (by decide) ?_
    exact k_iret C hr hlk hP hD hS 0 (Or.inl ⟨rfl, rfl, c_4⟩) [0] rfl rfl (Nat.le_of_ble_eq_true rfl) (Nat.le_of_ble_eq_true rfl) dX12_fits_15
  ·
    have hP : va_P G.1 vwCl [(h0, .inr (12, ofL 88 (updV (updV Fh0 0 (.int 0)) 0 (.int 1))))] H := hP
    have hD : va_D A [(h0, .inr (12, ofL 88 (updV (updV Fh0 0 (.int 0)) 0 (.int 1))))] := hD
    refine lv_if_ne (x := 0) (tgt := 16) hx hb dX12_fits_11 (by decide) (fun c_10 => ?_) (fun c_10 => ?_)
    · exact absurd (by decide) c_10
    refine lv_iconst (v := 0) hx hb dX12_fits_14 (by decide) ?_
    exact k_iret C hr hlk hP hD hS 1 (Or.inr (Or.inl ⟨rfl, rfl, c_5, c_6⟩)) [0] rfl rfl (Nat.le_of_ble_eq_true rfl) (Nat.le_of_ble_eq_true rfl) dX12_fits_15
  ·
    have hP : va_P G.1 vwCl [(h0, .inr (12, ofL 88 (updV Fh0 0 (.int 0))))] H := hP
    have hD : va_D A [(h0, .inr (12, ofL 88 (updV Fh0 0 (.int 0))))] := hD
    refine lv_if_ne (x := 1) (tgt := 16) hx hb dX12_fits_11 (by decide) (fun c_11 => ?_) (fun c_11 => ?_)
    rotate_left
    · exact absurd c_11 (by decide)
    refine lv_iconst (v := 0) hx hb dX12_fits_16 (by decide) ?_
    refine lv_istore_n (lv' := [(2, .int 0), (0, .ref h0), (1, .int n0)]) hx hb dX12_fits_17 rfl hl (by decide) rfl (fun ls hl => ?_)
    refine lv_iconst (v := -1) hx hb dX12_fits_18 (by decide) ?_
    refine lv_istore_n (lv' := [(3, .int (-1)), (2, .int 0), (0, .ref h0), (1, .int n0)]) hx hb dX12_fits_19 rfl hl (by decide) rfl (fun ls hl => ?_)
    refine lv_iconst (v := -1) hx hb dX12_fits_20 (by decide) ?_
    refine lv_istore (lv' := [(4, .int (-1)), (3, .int (-1)), (2, .int 0), (0, .ref h0), (1, .int n0)]) hx hb dX12_fits_21 hl (by decide) rfl (fun ls hl => ?_)
    refine lv_iconst (v := 1) hx hb dX12_fits_23 (by decide) ?_
    refine lv_istore (lv' := [(5, .int 1), (4, .int (-1)), (3, .int (-1)), (2, .int 0), (0, .ref h0), (1, .int n0)]) hx hb dX12_fits_24 hl (by decide) rfl (fun ls hl => ?_)
    refine lv_iconst (v := 0) hx hb dX12_fits_26 (by decide) ?_
    refine lv_istore (lv' := [(6, .int 0), (5, .int 1), (4, .int (-1)), (3, .int (-1)), (2, .int 0), (0, .ref h0), (1, .int n0)]) hx hb dX12_fits_27 hl (by decide) rfl (fun ls hl => ?_)
    refine lv_iload hx hb dX12_fits_29 (lv_at hl 0 rfl) ?_
    refine lv_aload_n hx hb dX12_fits_31 rfl (lv_at hl 5 rfl) ?_
    refine k_get (v := .int 0) fl_X12_335 C hP 0 rfl e_h0_1 dX12_fits_32 ?_
    refine lv_icmp_ge (x := 0) (y := 0) (tgt := 149) hx hb dX12_fits_35 (by decide) (fun c_12 => ?_) (fun c_12 => ?_)
    rotate_left
    · exact absurd (by decide) c_12
    refine lv_iload_n hx hb dX12_fits_149 rfl (lv_at hl 6 rfl) ?_
    refine lv_if_ne (x := n0) (tgt := 157) hx hb dX12_fits_150 (by decide) (fun c_13 => ?_) (fun c_13 => ?_)
    ·
      refine lv_iload_n hx hb dX12_fits_157 rfl (lv_at hl 6 rfl) ?_
      refine lv_iconst (v := 1) hx hb dX12_fits_158 (by decide) ?_
      refine lv_icmp_ne (x := n0) (y := 1) (tgt := 166) hx hb dX12_fits_159 (by decide) (fun c_14 => ?_) (fun c_14 => ?_)
      ·
        refine lv_iload hx hb dX12_fits_166 (lv_at hl 1 rfl) ?_
        refine lv_if_eq (x := 1) (tgt := 176) hx hb dX12_fits_168 (by decide) (fun c_15 => ?_) (fun c_15 => ?_)
        · exact absurd c_15 (by decide)
        refine lv_iload hx hb dX12_fits_171 (lv_at hl 2 rfl) ?_
        refine lv_goto (tgt := 177) hx hb dX12_fits_173 (by decide) ?_
        exact k_iret C hr hlk hP hD hS 2 (Or.inr (Or.inr (Or.inl ⟨rfl, rfl, c_7, c_8, c_13, c_14⟩))) [0] rfl rfl (Nat.le_of_ble_eq_true rfl) (Nat.le_of_ble_eq_true rfl) dX12_fits_177
      ·
        refine lv_iload_n hx hb dX12_fits_162 rfl (lv_at hl 3 rfl) ?_
        refine lv_goto (tgt := 177) hx hb dX12_fits_163 (by decide) ?_
        exact k_iret C hr hlk hP hD hS 3 (Or.inr (Or.inr (Or.inr (Or.inl ⟨rfl, rfl, c_7, c_8, c_13, c_14⟩)))) [0] rfl rfl (Nat.le_of_ble_eq_true rfl) (Nat.le_of_ble_eq_true rfl) dX12_fits_177
    ·
      refine lv_iload_n hx hb dX12_fits_153 rfl (lv_at hl 4 rfl) ?_
      refine lv_goto (tgt := 177) hx hb dX12_fits_154 (by decide) ?_
      exact k_iret C hr hlk hP hD hS 4 (Or.inr (Or.inr (Or.inr (Or.inr (⟨rfl, rfl, c_7, c_8, c_13⟩))))) [0] rfl rfl (Nat.le_of_ble_eq_true rfl) (Nat.le_of_ble_eq_true rfl) dX12_fits_177
set_option maxHeartbeats 4000000 in
set_option maxRecDepth 100000 in
theorem c_X12_streams (l : Launch) (G : kG) (sz : Nat) (h0 : Nat) (Fh0 : Nat → Value) (e_h0_1 : Fh0 1 = .int 0) : kM l yX12_streams cX12_streams 4 (some .int) { frames := 8, cells := 0, slots := 0, locals := 158 } G [.ref h0] [(h0, .inr (12, ofL 88 Fh0))] sz (kQi G (S := Unit) (fun r (_ : Unit) => r = 0) (fun _ => [(h0, .inr (12, ofL 88 (updV (updV Fh0 0 (.int 0)) 79 (.int 0))))])) := by
  refine kM.of (by decide) (Nat.le_of_ble_eq_true rfl) ?_
  intro p e s m below meth c A ls H C hr hlk hnm hP hD hS hl
  have C : kC G p s m c cX12_streams 4 RX12 A := C
  have hx := C.1
  have hb := C.2.1
  have hl : lv_has ls 4 [(0, .ref h0)] := hl
  refine lv_aload_n hx hb dX12_streams_0 rfl (lv_at hl 0 rfl) ?_
  refine lv_iconst (v := 0) hx hb dX12_streams_1 (by decide) ?_
  refine k_put fl_X12_177 ft_X12_0 C hP hD hS 0 rfl rfl rfl dX12_streams_2 (fun H locs hP hD hS => ?_)
  have hP : va_P G.1 vwCl [(h0, .inr (12, ofL 88 (updV Fh0 0 (.int 0))))] H := hP
  have hD : va_D A [(h0, .inr (12, ofL 88 (updV Fh0 0 (.int 0))))] := hD
  refine lv_aload_n hx hb dX12_streams_5 rfl (lv_at hl 0 rfl) ?_
  refine k_callVv (wr := []) (rest := []) li_X12_468 C (c_X12_ways l G H.size h0 (updV Fh0 0 (.int 0)) e_h0_1) (kR rfl) hP hD hS [0] [] rfl rfl rfl rfl (by decide) 0 12 rfl rfl rfl hl.1 rfl (Nat.le_of_ble_eq_true rfl) dX12_streams_6 (fun uu3 H locs hw1 hP hD hS => ?_)
  have hP : va_P G.1 vwCl [(h0, .inr (12, ofL 88 (updV (updV Fh0 0 (.int 0)) 79 (.int 0))))] H := hP
  have hD : va_D A [(h0, .inr (12, ofL 88 (updV (updV Fh0 0 (.int 0)) 79 (.int 0))))] := hD
  refine lv_iconst (v := 0) hx hb dX12_streams_9 (by decide) ?_
  refine lv_istore_n (lv' := [(1, .int 0), (0, .ref h0)]) hx hb dX12_streams_10 rfl hl (by decide) rfl (fun ls hl => ?_)
  refine lv_iconst (v := 0) hx hb dX12_streams_11 (by decide) ?_
  refine lv_istore_n (lv' := [(2, .int 0), (1, .int 0), (0, .ref h0)]) hx hb dX12_streams_12 rfl hl (by decide) rfl (fun ls hl => ?_)
  refine lv_iload_n hx hb dX12_streams_13 rfl (lv_at hl 0 rfl) ?_
  refine lv_aload_n hx hb dX12_streams_14 rfl (lv_at hl 2 rfl) ?_
  refine k_get (v := .int 0) fl_X12_465 C hP 0 rfl rfl dX12_streams_15 ?_
  refine lv_icmp_ge (x := 0) (y := 0) (tgt := 115) hx hb dX12_streams_18 (by decide) (fun c_4 => ?_) (fun c_4 => ?_)
  rotate_left
  · exact absurd (by decide) c_4
  refine lv_iload_n hx hb dX12_streams_115 rfl (lv_at hl 1 rfl) ?_
  exact k_iret C hr hlk hP hD hS () (rfl) [0] rfl rfl (Nat.le_of_ble_eq_true rfl) (Nat.le_of_ble_eq_true rfl) dX12_streams_116
set_option maxHeartbeats 4000000 in
set_option maxRecDepth 100000 in
theorem c_X12_on (l : Launch) (G : kG) (sz : Nat) (h0 : Nat) (n0 : Int32) (n1 : Int32) (Fh0 : Nat → Value) (e_h0_1 : Fh0 1 = .int 0) : kM l yX12_on cX12_on 5 (some .int) { frames := 8, cells := 0, slots := 0, locals := 158 } G [.ref h0, .int n0, .int n1] [(h0, .inr (12, ofL 88 Fh0))] sz (kQi G (S := Nat) (fun r u => (u = 0 ∧ r = 0 ∧ n1 < 0) ∨ (u = 1 ∧ r = 0 ∧ ¬ n1 < 0 ∧ 1 < n1) ∨ (u = 2 ∧ r = 0 ∧ ¬ n1 < 0 ∧ ¬ 1 < n1 ∧ n0 < 0) ∨ (u = 3 ∧ r = 0 ∧ ¬ n1 < 0 ∧ ¬ 1 < n1 ∧ ¬ n0 < 0 ∧ 4000 < n0) ∨ (u = 4 ∧ r = 0 ∧ ¬ n1 < 0 ∧ ¬ 1 < n1 ∧ ¬ n0 < 0 ∧ ¬ 4000 < n0 ∧ ¬ n1 = 1) ∨ (u = 5 ∧ r = 0 ∧ ¬ n1 < 0 ∧ ¬ 1 < n1 ∧ ¬ n0 < 0 ∧ ¬ 4000 < n0 ∧ n1 = 1)) (fun u => match u with | 0 => [(h0, .inr (12, ofL 88 (updV (updV Fh0 0 (.int 0)) 0 (.int 1))))] | 1 => [(h0, .inr (12, ofL 88 (updV (updV Fh0 0 (.int 0)) 0 (.int 1))))] | 2 => [(h0, .inr (12, ofL 88 (updV (updV Fh0 0 (.int 0)) 0 (.int 2))))] | 3 => [(h0, .inr (12, ofL 88 (updV (updV Fh0 0 (.int 0)) 0 (.int 2))))] | 4 => [(h0, .inr (12, ofL 88 (updV (updV Fh0 0 (.int 0)) 79 (.int 0))))] | _ => [(h0, .inr (12, ofL 88 (updV (updV Fh0 0 (.int 0)) 79 (.int 0))))])) := by
  refine kM.of (by decide) (Nat.le_of_ble_eq_true rfl) ?_
  intro p e s m below meth c A ls H C hr hlk hnm hP hD hS hl
  have C : kC G p s m c cX12_on 5 RX12 A := C
  have hx := C.1
  have hb := C.2.1
  have hl : lv_has ls 5 [(0, .ref h0), (1, .int n0), (2, .int n1)] := hl
  refine lv_aload_n hx hb dX12_on_0 rfl (lv_at hl 0 rfl) ?_
  refine lv_iconst (v := 0) hx hb dX12_on_1 (by decide) ?_
  refine k_put fl_X12_177 ft_X12_0 C hP hD hS 0 rfl rfl rfl dX12_on_2 (fun H locs hP hD hS => ?_)
  have hP : va_P G.1 vwCl [(h0, .inr (12, ofL 88 (updV Fh0 0 (.int 0))))] H := hP
  have hD : va_D A [(h0, .inr (12, ofL 88 (updV Fh0 0 (.int 0))))] := hD
  refine lv_aload_n hx hb dX12_on_5 rfl (lv_at hl 0 rfl) ?_
  refine lv_iload_n hx hb dX12_on_6 rfl (lv_at hl 2 rfl) ?_
  refine lv_iconst (v := 1) hx hb dX12_on_7 (by decide) ?_
  refine k_callVi (wr := []) (rest := []) li_X12_405 C (c_X12_isWhat l G H.size h0 n1 1 (updV Fh0 0 (.int 0)) rfl) (kR rfl) hP hD hS [0] [] rfl rfl rfl rfl (by decide) 0 12 rfl rfl rfl hl.1 rfl (Nat.le_of_ble_eq_true rfl) dX12_on_8 (fun rr2 uu3 H locs hw1 hP hD hS => ?_)
  rcases hw1 with ⟨rfl, rfl, c_4⟩ | ⟨rfl, rfl, c_5, c_6⟩ | ⟨rfl, rfl, c_7, c_8⟩
  ·
    have hP : va_P G.1 vwCl [(h0, .inr (12, ofL 88 (updV (updV Fh0 0 (.int 0)) 0 (.int 1))))] H := hP
    have hD : va_D A [(h0, .inr (12, ofL 88 (updV (updV Fh0 0 (.int 0)) 0 (.int 1))))] := hD
    refine lv_if_eq (x := 0) (tgt := 30) hx hb dX12_on_11 (by decide) (fun c_9 => ?_) (fun c_9 => ?_)
    rotate_left
    · exact absurd (by decide) c_9
    refine lv_iconst (v := 0) hx hb dX12_on_30 (by decide) ?_
    exact k_iret C hr hlk hP hD hS 0 (Or.inl ⟨rfl, rfl, c_4⟩) [0] rfl rfl (Nat.le_of_ble_eq_true rfl) (Nat.le_of_ble_eq_true rfl) dX12_on_31
  ·
    have hP : va_P G.1 vwCl [(h0, .inr (12, ofL 88 (updV (updV Fh0 0 (.int 0)) 0 (.int 1))))] H := hP
    have hD : va_D A [(h0, .inr (12, ofL 88 (updV (updV Fh0 0 (.int 0)) 0 (.int 1))))] := hD
    refine lv_if_eq (x := 0) (tgt := 30) hx hb dX12_on_11 (by decide) (fun c_10 => ?_) (fun c_10 => ?_)
    rotate_left
    · exact absurd (by decide) c_10
    refine lv_iconst (v := 0) hx hb dX12_on_30 (by decide) ?_
    exact k_iret C hr hlk hP hD hS 1 (Or.inr (Or.inl ⟨rfl, rfl, c_5, c_6⟩)) [0] rfl rfl (Nat.le_of_ble_eq_true rfl) (Nat.le_of_ble_eq_true rfl) dX12_on_31
  ·
    have hP : va_P G.1 vwCl [(h0, .inr (12, ofL 88 (updV Fh0 0 (.int 0))))] H := hP
    have hD : va_D A [(h0, .inr (12, ofL 88 (updV Fh0 0 (.int 0))))] := hD
    refine lv_if_eq (x := 1) (tgt := 30) hx hb dX12_on_11 (by decide) (fun c_11 => ?_) (fun c_11 => ?_)
    · exact absurd c_11 (by decide)
    refine lv_aload_n hx hb dX12_on_14 rfl (lv_at hl 0 rfl) ?_
    refine lv_iload_n hx hb dX12_on_15 rfl (lv_at hl 1 rfl) ?_
    refine lv_iconst (v := 0) hx hb dX12_on_16 (by decide) ?_
    refine lv_sipush (v := 4000) hx hb dX12_on_17 (by decide) ?_
    refine k_callSi (wr := [(h0, .inr (12, ofL 88 (updV Fh0 0 (.int 0))))]) (rest := [.ref h0]) li_X12_392 C (c_X12_within l G H.size n0 0 4000) (kR rfl) hP hD hS [] [0] rfl rfl rfl rfl (by decide) rfl hl.1 rfl (Nat.le_of_ble_eq_true rfl) dX12_on_20 (fun rr13 uu14 H locs hw12 hP hD hS => ?_)
    rcases hw12 with ⟨rfl, rfl, c_15⟩ | ⟨rfl, rfl, c_16, c_17⟩ | ⟨rfl, rfl, c_18, c_19⟩
    ·
      have hP : va_P G.1 vwCl [(h0, .inr (12, ofL 88 (updV Fh0 0 (.int 0))))] H := hP
      have hD : va_D A [(h0, .inr (12, ofL 88 (updV Fh0 0 (.int 0))))] := hD
      refine lv_iconst (v := 2) hx hb dX12_on_23 (by decide) ?_
      refine k_callVi (wr := []) (rest := []) li_X12_328 C (c_X12_right0 l G H.size h0 2 (updV Fh0 0 (.int 0)) rfl) (kR rfl) hP hD hS [0] [] rfl rfl rfl rfl (by decide) 0 12 rfl rfl rfl hl.1 rfl (Nat.le_of_ble_eq_true rfl) dX12_on_24 (fun rr21 uu22 H locs hw20 hP hD hS => ?_)
      rcases hw20 with ⟨rfl, rfl, c_23⟩ | ⟨rfl, rfl, c_24⟩
      ·
        have hP : va_P G.1 vwCl [(h0, .inr (12, ofL 88 (updV (updV Fh0 0 (.int 0)) 0 (.int 2))))] H := hP
        have hD : va_D A [(h0, .inr (12, ofL 88 (updV (updV Fh0 0 (.int 0)) 0 (.int 2))))] := hD
        refine lv_if_ne (x := 0) (tgt := 32) hx hb dX12_on_27 (by decide) (fun c_25 => ?_) (fun c_25 => ?_)
        · exact absurd (by decide) c_25
        refine lv_iconst (v := 0) hx hb dX12_on_30 (by decide) ?_
        exact k_iret C hr hlk hP hD hS 2 (Or.inr (Or.inr (Or.inl ⟨rfl, rfl, c_7, c_8, c_15⟩))) [0] rfl rfl (Nat.le_of_ble_eq_true rfl) (Nat.le_of_ble_eq_true rfl) dX12_on_31
      ·
        exact absurd c_24 (by decide)
    ·
      have hP : va_P G.1 vwCl [(h0, .inr (12, ofL 88 (updV Fh0 0 (.int 0))))] H := hP
      have hD : va_D A [(h0, .inr (12, ofL 88 (updV Fh0 0 (.int 0))))] := hD
      refine lv_iconst (v := 2) hx hb dX12_on_23 (by decide) ?_
      refine k_callVi (wr := []) (rest := []) li_X12_328 C (c_X12_right0 l G H.size h0 2 (updV Fh0 0 (.int 0)) rfl) (kR rfl) hP hD hS [0] [] rfl rfl rfl rfl (by decide) 0 12 rfl rfl rfl hl.1 rfl (Nat.le_of_ble_eq_true rfl) dX12_on_24 (fun rr27 uu28 H locs hw26 hP hD hS => ?_)
      rcases hw26 with ⟨rfl, rfl, c_29⟩ | ⟨rfl, rfl, c_30⟩
      ·
        have hP : va_P G.1 vwCl [(h0, .inr (12, ofL 88 (updV (updV Fh0 0 (.int 0)) 0 (.int 2))))] H := hP
        have hD : va_D A [(h0, .inr (12, ofL 88 (updV (updV Fh0 0 (.int 0)) 0 (.int 2))))] := hD
        refine lv_if_ne (x := 0) (tgt := 32) hx hb dX12_on_27 (by decide) (fun c_31 => ?_) (fun c_31 => ?_)
        · exact absurd (by decide) c_31
        refine lv_iconst (v := 0) hx hb dX12_on_30 (by decide) ?_
        exact k_iret C hr hlk hP hD hS 3 (Or.inr (Or.inr (Or.inr (Or.inl ⟨rfl, rfl, c_7, c_8, c_16, c_17⟩)))) [0] rfl rfl (Nat.le_of_ble_eq_true rfl) (Nat.le_of_ble_eq_true rfl) dX12_on_31
      ·
        exact absurd c_30 (by decide)
    ·
      have hP : va_P G.1 vwCl [(h0, .inr (12, ofL 88 (updV Fh0 0 (.int 0))))] H := hP
      have hD : va_D A [(h0, .inr (12, ofL 88 (updV Fh0 0 (.int 0))))] := hD
      refine lv_iconst (v := 2) hx hb dX12_on_23 (by decide) ?_
      refine k_callVi (wr := []) (rest := []) li_X12_328 C (c_X12_right1 l G H.size h0 2 (updV Fh0 0 (.int 0)) rfl) (kR rfl) hP hD hS [0] [] rfl rfl rfl rfl (by decide) 0 12 rfl rfl rfl hl.1 rfl (Nat.le_of_ble_eq_true rfl) dX12_on_24 (fun rr33 uu34 H locs hw32 hP hD hS => ?_)
      obtain rfl : rr33 = 1 := hw32
      have hP : va_P G.1 vwCl [(h0, .inr (12, ofL 88 (updV Fh0 0 (.int 0))))] H := hP
      have hD : va_D A [(h0, .inr (12, ofL 88 (updV Fh0 0 (.int 0))))] := hD
      refine lv_if_ne (x := 1) (tgt := 32) hx hb dX12_on_27 (by decide) (fun c_35 => ?_) (fun c_35 => ?_)
      rotate_left
      · exact absurd c_35 (by decide)
      refine lv_aload_n hx hb dX12_on_32 rfl (lv_at hl 0 rfl) ?_
      refine k_callVv (wr := []) (rest := []) li_X12_468 C (c_X12_ways l G H.size h0 (updV Fh0 0 (.int 0)) e_h0_1) (kR rfl) hP hD hS [0] [] rfl rfl rfl rfl (by decide) 0 12 rfl rfl rfl hl.1 rfl (Nat.le_of_ble_eq_true rfl) dX12_on_33 (fun uu38 H locs hw36 hP hD hS => ?_)
      have hP : va_P G.1 vwCl [(h0, .inr (12, ofL 88 (updV (updV Fh0 0 (.int 0)) 79 (.int 0))))] H := hP
      have hD : va_D A [(h0, .inr (12, ofL 88 (updV (updV Fh0 0 (.int 0)) 79 (.int 0))))] := hD
      refine lv_iload_n hx hb dX12_on_36 rfl (lv_at hl 2 rfl) ?_
      refine lv_iconst (v := 1) hx hb dX12_on_37 (by decide) ?_
      refine lv_icmp_ne (x := n1) (y := 1) (tgt := 47) hx hb dX12_on_38 (by decide) (fun c_39 => ?_) (fun c_39 => ?_)
      ·
        refine lv_iconst (v := 0) hx hb dX12_on_47 (by decide) ?_
        refine lv_istore_n (lv' := [(3, .int 0), (0, .ref h0), (1, .int n0), (2, .int n1)]) hx hb dX12_on_48 rfl hl (by decide) rfl (fun ls hl => ?_)
        refine lv_iconst (v := 0) hx hb dX12_on_49 (by decide) ?_
        refine lv_istore (lv' := [(4, .int 0), (3, .int 0), (0, .ref h0), (1, .int n0), (2, .int n1)]) hx hb dX12_on_50 hl (by decide) rfl (fun ls hl => ?_)
        refine lv_iload hx hb dX12_on_52 (lv_at hl 0 rfl) ?_
        refine lv_aload_n hx hb dX12_on_54 rfl (lv_at hl 2 rfl) ?_
        refine k_get (v := .int 0) fl_X12_335 C hP 0 rfl e_h0_1 dX12_on_55 ?_
        refine lv_icmp_ge (x := 0) (y := 0) (tgt := 100) hx hb dX12_on_58 (by decide) (fun c_40 => ?_) (fun c_40 => ?_)
        rotate_left
        · exact absurd (by decide) c_40
        refine lv_iload_n hx hb dX12_on_100 rfl (lv_at hl 1 rfl) ?_
        exact k_iret C hr hlk hP hD hS 4 (Or.inr (Or.inr (Or.inr (Or.inr (Or.inl ⟨rfl, rfl, c_7, c_8, c_18, c_19, c_39⟩))))) [0] rfl rfl (Nat.le_of_ble_eq_true rfl) (Nat.le_of_ble_eq_true rfl) dX12_on_101
      ·
        refine lv_aload_n hx hb dX12_on_41 rfl (lv_at hl 0 rfl) ?_
        refine lv_iload_n hx hb dX12_on_42 rfl (lv_at hl 1 rfl) ?_
        refine k_callVi (wr := []) (rest := []) li_X12_471 C (c_X12_onStair l G H.size h0 n0 (updV (updV Fh0 0 (.int 0)) 79 (.int 0)) rfl) (kR rfl) hP hD hS [0] [] rfl rfl rfl rfl (by decide) 0 12 rfl rfl rfl hl.1 rfl (Nat.le_of_ble_eq_true rfl) dX12_on_43 (fun rr42 uu43 H locs hw41 hP hD hS => ?_)
        obtain rfl : rr42 = 0 := hw41
        have hP : va_P G.1 vwCl [(h0, .inr (12, ofL 88 (updV (updV Fh0 0 (.int 0)) 79 (.int 0))))] H := hP
        have hD : va_D A [(h0, .inr (12, ofL 88 (updV (updV Fh0 0 (.int 0)) 79 (.int 0))))] := hD
        exact k_iret C hr hlk hP hD hS 5 (Or.inr (Or.inr (Or.inr (Or.inr (Or.inr (⟨rfl, rfl, c_7, c_8, c_18, c_19, c_39⟩)))))) [0] rfl rfl (Nat.le_of_ble_eq_true rfl) (Nat.le_of_ble_eq_true rfl) dX12_on_46
set_option maxHeartbeats 4000000 in
set_option maxRecDepth 100000 in
theorem c_X12_busiest (l : Launch) (G : kG) (sz : Nat) (h0 : Nat) (n0 : Int32) (Fh0 : Nat → Value) (e_h0_1 : Fh0 1 = .int 0) : kM l yX12_busiest cX12_busiest 6 (some .int) { frames := 8, cells := 0, slots := 0, locals := 158 } G [.ref h0, .int n0] [(h0, .inr (12, ofL 88 Fh0))] sz (kQi G (S := Nat) (fun r u => (u = 0 ∧ r = 0 ∧ n0 < 0) ∨ (u = 1 ∧ r = 0 ∧ ¬ n0 < 0 ∧ 1 < n0) ∨ (u = 2 ∧ r = -1 ∧ ¬ n0 < 0 ∧ ¬ 1 < n0 ∧ ¬ n0 = 0) ∨ (u = 3 ∧ r = 0 ∧ ¬ n0 < 0 ∧ ¬ 1 < n0 ∧ n0 = 0)) (fun u => match u with | 0 => [(h0, .inr (12, ofL 88 (updV (updV Fh0 0 (.int 0)) 0 (.int 1))))] | 1 => [(h0, .inr (12, ofL 88 (updV (updV Fh0 0 (.int 0)) 0 (.int 1))))] | 2 => [(h0, .inr (12, ofL 88 (updV (updV Fh0 0 (.int 0)) 79 (.int 0))))] | _ => [(h0, .inr (12, ofL 88 (updV (updV Fh0 0 (.int 0)) 79 (.int 0))))])) := by
  refine kM.of (by decide) (Nat.le_of_ble_eq_true rfl) ?_
  intro p e s m below meth c A ls H C hr hlk hnm hP hD hS hl
  have C : kC G p s m c cX12_busiest 6 RX12 A := C
  have hx := C.1
  have hb := C.2.1
  have hl : lv_has ls 6 [(0, .ref h0), (1, .int n0)] := hl
  refine lv_aload_n hx hb dX12_busiest_0 rfl (lv_at hl 0 rfl) ?_
  refine lv_iconst (v := 0) hx hb dX12_busiest_1 (by decide) ?_
  refine k_put fl_X12_177 ft_X12_0 C hP hD hS 0 rfl rfl rfl dX12_busiest_2 (fun H locs hP hD hS => ?_)
  have hP : va_P G.1 vwCl [(h0, .inr (12, ofL 88 (updV Fh0 0 (.int 0))))] H := hP
  have hD : va_D A [(h0, .inr (12, ofL 88 (updV Fh0 0 (.int 0))))] := hD
  refine lv_aload_n hx hb dX12_busiest_5 rfl (lv_at hl 0 rfl) ?_
  refine lv_iload_n hx hb dX12_busiest_6 rfl (lv_at hl 1 rfl) ?_
  refine lv_iconst (v := 1) hx hb dX12_busiest_7 (by decide) ?_
  refine k_callVi (wr := []) (rest := []) li_X12_405 C (c_X12_isWhat l G H.size h0 n0 1 (updV Fh0 0 (.int 0)) rfl) (kR rfl) hP hD hS [0] [] rfl rfl rfl rfl (by decide) 0 12 rfl rfl rfl hl.1 rfl (Nat.le_of_ble_eq_true rfl) dX12_busiest_8 (fun rr2 uu3 H locs hw1 hP hD hS => ?_)
  rcases hw1 with ⟨rfl, rfl, c_4⟩ | ⟨rfl, rfl, c_5, c_6⟩ | ⟨rfl, rfl, c_7, c_8⟩
  ·
    have hP : va_P G.1 vwCl [(h0, .inr (12, ofL 88 (updV (updV Fh0 0 (.int 0)) 0 (.int 1))))] H := hP
    have hD : va_D A [(h0, .inr (12, ofL 88 (updV (updV Fh0 0 (.int 0)) 0 (.int 1))))] := hD
    refine lv_if_ne (x := 0) (tgt := 16) hx hb dX12_busiest_11 (by decide) (fun c_9 => ?_) (fun c_9 => ?_)
    · exact absurd (by decide) c_9
    refine lv_iconst (v := 0) hx hb dX12_busiest_14 (by decide) ?_
    exact k_iret C hr hlk hP hD hS 0 (Or.inl ⟨rfl, rfl, c_4⟩) [0] rfl rfl (Nat.le_of_ble_eq_true rfl) (Nat.le_of_ble_eq_true rfl) dX12_busiest_15
  ·
    have hP : va_P G.1 vwCl [(h0, .inr (12, ofL 88 (updV (updV Fh0 0 (.int 0)) 0 (.int 1))))] H := hP
    have hD : va_D A [(h0, .inr (12, ofL 88 (updV (updV Fh0 0 (.int 0)) 0 (.int 1))))] := hD
    refine lv_if_ne (x := 0) (tgt := 16) hx hb dX12_busiest_11 (by decide) (fun c_10 => ?_) (fun c_10 => ?_)
    · exact absurd (by decide) c_10
    refine lv_iconst (v := 0) hx hb dX12_busiest_14 (by decide) ?_
    exact k_iret C hr hlk hP hD hS 1 (Or.inr (Or.inl ⟨rfl, rfl, c_5, c_6⟩)) [0] rfl rfl (Nat.le_of_ble_eq_true rfl) (Nat.le_of_ble_eq_true rfl) dX12_busiest_15
  ·
    have hP : va_P G.1 vwCl [(h0, .inr (12, ofL 88 (updV Fh0 0 (.int 0))))] H := hP
    have hD : va_D A [(h0, .inr (12, ofL 88 (updV Fh0 0 (.int 0))))] := hD
    refine lv_if_ne (x := 1) (tgt := 16) hx hb dX12_busiest_11 (by decide) (fun c_11 => ?_) (fun c_11 => ?_)
    rotate_left
    · exact absurd c_11 (by decide)
    refine lv_aload_n hx hb dX12_busiest_16 rfl (lv_at hl 0 rfl) ?_
    refine k_callVv (wr := []) (rest := []) li_X12_468 C (c_X12_ways l G H.size h0 (updV Fh0 0 (.int 0)) e_h0_1) (kR rfl) hP hD hS [0] [] rfl rfl rfl rfl (by decide) 0 12 rfl rfl rfl hl.1 rfl (Nat.le_of_ble_eq_true rfl) dX12_busiest_17 (fun uu14 H locs hw12 hP hD hS => ?_)
    have hP : va_P G.1 vwCl [(h0, .inr (12, ofL 88 (updV (updV Fh0 0 (.int 0)) 79 (.int 0))))] H := hP
    have hD : va_D A [(h0, .inr (12, ofL 88 (updV (updV Fh0 0 (.int 0)) 79 (.int 0))))] := hD
    refine lv_iconst (v := -1) hx hb dX12_busiest_20 (by decide) ?_
    refine lv_istore_n (lv' := [(2, .int (-1)), (0, .ref h0), (1, .int n0)]) hx hb dX12_busiest_21 rfl hl (by decide) rfl (fun ls hl => ?_)
    refine lv_iconst (v := 0) hx hb dX12_busiest_22 (by decide) ?_
    refine lv_istore_n (lv' := [(3, .int 0), (2, .int (-1)), (0, .ref h0), (1, .int n0)]) hx hb dX12_busiest_23 rfl hl (by decide) rfl (fun ls hl => ?_)
    refine lv_iconst (v := 0) hx hb dX12_busiest_24 (by decide) ?_
    refine lv_istore (lv' := [(4, .int 0), (3, .int 0), (2, .int (-1)), (0, .ref h0), (1, .int n0)]) hx hb dX12_busiest_25 hl (by decide) rfl (fun ls hl => ?_)
    refine lv_iload hx hb dX12_busiest_27 (lv_at hl 0 rfl) ?_
    refine lv_aload_n hx hb dX12_busiest_29 rfl (lv_at hl 3 rfl) ?_
    refine k_get (v := .int 0) fl_X12_465 C hP 0 rfl rfl dX12_busiest_30 ?_
    refine lv_icmp_ge (x := 0) (y := 0) (tgt := 97) hx hb dX12_busiest_33 (by decide) (fun c_15 => ?_) (fun c_15 => ?_)
    rotate_left
    · exact absurd (by decide) c_15
    refine lv_iload_n hx hb dX12_busiest_97 rfl (lv_at hl 4 rfl) ?_
    refine lv_if_ne (x := n0) (tgt := 105) hx hb dX12_busiest_98 (by decide) (fun c_16 => ?_) (fun c_16 => ?_)
    ·
      refine lv_iload_n hx hb dX12_busiest_105 rfl (lv_at hl 2 rfl) ?_
      exact k_iret C hr hlk hP hD hS 2 (Or.inr (Or.inr (Or.inl ⟨rfl, rfl, c_7, c_8, c_16⟩))) [0] rfl rfl (Nat.le_of_ble_eq_true rfl) (Nat.le_of_ble_eq_true rfl) dX12_busiest_106
    ·
      refine lv_iload_n hx hb dX12_busiest_101 rfl (lv_at hl 1 rfl) ?_
      refine lv_goto (tgt := 106) hx hb dX12_busiest_102 (by decide) ?_
      exact k_iret C hr hlk hP hD hS 3 (Or.inr (Or.inr (Or.inr (⟨rfl, rfl, c_7, c_8, c_16⟩)))) [0] rfl rfl (Nat.le_of_ble_eq_true rfl) (Nat.le_of_ble_eq_true rfl) dX12_busiest_106
set_option maxHeartbeats 4000000 in
set_option maxRecDepth 100000 in
theorem c_X12_clash (l : Launch) (G : kG) (sz : Nat) (h0 : Nat) (n0 : Int32) (Fh0 : Nat → Value) (e_h0_1 : Fh0 1 = .int 0) : kM l yX12_clash cX12_clash 7 (some .int) { frames := 8, cells := 0, slots := 0, locals := 154 } G [.ref h0, .int n0] [(h0, .inr (12, ofL 88 Fh0))] sz (kQi G (S := Nat) (fun r u => (u = 0 ∧ r = 0 ∧ n0 < 0) ∨ (u = 1 ∧ r = 0 ∧ ¬ n0 < 0 ∧ 1 < n0) ∨ (u = 2 ∧ r = -1 ∧ ¬ n0 < 0 ∧ ¬ 1 < n0 ∧ ¬ n0 = 0) ∨ (u = 3 ∧ r = 0 ∧ ¬ n0 < 0 ∧ ¬ 1 < n0 ∧ n0 = 0)) (fun u => match u with | 0 => [(h0, .inr (12, ofL 88 (updV (updV Fh0 0 (.int 0)) 0 (.int 1))))] | 1 => [(h0, .inr (12, ofL 88 (updV (updV Fh0 0 (.int 0)) 0 (.int 1))))] | 2 => [(h0, .inr (12, ofL 88 (updV Fh0 0 (.int 0))))] | _ => [(h0, .inr (12, ofL 88 (updV Fh0 0 (.int 0))))])) := by
  refine kM.of (by decide) (Nat.le_of_ble_eq_true rfl) ?_
  intro p e s m below meth c A ls H C hr hlk hnm hP hD hS hl
  have C : kC G p s m c cX12_clash 7 RX12 A := C
  have hx := C.1
  have hb := C.2.1
  have hl : lv_has ls 7 [(0, .ref h0), (1, .int n0)] := hl
  refine lv_aload_n hx hb dX12_clash_0 rfl (lv_at hl 0 rfl) ?_
  refine lv_iconst (v := 0) hx hb dX12_clash_1 (by decide) ?_
  refine k_put fl_X12_177 ft_X12_0 C hP hD hS 0 rfl rfl rfl dX12_clash_2 (fun H locs hP hD hS => ?_)
  have hP : va_P G.1 vwCl [(h0, .inr (12, ofL 88 (updV Fh0 0 (.int 0))))] H := hP
  have hD : va_D A [(h0, .inr (12, ofL 88 (updV Fh0 0 (.int 0))))] := hD
  refine lv_aload_n hx hb dX12_clash_5 rfl (lv_at hl 0 rfl) ?_
  refine lv_iload_n hx hb dX12_clash_6 rfl (lv_at hl 1 rfl) ?_
  refine lv_iconst (v := 1) hx hb dX12_clash_7 (by decide) ?_
  refine k_callVi (wr := []) (rest := []) li_X12_405 C (c_X12_isWhat l G H.size h0 n0 1 (updV Fh0 0 (.int 0)) rfl) (kR rfl) hP hD hS [0] [] rfl rfl rfl rfl (by decide) 0 12 rfl rfl rfl hl.1 rfl (Nat.le_of_ble_eq_true rfl) dX12_clash_8 (fun rr2 uu3 H locs hw1 hP hD hS => ?_)
  rcases hw1 with ⟨rfl, rfl, c_4⟩ | ⟨rfl, rfl, c_5, c_6⟩ | ⟨rfl, rfl, c_7, c_8⟩
  ·
    have hP : va_P G.1 vwCl [(h0, .inr (12, ofL 88 (updV (updV Fh0 0 (.int 0)) 0 (.int 1))))] H := hP
    have hD : va_D A [(h0, .inr (12, ofL 88 (updV (updV Fh0 0 (.int 0)) 0 (.int 1))))] := hD
    refine lv_if_ne (x := 0) (tgt := 16) hx hb dX12_clash_11 (by decide) (fun c_9 => ?_) (fun c_9 => ?_)
    · exact absurd (by decide) c_9
    refine lv_iconst (v := 0) hx hb dX12_clash_14 (by decide) ?_
    exact k_iret C hr hlk hP hD hS 0 (Or.inl ⟨rfl, rfl, c_4⟩) [0] rfl rfl (Nat.le_of_ble_eq_true rfl) (Nat.le_of_ble_eq_true rfl) dX12_clash_15
  ·
    have hP : va_P G.1 vwCl [(h0, .inr (12, ofL 88 (updV (updV Fh0 0 (.int 0)) 0 (.int 1))))] H := hP
    have hD : va_D A [(h0, .inr (12, ofL 88 (updV (updV Fh0 0 (.int 0)) 0 (.int 1))))] := hD
    refine lv_if_ne (x := 0) (tgt := 16) hx hb dX12_clash_11 (by decide) (fun c_10 => ?_) (fun c_10 => ?_)
    · exact absurd (by decide) c_10
    refine lv_iconst (v := 0) hx hb dX12_clash_14 (by decide) ?_
    exact k_iret C hr hlk hP hD hS 1 (Or.inr (Or.inl ⟨rfl, rfl, c_5, c_6⟩)) [0] rfl rfl (Nat.le_of_ble_eq_true rfl) (Nat.le_of_ble_eq_true rfl) dX12_clash_15
  ·
    have hP : va_P G.1 vwCl [(h0, .inr (12, ofL 88 (updV Fh0 0 (.int 0))))] H := hP
    have hD : va_D A [(h0, .inr (12, ofL 88 (updV Fh0 0 (.int 0))))] := hD
    refine lv_if_ne (x := 1) (tgt := 16) hx hb dX12_clash_11 (by decide) (fun c_11 => ?_) (fun c_11 => ?_)
    rotate_left
    · exact absurd c_11 (by decide)
    refine lv_aload_n hx hb dX12_clash_16 rfl (lv_at hl 0 rfl) ?_
    refine k_callVv (wr := []) (rest := []) li_X12_386 C (c_X12_works0 l G H.size h0 (updV Fh0 0 (.int 0)) e_h0_1) (kR rfl) hP hD hS [0] [] rfl rfl rfl rfl (by decide) 0 12 rfl rfl rfl hl.1 rfl (Nat.le_of_ble_eq_true rfl) dX12_clash_17 (fun uu14 H locs hw12 hP hD hS => ?_)
    have hP : va_P G.1 vwCl [(h0, .inr (12, ofL 88 (updV Fh0 0 (.int 0))))] H := hP
    have hD : va_D A [(h0, .inr (12, ofL 88 (updV Fh0 0 (.int 0))))] := hD
    refine lv_iconst (v := 0) hx hb dX12_clash_20 (by decide) ?_
    refine lv_istore_n (lv' := [(2, .int 0), (0, .ref h0), (1, .int n0)]) hx hb dX12_clash_21 rfl hl (by decide) rfl (fun ls hl => ?_)
    refine lv_iconst (v := -1) hx hb dX12_clash_22 (by decide) ?_
    refine lv_istore_n (lv' := [(3, .int (-1)), (2, .int 0), (0, .ref h0), (1, .int n0)]) hx hb dX12_clash_23 rfl hl (by decide) rfl (fun ls hl => ?_)
    refine lv_iconst (v := 0) hx hb dX12_clash_24 (by decide) ?_
    refine lv_istore (lv' := [(4, .int 0), (3, .int (-1)), (2, .int 0), (0, .ref h0), (1, .int n0)]) hx hb dX12_clash_25 hl (by decide) rfl (fun ls hl => ?_)
    refine lv_iload hx hb dX12_clash_27 (lv_at hl 0 rfl) ?_
    refine lv_aload_n hx hb dX12_clash_29 rfl (lv_at hl 3 rfl) ?_
    refine k_get (v := .int 0) fl_X12_335 C hP 0 rfl e_h0_1 dX12_clash_30 ?_
    refine lv_icmp_ge (x := 0) (y := 0) (tgt := 166) hx hb dX12_clash_33 (by decide) (fun c_15 => ?_) (fun c_15 => ?_)
    rotate_left
    · exact absurd (by decide) c_15
    refine lv_iload_n hx hb dX12_clash_166 rfl (lv_at hl 4 rfl) ?_
    refine lv_if_ne (x := n0) (tgt := 174) hx hb dX12_clash_167 (by decide) (fun c_16 => ?_) (fun c_16 => ?_)
    ·
      refine lv_iload_n hx hb dX12_clash_174 rfl (lv_at hl 1 rfl) ?_
      exact k_iret C hr hlk hP hD hS 2 (Or.inr (Or.inr (Or.inl ⟨rfl, rfl, c_7, c_8, c_16⟩))) [0] rfl rfl (Nat.le_of_ble_eq_true rfl) (Nat.le_of_ble_eq_true rfl) dX12_clash_175
    ·
      refine lv_iload_n hx hb dX12_clash_170 rfl (lv_at hl 2 rfl) ?_
      refine lv_goto (tgt := 175) hx hb dX12_clash_171 (by decide) ?_
      exact k_iret C hr hlk hP hD hS 3 (Or.inr (Or.inr (Or.inr (⟨rfl, rfl, c_7, c_8, c_16⟩)))) [0] rfl rfl (Nat.le_of_ble_eq_true rfl) (Nat.le_of_ble_eq_true rfl) dX12_clash_175
set_option maxHeartbeats 4000000 in
set_option maxRecDepth 100000 in
theorem c_X12_idle (l : Launch) (G : kG) (sz : Nat) (h0 : Nat) (Fh0 : Nat → Value) (e_h0_1 : Fh0 1 = .int 0) : kM l yX12_idle cX12_idle 6 (some .int) { frames := 7, cells := 0, slots := 0, locals := 135 } G [.ref h0] [(h0, .inr (12, ofL 88 Fh0))] sz (kQi G (S := Unit) (fun r (_ : Unit) => r = 0) (fun _ => [(h0, .inr (12, ofL 88 (updV Fh0 0 (.int 0))))])) := by
  refine kM.of (by decide) (Nat.le_of_ble_eq_true rfl) ?_
  intro p e s m below meth c A ls H C hr hlk hnm hP hD hS hl
  have C : kC G p s m c cX12_idle 6 RX12 A := C
  have hx := C.1
  have hb := C.2.1
  have hl : lv_has ls 6 [(0, .ref h0)] := hl
  refine lv_aload_n hx hb dX12_idle_0 rfl (lv_at hl 0 rfl) ?_
  refine lv_iconst (v := 0) hx hb dX12_idle_1 (by decide) ?_
  refine k_put fl_X12_177 ft_X12_0 C hP hD hS 0 rfl rfl rfl dX12_idle_2 (fun H locs hP hD hS => ?_)
  have hP : va_P G.1 vwCl [(h0, .inr (12, ofL 88 (updV Fh0 0 (.int 0))))] H := hP
  have hD : va_D A [(h0, .inr (12, ofL 88 (updV Fh0 0 (.int 0))))] := hD
  refine lv_aload_n hx hb dX12_idle_5 rfl (lv_at hl 0 rfl) ?_
  refine k_callVv (wr := []) (rest := []) li_X12_386 C (c_X12_works0 l G H.size h0 (updV Fh0 0 (.int 0)) e_h0_1) (kR rfl) hP hD hS [0] [] rfl rfl rfl rfl (by decide) 0 12 rfl rfl rfl hl.1 rfl (Nat.le_of_ble_eq_true rfl) dX12_idle_6 (fun uu3 H locs hw1 hP hD hS => ?_)
  have hP : va_P G.1 vwCl [(h0, .inr (12, ofL 88 (updV Fh0 0 (.int 0))))] H := hP
  have hD : va_D A [(h0, .inr (12, ofL 88 (updV Fh0 0 (.int 0))))] := hD
  refine lv_iconst (v := 0) hx hb dX12_idle_9 (by decide) ?_
  refine lv_istore_n (lv' := [(1, .int 0), (0, .ref h0)]) hx hb dX12_idle_10 rfl hl (by decide) rfl (fun ls hl => ?_)
  refine lv_iconst (v := 0) hx hb dX12_idle_11 (by decide) ?_
  refine lv_istore_n (lv' := [(2, .int 0), (1, .int 0), (0, .ref h0)]) hx hb dX12_idle_12 rfl hl (by decide) rfl (fun ls hl => ?_)
  refine lv_iload_n hx hb dX12_idle_13 rfl (lv_at hl 0 rfl) ?_
  refine lv_aload_n hx hb dX12_idle_14 rfl (lv_at hl 2 rfl) ?_
  refine k_get (v := .int 0) fl_X12_335 C hP 0 rfl e_h0_1 dX12_idle_15 ?_
  refine lv_icmp_ge (x := 0) (y := 0) (tgt := 96) hx hb dX12_idle_18 (by decide) (fun c_4 => ?_) (fun c_4 => ?_)
  rotate_left
  · exact absurd (by decide) c_4
  refine lv_iload_n hx hb dX12_idle_96 rfl (lv_at hl 1 rfl) ?_
  exact k_iret C hr hlk hP hD hS () (rfl) [0] rfl rfl (Nat.le_of_ble_eq_true rfl) (Nat.le_of_ble_eq_true rfl) dX12_idle_97
set_option maxHeartbeats 4000000 in
set_option maxRecDepth 100000 in
theorem c_X12_image (l : Launch) (G : kG) (sz : Nat) (h0 : Nat) (Fh0 : Nat → Value) (p_now : Nat) (n7 : Int32) (n8 : Int32) (p_act : Nat) (n9 : Int32) (p_seen : Nat) (p_imageNow : Nat) (p_imageAct : Nat) (p_imageSees : Nat) (f_now : Nat → Int32) (f_imageNow : Nat → Int32) (f_act : Nat → Int32) (f_imageAct : Nat → Int32) (f_seen : Nat → Int32) (f_imageSees : Nat → Int32) (e_h0_16 : Fh0 16 = .ref p_now) (e_h0_85 : Fh0 85 = .ref p_imageNow) (e_h0_63 : Fh0 63 = .ref p_act) (e_h0_86 : Fh0 86 = .ref p_imageAct) (e_h0_74 : Fh0 74 = .ref p_seen) (e_h0_87 : Fh0 87 = .ref p_imageSees) (e_h0_52 : Fh0 52 = .int n7) (e_h0_62 : Fh0 62 = .int n8) (e_h0_73 : Fh0 73 = .int n9) : kM l yX12_image cX12_image 1 none { frames := 7, cells := 0, slots := 0, locals := 133 } G [.ref h0] [(h0, .inr (12, ofL 88 Fh0)), (p_now, .inl (G.2.1, 48, .inl f_now)), (p_imageNow, .inl (G.2.1, 48, .inl f_imageNow)), (p_act, .inl (G.2.1, 80, .inl f_act)), (p_imageAct, .inl (G.2.1, 80, .inl f_imageAct)), (p_seen, .inl (G.2.1, 16, .inl f_seen)), (p_imageSees, .inl (G.2.1, 16, .inl f_imageSees))] sz (kQv G (S := Unit) (fun (_ : Unit) => True) (fun _ => [(h0, .inr (12, ofL 88 (updV (updV (updV (updV (updV Fh0 0 (.int 0)) 81 (.int 1)) 82 (.int n7)) 83 (.int n8)) 84 (.int n9))))])) := by
  refine kM.of (by decide) (Nat.le_of_ble_eq_true rfl) ?_
  intro p e s m below meth c A ls H C hr hlk hnm hP hD hS hl
  have C : kC G p s m c cX12_image 1 RX12 A := C
  have hx := C.1
  have hb := C.2.1
  have hl : lv_has ls 1 [(0, .ref h0)] := hl
  refine lv_aload_n hx hb dX12_image_0 rfl (lv_at hl 0 rfl) ?_
  refine lv_iconst (v := 0) hx hb dX12_image_1 (by decide) ?_
  refine k_put fl_X12_177 ft_X12_0 C hP hD hS 0 rfl rfl rfl dX12_image_2 (fun H locs hP hD hS => ?_)
  have hP : va_P G.1 vwCl [(h0, .inr (12, ofL 88 (updV Fh0 0 (.int 0)))), (p_now, .inl (G.2.1, 48, .inl f_now)), (p_imageNow, .inl (G.2.1, 48, .inl f_imageNow)), (p_act, .inl (G.2.1, 80, .inl f_act)), (p_imageAct, .inl (G.2.1, 80, .inl f_imageAct)), (p_seen, .inl (G.2.1, 16, .inl f_seen)), (p_imageSees, .inl (G.2.1, 16, .inl f_imageSees))] H := hP
  have hD : va_D A [(h0, .inr (12, ofL 88 (updV Fh0 0 (.int 0)))), (p_now, .inl (G.2.1, 48, .inl f_now)), (p_imageNow, .inl (G.2.1, 48, .inl f_imageNow)), (p_act, .inl (G.2.1, 80, .inl f_act)), (p_imageAct, .inl (G.2.1, 80, .inl f_imageAct)), (p_seen, .inl (G.2.1, 16, .inl f_seen)), (p_imageSees, .inl (G.2.1, 16, .inl f_imageSees))] := hD
  refine lv_aload_n hx hb dX12_image_5 rfl (lv_at hl 0 rfl) ?_
  refine lv_iconst (v := 1) hx hb dX12_image_6 (by decide) ?_
  refine k_put fl_X12_355 ft_X12_81 C hP hD hS 0 rfl rfl rfl dX12_image_7 (fun H locs hP hD hS => ?_)
  have hP : va_P G.1 vwCl [(h0, .inr (12, ofL 88 (updV (updV Fh0 0 (.int 0)) 81 (.int 1)))), (p_now, .inl (G.2.1, 48, .inl f_now)), (p_imageNow, .inl (G.2.1, 48, .inl f_imageNow)), (p_act, .inl (G.2.1, 80, .inl f_act)), (p_imageAct, .inl (G.2.1, 80, .inl f_imageAct)), (p_seen, .inl (G.2.1, 16, .inl f_seen)), (p_imageSees, .inl (G.2.1, 16, .inl f_imageSees))] H := hP
  have hD : va_D A [(h0, .inr (12, ofL 88 (updV (updV Fh0 0 (.int 0)) 81 (.int 1)))), (p_now, .inl (G.2.1, 48, .inl f_now)), (p_imageNow, .inl (G.2.1, 48, .inl f_imageNow)), (p_act, .inl (G.2.1, 80, .inl f_act)), (p_imageAct, .inl (G.2.1, 80, .inl f_imageAct)), (p_seen, .inl (G.2.1, 16, .inl f_seen)), (p_imageSees, .inl (G.2.1, 16, .inl f_imageSees))] := hD
  refine lv_aload_n hx hb dX12_image_10 rfl (lv_at hl 0 rfl) ?_
  refine lv_aload_n hx hb dX12_image_11 rfl (lv_at hl 0 rfl) ?_
  refine k_get (v := .int n7) fl_X12_105 C hP 0 rfl e_h0_52 dX12_image_12 ?_
  refine k_put fl_X12_481 ft_X12_82 C hP hD hS 0 rfl rfl rfl dX12_image_15 (fun H locs hP hD hS => ?_)
  have hP : va_P G.1 vwCl [(h0, .inr (12, ofL 88 (updV (updV (updV Fh0 0 (.int 0)) 81 (.int 1)) 82 (.int n7)))), (p_now, .inl (G.2.1, 48, .inl f_now)), (p_imageNow, .inl (G.2.1, 48, .inl f_imageNow)), (p_act, .inl (G.2.1, 80, .inl f_act)), (p_imageAct, .inl (G.2.1, 80, .inl f_imageAct)), (p_seen, .inl (G.2.1, 16, .inl f_seen)), (p_imageSees, .inl (G.2.1, 16, .inl f_imageSees))] H := hP
  have hD : va_D A [(h0, .inr (12, ofL 88 (updV (updV (updV Fh0 0 (.int 0)) 81 (.int 1)) 82 (.int n7)))), (p_now, .inl (G.2.1, 48, .inl f_now)), (p_imageNow, .inl (G.2.1, 48, .inl f_imageNow)), (p_act, .inl (G.2.1, 80, .inl f_act)), (p_imageAct, .inl (G.2.1, 80, .inl f_imageAct)), (p_seen, .inl (G.2.1, 16, .inl f_seen)), (p_imageSees, .inl (G.2.1, 16, .inl f_imageSees))] := hD
  refine lv_aload_n hx hb dX12_image_18 rfl (lv_at hl 0 rfl) ?_
  refine lv_aload_n hx hb dX12_image_19 rfl (lv_at hl 0 rfl) ?_
  refine k_get (v := .int n8) fl_X12_345 C hP 0 rfl e_h0_62 dX12_image_20 ?_
  refine k_put fl_X12_484 ft_X12_83 C hP hD hS 0 rfl rfl rfl dX12_image_23 (fun H locs hP hD hS => ?_)
  have hP : va_P G.1 vwCl [(h0, .inr (12, ofL 88 (updV (updV (updV (updV Fh0 0 (.int 0)) 81 (.int 1)) 82 (.int n7)) 83 (.int n8)))), (p_now, .inl (G.2.1, 48, .inl f_now)), (p_imageNow, .inl (G.2.1, 48, .inl f_imageNow)), (p_act, .inl (G.2.1, 80, .inl f_act)), (p_imageAct, .inl (G.2.1, 80, .inl f_imageAct)), (p_seen, .inl (G.2.1, 16, .inl f_seen)), (p_imageSees, .inl (G.2.1, 16, .inl f_imageSees))] H := hP
  have hD : va_D A [(h0, .inr (12, ofL 88 (updV (updV (updV (updV Fh0 0 (.int 0)) 81 (.int 1)) 82 (.int n7)) 83 (.int n8)))), (p_now, .inl (G.2.1, 48, .inl f_now)), (p_imageNow, .inl (G.2.1, 48, .inl f_imageNow)), (p_act, .inl (G.2.1, 80, .inl f_act)), (p_imageAct, .inl (G.2.1, 80, .inl f_imageAct)), (p_seen, .inl (G.2.1, 16, .inl f_seen)), (p_imageSees, .inl (G.2.1, 16, .inl f_imageSees))] := hD
  refine lv_aload_n hx hb dX12_image_26 rfl (lv_at hl 0 rfl) ?_
  refine lv_aload_n hx hb dX12_image_27 rfl (lv_at hl 0 rfl) ?_
  refine k_get (v := .int n9) fl_X12_348 C hP 0 rfl e_h0_73 dX12_image_28 ?_
  refine k_put fl_X12_487 ft_X12_84 C hP hD hS 0 rfl rfl rfl dX12_image_31 (fun H locs hP hD hS => ?_)
  have hP : va_P G.1 vwCl [(h0, .inr (12, ofL 88 (updV (updV (updV (updV (updV Fh0 0 (.int 0)) 81 (.int 1)) 82 (.int n7)) 83 (.int n8)) 84 (.int n9)))), (p_now, .inl (G.2.1, 48, .inl f_now)), (p_imageNow, .inl (G.2.1, 48, .inl f_imageNow)), (p_act, .inl (G.2.1, 80, .inl f_act)), (p_imageAct, .inl (G.2.1, 80, .inl f_imageAct)), (p_seen, .inl (G.2.1, 16, .inl f_seen)), (p_imageSees, .inl (G.2.1, 16, .inl f_imageSees))] H := hP
  have hD : va_D A [(h0, .inr (12, ofL 88 (updV (updV (updV (updV (updV Fh0 0 (.int 0)) 81 (.int 1)) 82 (.int n7)) 83 (.int n8)) 84 (.int n9)))), (p_now, .inl (G.2.1, 48, .inl f_now)), (p_imageNow, .inl (G.2.1, 48, .inl f_imageNow)), (p_act, .inl (G.2.1, 80, .inl f_act)), (p_imageAct, .inl (G.2.1, 80, .inl f_imageAct)), (p_seen, .inl (G.2.1, 16, .inl f_seen)), (p_imageSees, .inl (G.2.1, 16, .inl f_imageSees))] := hD
  refine lv_aload_n hx hb dX12_image_34 rfl (lv_at hl 0 rfl) ?_
  refine lv_aload_n hx hb dX12_image_35 rfl (lv_at hl 0 rfl) ?_
  refine k_get (v := .ref p_now) fl_X12_50 C hP 0 rfl e_h0_16 dX12_image_36 ?_
  refine lv_aload_n hx hb dX12_image_39 rfl (lv_at hl 0 rfl) ?_
  refine k_get (v := .ref p_imageNow) fl_X12_168 C hP 0 rfl e_h0_85 dX12_image_40 ?_
  refine k_callVv (wr := [(p_act, .inl (G.2.1, 80, .inl f_act)), (p_imageAct, .inl (G.2.1, 80, .inl f_imageAct)), (p_seen, .inl (G.2.1, 16, .inl f_seen)), (p_imageSees, .inl (G.2.1, 16, .inl f_imageSees))]) (rest := []) li_X12_341 C (c_X12_copies l G H.size h0 p_now p_imageNow (updV (updV (updV (updV (updV Fh0 0 (.int 0)) 81 (.int 1)) 82 (.int n7)) 83 (.int n8)) 84 (.int n9)) 48 f_now f_imageNow (by decide)) (kR rfl) hP hD hS [0, 1, 2] [3, 4, 5, 6] rfl rfl rfl rfl (by decide) 0 12 rfl rfl rfl hl.1 rfl (Nat.le_of_ble_eq_true rfl) dX12_image_43 (fun uu3 H locs hw1 hP hD hS => ?_)
  have hP : va_P G.1 vwCl [(p_act, .inl (G.2.1, 80, .inl f_act)), (p_imageAct, .inl (G.2.1, 80, .inl f_imageAct)), (p_seen, .inl (G.2.1, 16, .inl f_seen)), (p_imageSees, .inl (G.2.1, 16, .inl f_imageSees)), (h0, .inr (12, ofL 88 (updV (updV (updV (updV (updV Fh0 0 (.int 0)) 81 (.int 1)) 82 (.int n7)) 83 (.int n8)) 84 (.int n9)))), (p_now, .inl (G.2.1, 48, .inl f_now)), (p_imageNow, .inl (G.2.1, 48, .inl uu3))] H := hP
  have hD : va_D A [(p_act, .inl (G.2.1, 80, .inl f_act)), (p_imageAct, .inl (G.2.1, 80, .inl f_imageAct)), (p_seen, .inl (G.2.1, 16, .inl f_seen)), (p_imageSees, .inl (G.2.1, 16, .inl f_imageSees)), (h0, .inr (12, ofL 88 (updV (updV (updV (updV (updV Fh0 0 (.int 0)) 81 (.int 1)) 82 (.int n7)) 83 (.int n8)) 84 (.int n9)))), (p_now, .inl (G.2.1, 48, .inl f_now)), (p_imageNow, .inl (G.2.1, 48, .inl uu3))] := hD
  refine lv_aload_n hx hb dX12_image_46 rfl (lv_at hl 0 rfl) ?_
  refine lv_aload_n hx hb dX12_image_47 rfl (lv_at hl 0 rfl) ?_
  refine k_get (v := .ref p_act) fl_X12_132 C hP 4 rfl e_h0_63 dX12_image_48 ?_
  refine lv_aload_n hx hb dX12_image_51 rfl (lv_at hl 0 rfl) ?_
  refine k_get (v := .ref p_imageAct) fl_X12_171 C hP 4 rfl e_h0_86 dX12_image_52 ?_
  refine k_callVv (wr := [(p_seen, .inl (G.2.1, 16, .inl f_seen)), (p_imageSees, .inl (G.2.1, 16, .inl f_imageSees)), (p_now, .inl (G.2.1, 48, .inl f_now)), (p_imageNow, .inl (G.2.1, 48, .inl uu3))]) (rest := []) li_X12_341 C (c_X12_copies l G H.size h0 p_act p_imageAct (updV (updV (updV (updV (updV Fh0 0 (.int 0)) 81 (.int 1)) 82 (.int n7)) 83 (.int n8)) 84 (.int n9)) 80 f_act f_imageAct (by decide)) (kR rfl) hP hD hS [4, 0, 1] [2, 3, 5, 6] rfl rfl rfl rfl (by decide) 0 12 rfl rfl rfl hl.1 rfl (Nat.le_of_ble_eq_true rfl) dX12_image_55 (fun uu6 H locs hw4 hP hD hS => ?_)
  have hP : va_P G.1 vwCl [(p_seen, .inl (G.2.1, 16, .inl f_seen)), (p_imageSees, .inl (G.2.1, 16, .inl f_imageSees)), (p_now, .inl (G.2.1, 48, .inl f_now)), (p_imageNow, .inl (G.2.1, 48, .inl uu3)), (h0, .inr (12, ofL 88 (updV (updV (updV (updV (updV Fh0 0 (.int 0)) 81 (.int 1)) 82 (.int n7)) 83 (.int n8)) 84 (.int n9)))), (p_act, .inl (G.2.1, 80, .inl f_act)), (p_imageAct, .inl (G.2.1, 80, .inl uu6))] H := hP
  have hD : va_D A [(p_seen, .inl (G.2.1, 16, .inl f_seen)), (p_imageSees, .inl (G.2.1, 16, .inl f_imageSees)), (p_now, .inl (G.2.1, 48, .inl f_now)), (p_imageNow, .inl (G.2.1, 48, .inl uu3)), (h0, .inr (12, ofL 88 (updV (updV (updV (updV (updV Fh0 0 (.int 0)) 81 (.int 1)) 82 (.int n7)) 83 (.int n8)) 84 (.int n9)))), (p_act, .inl (G.2.1, 80, .inl f_act)), (p_imageAct, .inl (G.2.1, 80, .inl uu6))] := hD
  refine lv_aload_n hx hb dX12_image_58 rfl (lv_at hl 0 rfl) ?_
  refine lv_aload_n hx hb dX12_image_59 rfl (lv_at hl 0 rfl) ?_
  refine k_get (v := .ref p_seen) fl_X12_153 C hP 4 rfl e_h0_74 dX12_image_60 ?_
  refine lv_aload_n hx hb dX12_image_63 rfl (lv_at hl 0 rfl) ?_
  refine k_get (v := .ref p_imageSees) fl_X12_174 C hP 4 rfl e_h0_87 dX12_image_64 ?_
  refine k_callVv (wr := [(p_now, .inl (G.2.1, 48, .inl f_now)), (p_imageNow, .inl (G.2.1, 48, .inl uu3)), (p_act, .inl (G.2.1, 80, .inl f_act)), (p_imageAct, .inl (G.2.1, 80, .inl uu6))]) (rest := []) li_X12_341 C (c_X12_copies l G H.size h0 p_seen p_imageSees (updV (updV (updV (updV (updV Fh0 0 (.int 0)) 81 (.int 1)) 82 (.int n7)) 83 (.int n8)) 84 (.int n9)) 16 f_seen f_imageSees (by decide)) (kR rfl) hP hD hS [4, 0, 1] [2, 3, 5, 6] rfl rfl rfl rfl (by decide) 0 12 rfl rfl rfl hl.1 rfl (Nat.le_of_ble_eq_true rfl) dX12_image_67 (fun uu9 H locs hw7 hP hD hS => ?_)
  have hP : va_P G.1 vwCl [(p_now, .inl (G.2.1, 48, .inl f_now)), (p_imageNow, .inl (G.2.1, 48, .inl uu3)), (p_act, .inl (G.2.1, 80, .inl f_act)), (p_imageAct, .inl (G.2.1, 80, .inl uu6)), (h0, .inr (12, ofL 88 (updV (updV (updV (updV (updV Fh0 0 (.int 0)) 81 (.int 1)) 82 (.int n7)) 83 (.int n8)) 84 (.int n9)))), (p_seen, .inl (G.2.1, 16, .inl f_seen)), (p_imageSees, .inl (G.2.1, 16, .inl uu9))] H := hP
  have hD : va_D A [(p_now, .inl (G.2.1, 48, .inl f_now)), (p_imageNow, .inl (G.2.1, 48, .inl uu3)), (p_act, .inl (G.2.1, 80, .inl f_act)), (p_imageAct, .inl (G.2.1, 80, .inl uu6)), (h0, .inr (12, ofL 88 (updV (updV (updV (updV (updV Fh0 0 (.int 0)) 81 (.int 1)) 82 (.int n7)) 83 (.int n8)) 84 (.int n9)))), (p_seen, .inl (G.2.1, 16, .inl f_seen)), (p_imageSees, .inl (G.2.1, 16, .inl uu9))] := hD
  exact k_vret C hr hlk hP hD hS () (trivial) [4] rfl rfl (Nat.le_of_ble_eq_true rfl) (Nat.le_of_ble_eq_true rfl) dX12_image_70
set_option maxHeartbeats 4000000 in
set_option maxRecDepth 100000 in
theorem c_X12_restore (l : Launch) (G : kG) (sz : Nat) (h0 : Nat) (Fh0 : Nat → Value) (e_h0_81 : Fh0 81 = .int 0) : kM l yX12_restore cX12_restore 1 (some .boolean) { frames := 6, cells := 0, slots := 0, locals := 110 } G [.ref h0] [(h0, .inr (12, ofL 88 Fh0))] sz (kQi G (S := Unit) (fun r (_ : Unit) => r = 0) (fun _ => [(h0, .inr (12, ofL 88 (updV Fh0 0 (.int 0))))])) := by
  refine kM.of (by decide) (Nat.le_of_ble_eq_true rfl) ?_
  intro p e s m below meth c A ls H C hr hlk hnm hP hD hS hl
  have C : kC G p s m c cX12_restore 1 RX12 A := C
  have hx := C.1
  have hb := C.2.1
  have hl : lv_has ls 1 [(0, .ref h0)] := hl
  refine lv_aload_n hx hb dX12_restore_0 rfl (lv_at hl 0 rfl) ?_
  refine lv_iconst (v := 0) hx hb dX12_restore_1 (by decide) ?_
  refine k_put fl_X12_177 ft_X12_0 C hP hD hS 0 rfl rfl rfl dX12_restore_2 (fun H locs hP hD hS => ?_)
  have hP : va_P G.1 vwCl [(h0, .inr (12, ofL 88 (updV Fh0 0 (.int 0))))] H := hP
  have hD : va_D A [(h0, .inr (12, ofL 88 (updV Fh0 0 (.int 0))))] := hD
  refine lv_aload_n hx hb dX12_restore_5 rfl (lv_at hl 0 rfl) ?_
  refine k_get (v := .int 0) fl_X12_355 C hP 0 rfl e_h0_81 dX12_restore_6 ?_
  refine lv_if_ne (x := 0) (tgt := 14) hx hb dX12_restore_9 (by decide) (fun c_1 => ?_) (fun c_1 => ?_)
  · exact absurd (by decide) c_1
  refine lv_iconst (v := 0) hx hb dX12_restore_12 (by decide) ?_
  exact k_zret C hr hlk rfl hP hD hS () (rfl) [0] rfl rfl (Nat.le_of_ble_eq_true rfl) (Nat.le_of_ble_eq_true rfl) dX12_restore_13
