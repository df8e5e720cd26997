theorem dX12_lays_0 : decode cX12_lays 0 = .ok (.bipush 24, 2) := by decide +kernel
theorem dX12_lays_2 : decode cX12_lays 2 = .ok (.istore_n 2, 1) := by decide +kernel
theorem dX12_lays_3 : decode cX12_lays 3 = .ok (.iload_n 2, 1) := by decide +kernel
theorem dX12_lays_4 : decode cX12_lays 4 = .ok (.ifCond .lt 35, 3) := by decide +kernel
theorem dX12_lays_39 : decode cX12_lays 39 = .ok (.return_, 1) := by decide +kernel
theorem dX12_lays_7 : decode cX12_lays 7 = .ok (.aload_n 0, 1) := by decide +kernel
theorem dX12_lays_8 : decode cX12_lays 8 = .ok (.getfield 53, 3) := by decide +kernel
theorem dX12_lays_11 : decode cX12_lays 11 = .ok (.aload_n 0, 1) := by decide +kernel
theorem dX12_lays_12 : decode cX12_lays 12 = .ok (.getfield 180, 3) := by decide +kernel
theorem dX12_lays_15 : decode cX12_lays 15 = .ok (.iload_n 1, 1) := by decide +kernel
theorem dX12_lays_16 : decode cX12_lays 16 = .ok (.iload_n 2, 1) := by decide +kernel
theorem dX12_lays_17 : decode cX12_lays 17 = .ok (.ishr, 1) := by decide +kernel
theorem dX12_lays_18 : decode cX12_lays 18 = .ok (.sipush 255, 3) := by decide +kernel
theorem dX12_lays_21 : decode cX12_lays 21 = .ok (.iand, 1) := by decide +kernel
theorem dX12_lays_22 : decode cX12_lays 22 = .ok (.iastore, 1) := by decide +kernel
theorem dX12_lays_23 : decode cX12_lays 23 = .ok (.aload_n 0, 1) := by decide +kernel
theorem dX12_lays_24 : decode cX12_lays 24 = .ok (.dup, 1) := by decide +kernel
theorem dX12_lays_25 : decode cX12_lays 25 = .ok (.getfield 180, 3) := by decide +kernel
theorem dX12_lays_28 : decode cX12_lays 28 = .ok (.iconst 1, 1) := by decide +kernel
theorem dX12_lays_29 : decode cX12_lays 29 = .ok (.iadd, 1) := by decide +kernel
theorem dX12_lays_30 : decode cX12_lays 30 = .ok (.putfield 180, 3) := by decide +kernel
theorem dX12_lays_33 : decode cX12_lays 33 = .ok (.iinc 2 (-8), 3) := by decide +kernel
theorem dX12_lays_36 : decode cX12_lays 36 = .ok (.goto (-33), 3) := by decide +kernel
theorem dX12_feed_0 : decode cX12_feed 0 = .ok (.aload_n 0, 1) := by decide +kernel
theorem dX12_feed_1 : decode cX12_feed 1 = .ok (.iconst 0, 1) := by decide +kernel
theorem dX12_feed_2 : decode cX12_feed 2 = .ok (.putfield 177, 3) := by decide +kernel
theorem dX12_feed_5 : decode cX12_feed 5 = .ok (.aload_n 0, 1) := by decide +kernel
theorem dX12_feed_6 : decode cX12_feed 6 = .ok (.getfield 180, 3) := by decide +kernel
theorem dX12_feed_9 : decode cX12_feed 9 = .ok (.bipush 20, 2) := by decide +kernel
theorem dX12_feed_11 : decode cX12_feed 11 = .ok (.iadd, 1) := by decide +kernel
theorem dX12_feed_12 : decode cX12_feed 12 = .ok (.sipush 700, 3) := by decide +kernel
theorem dX12_feed_15 : decode cX12_feed 15 = .ok (.if_icmp .le 5, 3) := by decide +kernel
theorem dX12_feed_20 : decode cX12_feed 20 = .ok (.aload_n 0, 1) := by decide +kernel
theorem dX12_feed_21 : decode cX12_feed 21 = .ok (.iload_n 1, 1) := by decide +kernel
theorem tw_1696 : (Jvm.Cond.methodLink "MarshBellsModel" (183 : Nat) ({ cls := "MarshBellsModel", name := "lays", desc := "(I)V" } : Jvm.MethodName)) ∈ lw_tbl := tk_8 (List.mem_of_getElem? (i := 16) rfl)
theorem tw_1699 : (Jvm.Cond.code ({ cls := "MarshBellsModel", name := "lays", desc := "(I)V" } : Jvm.MethodName) prog_14_method_8_code (3 : Nat) (Option.none : Option Jvm.ClassFile.FieldType)) ∈ lw_tbl := tk_8 (List.mem_of_getElem? (i := 19) rfl)
theorem tw_1698 : (Jvm.Cond.instanceMethod ({ cls := "MarshBellsModel", name := "lays", desc := "(I)V" } : Jvm.MethodName)) ∈ lw_tbl := tk_8 (List.mem_of_getElem? (i := 18) rfl)
theorem se_X12_lays : Cond.selects RX12 yX12_lays yX12_lays ∈ lw_tbl := List.mem_append_left _ (List.mem_of_getElem? (i := 108) rfl)
theorem li_X12_183 : kLV RX12 183 RX12 yX12_lays cX12_lays 3 none 1 := ⟨tw_1696, tw_1698, se_X12_lays, tw_1699, tw_13, by decide +kernel⟩
theorem dX12_feed_22 : decode cX12_feed 22 = .ok (.invokevirtual 183, 3) := by decide +kernel
theorem dX12_feed_25 : decode cX12_feed 25 = .ok (.aload_n 0, 1) := by decide +kernel
theorem dX12_feed_26 : decode cX12_feed 26 = .ok (.iload_n 2, 1) := by decide +kernel
theorem dX12_feed_27 : decode cX12_feed 27 = .ok (.invokevirtual 183, 3) := by decide +kernel
theorem dX12_feed_30 : decode cX12_feed 30 = .ok (.aload_n 0, 1) := by decide +kernel
theorem dX12_feed_31 : decode cX12_feed 31 = .ok (.iload_n 3, 1) := by decide +kernel
theorem dX12_feed_32 : decode cX12_feed 32 = .ok (.invokevirtual 183, 3) := by decide +kernel
theorem dX12_feed_35 : decode cX12_feed 35 = .ok (.aload_n 0, 1) := by decide +kernel
theorem dX12_feed_36 : decode cX12_feed 36 = .ok (.iload 4, 2) := by decide +kernel
theorem dX12_feed_38 : decode cX12_feed 38 = .ok (.invokevirtual 183, 3) := by decide +kernel
theorem dX12_feed_41 : decode cX12_feed 41 = .ok (.aload_n 0, 1) := by decide +kernel
theorem dX12_feed_42 : decode cX12_feed 42 = .ok (.iload 5, 2) := by decide +kernel
theorem dX12_feed_44 : decode cX12_feed 44 = .ok (.invokevirtual 183, 3) := by decide +kernel
theorem dX12_feed_47 : decode cX12_feed 47 = .ok (.aload_n 0, 1) := by decide +kernel
theorem dX12_feed_48 : decode cX12_feed 48 = .ok (.getfield 180, 3) := by decide +kernel
theorem dX12_feed_51 : decode cX12_feed 51 = .ok (.ireturn, 1) := by decide +kernel
theorem dX12_feed_18 : decode cX12_feed 18 = .ok (.iconst (-1), 1) := by decide +kernel
theorem dX12_feed_19 : decode cX12_feed 19 = .ok (.ireturn, 1) := by decide +kernel
theorem tw_1486 : (Jvm.Cond.fieldLink "MarshBellsModel" (132 : Nat) "MarshBellsModel" "act" "[I") ∈ lw_tbl := tk_7 (List.mem_of_getElem? (i := 46) rfl)
theorem fl_X12_132 : kFL RX12 132 12 88 63 := ⟨RX12, TX12, rfl, by decide, inWX12, tw_1486⟩
theorem dX12_keeps_0 : decode cX12_keeps 0 = .ok (.aload_n 0, 1) := by decide +kernel
theorem dX12_keeps_1 : decode cX12_keeps 1 = .ok (.getfield 345, 3) := by decide +kernel
theorem dX12_keeps_4 : decode cX12_keeps 4 = .ok (.bipush 40, 2) := by decide +kernel
theorem dX12_keeps_47 : decode cX12_keeps 47 = .ok (.aload_n 0, 1) := by decide +kernel
theorem dX12_keeps_48 : decode cX12_keeps 48 = .ok (.getfield 132, 3) := by decide +kernel
theorem dX12_keeps_51 : decode cX12_keeps 51 = .ok (.iconst 2, 1) := by decide +kernel
theorem dX12_keeps_52 : decode cX12_keeps 52 = .ok (.aload_n 0, 1) := by decide +kernel
theorem dX12_keeps_53 : decode cX12_keeps 53 = .ok (.getfield 345, 3) := by decide +kernel
theorem dX12_keeps_56 : decode cX12_keeps 56 = .ok (.imul, 1) := by decide +kernel
theorem dX12_keeps_57 : decode cX12_keeps 57 = .ok (.iload_n 1, 1) := by decide +kernel
theorem dX12_keeps_58 : decode cX12_keeps 58 = .ok (.iastore, 1) := by decide +kernel
theorem dX12_keeps_59 : decode cX12_keeps 59 = .ok (.aload_n 0, 1) := by decide +kernel
theorem dX12_keeps_60 : decode cX12_keeps 60 = .ok (.getfield 132, 3) := by decide +kernel
theorem dX12_keeps_63 : decode cX12_keeps 63 = .ok (.iconst 2, 1) := by decide +kernel
theorem dX12_keeps_64 : decode cX12_keeps 64 = .ok (.aload_n 0, 1) := by decide +kernel
theorem dX12_keeps_65 : decode cX12_keeps 65 = .ok (.getfield 345, 3) := by decide +kernel
theorem dX12_keeps_68 : decode cX12_keeps 68 = .ok (.imul, 1) := by decide +kernel
theorem dX12_keeps_69 : decode cX12_keeps 69 = .ok (.iconst 1, 1) := by decide +kernel
theorem dX12_keeps_70 : decode cX12_keeps 70 = .ok (.iadd, 1) := by decide +kernel
theorem dX12_keeps_71 : decode cX12_keeps 71 = .ok (.iload_n 2, 1) := by decide +kernel
theorem dX12_keeps_72 : decode cX12_keeps 72 = .ok (.iastore, 1) := by decide +kernel
theorem dX12_keeps_73 : decode cX12_keeps 73 = .ok (.aload_n 0, 1) := by decide +kernel
theorem dX12_keeps_74 : decode cX12_keeps 74 = .ok (.dup, 1) := by decide +kernel
theorem dX12_keeps_75 : decode cX12_keeps 75 = .ok (.getfield 345, 3) := by decide +kernel
theorem dX12_keeps_78 : decode cX12_keeps 78 = .ok (.iconst 1, 1) := by decide +kernel
theorem dX12_keeps_79 : decode cX12_keeps 79 = .ok (.iadd, 1) := by decide +kernel
theorem dX12_keeps_80 : decode cX12_keeps 80 = .ok (.putfield 345, 3) := by decide +kernel
theorem dX12_keeps_83 : decode cX12_keeps 83 = .ok (.return_, 1) := by decide +kernel
theorem dX12_keeps_6 : decode cX12_keeps 6 = .ok (.if_icmp .ne 41, 3) := by decide +kernel
theorem dX12_keeps_9 : decode cX12_keeps 9 = .ok (.iconst 2, 1) := by decide +kernel
theorem dX12_keeps_10 : decode cX12_keeps 10 = .ok (.istore_n 3, 1) := by decide +kernel
theorem dX12_keeps_11 : decode cX12_keeps 11 = .ok (.iload_n 3, 1) := by decide +kernel
theorem dX12_keeps_12 : decode cX12_keeps 12 = .ok (.bipush 80, 2) := by decide +kernel
theorem dX12_keeps_14 : decode cX12_keeps 14 = .ok (.if_icmp .ge 23, 3) := by decide +kernel
theorem dX12_keeps_37 : decode cX12_keeps 37 = .ok (.aload_n 0, 1) := by decide +kernel
theorem dX12_keeps_38 : decode cX12_keeps 38 = .ok (.dup, 1) := by decide +kernel
theorem dX12_keeps_39 : decode cX12_keeps 39 = .ok (.getfield 345, 3) := by decide +kernel
theorem dX12_keeps_42 : decode cX12_keeps 42 = .ok (.iconst 1, 1) := by decide +kernel
theorem dX12_keeps_43 : decode cX12_keeps 43 = .ok (.isub, 1) := by decide +kernel
theorem dX12_keeps_44 : decode cX12_keeps 44 = .ok (.putfield 345, 3) := by decide +kernel
theorem dX12_keeps_17 : decode cX12_keeps 17 = .ok (.aload_n 0, 1) := by decide +kernel
theorem dX12_keeps_18 : decode cX12_keeps 18 = .ok (.getfield 132, 3) := by decide +kernel
theorem dX12_keeps_21 : decode cX12_keeps 21 = .ok (.iload_n 3, 1) := by decide +kernel
theorem dX12_keeps_22 : decode cX12_keeps 22 = .ok (.iconst 2, 1) := by decide +kernel
theorem dX12_keeps_23 : decode cX12_keeps 23 = .ok (.isub, 1) := by decide +kernel
theorem dX12_keeps_24 : decode cX12_keeps 24 = .ok (.aload_n 0, 1) := by decide +kernel
theorem dX12_keeps_25 : decode cX12_keeps 25 = .ok (.getfield 132, 3) := by decide +kernel
theorem dX12_keeps_28 : decode cX12_keeps 28 = .ok (.iload_n 3, 1) := by decide +kernel
theorem dX12_keeps_29 : decode cX12_keeps 29 = .ok (.iaload, 1) := by decide +kernel
theorem dX12_keeps_30 : decode cX12_keeps 30 = .ok (.iastore, 1) := by decide +kernel
theorem dX12_keeps_31 : decode cX12_keeps 31 = .ok (.iinc 3 1, 3) := by decide +kernel
theorem dX12_keeps_34 : decode cX12_keeps 34 = .ok (.goto (-23), 3) := by decide +kernel
theorem dX12_refuses_0 : decode cX12_refuses 0 = .ok (.aload_n 0, 1) := by decide +kernel
theorem dX12_refuses_1 : decode cX12_refuses 1 = .ok (.getfield 59, 3) := by decide +kernel
theorem dX12_refuses_4 : decode cX12_refuses 4 = .ok (.iload_n 1, 1) := by decide +kernel
theorem dX12_refuses_5 : decode cX12_refuses 5 = .ok (.dup2, 1) := by decide +kernel
theorem dX12_refuses_6 : decode cX12_refuses 6 = .ok (.iaload, 1) := by decide +kernel
theorem dX12_refuses_7 : decode cX12_refuses 7 = .ok (.iconst 1, 1) := by decide +kernel
theorem dX12_refuses_8 : decode cX12_refuses 8 = .ok (.iadd, 1) := by decide +kernel
theorem dX12_refuses_9 : decode cX12_refuses 9 = .ok (.iastore, 1) := by decide +kernel
theorem dX12_refuses_10 : decode cX12_refuses 10 = .ok (.iconst (-1), 1) := by decide +kernel
theorem dX12_refuses_11 : decode cX12_refuses 11 = .ok (.ireturn, 1) := by decide +kernel
theorem dX12_become_0 : decode cX12_become 0 = .ok (.aload_n 0, 1) := by decide +kernel
theorem dX12_become_1 : decode cX12_become 1 = .ok (.iconst 0, 1) := by decide +kernel
theorem dX12_become_2 : decode cX12_become 2 = .ok (.putfield 177, 3) := by decide +kernel
theorem dX12_become_5 : decode cX12_become 5 = .ok (.aload_n 0, 1) := by decide +kernel
theorem dX12_become_6 : decode cX12_become 6 = .ok (.iload_n 1, 1) := by decide +kernel
theorem dX12_become_7 : decode cX12_become 7 = .ok (.invokevirtual 402, 3) := by decide +kernel
theorem dX12_become_22 : decode cX12_become 22 = .ok (.iconst 0, 1) := by decide +kernel
theorem dX12_become_23 : decode cX12_become 23 = .ok (.ireturn, 1) := by decide +kernel
theorem dX12_become_10 : decode cX12_become 10 = .ok (.ifCond .eq 12, 3) := by decide +kernel
theorem dX12_become_13 : decode cX12_become 13 = .ok (.aload_n 0, 1) := by decide +kernel
theorem dX12_become_14 : decode cX12_become 14 = .ok (.iload_n 2, 1) := by decide +kernel
theorem dX12_become_15 : decode cX12_become 15 = .ok (.iconst 3, 1) := by decide +kernel
theorem dX12_become_16 : decode cX12_become 16 = .ok (.invokevirtual 405, 3) := by decide +kernel
theorem dX12_become_19 : decode cX12_become 19 = .ok (.ifCond .ne 5, 3) := by decide +kernel
theorem dX12_become_24 : decode cX12_become 24 = .ok (.iload_n 3, 1) := by decide +kernel
theorem dX12_become_25 : decode cX12_become 25 = .ok (.iconst 0, 1) := by decide +kernel
theorem dX12_become_26 : decode cX12_become 26 = .ok (.iload_n 2, 1) := by decide +kernel
theorem dX12_become_57 : decode cX12_become 57 = .ok (.invokestatic 392, 3) := by decide +kernel
theorem dX12_become_60 : decode cX12_become 60 = .ok (.ifCond .ne 9, 3) := by decide +kernel
theorem dX12_become_69 : decode cX12_become 69 = .ok (.bipush 12, 2) := by decide +kernel
theorem dX12_become_71 : decode cX12_become 71 = .ok (.iload_n 2, 1) := by decide +kernel
theorem dX12_become_72 : decode cX12_become 72 = .ok (.imul, 1) := by decide +kernel
theorem dX12_become_73 : decode cX12_become 73 = .ok (.iload_n 1, 1) := by decide +kernel
theorem dX12_become_74 : decode cX12_become 74 = .ok (.iadd, 1) := by decide +kernel
theorem dX12_become_75 : decode cX12_become 75 = .ok (.istore 4, 2) := by decide +kernel
theorem dX12_become_77 : decode cX12_become 77 = .ok (.aload_n 0, 1) := by decide +kernel
theorem dX12_become_78 : decode cX12_become 78 = .ok (.getfield 50, 3) := by decide +kernel
theorem dX12_become_81 : decode cX12_become 81 = .ok (.iload 4, 2) := by decide +kernel
theorem dX12_become_83 : decode cX12_become 83 = .ok (.iaload, 1) := by decide +kernel
theorem dX12_become_84 : decode cX12_become 84 = .ok (.istore 5, 2) := by decide +kernel
theorem dX12_become_86 : decode cX12_become 86 = .ok (.aload_n 0, 1) := by decide +kernel
theorem dX12_become_87 : decode cX12_become 87 = .ok (.iload 4, 2) := by decide +kernel
theorem dX12_become_89 : decode cX12_become 89 = .ok (.iload 5, 2) := by decide +kernel
theorem tw_1903 : (Jvm.Cond.methodLink "MarshBellsModel" (414 : Nat) ({ cls := "MarshBellsModel", name := "keeps", desc := "(II)V" } : Jvm.MethodName)) ∈ lw_tbl := tk_8 (List.mem_of_getElem? (i := 223) rfl)
theorem tw_1906 : (Jvm.Cond.code ({ cls := "MarshBellsModel", name := "keeps", desc := "(II)V" } : Jvm.MethodName) prog_14_method_57_code (4 : Nat) (Option.none : Option Jvm.ClassFile.FieldType)) ∈ lw_tbl := tk_8 (List.mem_of_getElem? (i := 226) rfl)
theorem tw_1905 : (Jvm.Cond.instanceMethod ({ cls := "MarshBellsModel", name := "keeps", desc := "(II)V" } : Jvm.MethodName)) ∈ lw_tbl := tk_8 (List.mem_of_getElem? (i := 225) rfl)
theorem se_X12_keeps : Cond.selects RX12 yX12_keeps yX12_keeps ∈ lw_tbl := List.mem_append_left _ (List.mem_of_getElem? (i := 145) rfl)
theorem li_X12_414 : kLV RX12 414 RX12 yX12_keeps cX12_keeps 4 none 2 := ⟨tw_1903, tw_1905, se_X12_keeps, tw_1906, tw_13, by decide +kernel⟩
theorem dX12_become_91 : decode cX12_become 91 = .ok (.invokevirtual 414, 3) := by decide +kernel
theorem dX12_become_94 : decode cX12_become 94 = .ok (.aload_n 0, 1) := by decide +kernel
theorem dX12_become_95 : decode cX12_become 95 = .ok (.getfield 50, 3) := by decide +kernel
theorem dX12_become_98 : decode cX12_become 98 = .ok (.iload 4, 2) := by decide +kernel
theorem dX12_become_100 : decode cX12_become 100 = .ok (.iload_n 3, 1) := by decide +kernel
theorem dX12_become_101 : decode cX12_become 101 = .ok (.iastore, 1) := by decide +kernel
theorem dX12_become_102 : decode cX12_become 102 = .ok (.iload 5, 2) := by decide +kernel
theorem dX12_become_104 : decode cX12_become 104 = .ok (.ireturn, 1) := by decide +kernel
theorem dX12_become_63 : decode cX12_become 63 = .ok (.aload_n 0, 1) := by decide +kernel
theorem dX12_become_64 : decode cX12_become 64 = .ok (.iconst 1, 1) := by decide +kernel
theorem tw_1899 : (Jvm.Cond.methodLink "MarshBellsModel" (411 : Nat) ({ cls := "MarshBellsModel", name := "refuses", desc := "(I)I" } : Jvm.MethodName)) ∈ lw_tbl := tk_8 (List.mem_of_getElem? (i := 219) rfl)
theorem tw_1902 : (Jvm.Cond.code ({ cls := "MarshBellsModel", name := "refuses", desc := "(I)I" } : Jvm.MethodName) prog_14_method_58_code (2 : Nat) (Option.some Jvm.ClassFile.FieldType.int)) ∈ lw_tbl := tk_8 (List.mem_of_getElem? (i := 222) rfl)
theorem tw_1901 : (Jvm.Cond.instanceMethod ({ cls := "MarshBellsModel", name := "refuses", desc := "(I)I" } : Jvm.MethodName)) ∈ lw_tbl := tk_8 (List.mem_of_getElem? (i := 221) rfl)
theorem se_X12_refuses : Cond.selects RX12 yX12_refuses yX12_refuses ∈ lw_tbl := List.mem_append_left _ (List.mem_of_getElem? (i := 144) rfl)
theorem li_X12_411 : kLV RX12 411 RX12 yX12_refuses cX12_refuses 2 (some .int) 1 := ⟨tw_1899, tw_1901, se_X12_refuses, tw_1902, tw_13, by decide +kernel⟩
theorem dX12_become_65 : decode cX12_become 65 = .ok (.invokevirtual 411, 3) := by decide +kernel
theorem dX12_become_68 : decode cX12_become 68 = .ok (.ireturn, 1) := by decide +kernel
theorem dX12_become_27 : decode cX12_become 27 = .ok (.ifCond .ne 8, 3) := by decide +kernel
theorem dX12_become_35 : decode cX12_become 35 = .ok (.iload_n 2, 1) := by decide +kernel
theorem dX12_become_36 : decode cX12_become 36 = .ok (.iconst 1, 1) := by decide +kernel
theorem dX12_become_37 : decode cX12_become 37 = .ok (.if_icmp .ne 8, 3) := by decide +kernel
theorem dX12_become_45 : decode cX12_become 45 = .ok (.iload_n 2, 1) := by decide +kernel
theorem dX12_become_46 : decode cX12_become 46 = .ok (.iconst 2, 1) := by decide +kernel
theorem dX12_become_47 : decode cX12_become 47 = .ok (.if_icmp .ne 8, 3) := by decide +kernel
theorem dX12_become_55 : decode cX12_become 55 = .ok (.bipush 99, 2) := by decide +kernel
theorem dX12_become_50 : decode cX12_become 50 = .ok (.bipush 9, 2) := by decide +kernel
theorem dX12_become_52 : decode cX12_become 52 = .ok (.goto 5, 3) := by decide +kernel
theorem dX12_become_40 : decode cX12_become 40 = .ok (.bipush 30, 2) := by decide +kernel
theorem dX12_become_42 : decode cX12_become 42 = .ok (.goto 15, 3) := by decide +kernel
theorem dX12_become_30 : decode cX12_become 30 = .ok (.bipush 60, 2) := by decide +kernel
theorem dX12_become_32 : decode cX12_become 32 = .ok (.goto 25, 3) := by decide +kernel
theorem dX12_obey_0 : decode cX12_obey 0 = .ok (.aload_n 0, 1) := by decide +kernel
theorem dX12_obey_1 : decode cX12_obey 1 = .ok (.iconst 0, 1) := by decide +kernel
theorem dX12_obey_2 : decode cX12_obey 2 = .ok (.putfield 177, 3) := by decide +kernel
theorem dX12_obey_5 : decode cX12_obey 5 = .ok (.iload_n 1, 1) := by decide +kernel
theorem dX12_obey_6 : decode cX12_obey 6 = .ok (.iconst (-1), 1) := by decide +kernel
theorem dX12_obey_18 : decode cX12_obey 18 = .ok (.aload_n 0, 1) := by decide +kernel
theorem dX12_obey_19 : decode cX12_obey 19 = .ok (.iconst 1, 1) := by decide +kernel
theorem dX12_obey_20 : decode cX12_obey 20 = .ok (.invokevirtual 411, 3) := by decide +kernel
theorem dX12_obey_31 : decode cX12_obey 31 = .ok (.ireturn, 1) := by decide +kernel
theorem dX12_obey_23 : decode cX12_obey 23 = .ok (.ifCond .le 7, 3) := by decide +kernel
theorem dX12_obey_30 : decode cX12_obey 30 = .ok (.iconst 0, 1) := by decide +kernel
theorem dX12_obey_26 : decode cX12_obey 26 = .ok (.iconst 1, 1) := by decide +kernel
theorem dX12_obey_27 : decode cX12_obey 27 = .ok (.goto 4, 3) := by decide +kernel
theorem dX12_obey_7 : decode cX12_obey 7 = .ok (.if_icmp .lt 11, 3) := by decide +kernel
theorem dX12_obey_10 : decode cX12_obey 10 = .ok (.iload_n 1, 1) := by decide +kernel
theorem dX12_obey_11 : decode cX12_obey 11 = .ok (.aload_n 0, 1) := by decide +kernel
theorem dX12_obey_12 : decode cX12_obey 12 = .ok (.getfield 338, 3) := by decide +kernel
theorem dX12_obey_15 : decode cX12_obey 15 = .ok (.if_icmp .lt 17, 3) := by decide +kernel
theorem dX12_obey_32 : decode cX12_obey 32 = .ok (.aload_n 0, 1) := by decide +kernel
theorem dX12_obey_33 : decode cX12_obey 33 = .ok (.bipush 48, 2) := by decide +kernel
theorem dX12_obey_35 : decode cX12_obey 35 = .ok (.aload_n 0, 1) := by decide +kernel
theorem dX12_obey_36 : decode cX12_obey 36 = .ok (.getfield 105, 3) := by decide +kernel
theorem dX12_obey_39 : decode cX12_obey 39 = .ok (.invokevirtual 414, 3) := by decide +kernel
theorem dX12_obey_42 : decode cX12_obey 42 = .ok (.aload_n 0, 1) := by decide +kernel
theorem dX12_obey_43 : decode cX12_obey 43 = .ok (.iload_n 1, 1) := by decide +kernel
theorem dX12_obey_44 : decode cX12_obey 44 = .ok (.putfield 105, 3) := by decide +kernel
theorem dX12_obey_47 : decode cX12_obey 47 = .ok (.iconst 1, 1) := by decide +kernel
theorem dX12_obey_48 : decode cX12_obey 48 = .ok (.ireturn, 1) := by decide +kernel
theorem dX12_undo_0 : decode cX12_undo 0 = .ok (.aload_n 0, 1) := by decide +kernel
theorem dX12_undo_1 : decode cX12_undo 1 = .ok (.iconst 0, 1) := by decide +kernel
theorem dX12_undo_2 : decode cX12_undo 2 = .ok (.putfield 177, 3) := by decide +kernel
theorem dX12_undo_5 : decode cX12_undo 5 = .ok (.aload_n 0, 1) := by decide +kernel
theorem dX12_undo_6 : decode cX12_undo 6 = .ok (.getfield 345, 3) := by decide +kernel
theorem dX12_undo_9 : decode cX12_undo 9 = .ok (.ifCond .ne 5, 3) := by decide +kernel
theorem dX12_undo_14 : decode cX12_undo 14 = .ok (.aload_n 0, 1) := by decide +kernel
theorem dX12_undo_15 : decode cX12_undo 15 = .ok (.dup, 1) := by decide +kernel
theorem dX12_undo_16 : decode cX12_undo 16 = .ok (.getfield 345, 3) := by decide +kernel
theorem dX12_undo_19 : decode cX12_undo 19 = .ok (.iconst 1, 1) := by decide +kernel
theorem dX12_undo_20 : decode cX12_undo 20 = .ok (.isub, 1) := by decide +kernel
theorem dX12_undo_21 : decode cX12_undo 21 = .ok (.putfield 345, 3) := by decide +kernel
theorem dX12_undo_24 : decode cX12_undo 24 = .ok (.aload_n 0, 1) := by decide +kernel
theorem dX12_undo_25 : decode cX12_undo 25 = .ok (.getfield 132, 3) := by decide +kernel
theorem dX12_undo_28 : decode cX12_undo 28 = .ok (.iconst 2, 1) := by decide +kernel
theorem dX12_undo_29 : decode cX12_undo 29 = .ok (.aload_n 0, 1) := by decide +kernel
theorem dX12_undo_30 : decode cX12_undo 30 = .ok (.getfield 345, 3) := by decide +kernel
theorem dX12_undo_33 : decode cX12_undo 33 = .ok (.imul, 1) := by decide +kernel
theorem dX12_undo_34 : decode cX12_undo 34 = .ok (.iaload, 1) := by decide +kernel
theorem dX12_undo_35 : decode cX12_undo 35 = .ok (.bipush 48, 2) := by decide +kernel
theorem dX12_undo_89 : decode cX12_undo 89 = .ok (.aload_n 0, 1) := by decide +kernel
theorem dX12_undo_90 : decode cX12_undo 90 = .ok (.getfield 345, 3) := by decide +kernel
theorem dX12_undo_93 : decode cX12_undo 93 = .ok (.ireturn, 1) := by decide +kernel
theorem dX12_undo_37 : decode cX12_undo 37 = .ok (.if_icmp .ne 23, 3) := by decide +kernel
theorem dX12_undo_60 : decode cX12_undo 60 = .ok (.aload_n 0, 1) := by decide +kernel
theorem dX12_undo_61 : decode cX12_undo 61 = .ok (.getfield 50, 3) := by decide +kernel
theorem dX12_undo_64 : decode cX12_undo 64 = .ok (.aload_n 0, 1) := by decide +kernel
theorem dX12_undo_65 : decode cX12_undo 65 = .ok (.getfield 132, 3) := by decide +kernel
theorem dX12_undo_68 : decode cX12_undo 68 = .ok (.iconst 2, 1) := by decide +kernel
theorem dX12_undo_69 : decode cX12_undo 69 = .ok (.aload_n 0, 1) := by decide +kernel
theorem dX12_undo_70 : decode cX12_undo 70 = .ok (.getfield 345, 3) := by decide +kernel
theorem dX12_undo_73 : decode cX12_undo 73 = .ok (.imul, 1) := by decide +kernel
theorem dX12_undo_74 : decode cX12_undo 74 = .ok (.iaload, 1) := by decide +kernel
theorem dX12_undo_75 : decode cX12_undo 75 = .ok (.aload_n 0, 1) := by decide +kernel
theorem dX12_undo_76 : decode cX12_undo 76 = .ok (.getfield 132, 3) := by decide +kernel
theorem dX12_undo_79 : decode cX12_undo 79 = .ok (.iconst 2, 1) := by decide +kernel
theorem dX12_undo_80 : decode cX12_undo 80 = .ok (.aload_n 0, 1) := by decide +kernel
theorem dX12_undo_81 : decode cX12_undo 81 = .ok (.getfield 345, 3) := by decide +kernel
theorem dX12_undo_84 : decode cX12_undo 84 = .ok (.imul, 1) := by decide +kernel
theorem dX12_undo_85 : decode cX12_undo 85 = .ok (.iconst 1, 1) := by decide +kernel
theorem dX12_undo_86 : decode cX12_undo 86 = .ok (.iadd, 1) := by decide +kernel
theorem dX12_undo_87 : decode cX12_undo 87 = .ok (.iaload, 1) := by decide +kernel
theorem dX12_undo_88 : decode cX12_undo 88 = .ok (.iastore, 1) := by decide +kernel
theorem dX12_undo_40 : decode cX12_undo 40 = .ok (.aload_n 0, 1) := by decide +kernel
theorem dX12_undo_41 : decode cX12_undo 41 = .ok (.aload_n 0, 1) := by decide +kernel
theorem dX12_undo_42 : decode cX12_undo 42 = .ok (.getfield 132, 3) := by decide +kernel
theorem dX12_undo_45 : decode cX12_undo 45 = .ok (.iconst 2, 1) := by decide +kernel
theorem dX12_undo_46 : decode cX12_undo 46 = .ok (.aload_n 0, 1) := by decide +kernel
theorem dX12_undo_47 : decode cX12_undo 47 = .ok (.getfield 345, 3) := by decide +kernel
theorem dX12_undo_50 : decode cX12_undo 50 = .ok (.imul, 1) := by decide +kernel
theorem dX12_undo_51 : decode cX12_undo 51 = .ok (.iconst 1, 1) := by decide +kernel
theorem dX12_undo_52 : decode cX12_undo 52 = .ok (.iadd, 1) := by decide +kernel
theorem dX12_undo_53 : decode cX12_undo 53 = .ok (.iaload, 1) := by decide +kernel
theorem dX12_undo_54 : decode cX12_undo 54 = .ok (.putfield 105, 3) := by decide +kernel
theorem dX12_undo_57 : decode cX12_undo 57 = .ok (.goto 32, 3) := by decide +kernel
theorem dX12_undo_12 : decode cX12_undo 12 = .ok (.iconst (-1), 1) := by decide +kernel
theorem dX12_undo_13 : decode cX12_undo 13 = .ok (.ireturn, 1) := by decide +kernel
theorem tw_1487 : (Jvm.Cond.fieldLink "MarshBellsModel" (135 : Nat) "MarshBellsModel" "endsNow" "[I") ∈ lw_tbl := tk_7 (List.mem_of_getElem? (i := 47) rfl)
theorem fl_X12_135 : kFL RX12 135 12 88 64 := ⟨RX12, TX12, rfl, by decide, inWX12, tw_1487⟩
theorem dX12_moreBy_0 : decode cX12_moreBy 0 = .ok (.aload_n 0, 1) := by decide +kernel
theorem dX12_moreBy_1 : decode cX12_moreBy 1 = .ok (.invokevirtual 386, 3) := by decide +kernel
theorem dX12_moreBy_4 : decode cX12_moreBy 4 = .ok (.aload_n 0, 1) := by decide +kernel
theorem dX12_moreBy_5 : decode cX12_moreBy 5 = .ok (.aload_n 0, 1) := by decide +kernel
theorem dX12_moreBy_6 : decode cX12_moreBy 6 = .ok (.getfield 117, 3) := by decide +kernel
theorem dX12_moreBy_9 : decode cX12_moreBy 9 = .ok (.aload_n 0, 1) := by decide +kernel
theorem dX12_moreBy_10 : decode cX12_moreBy 10 = .ok (.getfield 135, 3) := by decide +kernel
theorem dX12_moreBy_13 : decode cX12_moreBy 13 = .ok (.invokevirtual 341, 3) := by decide +kernel
theorem dX12_moreBy_16 : decode cX12_moreBy 16 = .ok (.aload_n 0, 1) := by decide +kernel
theorem tw_1923 : (Jvm.Cond.methodLink "MarshBellsModel" (418 : Nat) ({ cls := "MarshBellsModel", name := "lates", desc := "()I" } : Jvm.MethodName)) ∈ lw_tbl := tk_9 (List.mem_of_getElem? (i := 3) rfl)
theorem tw_1926 : (Jvm.Cond.code ({ cls := "MarshBellsModel", name := "lates", desc := "()I" } : Jvm.MethodName) prog_14_method_48_code (3 : Nat) (Option.some Jvm.ClassFile.FieldType.int)) ∈ lw_tbl := tk_9 (List.mem_of_getElem? (i := 6) rfl)
theorem tw_1925 : (Jvm.Cond.instanceMethod ({ cls := "MarshBellsModel", name := "lates", desc := "()I" } : Jvm.MethodName)) ∈ lw_tbl := tk_9 (List.mem_of_getElem? (i := 5) rfl)
theorem se_X12_lates : Cond.selects RX12 yX12_lates yX12_lates ∈ lw_tbl := List.mem_append_left _ (List.mem_of_getElem? (i := 147) rfl)
theorem li_X12_418 : kLV RX12 418 RX12 yX12_lates cX12_lates 3 (some .int) 0 := ⟨tw_1923, tw_1925, se_X12_lates, tw_1926, tw_13, by decide +kernel⟩
theorem dX12_moreBy_17 : decode cX12_moreBy 17 = .ok (.invokevirtual 418, 3) := by decide +kernel
theorem dX12_moreBy_20 : decode cX12_moreBy 20 = .ok (.istore_n 3, 1) := by decide +kernel
theorem dX12_moreBy_21 : decode cX12_moreBy 21 = .ok (.aload_n 0, 1) := by decide +kernel
theorem dX12_moreBy_22 : decode cX12_moreBy 22 = .ok (.getfield 50, 3) := by decide +kernel
theorem dX12_moreBy_25 : decode cX12_moreBy 25 = .ok (.iconst 0, 1) := by decide +kernel
theorem dX12_moreBy_26 : decode cX12_moreBy 26 = .ok (.iload_n 1, 1) := by decide +kernel
theorem dX12_moreBy_27 : decode cX12_moreBy 27 = .ok (.iadd, 1) := by decide +kernel
theorem dX12_moreBy_28 : decode cX12_moreBy 28 = .ok (.dup2, 1) := by decide +kernel
theorem dX12_moreBy_29 : decode cX12_moreBy 29 = .ok (.iaload, 1) := by decide +kernel
theorem dX12_moreBy_30 : decode cX12_moreBy 30 = .ok (.iload_n 2, 1) := by decide +kernel
theorem dX12_moreBy_31 : decode cX12_moreBy 31 = .ok (.iadd, 1) := by decide +kernel
theorem dX12_moreBy_32 : decode cX12_moreBy 32 = .ok (.iastore, 1) := by decide +kernel
theorem dX12_moreBy_33 : decode cX12_moreBy 33 = .ok (.aload_n 0, 1) := by decide +kernel
theorem dX12_moreBy_34 : decode cX12_moreBy 34 = .ok (.iload_n 1, 1) := by decide +kernel
theorem ft_X12_61 : kFT 12 61 .int false RX12 := ⟨RX12, TX12, 88, tyX12, rfl, tyX12_ok, nmX12, rfl, by decide +kernel, rfl⟩
theorem dX12_moreBy_35 : decode cX12_moreBy 35 = .ok (.putfield 129, 3) := by decide +kernel
theorem dX12_moreBy_38 : decode cX12_moreBy 38 = .ok (.aload_n 0, 1) := by decide +kernel
theorem dX12_moreBy_39 : decode cX12_moreBy 39 = .ok (.invokevirtual 386, 3) := by decide +kernel
theorem dX12_moreBy_42 : decode cX12_moreBy 42 = .ok (.aload_n 0, 1) := by decide +kernel
theorem dX12_moreBy_43 : decode cX12_moreBy 43 = .ok (.iconst (-1), 1) := by decide +kernel
theorem dX12_moreBy_44 : decode cX12_moreBy 44 = .ok (.putfield 129, 3) := by decide +kernel
theorem dX12_moreBy_47 : decode cX12_moreBy 47 = .ok (.aload_n 0, 1) := by decide +kernel
theorem dX12_moreBy_48 : decode cX12_moreBy 48 = .ok (.getfield 50, 3) := by decide +kernel
theorem dX12_moreBy_51 : decode cX12_moreBy 51 = .ok (.iconst 0, 1) := by decide +kernel
theorem dX12_moreBy_52 : decode cX12_moreBy 52 = .ok (.iload_n 1, 1) := by decide +kernel
theorem dX12_moreBy_53 : decode cX12_moreBy 53 = .ok (.iadd, 1) := by decide +kernel
theorem dX12_moreBy_54 : decode cX12_moreBy 54 = .ok (.dup2, 1) := by decide +kernel
theorem dX12_moreBy_55 : decode cX12_moreBy 55 = .ok (.iaload, 1) := by decide +kernel
theorem dX12_moreBy_56 : decode cX12_moreBy 56 = .ok (.iload_n 2, 1) := by decide +kernel
theorem dX12_moreBy_57 : decode cX12_moreBy 57 = .ok (.isub, 1) := by decide +kernel
theorem dX12_moreBy_58 : decode cX12_moreBy 58 = .ok (.iastore, 1) := by decide +kernel
theorem dX12_moreBy_59 : decode cX12_moreBy 59 = .ok (.aload_n 0, 1) := by decide +kernel
theorem dX12_moreBy_60 : decode cX12_moreBy 60 = .ok (.invokevirtual 418, 3) := by decide +kernel
theorem dX12_moreBy_63 : decode cX12_moreBy 63 = .ok (.iload_n 3, 1) := by decide +kernel
theorem dX12_moreBy_64 : decode cX12_moreBy 64 = .ok (.isub, 1) := by decide +kernel
theorem dX12_moreBy_65 : decode cX12_moreBy 65 = .ok (.ireturn, 1) := by decide +kernel
theorem dX12_later_0 : decode cX12_later 0 = .ok (.iconst 0, 1) := by decide +kernel
theorem dX12_later_1 : decode cX12_later 1 = .ok (.istore_n 1, 1) := by decide +kernel
theorem dX12_later_2 : decode cX12_later 2 = .ok (.iconst 0, 1) := by decide +kernel
theorem dX12_later_3 : decode cX12_later 3 = .ok (.istore_n 2, 1) := by decide +kernel
theorem dX12_later_4 : decode cX12_later 4 = .ok (.iload_n 2, 1) := by decide +kernel
theorem dX12_later_5 : decode cX12_later 5 = .ok (.aload_n 0, 1) := by decide +kernel
theorem dX12_later_6 : decode cX12_later 6 = .ok (.getfield 335, 3) := by decide +kernel
theorem dX12_later_9 : decode cX12_later 9 = .ok (.if_icmp .ge 34, 3) := by decide +kernel
theorem dX12_later_43 : decode cX12_later 43 = .ok (.iload_n 1, 1) := by decide +kernel
theorem dX12_later_44 : decode cX12_later 44 = .ok (.ireturn, 1) := by decide +kernel
theorem dX12_later_12 : decode cX12_later 12 = .ok (.iload_n 1, 1) := by decide +kernel
theorem dX12_later_13 : decode cX12_later 13 = .ok (.aload_n 0, 1) := by decide +kernel
theorem dX12_later_14 : decode cX12_later 14 = .ok (.getfield 117, 3) := by decide +kernel
theorem dX12_later_17 : decode cX12_later 17 = .ok (.iload_n 2, 1) := by decide +kernel
theorem dX12_later_18 : decode cX12_later 18 = .ok (.iaload, 1) := by decide +kernel
theorem dX12_later_19 : decode cX12_later 19 = .ok (.aload_n 0, 1) := by decide +kernel
theorem dX12_later_20 : decode cX12_later 20 = .ok (.getfield 135, 3) := by decide +kernel
theorem dX12_later_23 : decode cX12_later 23 = .ok (.iload_n 2, 1) := by decide +kernel
theorem dX12_later_24 : decode cX12_later 24 = .ok (.iaload, 1) := by decide +kernel
theorem dX12_later_35 : decode cX12_later 35 = .ok (.ior, 1) := by decide +kernel
theorem dX12_later_36 : decode cX12_later 36 = .ok (.istore_n 1, 1) := by decide +kernel
theorem dX12_later_37 : decode cX12_later 37 = .ok (.iinc 2 1, 3) := by decide +kernel
theorem dX12_later_40 : decode cX12_later 40 = .ok (.goto (-36), 3) := by decide +kernel
theorem dX12_later_25 : decode cX12_later 25 = .ok (.if_icmp .le 9, 3) := by decide +kernel
theorem dX12_later_34 : decode cX12_later 34 = .ok (.iconst 0, 1) := by decide +kernel
theorem dX12_later_28 : decode cX12_later 28 = .ok (.iconst 1, 1) := by decide +kernel
theorem dX12_later_29 : decode cX12_later 29 = .ok (.iload_n 2, 1) := by decide +kernel
theorem dX12_later_30 : decode cX12_later 30 = .ok (.ishl, 1) := by decide +kernel
theorem dX12_later_31 : decode cX12_later 31 = .ok (.goto 4, 3) := by decide +kernel
theorem dX12_far_0 : decode cX12_far 0 = .ok (.aload_n 0, 1) := by decide +kernel
theorem dX12_far_1 : decode cX12_far 1 = .ok (.iconst 0, 1) := by decide +kernel
theorem dX12_far_2 : decode cX12_far 2 = .ok (.putfield 177, 3) := by decide +kernel
theorem dX12_far_5 : decode cX12_far 5 = .ok (.aload_n 0, 1) := by decide +kernel
theorem dX12_far_6 : decode cX12_far 6 = .ok (.iload_n 1, 1) := by decide +kernel
theorem dX12_far_7 : decode cX12_far 7 = .ok (.invokevirtual 402, 3) := by decide +kernel
theorem dX12_far_37 : decode cX12_far 37 = .ok (.iconst 0, 1) := by decide +kernel
theorem dX12_far_38 : decode cX12_far 38 = .ok (.ireturn, 1) := by decide +kernel
theorem dX12_far_10 : decode cX12_far 10 = .ok (.ifCond .eq 27, 3) := by decide +kernel
theorem dX12_far_13 : decode cX12_far 13 = .ok (.aload_n 0, 1) := by decide +kernel
theorem dX12_far_14 : decode cX12_far 14 = .ok (.iload_n 3, 1) := by decide +kernel
theorem dX12_far_15 : decode cX12_far 15 = .ok (.iconst 1, 1) := by decide +kernel
theorem dX12_far_16 : decode cX12_far 16 = .ok (.invokevirtual 405, 3) := by decide +kernel
theorem dX12_far_19 : decode cX12_far 19 = .ok (.ifCond .eq 18, 3) := by decide +kernel
theorem dX12_far_22 : decode cX12_far 22 = .ok (.aload_n 0, 1) := by decide +kernel
theorem dX12_far_23 : decode cX12_far 23 = .ok (.iload_n 2, 1) := by decide +kernel
theorem dX12_far_24 : decode cX12_far 24 = .ok (.iconst 0, 1) := by decide +kernel
theorem dX12_far_25 : decode cX12_far 25 = .ok (.bipush 120, 2) := by decide +kernel
theorem dX12_far_27 : decode cX12_far 27 = .ok (.invokestatic 392, 3) := by decide +kernel
theorem dX12_far_30 : decode cX12_far 30 = .ok (.iconst 2, 1) := by decide +kernel
theorem dX12_far_31 : decode cX12_far 31 = .ok (.invokevirtual 328, 3) := by decide +kernel
theorem dX12_far_34 : decode cX12_far 34 = .ok (.ifCond .ne 5, 3) := by decide +kernel
theorem dX12_far_39 : decode cX12_far 39 = .ok (.aload_n 0, 1) := by decide +kernel
theorem dX12_far_40 : decode cX12_far 40 = .ok (.iload_n 1, 1) := by decide +kernel
theorem dX12_far_41 : decode cX12_far 41 = .ok (.iload_n 2, 1) := by decide +kernel
theorem tw_1919 : (Jvm.Cond.methodLink "MarshBellsModel" (421 : Nat) ({ cls := "MarshBellsModel", name := "moreBy", desc := "(II)I" } : Jvm.MethodName)) ∈ lw_tbl := tk_8 (List.mem_of_getElem? (i := 239) rfl)
theorem tw_1922 : (Jvm.Cond.code ({ cls := "MarshBellsModel", name := "moreBy", desc := "(II)I" } : Jvm.MethodName) prog_14_method_62_code (4 : Nat) (Option.some Jvm.ClassFile.FieldType.int)) ∈ lw_tbl := tk_9 (List.mem_of_getElem? (i := 2) rfl)
theorem tw_1921 : (Jvm.Cond.instanceMethod ({ cls := "MarshBellsModel", name := "moreBy", desc := "(II)I" } : Jvm.MethodName)) ∈ lw_tbl := tk_9 (List.mem_of_getElem? (i := 1) rfl)
theorem se_X12_moreBy : Cond.selects RX12 yX12_moreBy yX12_moreBy ∈ lw_tbl := List.mem_append_left _ (List.mem_of_getElem? (i := 146) rfl)
theorem li_X12_421 : kLV RX12 421 RX12 yX12_moreBy cX12_moreBy 4 (some .int) 2 := ⟨tw_1919, tw_1921, se_X12_moreBy, tw_1922, tw_13, by decide +kernel⟩
theorem dX12_far_42 : decode cX12_far 42 = .ok (.invokevirtual 421, 3) := by decide +kernel
theorem dX12_far_45 : decode cX12_far 45 = .ok (.istore 4, 2) := by decide +kernel
theorem dX12_far_47 : decode cX12_far 47 = .ok (.iload_n 3, 1) := by decide +kernel
theorem dX12_far_60 : decode cX12_far 60 = .ok (.ireturn, 1) := by decide +kernel
theorem dX12_far_48 : decode cX12_far 48 = .ok (.ifCond .ne 10, 3) := by decide +kernel
theorem dX12_far_58 : decode cX12_far 58 = .ok (.iload 4, 2) := by decide +kernel
theorem dX12_far_51 : decode cX12_far 51 = .ok (.aload_n 0, 1) := by decide +kernel
theorem tw_1927 : (Jvm.Cond.methodLink "MarshBellsModel" (424 : Nat) ({ cls := "MarshBellsModel", name := "later", desc := "()I" } : Jvm.MethodName)) ∈ lw_tbl := tk_9 (List.mem_of_getElem? (i := 7) rfl)
theorem tw_1930 : (Jvm.Cond.code ({ cls := "MarshBellsModel", name := "later", desc := "()I" } : Jvm.MethodName) prog_14_method_63_code (3 : Nat) (Option.some Jvm.ClassFile.FieldType.int)) ∈ lw_tbl := tk_9 (List.mem_of_getElem? (i := 10) rfl)
theorem tw_1929 : (Jvm.Cond.instanceMethod ({ cls := "MarshBellsModel", name := "later", desc := "()I" } : Jvm.MethodName)) ∈ lw_tbl := tk_9 (List.mem_of_getElem? (i := 9) rfl)
theorem se_X12_later : Cond.selects RX12 yX12_later yX12_later ∈ lw_tbl := List.mem_append_left _ (List.mem_of_getElem? (i := 148) rfl)
theorem li_X12_424 : kLV RX12 424 RX12 yX12_later cX12_later 3 (some .int) 0 := ⟨tw_1927, tw_1929, se_X12_later, tw_1930, tw_13, by decide +kernel⟩
theorem dX12_far_52 : decode cX12_far 52 = .ok (.invokevirtual 424, 3) := by decide +kernel
theorem dX12_far_55 : decode cX12_far 55 = .ok (.goto 5, 3) := by decide +kernel
theorem dX12_reaches_0 : decode cX12_reaches 0 = .ok (.aload_n 0, 1) := by decide +kernel
theorem dX12_reaches_1 : decode cX12_reaches 1 = .ok (.iconst 0, 1) := by decide +kernel
theorem dX12_reaches_2 : decode cX12_reaches 2 = .ok (.putfield 177, 3) := by decide +kernel
theorem dX12_reaches_5 : decode cX12_reaches 5 = .ok (.aload_n 0, 1) := by decide +kernel
theorem dX12_reaches_6 : decode cX12_reaches 6 = .ok (.iload_n 1, 1) := by decide +kernel
theorem dX12_reaches_7 : decode cX12_reaches 7 = .ok (.invokevirtual 402, 3) := by decide +kernel
theorem dX12_reaches_39 : decode cX12_reaches 39 = .ok (.iconst 0, 1) := by decide +kernel
theorem dX12_reaches_40 : decode cX12_reaches 40 = .ok (.ireturn, 1) := by decide +kernel
theorem dX12_reaches_10 : decode cX12_reaches 10 = .ok (.ifCond .eq 29, 3) := by decide +kernel
theorem dX12_reaches_13 : decode cX12_reaches 13 = .ok (.aload_n 0, 1) := by decide +kernel
theorem dX12_reaches_14 : decode cX12_reaches 14 = .ok (.iload_n 2, 1) := by decide +kernel
theorem dX12_reaches_15 : decode cX12_reaches 15 = .ok (.invokevirtual 402, 3) := by decide +kernel
theorem dX12_reaches_18 : decode cX12_reaches 18 = .ok (.ifCond .eq 21, 3) := by decide +kernel
theorem dX12_reaches_21 : decode cX12_reaches 21 = .ok (.aload_n 0, 1) := by decide +kernel
theorem dX12_reaches_22 : decode cX12_reaches 22 = .ok (.iload_n 1, 1) := by decide +kernel
theorem dX12_reaches_23 : decode cX12_reaches 23 = .ok (.iload_n 2, 1) := by decide +kernel
theorem dX12_reaches_32 : decode cX12_reaches 32 = .ok (.iconst 2, 1) := by decide +kernel
theorem dX12_reaches_33 : decode cX12_reaches 33 = .ok (.invokevirtual 328, 3) := by decide +kernel
theorem dX12_reaches_36 : decode cX12_reaches 36 = .ok (.ifCond .ne 5, 3) := by decide +kernel
theorem dX12_reaches_41 : decode cX12_reaches 41 = .ok (.iconst 1, 1) := by decide +kernel
theorem dX12_reaches_42 : decode cX12_reaches 42 = .ok (.istore_n 3, 1) := by decide +kernel
theorem dX12_reaches_43 : decode cX12_reaches 43 = .ok (.iload_n 3, 1) := by decide +kernel
theorem dX12_reaches_44 : decode cX12_reaches 44 = .ok (.bipush 120, 2) := by decide +kernel
theorem dX12_reaches_46 : decode cX12_reaches 46 = .ok (.if_icmp .gt 30, 3) := by decide +kernel
theorem dX12_reaches_76 : decode cX12_reaches 76 = .ok (.iconst (-1), 1) := by decide +kernel
theorem dX12_reaches_77 : decode cX12_reaches 77 = .ok (.ireturn, 1) := by decide +kernel
theorem dX12_reaches_49 : decode cX12_reaches 49 = .ok (.aload_n 0, 1) := by decide +kernel
theorem dX12_reaches_50 : decode cX12_reaches 50 = .ok (.iload_n 1, 1) := by decide +kernel
theorem dX12_reaches_51 : decode cX12_reaches 51 = .ok (.iload_n 3, 1) := by decide +kernel
theorem dX12_reaches_52 : decode cX12_reaches 52 = .ok (.invokevirtual 421, 3) := by decide +kernel
theorem dX12_reaches_55 : decode cX12_reaches 55 = .ok (.pop, 1) := by decide +kernel
theorem dX12_reaches_56 : decode cX12_reaches 56 = .ok (.aload_n 0, 1) := by decide +kernel
theorem dX12_reaches_57 : decode cX12_reaches 57 = .ok (.invokevirtual 424, 3) := by decide +kernel
theorem dX12_reaches_60 : decode cX12_reaches 60 = .ok (.iload_n 2, 1) := by decide +kernel
theorem dX12_reaches_61 : decode cX12_reaches 61 = .ok (.ishr, 1) := by decide +kernel
theorem dX12_reaches_62 : decode cX12_reaches 62 = .ok (.iconst 1, 1) := by decide +kernel
theorem dX12_reaches_63 : decode cX12_reaches 63 = .ok (.iand, 1) := by decide +kernel
theorem dX12_reaches_64 : decode cX12_reaches 64 = .ok (.iconst 1, 1) := by decide +kernel
theorem dX12_reaches_65 : decode cX12_reaches 65 = .ok (.if_icmp .ne 5, 3) := by decide +kernel
theorem dX12_reaches_70 : decode cX12_reaches 70 = .ok (.iinc 3 1, 3) := by decide +kernel
theorem dX12_reaches_73 : decode cX12_reaches 73 = .ok (.goto (-30), 3) := by decide +kernel
theorem dX12_reaches_68 : decode cX12_reaches 68 = .ok (.iload_n 3, 1) := by decide +kernel
theorem dX12_reaches_69 : decode cX12_reaches 69 = .ok (.ireturn, 1) := by decide +kernel
theorem dX12_reaches_24 : decode cX12_reaches 24 = .ok (.if_icmp .eq 7, 3) := by decide +kernel
theorem dX12_reaches_31 : decode cX12_reaches 31 = .ok (.iconst 0, 1) := by decide +kernel
theorem dX12_reaches_27 : decode cX12_reaches 27 = .ok (.iconst 1, 1) := by decide +kernel
theorem dX12_reaches_28 : decode cX12_reaches 28 = .ok (.goto 4, 3) := by decide +kernel
theorem dX12_slack_0 : decode cX12_slack 0 = .ok (.aload_n 0, 1) := by decide +kernel
theorem dX12_slack_1 : decode cX12_slack 1 = .ok (.iconst 0, 1) := by decide +kernel
theorem dX12_slack_2 : decode cX12_slack 2 = .ok (.putfield 177, 3) := by decide +kernel
theorem dX12_slack_5 : decode cX12_slack 5 = .ok (.aload_n 0, 1) := by decide +kernel
theorem dX12_slack_6 : decode cX12_slack 6 = .ok (.iload_n 1, 1) := by decide +kernel
theorem dX12_slack_7 : decode cX12_slack 7 = .ok (.invokevirtual 402, 3) := by decide +kernel
theorem dX12_slack_10 : decode cX12_slack 10 = .ok (.ifCond .ne 5, 3) := by decide +kernel
theorem dX12_slack_15 : decode cX12_slack 15 = .ok (.bipush 120, 2) := by decide +kernel
theorem dX12_slack_17 : decode cX12_slack 17 = .ok (.istore_n 2, 1) := by decide +kernel
theorem dX12_slack_18 : decode cX12_slack 18 = .ok (.iload_n 2, 1) := by decide +kernel
theorem dX12_slack_19 : decode cX12_slack 19 = .ok (.ifCond .le 31, 3) := by decide +kernel
theorem dX12_slack_50 : decode cX12_slack 50 = .ok (.iconst 0, 1) := by decide +kernel
theorem dX12_slack_51 : decode cX12_slack 51 = .ok (.ireturn, 1) := by decide +kernel
theorem dX12_slack_22 : decode cX12_slack 22 = .ok (.aload_n 0, 1) := by decide +kernel
theorem dX12_slack_23 : decode cX12_slack 23 = .ok (.iload_n 1, 1) := by decide +kernel
theorem dX12_slack_24 : decode cX12_slack 24 = .ok (.iload_n 2, 1) := by decide +kernel
theorem dX12_slack_25 : decode cX12_slack 25 = .ok (.invokevirtual 421, 3) := by decide +kernel
theorem dX12_slack_28 : decode cX12_slack 28 = .ok (.pop, 1) := by decide +kernel
theorem dX12_slack_29 : decode cX12_slack 29 = .ok (.aload_n 0, 1) := by decide +kernel
theorem dX12_slack_30 : decode cX12_slack 30 = .ok (.invokevirtual 424, 3) := by decide +kernel
theorem dX12_slack_33 : decode cX12_slack 33 = .ok (.iconst 1, 1) := by decide +kernel
theorem dX12_slack_34 : decode cX12_slack 34 = .ok (.iload_n 1, 1) := by decide +kernel
theorem dX12_slack_35 : decode cX12_slack 35 = .ok (.ishl, 1) := by decide +kernel
theorem dX12_slack_36 : decode cX12_slack 36 = .ok (.iconst (-1), 1) := by decide +kernel
theorem dX12_slack_37 : decode cX12_slack 37 = .ok (.ixor, 1) := by decide +kernel
theorem dX12_slack_38 : decode cX12_slack 38 = .ok (.iand, 1) := by decide +kernel
theorem dX12_slack_39 : decode cX12_slack 39 = .ok (.ifCond .ne 5, 3) := by decide +kernel
theorem dX12_slack_44 : decode cX12_slack 44 = .ok (.iinc 2 (-1), 3) := by decide +kernel
theorem dX12_slack_47 : decode cX12_slack 47 = .ok (.goto (-29), 3) := by decide +kernel
theorem dX12_slack_42 : decode cX12_slack 42 = .ok (.iload_n 2, 1) := by decide +kernel
theorem dX12_slack_43 : decode cX12_slack 43 = .ok (.ireturn, 1) := by decide +kernel
theorem dX12_slack_13 : decode cX12_slack 13 = .ok (.iconst 0, 1) := by decide +kernel
theorem dX12_slack_14 : decode cX12_slack 14 = .ok (.ireturn, 1) := by decide +kernel
theorem dX12_bits_0 : decode cX12_bits 0 = .ok (.iconst 0, 1) := by decide +kernel
theorem dX12_bits_1 : decode cX12_bits 1 = .ok (.istore_n 1, 1) := by decide +kernel
theorem dX12_bits_2 : decode cX12_bits 2 = .ok (.iconst 0, 1) := by decide +kernel
theorem dX12_bits_3 : decode cX12_bits 3 = .ok (.istore_n 2, 1) := by decide +kernel
theorem dX12_bits_4 : decode cX12_bits 4 = .ok (.iload_n 2, 1) := by decide +kernel
theorem dX12_bits_5 : decode cX12_bits 5 = .ok (.bipush 12, 2) := by decide +kernel
theorem dX12_bits_7 : decode cX12_bits 7 = .ok (.if_icmp .ge 17, 3) := by decide +kernel
theorem dX12_bits_24 : decode cX12_bits 24 = .ok (.iload_n 1, 1) := by decide +kernel
theorem dX12_bits_25 : decode cX12_bits 25 = .ok (.ireturn, 1) := by decide +kernel
theorem dX12_bits_10 : decode cX12_bits 10 = .ok (.iload_n 1, 1) := by decide +kernel
theorem dX12_bits_11 : decode cX12_bits 11 = .ok (.iload_n 0, 1) := by decide +kernel
theorem dX12_bits_12 : decode cX12_bits 12 = .ok (.iload_n 2, 1) := by decide +kernel
theorem dX12_bits_13 : decode cX12_bits 13 = .ok (.ishr, 1) := by decide +kernel
theorem dX12_bits_14 : decode cX12_bits 14 = .ok (.iconst 1, 1) := by decide +kernel
theorem dX12_bits_15 : decode cX12_bits 15 = .ok (.iand, 1) := by decide +kernel
theorem dX12_bits_16 : decode cX12_bits 16 = .ok (.iadd, 1) := by decide +kernel
theorem dX12_bits_17 : decode cX12_bits 17 = .ok (.istore_n 1, 1) := by decide +kernel
theorem dX12_bits_18 : decode cX12_bits 18 = .ok (.iinc 2 1, 3) := by decide +kernel
theorem dX12_bits_21 : decode cX12_bits 21 = .ok (.goto (-17), 3) := by decide +kernel
theorem tw_1490 : (Jvm.Cond.fieldLink "MarshBellsModel" (141 : Nat) "MarshBellsModel" "gapWas" "[I") ∈ lw_tbl := tk_7 (List.mem_of_getElem? (i := 50) rfl)
theorem fl_X12_141 : kFL RX12 141 12 88 67 := ⟨RX12, TX12, rfl, by decide, inWX12, tw_1490⟩
theorem tw_1491 : (Jvm.Cond.fieldLink "MarshBellsModel" (144 : Nat) "MarshBellsModel" "inSet" "[I") ∈ lw_tbl := tk_7 (List.mem_of_getElem? (i := 51) rfl)
theorem fl_X12_144 : kFL RX12 144 12 88 68 := ⟨RX12, TX12, rfl, by decide, inWX12, tw_1491⟩
theorem tw_1489 : (Jvm.Cond.fieldLink "MarshBellsModel" (138 : Nat) "MarshBellsModel" "gapKept" "[I") ∈ lw_tbl := tk_7 (List.mem_of_getElem? (i := 49) rfl)
theorem fl_X12_138 : kFL RX12 138 12 88 66 := ⟨RX12, TX12, rfl, by decide, inWX12, tw_1489⟩
theorem dX12_gaps_0 : decode cX12_gaps 0 = .ok (.aload_n 0, 1) := by decide +kernel
theorem dX12_gaps_1 : decode cX12_gaps 1 = .ok (.iconst 0, 1) := by decide +kernel
theorem dX12_gaps_2 : decode cX12_gaps 2 = .ok (.putfield 177, 3) := by decide +kernel
theorem dX12_gaps_5 : decode cX12_gaps 5 = .ok (.aload_n 0, 1) := by decide +kernel
theorem dX12_gaps_6 : decode cX12_gaps 6 = .ok (.iload_n 2, 1) := by decide +kernel
theorem dX12_gaps_7 : decode cX12_gaps 7 = .ok (.invokevirtual 402, 3) := by decide +kernel
theorem dX12_gaps_59 : decode cX12_gaps 59 = .ok (.iconst 0, 1) := by decide +kernel
theorem dX12_gaps_60 : decode cX12_gaps 60 = .ok (.ireturn, 1) := by decide +kernel
theorem dX12_gaps_10 : decode cX12_gaps 10 = .ok (.ifCond .eq 49, 3) := by decide +kernel
theorem dX12_gaps_13 : decode cX12_gaps 13 = .ok (.aload_n 0, 1) := by decide +kernel
theorem dX12_gaps_14 : decode cX12_gaps 14 = .ok (.iload_n 1, 1) := by decide +kernel
theorem dX12_gaps_52 : decode cX12_gaps 52 = .ok (.iconst 2, 1) := by decide +kernel
theorem dX12_gaps_53 : decode cX12_gaps 53 = .ok (.invokevirtual 328, 3) := by decide +kernel
theorem dX12_gaps_56 : decode cX12_gaps 56 = .ok (.ifCond .ne 5, 3) := by decide +kernel
theorem dX12_gaps_61 : decode cX12_gaps 61 = .ok (.iconst 0, 1) := by decide +kernel
theorem dX12_gaps_62 : decode cX12_gaps 62 = .ok (.istore 4, 2) := by decide +kernel
theorem dX12_gaps_64 : decode cX12_gaps 64 = .ok (.iconst 0, 1) := by decide +kernel
theorem dX12_gaps_65 : decode cX12_gaps 65 = .ok (.istore 5, 2) := by decide +kernel
theorem dX12_gaps_67 : decode cX12_gaps 67 = .ok (.iload 5, 2) := by decide +kernel
theorem dX12_gaps_69 : decode cX12_gaps 69 = .ok (.bipush 12, 2) := by decide +kernel
theorem dX12_gaps_71 : decode cX12_gaps 71 = .ok (.if_icmp .ge 50, 3) := by decide +kernel
theorem dX12_gaps_121 : decode cX12_gaps 121 = .ok (.iconst 1, 1) := by decide +kernel
theorem dX12_gaps_122 : decode cX12_gaps 122 = .ok (.istore 5, 2) := by decide +kernel
theorem dX12_gaps_124 : decode cX12_gaps 124 = .ok (.iconst 0, 1) := by decide +kernel
theorem dX12_gaps_125 : decode cX12_gaps 125 = .ok (.istore 6, 2) := by decide +kernel
theorem dX12_gaps_127 : decode cX12_gaps 127 = .ok (.iload 6, 2) := by decide +kernel
theorem dX12_gaps_129 : decode cX12_gaps 129 = .ok (.iload 4, 2) := by decide +kernel
theorem dX12_gaps_131 : decode cX12_gaps 131 = .ok (.if_icmp .ge 15, 3) := by decide +kernel
theorem dX12_gaps_146 : decode cX12_gaps 146 = .ok (.iconst (-1), 1) := by decide +kernel
theorem dX12_gaps_147 : decode cX12_gaps 147 = .ok (.istore 6, 2) := by decide +kernel
theorem dX12_gaps_149 : decode cX12_gaps 149 = .ok (.iconst 0, 1) := by decide +kernel
theorem dX12_gaps_150 : decode cX12_gaps 150 = .ok (.istore 7, 2) := by decide +kernel
theorem dX12_gaps_152 : decode cX12_gaps 152 = .ok (.iload 7, 2) := by decide +kernel
theorem dX12_gaps_154 : decode cX12_gaps 154 = .ok (.iload 5, 2) := by decide +kernel
theorem dX12_gaps_156 : decode cX12_gaps 156 = .ok (.if_icmp .ge 136, 3) := by decide +kernel
theorem dX12_gaps_292 : decode cX12_gaps 292 = .ok (.iconst 0, 1) := by decide +kernel
theorem dX12_gaps_293 : decode cX12_gaps 293 = .ok (.istore 7, 2) := by decide +kernel
theorem dX12_gaps_295 : decode cX12_gaps 295 = .ok (.iload 7, 2) := by decide +kernel
theorem dX12_gaps_297 : decode cX12_gaps 297 = .ok (.bipush 12, 2) := by decide +kernel
theorem dX12_gaps_299 : decode cX12_gaps 299 = .ok (.if_icmp .ge 26, 3) := by decide +kernel
theorem dX12_gaps_325 : decode cX12_gaps 325 = .ok (.iload 6, 2) := by decide +kernel
theorem dX12_gaps_327 : decode cX12_gaps 327 = .ok (.iconst (-1), 1) := by decide +kernel
theorem dX12_gaps_336 : decode cX12_gaps 336 = .ok (.iload 6, 2) := by decide +kernel
theorem dX12_gaps_338 : decode cX12_gaps 338 = .ok (.ireturn, 1) := by decide +kernel
theorem dX12_gaps_328 : decode cX12_gaps 328 = .ok (.if_icmp .eq 8, 3) := by decide +kernel
theorem dX12_gaps_331 : decode cX12_gaps 331 = .ok (.aload_n 0, 1) := by decide +kernel
theorem dX12_gaps_332 : decode cX12_gaps 332 = .ok (.iconst 1, 1) := by decide +kernel
theorem dX12_gaps_333 : decode cX12_gaps 333 = .ok (.putfield 351, 3) := by decide +kernel
theorem dX12_gaps_302 : decode cX12_gaps 302 = .ok (.aload_n 0, 1) := by decide +kernel
theorem dX12_gaps_303 : decode cX12_gaps 303 = .ok (.getfield 50, 3) := by decide +kernel
theorem dX12_gaps_306 : decode cX12_gaps 306 = .ok (.bipush 12, 2) := by decide +kernel
theorem dX12_gaps_308 : decode cX12_gaps 308 = .ok (.iload 7, 2) := by decide +kernel
theorem dX12_gaps_310 : decode cX12_gaps 310 = .ok (.iadd, 1) := by decide +kernel
theorem dX12_gaps_311 : decode cX12_gaps 311 = .ok (.aload_n 0, 1) := by decide +kernel
theorem dX12_gaps_312 : decode cX12_gaps 312 = .ok (.getfield 141, 3) := by decide +kernel
theorem dX12_gaps_315 : decode cX12_gaps 315 = .ok (.iload 7, 2) := by decide +kernel
theorem dX12_gaps_317 : decode cX12_gaps 317 = .ok (.iaload, 1) := by decide +kernel
theorem dX12_gaps_318 : decode cX12_gaps 318 = .ok (.iastore, 1) := by decide +kernel
theorem dX12_gaps_319 : decode cX12_gaps 319 = .ok (.iinc 7 1, 3) := by decide +kernel
theorem dX12_gaps_322 : decode cX12_gaps 322 = .ok (.goto (-27), 3) := by decide +kernel
theorem dX12_gaps_159 : decode cX12_gaps 159 = .ok (.iconst 0, 1) := by decide +kernel
theorem dX12_gaps_160 : decode cX12_gaps 160 = .ok (.istore 8, 2) := by decide +kernel
theorem dX12_gaps_162 : decode cX12_gaps 162 = .ok (.iload 7, 2) := by decide +kernel
theorem dX12_gaps_164 : decode cX12_gaps 164 = .ok (.istore 9, 2) := by decide +kernel
theorem dX12_gaps_166 : decode cX12_gaps 166 = .ok (.iload 4, 2) := by decide +kernel
theorem dX12_gaps_168 : decode cX12_gaps 168 = .ok (.iconst 1, 1) := by decide +kernel
theorem dX12_gaps_169 : decode cX12_gaps 169 = .ok (.isub, 1) := by decide +kernel
theorem dX12_gaps_170 : decode cX12_gaps 170 = .ok (.istore 10, 2) := by decide +kernel
theorem dX12_gaps_172 : decode cX12_gaps 172 = .ok (.iload 10, 2) := by decide +kernel
theorem dX12_gaps_174 : decode cX12_gaps 174 = .ok (.ifCond .lt 43, 3) := by decide +kernel
theorem dX12_gaps_217 : decode cX12_gaps 217 = .ok (.iload 6, 2) := by decide +kernel
theorem dX12_gaps_219 : decode cX12_gaps 219 = .ok (.iconst (-1), 1) := by decide +kernel
theorem dX12_gaps_286 : decode cX12_gaps 286 = .ok (.iinc 7 1, 3) := by decide +kernel
theorem dX12_gaps_289 : decode cX12_gaps 289 = .ok (.goto (-137), 3) := by decide +kernel
theorem dX12_gaps_233 : decode cX12_gaps 233 = .ok (.aload_n 0, 1) := by decide +kernel
theorem dX12_gaps_234 : decode cX12_gaps 234 = .ok (.invokevirtual 386, 3) := by decide +kernel
theorem dX12_gaps_237 : decode cX12_gaps 237 = .ok (.aload_n 0, 1) := by decide +kernel
theorem dX12_gaps_238 : decode cX12_gaps 238 = .ok (.iload_n 2, 1) := by decide +kernel
theorem dX12_gaps_239 : decode cX12_gaps 239 = .ok (.invokevirtual 389, 3) := by decide +kernel
theorem dX12_gaps_242 : decode cX12_gaps 242 = .ok (.iload_n 3, 1) := by decide +kernel
theorem dX12_gaps_243 : decode cX12_gaps 243 = .ok (.if_icmp .le 6, 3) := by decide +kernel
theorem dX12_gaps_249 : decode cX12_gaps 249 = .ok (.iload 8, 2) := by decide +kernel
theorem dX12_gaps_251 : decode cX12_gaps 251 = .ok (.istore 6, 2) := by decide +kernel
theorem dX12_gaps_253 : decode cX12_gaps 253 = .ok (.iconst 0, 1) := by decide +kernel
theorem dX12_gaps_254 : decode cX12_gaps 254 = .ok (.istore 10, 2) := by decide +kernel
theorem dX12_gaps_256 : decode cX12_gaps 256 = .ok (.iload 10, 2) := by decide +kernel
theorem dX12_gaps_258 : decode cX12_gaps 258 = .ok (.bipush 12, 2) := by decide +kernel
theorem dX12_gaps_260 : decode cX12_gaps 260 = .ok (.if_icmp .ge 26, 3) := by decide +kernel
theorem dX12_gaps_263 : decode cX12_gaps 263 = .ok (.aload_n 0, 1) := by decide +kernel
theorem dX12_gaps_264 : decode cX12_gaps 264 = .ok (.getfield 138, 3) := by decide +kernel
theorem dX12_gaps_267 : decode cX12_gaps 267 = .ok (.iload 10, 2) := by decide +kernel
theorem dX12_gaps_269 : decode cX12_gaps 269 = .ok (.aload_n 0, 1) := by decide +kernel
theorem dX12_gaps_270 : decode cX12_gaps 270 = .ok (.getfield 50, 3) := by decide +kernel
theorem dX12_gaps_273 : decode cX12_gaps 273 = .ok (.bipush 12, 2) := by decide +kernel
theorem dX12_gaps_275 : decode cX12_gaps 275 = .ok (.iload 10, 2) := by decide +kernel
theorem dX12_gaps_277 : decode cX12_gaps 277 = .ok (.iadd, 1) := by decide +kernel
theorem dX12_gaps_278 : decode cX12_gaps 278 = .ok (.iaload, 1) := by decide +kernel
theorem dX12_gaps_279 : decode cX12_gaps 279 = .ok (.iastore, 1) := by decide +kernel
theorem dX12_gaps_280 : decode cX12_gaps 280 = .ok (.iinc 10 1, 3) := by decide +kernel
theorem dX12_gaps_283 : decode cX12_gaps 283 = .ok (.goto (-27), 3) := by decide +kernel
theorem dX12_gaps_246 : decode cX12_gaps 246 = .ok (.goto 40, 3) := by decide +kernel
theorem dX12_gaps_220 : decode cX12_gaps 220 = .ok (.if_icmp .eq 13, 3) := by decide +kernel
theorem dX12_gaps_223 : decode cX12_gaps 223 = .ok (.iload 8, 2) := by decide +kernel
theorem dX12_gaps_225 : decode cX12_gaps 225 = .ok (.iload 6, 2) := by decide +kernel
theorem dX12_gaps_227 : decode cX12_gaps 227 = .ok (.if_icmp .lt 6, 3) := by decide +kernel
theorem dX12_gaps_230 : decode cX12_gaps 230 = .ok (.goto 56, 3) := by decide +kernel
theorem dX12_gaps_177 : decode cX12_gaps 177 = .ok (.aload_n 0, 1) := by decide +kernel
theorem dX12_gaps_178 : decode cX12_gaps 178 = .ok (.getfield 50, 3) := by decide +kernel
theorem dX12_gaps_181 : decode cX12_gaps 181 = .ok (.bipush 12, 2) := by decide +kernel
theorem dX12_gaps_183 : decode cX12_gaps 183 = .ok (.aload_n 0, 1) := by decide +kernel
theorem dX12_gaps_184 : decode cX12_gaps 184 = .ok (.getfield 144, 3) := by decide +kernel
theorem dX12_gaps_187 : decode cX12_gaps 187 = .ok (.iload 10, 2) := by decide +kernel
theorem dX12_gaps_189 : decode cX12_gaps 189 = .ok (.iaload, 1) := by decide +kernel
theorem dX12_gaps_190 : decode cX12_gaps 190 = .ok (.iadd, 1) := by decide +kernel
theorem dX12_gaps_191 : decode cX12_gaps 191 = .ok (.iload 9, 2) := by decide +kernel
theorem dX12_gaps_193 : decode cX12_gaps 193 = .ok (.iconst 5, 1) := by decide +kernel
theorem dX12_gaps_194 : decode cX12_gaps 194 = .ok (.irem, 1) := by decide +kernel
theorem dX12_gaps_195 : decode cX12_gaps 195 = .ok (.iastore, 1) := by decide +kernel
theorem dX12_gaps_196 : decode cX12_gaps 196 = .ok (.iload 8, 2) := by decide +kernel
theorem dX12_gaps_198 : decode cX12_gaps 198 = .ok (.iload 9, 2) := by decide +kernel
theorem dX12_gaps_200 : decode cX12_gaps 200 = .ok (.iconst 5, 1) := by decide +kernel
theorem dX12_gaps_201 : decode cX12_gaps 201 = .ok (.irem, 1) := by decide +kernel
theorem dX12_gaps_202 : decode cX12_gaps 202 = .ok (.iadd, 1) := by decide +kernel
theorem dX12_gaps_203 : decode cX12_gaps 203 = .ok (.istore 8, 2) := by decide +kernel
theorem dX12_gaps_205 : decode cX12_gaps 205 = .ok (.iload 9, 2) := by decide +kernel
theorem dX12_gaps_207 : decode cX12_gaps 207 = .ok (.iconst 5, 1) := by decide +kernel
theorem dX12_gaps_208 : decode cX12_gaps 208 = .ok (.idiv, 1) := by decide +kernel
theorem dX12_gaps_209 : decode cX12_gaps 209 = .ok (.istore 9, 2) := by decide +kernel
theorem dX12_gaps_211 : decode cX12_gaps 211 = .ok (.iinc 10 (-1), 3) := by decide +kernel
theorem dX12_gaps_214 : decode cX12_gaps 214 = .ok (.goto (-42), 3) := by decide +kernel
theorem dX12_gaps_134 : decode cX12_gaps 134 = .ok (.iload 5, 2) := by decide +kernel
theorem dX12_gaps_136 : decode cX12_gaps 136 = .ok (.iconst 5, 1) := by decide +kernel
theorem dX12_gaps_137 : decode cX12_gaps 137 = .ok (.imul, 1) := by decide +kernel
theorem dX12_gaps_138 : decode cX12_gaps 138 = .ok (.istore 5, 2) := by decide +kernel
theorem dX12_gaps_140 : decode cX12_gaps 140 = .ok (.iinc 6 1, 3) := by decide +kernel
theorem dX12_gaps_143 : decode cX12_gaps 143 = .ok (.goto (-16), 3) := by decide +kernel
theorem dX12_gaps_74 : decode cX12_gaps 74 = .ok (.aload_n 0, 1) := by decide +kernel
theorem dX12_gaps_75 : decode cX12_gaps 75 = .ok (.getfield 141, 3) := by decide +kernel
theorem dX12_gaps_78 : decode cX12_gaps 78 = .ok (.iload 5, 2) := by decide +kernel
theorem dX12_gaps_80 : decode cX12_gaps 80 = .ok (.aload_n 0, 1) := by decide +kernel
theorem dX12_gaps_81 : decode cX12_gaps 81 = .ok (.getfield 50, 3) := by decide +kernel
theorem dX12_gaps_84 : decode cX12_gaps 84 = .ok (.bipush 12, 2) := by decide +kernel
theorem dX12_gaps_86 : decode cX12_gaps 86 = .ok (.iload 5, 2) := by decide +kernel
theorem dX12_gaps_88 : decode cX12_gaps 88 = .ok (.iadd, 1) := by decide +kernel
theorem dX12_gaps_89 : decode cX12_gaps 89 = .ok (.iaload, 1) := by decide +kernel
theorem dX12_gaps_90 : decode cX12_gaps 90 = .ok (.iastore, 1) := by decide +kernel
theorem dX12_gaps_91 : decode cX12_gaps 91 = .ok (.iload_n 1, 1) := by decide +kernel
theorem dX12_gaps_92 : decode cX12_gaps 92 = .ok (.iload 5, 2) := by decide +kernel
theorem dX12_gaps_94 : decode cX12_gaps 94 = .ok (.ishr, 1) := by decide +kernel
theorem dX12_gaps_95 : decode cX12_gaps 95 = .ok (.iconst 1, 1) := by decide +kernel
theorem dX12_gaps_96 : decode cX12_gaps 96 = .ok (.iand, 1) := by decide +kernel
theorem dX12_gaps_115 : decode cX12_gaps 115 = .ok (.iinc 5 1, 3) := by decide +kernel
theorem dX12_gaps_118 : decode cX12_gaps 118 = .ok (.goto (-51), 3) := by decide +kernel
theorem dX12_gaps_97 : decode cX12_gaps 97 = .ok (.ifCond .ne 6, 3) := by decide +kernel
theorem dX12_gaps_103 : decode cX12_gaps 103 = .ok (.aload_n 0, 1) := by decide +kernel
theorem dX12_gaps_104 : decode cX12_gaps 104 = .ok (.getfield 144, 3) := by decide +kernel
theorem dX12_gaps_107 : decode cX12_gaps 107 = .ok (.iload 4, 2) := by decide +kernel
theorem dX12_gaps_109 : decode cX12_gaps 109 = .ok (.iload 5, 2) := by decide +kernel
theorem dX12_gaps_111 : decode cX12_gaps 111 = .ok (.iastore, 1) := by decide +kernel
theorem dX12_gaps_112 : decode cX12_gaps 112 = .ok (.iinc 4 1, 3) := by decide +kernel
theorem dX12_gaps_100 : decode cX12_gaps 100 = .ok (.goto 15, 3) := by decide +kernel
theorem dX12_gaps_51 : decode cX12_gaps 51 = .ok (.iconst 0, 1) := by decide +kernel
theorem dX12_gaps_15 : decode cX12_gaps 15 = .ok (.ifCond .lt 36, 3) := by decide +kernel
theorem dX12_gaps_18 : decode cX12_gaps 18 = .ok (.iload_n 1, 1) := by decide +kernel
theorem dX12_gaps_19 : decode cX12_gaps 19 = .ok (.iconst 1, 1) := by decide +kernel
theorem dX12_gaps_20 : decode cX12_gaps 20 = .ok (.aload_n 0, 1) := by decide +kernel
theorem dX12_gaps_21 : decode cX12_gaps 21 = .ok (.getfield 335, 3) := by decide +kernel
theorem dX12_gaps_24 : decode cX12_gaps 24 = .ok (.ishl, 1) := by decide +kernel
theorem dX12_gaps_25 : decode cX12_gaps 25 = .ok (.if_icmp .ge 26, 3) := by decide +kernel
theorem dX12_gaps_28 : decode cX12_gaps 28 = .ok (.iload_n 1, 1) := by decide +kernel
theorem tw_1943 : (Jvm.Cond.methodLink "MarshBellsModel" (427 : Nat) ({ cls := "MarshBellsModel", name := "bits", desc := "(I)I" } : Jvm.MethodName)) ∈ lw_tbl := tk_9 (List.mem_of_getElem? (i := 23) rfl)
theorem tw_1945 : (Jvm.Cond.code ({ cls := "MarshBellsModel", name := "bits", desc := "(I)I" } : Jvm.MethodName) prog_14_method_67_code (3 : Nat) (Option.some Jvm.ClassFile.FieldType.int)) ∈ lw_tbl := tk_9 (List.mem_of_getElem? (i := 25) rfl)
theorem tw_1944 : (Jvm.Cond.static ({ cls := "MarshBellsModel", name := "bits", desc := "(I)I" } : Jvm.MethodName)) ∈ lw_tbl := tk_9 (List.mem_of_getElem? (i := 24) rfl)
theorem li_X12_427 : kLS RX12 427 yX12_bits cX12_bits 3 (some .int) 1 := ⟨tw_1943, tw_1944, tw_1945, tw_13, by decide +kernel⟩
theorem dX12_gaps_29 : decode cX12_gaps 29 = .ok (.invokestatic 427, 3) := by decide +kernel
theorem dX12_gaps_32 : decode cX12_gaps 32 = .ok (.iconst 5, 1) := by decide +kernel
theorem dX12_gaps_33 : decode cX12_gaps 33 = .ok (.if_icmp .gt 18, 3) := by decide +kernel
theorem dX12_gaps_36 : decode cX12_gaps 36 = .ok (.iload_n 3, 1) := by decide +kernel
theorem dX12_gaps_37 : decode cX12_gaps 37 = .ok (.iconst 0, 1) := by decide +kernel
theorem dX12_gaps_38 : decode cX12_gaps 38 = .ok (.sipush 999, 3) := by decide +kernel
theorem dX12_gaps_41 : decode cX12_gaps 41 = .ok (.invokestatic 392, 3) := by decide +kernel
theorem dX12_gaps_44 : decode cX12_gaps 44 = .ok (.ifCond .eq 7, 3) := by decide +kernel
theorem dX12_gaps_47 : decode cX12_gaps 47 = .ok (.iconst 1, 1) := by decide +kernel
theorem dX12_gaps_48 : decode cX12_gaps 48 = .ok (.goto 4, 3) := by decide +kernel
theorem dX12_gap_0 : decode cX12_gap 0 = .ok (.aload_n 0, 1) := by decide +kernel
theorem dX12_gap_1 : decode cX12_gap 1 = .ok (.iconst 0, 1) := by decide +kernel
theorem dX12_gap_2 : decode cX12_gap 2 = .ok (.putfield 177, 3) := by decide +kernel
theorem dX12_gap_5 : decode cX12_gap 5 = .ok (.aload_n 0, 1) := by decide +kernel
theorem dX12_gap_6 : decode cX12_gap 6 = .ok (.iload_n 1, 1) := by decide +kernel
theorem dX12_gap_7 : decode cX12_gap 7 = .ok (.invokevirtual 402, 3) := by decide +kernel
theorem dX12_gap_35 : decode cX12_gap 35 = .ok (.ireturn, 1) := by decide +kernel
theorem dX12_gap_34 : decode cX12_gap 34 = .ok (.iconst 0, 1) := by decide +kernel
theorem dX12_gap_10 : decode cX12_gap 10 = .ok (.ifCond .eq 24, 3) := by decide +kernel
theorem dX12_gap_13 : decode cX12_gap 13 = .ok (.aload_n 0, 1) := by decide +kernel
theorem dX12_gap_14 : decode cX12_gap 14 = .ok (.aload_n 0, 1) := by decide +kernel
theorem dX12_gap_15 : decode cX12_gap 15 = .ok (.getfield 351, 3) := by decide +kernel
theorem dX12_gap_18 : decode cX12_gap 18 = .ok (.iconst 1, 1) := by decide +kernel
theorem dX12_gap_19 : decode cX12_gap 19 = .ok (.invokevirtual 328, 3) := by decide +kernel
theorem dX12_gap_22 : decode cX12_gap 22 = .ok (.ifCond .eq 12, 3) := by decide +kernel
theorem dX12_gap_25 : decode cX12_gap 25 = .ok (.aload_n 0, 1) := by decide +kernel
theorem dX12_gap_26 : decode cX12_gap 26 = .ok (.getfield 138, 3) := by decide +kernel
theorem dX12_gap_29 : decode cX12_gap 29 = .ok (.iload_n 1, 1) := by decide +kernel
theorem dX12_gap_30 : decode cX12_gap 30 = .ok (.iaload, 1) := by decide +kernel
theorem dX12_gap_31 : decode cX12_gap 31 = .ok (.goto 4, 3) := by decide +kernel
def fX12_lays_s3 (fu : Nat) (v1 : Int32) (k3 : Int32 × (Nat → Nat → Int32) × (Nat → Nat → Int64) → Option ((Unit) × zS)) (v2 : Int32) (g : Nat → Nat → Int32) (L : Nat → Nat → Int64) : Option ((Unit) × zS) :=
  if v2 < 0 then some ((), (g, L))
  else ck (g 0 18) 700 (sti g 13 (Int32.toNatClampNeg (g 0 18)) (((v1 : Int32) >>> ((v2 : Int32) &&& 31) : Int32) &&& 255) (fun g2 =>
  sti g2 0 18 ((g2 0 18) + 1) (fun g3 =>
  k3 ((v2 + (-8)), g3, L))))
def fX12_lays_l3 (fu : Nat) (v1 : Int32) (v2 : Int32) (g : Nat → Nat → Int32) (L : Nat → Nat → Int64) : Option ((Unit) × zS) :=
  whileK (fun k v => fX12_lays_s3 fu v1 k v.1 v.2.1 v.2.2) fu (v2, g, L)
def fX12_lays (fu : Nat) (p1 : Int32) (g : Nat → Nat → Int32) (L : Nat → Nat → Int64) : Option ((Unit) × zS) :=
  fX12_lays_l3 fu p1 24 g L
set_option maxHeartbeats 4000000 in
set_option maxRecDepth 100000 in
theorem rX12_lays (l : Launch) (G : kG) (sz : Nat) (a : Nat → Nat) (fu : Nat) (g : Nat → Nat → Int32) (L : Nat → Nat → Int64) (p1 : Int32) (res : Unit) (s9 : zS) (h : fX12_lays fu p1 g L = some (res, s9)) : kM l yX12_lays cX12_lays 3 none { frames := 6, cells := 0, slots := 0, locals := 110 } G [.ref (a 0), .int p1] (zw G MS 51 a g L) sz (kQv G (S := Unit) (fun _ => True) (fun _ => zw G MS 51 a s9.1 s9.2)) := by
  refine kM.of (by decide) (Nat.le_of_ble_eq_true rfl) ?_
  intro p e s m below meth c A ls H C hr hlk hnm hP hD hS hl
  have C : kC G p s m c cX12_lays 3 RX12 A := C
  have hx := C.1
  have hb := C.2.1
  have hl : lv_has ls 3 [(0, .ref (a 0)), (1, .int p1)] := hl
  obtain ⟨locs, hlocs⟩ : ∃ q : List Loc, q = [] := ⟨_, rfl⟩
  rw [← hlocs] at hS
  rw [← hlocs]
  unfold fX12_lays at h
  refine lv_bipush (v := 24) hx hb dX12_lays_0 (by decide) ?_
  refine lv_istore_n (lv' := [(2, .int 24), (0, .ref (a 0)), (1, .int p1)]) hx hb dX12_lays_2 rfl hl (by decide) rfl (fun ls hl => ?_)
  have lp3 : ∀ (v1 : Int32), ∀ (n : Nat) (v : Int32 × (Nat → Nat → Int32) × (Nat → Nat → Int64)), whileK (fun k v => fX12_lays_s3 fu v1 k v.1 v.2.1 v.2.2) n v = some (res, s9) → ∀ (H : Heap) (locs : List Loc) (ls : Array Slot), va_P G.1 vwCl (zw G MS 51 a (v.2.1) (v.2.2)) H → va_D A (zw G MS 51 a (v.2.1) (v.2.2)) → va_S A s.heap H locs → lv_has ls 3 [(0, .ref (a 0)), (1, .int v1), (2, .int (v.1))] → W p l e { frames := 6, cells := 0, slots := 0, locals := 110 } s m [.ref (a 0), .int p1].toArray below meth c H locs 0 0 (MQ below ((kQv G (S := Unit) (fun _ => True) (fun _ => zw G MS 51 a s9.1 s9.2)) A) [.ref (a 0), .int p1].toArray s 0 0 A) (F0 m 3 ls []) := by
    intro v1
    refine while_ind (fun k3 ih3 v h => ?_)
    obtain ⟨v2, g, L⟩ := v
    intro H locs ls hP hD hS hl
    have h : fX12_lays_s3 fu v1 k3 v2 g L = some (res, s9) := h
    have hP : va_P G.1 vwCl (zw G MS 51 a g L) H := hP
    have hD : va_D A (zw G MS 51 a g L) := hD
    have hl : lv_has ls 3 [(0, .ref (a 0)), (1, .int v1), (2, .int v2)] := hl
    show W p l e { frames := 6, cells := 0, slots := 0, locals := 110 } s m [.ref (a 0), .int p1].toArray below meth c H locs 0 0 (MQ below ((kQv G (S := Unit) (fun _ => True) (fun _ => zw G MS 51 a s9.1 s9.2)) A) [.ref (a 0), .int p1].toArray s 0 0 A) (F0 m 3 ls [])
    unfold fX12_lays_s3 at h
    refine lv_iload_n hx hb dX12_lays_3 rfl (lv_at hl 2 rfl) ?_
    refine lv_if_lt (x := v2) (tgt := 39) hx hb dX12_lays_4 (by decide) (fun c1 => ?_) (fun c1 => ?_)
    ·
      have h := ite_t c1 h
      exact y_vret C hr hlk hP hD hS h (Nat.le_of_ble_eq_true rfl) (Nat.le_of_ble_eq_true rfl) dX12_lays_39
    ·
      have h := ite_e c1 h
      refine lv_aload_n hx hb dX12_lays_7 rfl (lv_at hl 0 rfl) ?_
      refine x_getr (Or.inl fl_X12_53) C hP (by decide) ms_0 rfl dX12_lays_8 ?_
      refine lv_aload_n hx hb dX12_lays_11 rfl (lv_at hl 0 rfl) ?_
      refine x_getv (v := .int (g 0 18)) (Or.inl fl_X12_180) C hP (by decide) ms_0 rfl dX12_lays_12 ?_
      refine lv_iload_n hx hb dX12_lays_15 rfl (lv_at hl 1 rfl) ?_
      refine lv_iload_n hx hb dX12_lays_16 rfl (lv_at hl 2 rfl) ?_
      refine lv_ishr hx hb dX12_lays_17 ?_
      refine lv_sipush (v := 255) hx hb dX12_lays_18 (by decide) ?_
      refine lv_iand hx hb dX12_lays_21 ?_
      refine y_ast C hP hD hS (by decide) ms_13 dX12_lays_22 h (fun g2 H locs h hP hD hS => ?_)
      refine lv_aload_n hx hb dX12_lays_23 rfl (lv_at hl 0 rfl) ?_
      refine lv_dup hx hb dX12_lays_24 rfl ?_
      refine x_getv (v := .int (g2 0 18)) (Or.inl fl_X12_180) C hP (by decide) ms_0 rfl dX12_lays_25 ?_
      refine lv_iconst (v := 1) hx hb dX12_lays_28 (by decide) ?_
      refine lv_iadd hx hb dX12_lays_29 ?_
      refine y_puti (Or.inl fl_X12_180) ft_X12_18 C hP hD hS (by decide) ms_0 rfl rfl rfl dX12_lays_30 h (fun g3 H locs h hP hD hS => ?_)
      refine lv_iinc (v := (v2 + (-8))) (lv' := [(2, .int (v2 + (-8))), (0, .ref (a 0)), (1, .int v1)]) hx hb dX12_lays_33 hl (k := 2) rfl rfl (by decide) rfl (fun ls hl => ?_)
      refine lv_goto (tgt := 3) hx hb dX12_lays_36 (by decide) ?_
      exact ih3 ((v2 + (-8)), g3, L) h H locs ls hP hD hS (lv_sub hl [1, 2, 0] rfl)
  exact lp3 p1 fu (24, g, L) h H locs ls hP hD hS (lv_sub hl [1, 2, 0] rfl)
def fX12_feed (fu : Nat) (p1 : Int32) (p2 : Int32) (p3 : Int32) (p4 : Int32) (p5 : Int32) (g : Nat → Nat → Int32) (L : Nat → Nat → Int64) : Option ((Int32) × zS) :=
  sti g 0 0 0 (fun g1 =>
  if ((g1 0 18) + 20) ≤ 700 then cb (fX12_lays fu p1 g1 L) (fun x3 g4 L5 =>
  cb (fX12_lays fu p2 g4 L5) (fun x7 g8 L9 =>
  cb (fX12_lays fu p3 g8 L9) (fun x11 g12 L13 =>
  cb (fX12_lays fu p4 g12 L13) (fun x15 g16 L17 =>
  cb (fX12_lays fu p5 g16 L17) (fun x19 g20 L21 =>
  some ((g20 0 18), (g20, L21)))))))
  else some ((-1), (g1, L)))
set_option maxHeartbeats 4000000 in
set_option maxRecDepth 100000 in
theorem rX12_feed (l : Launch) (G : kG) (sz : Nat) (a : Nat → Nat) (fu : Nat) (g : Nat → Nat → Int32) (L : Nat → Nat → Int64) (p1 : Int32) (p2 : Int32) (p3 : Int32) (p4 : Int32) (p5 : Int32) (res : Int32) (s9 : zS) (h : fX12_feed fu p1 p2 p3 p4 p5 g L = some (res, s9)) : kM l yX12_feed cX12_feed 6 (some .int) { frames := 7, cells := 0, slots := 0, locals := 132 } G [.ref (a 0), .int p1, .int p2, .int p3, .int p4, .int p5] (zw G MS 51 a g L) sz (kQi G (S := Unit) (fun r' _ => r' = res) (fun _ => zw G MS 51 a s9.1 s9.2)) := by
  refine kM.of (by decide) (Nat.le_of_ble_eq_true rfl) ?_
  intro p e s m below meth c A ls H C hr hlk hnm hP hD hS hl
  have C : kC G p s m c cX12_feed 6 RX12 A := C
  have hx := C.1
  have hb := C.2.1
  have hl : lv_has ls 6 [(0, .ref (a 0)), (1, .int p1), (2, .int p2), (3, .int p3), (4, .int p4), (5, .int p5)] := hl
  obtain ⟨locs, hlocs⟩ : ∃ q : List Loc, q = [] := ⟨_, rfl⟩
  rw [← hlocs] at hS
  rw [← hlocs]
  unfold fX12_feed at h
  refine lv_aload_n hx hb dX12_feed_0 rfl (lv_at hl 0 rfl) ?_
  refine lv_iconst (v := 0) hx hb dX12_feed_1 (by decide) ?_
  refine y_puti (Or.inl fl_X12_177) ft_X12_0 C hP hD hS (by decide) ms_0 rfl rfl rfl dX12_feed_2 h (fun g1 H locs h hP hD hS => ?_)
  refine lv_aload_n hx hb dX12_feed_5 rfl (lv_at hl 0 rfl) ?_
  refine x_getv (v := .int (g1 0 18)) (Or.inl fl_X12_180) C hP (by decide) ms_0 rfl dX12_feed_6 ?_
  refine lv_bipush (v := 20) hx hb dX12_feed_9 (by decide) ?_
  refine lv_iadd hx hb dX12_feed_11 ?_
  refine lv_sipush (v := 700) hx hb dX12_feed_12 (by decide) ?_
  refine lv_icmp_le (x := ((g1 0 18) + 20)) (y := 700) (tgt := 20) hx hb dX12_feed_15 (by decide) (fun c2 => ?_) (fun c2 => ?_)
  ·
    have h := ite_t c2 h
    refine lv_aload_n hx hb dX12_feed_20 rfl (lv_at hl 0 rfl) ?_
    refine lv_iload_n hx hb dX12_feed_21 rfl (lv_at hl 1 rfl) ?_
    obtain ⟨z_, g4, L5, hf6, h⟩ := cb_some h
    refine x_callVv (rest := []) li_X12_183 C (rX12_lays l G H.size a fu g1 L p1 z_ (g4, L5) hf6) (kR rfl) hP hD hS 0 12 rfl (zat (by decide) ms_0) rfl hl.1 rfl (Nat.le_of_ble_eq_true rfl) dX12_feed_22 (fun u_ H locs e_ hP hD hS => ?_)
    have hP : va_P G.1 vwCl (zw G MS 51 a g4 L5) H := hP
    have hD : va_D A (zw G MS 51 a g4 L5) := hD
    refine lv_aload_n hx hb dX12_feed_25 rfl (lv_at hl 0 rfl) ?_
    refine lv_iload_n hx hb dX12_feed_26 rfl (lv_at hl 2 rfl) ?_
    obtain ⟨z_, g8, L9, hf10, h⟩ := cb_some h
    refine x_callVv (rest := []) li_X12_183 C (rX12_lays l G H.size a fu g4 L5 p2 z_ (g8, L9) hf10) (kR rfl) hP hD hS 0 12 rfl (zat (by decide) ms_0) rfl hl.1 rfl (Nat.le_of_ble_eq_true rfl) dX12_feed_27 (fun u_ H locs e_ hP hD hS => ?_)
    have hP : va_P G.1 vwCl (zw G MS 51 a g8 L9) H := hP
    have hD : va_D A (zw G MS 51 a g8 L9) := hD
    refine lv_aload_n hx hb dX12_feed_30 rfl (lv_at hl 0 rfl) ?_
    refine lv_iload_n hx hb dX12_feed_31 rfl (lv_at hl 3 rfl) ?_
    obtain ⟨z_, g12, L13, hf14, h⟩ := cb_some h
    refine x_callVv (rest := []) li_X12_183 C (rX12_lays l G H.size a fu g8 L9 p3 z_ (g12, L13) hf14) (kR rfl) hP hD hS 0 12 rfl (zat (by decide) ms_0) rfl hl.1 rfl (Nat.le_of_ble_eq_true rfl) dX12_feed_32 (fun u_ H locs e_ hP hD hS => ?_)
    have hP : va_P G.1 vwCl (zw G MS 51 a g12 L13) H := hP
    have hD : va_D A (zw G MS 51 a g12 L13) := hD
    refine lv_aload_n hx hb dX12_feed_35 rfl (lv_at hl 0 rfl) ?_
    refine lv_iload hx hb dX12_feed_36 (lv_at hl 4 rfl) ?_
    obtain ⟨z_, g16, L17, hf18, h⟩ := cb_some h
    refine x_callVv (rest := []) li_X12_183 C (rX12_lays l G H.size a fu g12 L13 p4 z_ (g16, L17) hf18) (kR rfl) hP hD hS 0 12 rfl (zat (by decide) ms_0) rfl hl.1 rfl (Nat.le_of_ble_eq_true rfl) dX12_feed_38 (fun u_ H locs e_ hP hD hS => ?_)
    have hP : va_P G.1 vwCl (zw G MS 51 a g16 L17) H := hP
    have hD : va_D A (zw G MS 51 a g16 L17) := hD
    refine lv_aload_n hx hb dX12_feed_41 rfl (lv_at hl 0 rfl) ?_
    refine lv_iload hx hb dX12_feed_42 (lv_at hl 5 rfl) ?_
    obtain ⟨z_, g20, L21, hf22, h⟩ := cb_some h
    refine x_callVv (rest := []) li_X12_183 C (rX12_lays l G H.size a fu g16 L17 p5 z_ (g20, L21) hf22) (kR rfl) hP hD hS 0 12 rfl (zat (by decide) ms_0) rfl hl.1 rfl (Nat.le_of_ble_eq_true rfl) dX12_feed_44 (fun u_ H locs e_ hP hD hS => ?_)
    have hP : va_P G.1 vwCl (zw G MS 51 a g20 L21) H := hP
    have hD : va_D A (zw G MS 51 a g20 L21) := hD
    refine lv_aload_n hx hb dX12_feed_47 rfl (lv_at hl 0 rfl) ?_
    refine x_getv (v := .int (g20 0 18)) (Or.inl fl_X12_180) C hP (by decide) ms_0 rfl dX12_feed_48 ?_
    exact y_iret C hr hlk hP hD hS h (Nat.le_of_ble_eq_true rfl) (Nat.le_of_ble_eq_true rfl) dX12_feed_51
  ·
    have h := ite_e c2 h
    refine lv_iconst (v := -1) hx hb dX12_feed_18 (by decide) ?_
    exact y_iret C hr hlk hP hD hS h (Nat.le_of_ble_eq_true rfl) (Nat.le_of_ble_eq_true rfl) dX12_feed_19
def fX12_keeps_p47 (fu : Nat) (v1 : Int32) (v2 : Int32) (g : Nat → Nat → Int32) (L : Nat → Nat → Int64) : Option ((Unit) × zS) :=
  ck (2 * (g 0 62)) 80 (sti g 36 (Int32.toNatClampNeg (2 * (g 0 62))) v1 (fun g1 =>
  ck ((2 * (g1 0 62)) + 1) 80 (sti g1 36 (Int32.toNatClampNeg ((2 * (g1 0 62)) + 1)) v2 (fun g2 =>
  sti g2 0 62 ((g2 0 62) + 1) (fun g3 =>
  some ((), (g3, L)))))))
def fX12_keeps_s11 (fu : Nat) (v1 : Int32) (v2 : Int32) (k11 : Int32 × (Nat → Nat → Int32) × (Nat → Nat → Int64) → Option ((Unit) × zS)) (v3 : Int32) (g : Nat → Nat → Int32) (L : Nat → Nat → Int64) : Option ((Unit) × zS) :=
  if 80 ≤ (v3 : Int32) then sti g 0 62 ((g 0 62) - 1) (fun g6 =>
  fX12_keeps_p47 fu v1 v2 g6 L)
  else ck v3 80 (
  ck (v3 - 2) 80 (sti g 36 (Int32.toNatClampNeg (v3 - 2)) (g 36 (Int32.toNatClampNeg v3)) (fun g7 =>
  k11 ((v3 + 1), g7, L))))
def fX12_keeps_l11 (fu : Nat) (v1 : Int32) (v2 : Int32) (v3 : Int32) (g : Nat → Nat → Int32) (L : Nat → Nat → Int64) : Option ((Unit) × zS) :=
  whileK (fun k v => fX12_keeps_s11 fu v1 v2 k v.1 v.2.1 v.2.2) fu (v3, g, L)
def fX12_keeps (fu : Nat) (p1 : Int32) (p2 : Int32) (g : Nat → Nat → Int32) (L : Nat → Nat → Int64) : Option ((Unit) × zS) :=
  if (g 0 62) = 40 then fX12_keeps_l11 fu p1 p2 2 g L
  else fX12_keeps_p47 fu p1 p2 g L
set_option maxHeartbeats 4000000 in
set_option maxRecDepth 100000 in
theorem rX12_keeps (l : Launch) (G : kG) (sz : Nat) (a : Nat → Nat) (fu : Nat) (g : Nat → Nat → Int32) (L : Nat → Nat → Int64) (p1 : Int32) (p2 : Int32) (res : Unit) (s9 : zS) (h : fX12_keeps fu p1 p2 g L = some (res, s9)) : kM l yX12_keeps cX12_keeps 4 none { frames := 6, cells := 0, slots := 0, locals := 110 } G [.ref (a 0), .int p1, .int p2] (zw G MS 51 a g L) sz (kQv G (S := Unit) (fun _ => True) (fun _ => zw G MS 51 a s9.1 s9.2)) := by
  refine kM.of (by decide) (Nat.le_of_ble_eq_true rfl) ?_
  intro p e s m below meth c A ls H C hr hlk hnm hP hD hS hl
  have C : kC G p s m c cX12_keeps 4 RX12 A := C
  have hx := C.1
  have hb := C.2.1
  have hl : lv_has ls 4 [(0, .ref (a 0)), (1, .int p1), (2, .int p2)] := hl
  obtain ⟨locs, hlocs⟩ : ∃ q : List Loc, q = [] := ⟨_, rfl⟩
  rw [← hlocs] at hS
  rw [← hlocs]
  unfold fX12_keeps at h
  refine lv_aload_n hx hb dX12_keeps_0 rfl (lv_at hl 0 rfl) ?_
  refine x_getv (v := .int (g 0 62)) (Or.inl fl_X12_345) C hP (by decide) ms_0 rfl dX12_keeps_1 ?_
  refine lv_bipush (v := 40) hx hb dX12_keeps_4 (by decide) ?_
  have J47 : ∀ (v1 : Int32) (v2 : Int32) (g : Nat → Nat → Int32) (L : Nat → Nat → Int64) (H : Heap) (locs : List Loc) (ls : Array Slot), fX12_keeps_p47 fu v1 v2 g L = some (res, s9) → va_P G.1 vwCl (zw G MS 51 a g L) H → va_D A (zw G MS 51 a g L) → va_S A s.heap H locs → lv_has ls 4 [(0, .ref (a 0)), (1, .int v1), (2, .int v2)] → W p l e { frames := 6, cells := 0, slots := 0, locals := 110 } s m [.ref (a 0), .int p1, .int p2].toArray below meth c H locs 0 0 (MQ below ((kQv G (S := Unit) (fun _ => True) (fun _ => zw G MS 51 a s9.1 s9.2)) A) [.ref (a 0), .int p1, .int p2].toArray s 0 0 A) (F0 m 47 ls []) := by
    intro v1 v2 g L H locs ls h hP hD hS hl
    unfold fX12_keeps_p47 at h
    refine lv_aload_n hx hb dX12_keeps_47 rfl (lv_at hl 0 rfl) ?_
    refine x_getr (Or.inl fl_X12_132) C hP (by decide) ms_0 rfl dX12_keeps_48 ?_
    refine lv_iconst (v := 2) hx hb dX12_keeps_51 (by decide) ?_
    refine lv_aload_n hx hb dX12_keeps_52 rfl (lv_at hl 0 rfl) ?_
    refine x_getv (v := .int (g 0 62)) (Or.inl fl_X12_345) C hP (by decide) ms_0 rfl dX12_keeps_53 ?_
    refine lv_imul hx hb dX12_keeps_56 ?_
    refine lv_iload_n hx hb dX12_keeps_57 rfl (lv_at hl 1 rfl) ?_
    refine y_ast C hP hD hS (by decide) ms_36 dX12_keeps_58 h (fun g1 H locs h hP hD hS => ?_)
    refine lv_aload_n hx hb dX12_keeps_59 rfl (lv_at hl 0 rfl) ?_
    refine x_getr (Or.inl fl_X12_132) C hP (by decide) ms_0 rfl dX12_keeps_60 ?_
    refine lv_iconst (v := 2) hx hb dX12_keeps_63 (by decide) ?_
    refine lv_aload_n hx hb dX12_keeps_64 rfl (lv_at hl 0 rfl) ?_
    refine x_getv (v := .int (g1 0 62)) (Or.inl fl_X12_345) C hP (by decide) ms_0 rfl dX12_keeps_65 ?_
    refine lv_imul hx hb dX12_keeps_68 ?_
    refine lv_iconst (v := 1) hx hb dX12_keeps_69 (by decide) ?_
    refine lv_iadd hx hb dX12_keeps_70 ?_
    refine lv_iload_n hx hb dX12_keeps_71 rfl (lv_at hl 2 rfl) ?_
    refine y_ast C hP hD hS (by decide) ms_36 dX12_keeps_72 h (fun g2 H locs h hP hD hS => ?_)
    refine lv_aload_n hx hb dX12_keeps_73 rfl (lv_at hl 0 rfl) ?_
    refine lv_dup hx hb dX12_keeps_74 rfl ?_
    refine x_getv (v := .int (g2 0 62)) (Or.inl fl_X12_345) C hP (by decide) ms_0 rfl dX12_keeps_75 ?_
    refine lv_iconst (v := 1) hx hb dX12_keeps_78 (by decide) ?_
    refine lv_iadd hx hb dX12_keeps_79 ?_
    refine y_puti (Or.inl fl_X12_345) ft_X12_62 C hP hD hS (by decide) ms_0 rfl rfl rfl dX12_keeps_80 h (fun g3 H locs h hP hD hS => ?_)
    exact y_vret C hr hlk hP hD hS h (Nat.le_of_ble_eq_true rfl) (Nat.le_of_ble_eq_true rfl) dX12_keeps_83
  refine lv_icmp_ne (x := (g 0 62)) (y := 40) (tgt := 47) hx hb dX12_keeps_6 (by decide) (fun c4 => ?_) (fun c4 => ?_)
  ·
    have h := ite_e c4 h
    exact J47 p1 p2 g L H locs ls h hP hD hS (lv_sub hl [0, 1, 2] rfl)
  ·
    have h := ite_t c4 h
    refine lv_iconst (v := 2) hx hb dX12_keeps_9 (by decide) ?_
    refine lv_istore_n (lv' := [(3, .int 2), (0, .ref (a 0)), (1, .int p1), (2, .int p2)]) hx hb dX12_keeps_10 rfl hl (by decide) rfl (fun ls hl => ?_)
    have lp11 : ∀ (v1 : Int32) (v2 : Int32), ∀ (n : Nat) (v : Int32 × (Nat → Nat → Int32) × (Nat → Nat → Int64)), whileK (fun k v => fX12_keeps_s11 fu v1 v2 k v.1 v.2.1 v.2.2) n v = some (res, s9) → ∀ (H : Heap) (locs : List Loc) (ls : Array Slot), va_P G.1 vwCl (zw G MS 51 a (v.2.1) (v.2.2)) H → va_D A (zw G MS 51 a (v.2.1) (v.2.2)) → va_S A s.heap H locs → lv_has ls 4 [(0, .ref (a 0)), (1, .int v1), (2, .int v2), (3, .int (v.1))] → W p l e { frames := 6, cells := 0, slots := 0, locals := 110 } s m [.ref (a 0), .int p1, .int p2].toArray below meth c H locs 0 0 (MQ below ((kQv G (S := Unit) (fun _ => True) (fun _ => zw G MS 51 a s9.1 s9.2)) A) [.ref (a 0), .int p1, .int p2].toArray s 0 0 A) (F0 m 11 ls []) := by
      intro v1 v2
      refine while_ind (fun k11 ih11 v h => ?_)
      obtain ⟨v3, g, L⟩ := v
      intro H locs ls hP hD hS hl
      have h : fX12_keeps_s11 fu v1 v2 k11 v3 g L = some (res, s9) := h
      have hP : va_P G.1 vwCl (zw G MS 51 a g L) H := hP
      have hD : va_D A (zw G MS 51 a g L) := hD
      have hl : lv_has ls 4 [(0, .ref (a 0)), (1, .int v1), (2, .int v2), (3, .int v3)] := hl
      show W p l e { frames := 6, cells := 0, slots := 0, locals := 110 } s m [.ref (a 0), .int p1, .int p2].toArray below meth c H locs 0 0 (MQ below ((kQv G (S := Unit) (fun _ => True) (fun _ => zw G MS 51 a s9.1 s9.2)) A) [.ref (a 0), .int p1, .int p2].toArray s 0 0 A) (F0 m 11 ls [])
      unfold fX12_keeps_s11 at h
      refine lv_iload_n hx hb dX12_keeps_11 rfl (lv_at hl 3 rfl) ?_
      refine lv_bipush (v := 80) hx hb dX12_keeps_12 (by decide) ?_
      refine lv_icmp_ge (x := v3) (y := 80) (tgt := 37) hx hb dX12_keeps_14 (by decide) (fun c5 => ?_) (fun c5 => ?_)
      ·
        have h := ite_t c5 h
        refine lv_aload_n hx hb dX12_keeps_37 rfl (lv_at hl 0 rfl) ?_
        refine lv_dup hx hb dX12_keeps_38 rfl ?_
        refine x_getv (v := .int (g 0 62)) (Or.inl fl_X12_345) C hP (by decide) ms_0 rfl dX12_keeps_39 ?_
        refine lv_iconst (v := 1) hx hb dX12_keeps_42 (by decide) ?_
        refine lv_isub hx hb dX12_keeps_43 ?_
        refine y_puti (Or.inl fl_X12_345) ft_X12_62 C hP hD hS (by decide) ms_0 rfl rfl rfl dX12_keeps_44 h (fun g6 H locs h hP hD hS => ?_)
        exact J47 v1 v2 g6 L H locs ls h hP hD hS (lv_sub hl [0, 1, 2] rfl)
      ·
        have h := ite_e c5 h
        refine lv_aload_n hx hb dX12_keeps_17 rfl (lv_at hl 0 rfl) ?_
        refine x_getr (Or.inl fl_X12_132) C hP (by decide) ms_0 rfl dX12_keeps_18 ?_
        refine lv_iload_n hx hb dX12_keeps_21 rfl (lv_at hl 3 rfl) ?_
        refine lv_iconst (v := 2) hx hb dX12_keeps_22 (by decide) ?_
        refine lv_isub hx hb dX12_keeps_23 ?_
        refine lv_aload_n hx hb dX12_keeps_24 rfl (lv_at hl 0 rfl) ?_
        refine x_getr (Or.inl fl_X12_132) C hP (by decide) ms_0 rfl dX12_keeps_25 ?_
        refine lv_iload_n hx hb dX12_keeps_28 rfl (lv_at hl 3 rfl) ?_
        refine y_ald C hP (by decide) ms_36 dX12_keeps_29 h (fun h => ?_)
        refine y_ast C hP hD hS (by decide) ms_36 dX12_keeps_30 h (fun g7 H locs h hP hD hS => ?_)
        refine lv_iinc (v := (v3 + 1)) (lv' := [(3, .int (v3 + 1)), (0, .ref (a 0)), (1, .int v1), (2, .int v2)]) hx hb dX12_keeps_31 hl (k := 3) rfl rfl (by decide) rfl (fun ls hl => ?_)
        refine lv_goto (tgt := 11) hx hb dX12_keeps_34 (by decide) ?_
        exact ih11 ((v3 + 1), g7, L) h H locs ls hP hD hS (lv_sub hl [1, 2, 3, 0] rfl)
    exact lp11 p1 p2 fu (2, g, L) h H locs ls hP hD hS (lv_sub hl [1, 2, 3, 0] rfl)
def fX12_refuses (fu : Nat) (p1 : Int32) (g : Nat → Nat → Int32) (L : Nat → Nat → Int64) : Option ((Int32) × zS) :=
  ck p1 3 (
  ck p1 3 (sti g 14 (Int32.toNatClampNeg p1) ((g 14 (Int32.toNatClampNeg p1)) + 1) (fun g1 =>
  some ((-1), (g1, L)))))
set_option maxHeartbeats 4000000 in
set_option maxRecDepth 100000 in
theorem rX12_refuses (l : Launch) (G : kG) (sz : Nat) (a : Nat → Nat) (fu : Nat) (g : Nat → Nat → Int32) (L : Nat → Nat → Int64) (p1 : Int32) (res : Int32) (s9 : zS) (h : fX12_refuses fu p1 g L = some (res, s9)) : kM l yX12_refuses cX12_refuses 2 (some .int) { frames := 6, cells := 0, slots := 0, locals := 110 } G [.ref (a 0), .int p1] (zw G MS 51 a g L) sz (kQi G (S := Unit) (fun r' _ => r' = res) (fun _ => zw G MS 51 a s9.1 s9.2)) := by
  refine kM.of (by decide) (Nat.le_of_ble_eq_true rfl) ?_
  intro p e s m below meth c A ls H C hr hlk hnm hP hD hS hl
  have C : kC G p s m c cX12_refuses 2 RX12 A := C
  have hx := C.1
  have hb := C.2.1
  have hl : lv_has ls 2 [(0, .ref (a 0)), (1, .int p1)] := hl
  obtain ⟨locs, hlocs⟩ : ∃ q : List Loc, q = [] := ⟨_, rfl⟩
  rw [← hlocs] at hS
  rw [← hlocs]
  unfold fX12_refuses at h
  refine lv_aload_n hx hb dX12_refuses_0 rfl (lv_at hl 0 rfl) ?_
  refine x_getr (Or.inl fl_X12_59) C hP (by decide) ms_0 rfl dX12_refuses_1 ?_
  refine lv_iload_n hx hb dX12_refuses_4 rfl (lv_at hl 1 rfl) ?_
  refine lv_dup2_11 hx hb dX12_refuses_5 rfl rfl ?_
  refine y_ald C hP (by decide) ms_14 dX12_refuses_6 h (fun h => ?_)
  refine lv_iconst (v := 1) hx hb dX12_refuses_7 (by decide) ?_
  refine lv_iadd hx hb dX12_refuses_8 ?_
  refine y_ast C hP hD hS (by decide) ms_14 dX12_refuses_9 h (fun g1 H locs h hP hD hS => ?_)
  refine lv_iconst (v := -1) hx hb dX12_refuses_10 (by decide) ?_
  exact y_iret C hr hlk hP hD hS h (Nat.le_of_ble_eq_true rfl) (Nat.le_of_ble_eq_true rfl) dX12_refuses_11
def fX12_become_p22 (fu : Nat) (g : Nat → Nat → Int32) (L : Nat → Nat → Int64) : Option ((Int32) × zS) :=
  some (0, (g, L))
def fX12_become_p57 (fu : Nat) (v1 : Int32) (v2 : Int32) (v3 : Int32) (t0 : Int32) (t1 : Int32) (t2 : Int32) (g : Nat → Nat → Int32) (L : Nat → Nat → Int64) : Option ((Int32) × zS) :=
  cb (fX12_within fu t2 t1 t0 g L) (fun x12 g13 L14 =>
  if x12 = 0 then cb (fX12_refuses fu 1 g13 L14) (fun x24 g25 L26 =>
  some (x24, (g25, L26)))
  else lti ((12 * v2) + v1) (fun x17 =>
  ck x17 48 (
  lti (g13 12 (Int32.toNatClampNeg x17)) (fun x18 =>
  cb (fX12_keeps fu x17 x18 g13 L14) (fun x19 g20 L21 =>
  ck x17 48 (sti g20 12 (Int32.toNatClampNeg x17) v3 (fun g23 =>
  some (x18, (g23, L21)))))))))
def fX12_become (fu : Nat) (p1 : Int32) (p2 : Int32) (p3 : Int32) (g : Nat → Nat → Int32) (L : Nat → Nat → Int64) : Option ((Int32) × zS) :=
  sti g 0 0 0 (fun g1 =>
  cb (fX12_isLesson fu p1 g1 L) (fun x2 g3 L4 =>
  if x2 = 0 then fX12_become_p22 fu g3 L4
  else cb (fX12_isWhat fu p2 3 g3 L4) (fun x7 g8 L9 =>
  if x7 = 0 then fX12_become_p22 fu g8 L9
  else if p2 = 0 then fX12_become_p57 fu p1 p2 p3 60 0 p3 g8 L9
  else if (p2 : Int32) = 1 then fX12_become_p57 fu p1 p2 p3 30 0 p3 g8 L9
  else if (p2 : Int32) = 2 then fX12_become_p57 fu p1 p2 p3 9 0 p3 g8 L9
  else fX12_become_p57 fu p1 p2 p3 99 0 p3 g8 L9)))
set_option maxHeartbeats 4000000 in
set_option maxRecDepth 100000 in
theorem rX12_become (l : Launch) (G : kG) (sz : Nat) (a : Nat → Nat) (fu : Nat) (g : Nat → Nat → Int32) (L : Nat → Nat → Int64) (p1 : Int32) (p2 : Int32) (p3 : Int32) (res : Int32) (s9 : zS) (h : fX12_become fu p1 p2 p3 g L = some (res, s9)) : kM l yX12_become cX12_become 6 (some .int) { frames := 8, cells := 0, slots := 0, locals := 154 } G [.ref (a 0), .int p1, .int p2, .int p3] (zw G MS 51 a g L) sz (kQi G (S := Unit) (fun r' _ => r' = res) (fun _ => zw G MS 51 a s9.1 s9.2)) := by
  refine kM.of (by decide) (Nat.le_of_ble_eq_true rfl) ?_
  intro p e s m below meth c A ls H C hr hlk hnm hP hD hS hl
  have C : kC G p s m c cX12_become 6 RX12 A := C
  have hx := C.1
  have hb := C.2.1
  have hl : lv_has ls 6 [(0, .ref (a 0)), (1, .int p1), (2, .int p2), (3, .int p3)] := hl
  obtain ⟨locs, hlocs⟩ : ∃ q : List Loc, q = [] := ⟨_, rfl⟩
  rw [← hlocs] at hS
  rw [← hlocs]
  unfold fX12_become at h
  refine lv_aload_n hx hb dX12_become_0 rfl (lv_at hl 0 rfl) ?_
  refine lv_iconst (v := 0) hx hb dX12_become_1 (by decide) ?_
  refine y_puti (Or.inl fl_X12_177) ft_X12_0 C hP hD hS (by decide) ms_0 rfl rfl rfl dX12_become_2 h (fun g1 H locs h hP hD hS => ?_)
  refine lv_aload_n hx hb dX12_become_5 rfl (lv_at hl 0 rfl) ?_
  refine lv_iload_n hx hb dX12_become_6 rfl (lv_at hl 1 rfl) ?_
  obtain ⟨z_, g3, L4, hf5, h⟩ := cb_some h
  refine x_callVi (rest := []) li_X12_402 C (rX12_isLesson l G H.size a fu g1 L p1 z_ (g3, L4) hf5) (kR rfl) hP hD hS 0 12 rfl (zat (by decide) ms_0) rfl hl.1 rfl (Nat.le_of_ble_eq_true rfl) dX12_become_7 (fun x2 u_ H locs e_ hP hD hS => ?_)
  have e_ : x2 = z_ := e_
  subst e_
  have hP : va_P G.1 vwCl (zw G MS 51 a g3 L4) H := hP
  have hD : va_D A (zw G MS 51 a g3 L4) := hD
  have J22 : ∀ (g : Nat → Nat → Int32) (L : Nat → Nat → Int64) (H : Heap) (locs : List Loc) (ls : Array Slot), fX12_become_p22 fu g L = some (res, s9) → va_P G.1 vwCl (zw G MS 51 a g L) H → va_D A (zw G MS 51 a g L) → va_S A s.heap H locs → lv_has ls 6 [] → W p l e { frames := 8, cells := 0, slots := 0, locals := 154 } s m [.ref (a 0), .int p1, .int p2, .int p3].toArray below meth c H locs 0 0 (MQ below ((kQi G (S := Unit) (fun r' _ => r' = res) (fun _ => zw G MS 51 a s9.1 s9.2)) A) [.ref (a 0), .int p1, .int p2, .int p3].toArray s 0 0 A) (F0 m 22 ls []) := by
    intro g L H locs ls h hP hD hS hl
    unfold fX12_become_p22 at h
    refine lv_iconst (v := 0) hx hb dX12_become_22 (by decide) ?_
    exact y_iret C hr hlk hP hD hS h (Nat.le_of_ble_eq_true rfl) (Nat.le_of_ble_eq_true rfl) dX12_become_23
  refine lv_if_eq (x := x2) (tgt := 22) hx hb dX12_become_10 (by decide) (fun c6 => ?_) (fun c6 => ?_)
  ·
    have h := ite_t c6 h
    exact J22 g3 L4 H locs ls h hP hD hS (lv_sub hl [] rfl)
  ·
    have h := ite_e c6 h
    refine lv_aload_n hx hb dX12_become_13 rfl (lv_at hl 0 rfl) ?_
    refine lv_iload_n hx hb dX12_become_14 rfl (lv_at hl 2 rfl) ?_
    refine lv_iconst (v := 3) hx hb dX12_become_15 (by decide) ?_
    obtain ⟨z_, g8, L9, hf10, h⟩ := cb_some h
    refine x_callVi (rest := []) li_X12_405 C (rX12_isWhat l G H.size a fu g3 L4 p2 3 z_ (g8, L9) hf10) (kR rfl) hP hD hS 0 12 rfl (zat (by decide) ms_0) rfl hl.1 rfl (Nat.le_of_ble_eq_true rfl) dX12_become_16 (fun x7 u_ H locs e_ hP hD hS => ?_)
    have e_ : x7 = z_ := e_
    subst e_
    have hP : va_P G.1 vwCl (zw G MS 51 a g8 L9) H := hP
    have hD : va_D A (zw G MS 51 a g8 L9) := hD
    refine lv_if_ne (x := x7) (tgt := 24) hx hb dX12_become_19 (by decide) (fun c11 => ?_) (fun c11 => ?_)
    ·
      have h := ite_e c11 h
      refine lv_iload_n hx hb dX12_become_24 rfl (lv_at hl 3 rfl) ?_
      refine lv_iconst (v := 0) hx hb dX12_become_25 (by decide) ?_
      refine lv_iload_n hx hb dX12_become_26 rfl (lv_at hl 2 rfl) ?_
      have J57 : ∀ (v1 : Int32) (v2 : Int32) (v3 : Int32) (t0 : Int32) (t1 : Int32) (t2 : Int32) (g : Nat → Nat → Int32) (L : Nat → Nat → Int64) (H : Heap) (locs : List Loc) (ls : Array Slot), fX12_become_p57 fu v1 v2 v3 t0 t1 t2 g L = some (res, s9) → va_P G.1 vwCl (zw G MS 51 a g L) H → va_D A (zw G MS 51 a g L) → va_S A s.heap H locs → lv_has ls 6 [(0, .ref (a 0)), (1, .int v1), (2, .int v2), (3, .int v3)] → W p l e { frames := 8, cells := 0, slots := 0, locals := 154 } s m [.ref (a 0), .int p1, .int p2, .int p3].toArray below meth c H locs 0 0 (MQ below ((kQi G (S := Unit) (fun r' _ => r' = res) (fun _ => zw G MS 51 a s9.1 s9.2)) A) [.ref (a 0), .int p1, .int p2, .int p3].toArray s 0 0 A) (F0 m 57 ls [.int t0, .int t1, .int t2]) := by
        intro v1 v2 v3 t0 t1 t2 g L H locs ls h hP hD hS hl
        unfold fX12_become_p57 at h
        obtain ⟨z_, g13, L14, hf15, h⟩ := cb_some h
        refine x_callSi (rest := []) li_X12_392 C (rX12_within l G H.size a fu g L t2 t1 t0 z_ (g13, L14) hf15) (kR rfl) hP hD hS rfl hl.1 rfl (Nat.le_of_ble_eq_true rfl) dX12_become_57 (fun x12 u_ H locs e_ hP hD hS => ?_)
        have e_ : x12 = z_ := e_
        subst e_
        have hP : va_P G.1 vwCl (zw G MS 51 a g13 L14) H := hP
        have hD : va_D A (zw G MS 51 a g13 L14) := hD
        refine lv_if_ne (x := x12) (tgt := 69) hx hb dX12_become_60 (by decide) (fun c16 => ?_) (fun c16 => ?_)
        ·
          have h := ite_e c16 h
          refine lv_bipush (v := 12) hx hb dX12_become_69 (by decide) ?_
          refine lv_iload_n hx hb dX12_become_71 rfl (lv_at hl 2 rfl) ?_
          refine lv_imul hx hb dX12_become_72 ?_
          refine lv_iload_n hx hb dX12_become_73 rfl (lv_at hl 1 rfl) ?_
          refine lv_iadd hx hb dX12_become_74 ?_
          refine y_let h (fun x17 h => ?_)
          refine lv_istore (lv' := [(4, .int x17), (0, .ref (a 0)), (1, .int v1), (2, .int v2), (3, .int v3)]) hx hb dX12_become_75 hl (by decide) rfl (fun ls hl => ?_)
          refine lv_aload_n hx hb dX12_become_77 rfl (lv_at hl 1 rfl) ?_
          refine x_getr (Or.inl fl_X12_50) C hP (by decide) ms_0 rfl dX12_become_78 ?_
          refine lv_iload hx hb dX12_become_81 (lv_at hl 0 rfl) ?_
          refine y_ald C hP (by decide) ms_12 dX12_become_83 h (fun h => ?_)
          refine y_let h (fun x18 h => ?_)
          refine lv_istore (lv' := [(5, .int x18), (4, .int x17), (0, .ref (a 0)), (1, .int v1), (2, .int v2), (3, .int v3)]) hx hb dX12_become_84 hl (by decide) rfl (fun ls hl => ?_)
          refine lv_aload_n hx hb dX12_become_86 rfl (lv_at hl 2 rfl) ?_
          refine lv_iload hx hb dX12_become_87 (lv_at hl 1 rfl) ?_
          refine lv_iload hx hb dX12_become_89 (lv_at hl 0 rfl) ?_
          obtain ⟨z_, g20, L21, hf22, h⟩ := cb_some h
          refine x_callVv (rest := []) li_X12_414 C (rX12_keeps l G H.size a fu g13 L14 x17 x18 z_ (g20, L21) hf22) (kR rfl) hP hD hS 0 12 rfl (zat (by decide) ms_0) rfl hl.1 rfl (Nat.le_of_ble_eq_true rfl) dX12_become_91 (fun u_ H locs e_ hP hD hS => ?_)
          have hP : va_P G.1 vwCl (zw G MS 51 a g20 L21) H := hP
          have hD : va_D A (zw G MS 51 a g20 L21) := hD
          refine lv_aload_n hx hb dX12_become_94 rfl (lv_at hl 2 rfl) ?_
          refine x_getr (Or.inl fl_X12_50) C hP (by decide) ms_0 rfl dX12_become_95 ?_
          refine lv_iload hx hb dX12_become_98 (lv_at hl 1 rfl) ?_
          refine lv_iload_n hx hb dX12_become_100 rfl (lv_at hl 5 rfl) ?_
          refine y_ast C hP hD hS (by decide) ms_12 dX12_become_101 h (fun g23 H locs h hP hD hS => ?_)
          refine lv_iload hx hb dX12_become_102 (lv_at hl 0 rfl) ?_
          exact y_iret C hr hlk hP hD hS h (Nat.le_of_ble_eq_true rfl) (Nat.le_of_ble_eq_true rfl) dX12_become_104
        ·
          have h := ite_t c16 h
          refine lv_aload_n hx hb dX12_become_63 rfl (lv_at hl 0 rfl) ?_
          refine lv_iconst (v := 1) hx hb dX12_become_64 (by decide) ?_
          obtain ⟨z_, g25, L26, hf27, h⟩ := cb_some h
          refine x_callVi (rest := []) li_X12_411 C (rX12_refuses l G H.size a fu g13 L14 1 z_ (g25, L26) hf27) (kR rfl) hP hD hS 0 12 rfl (zat (by decide) ms_0) rfl hl.1 rfl (Nat.le_of_ble_eq_true rfl) dX12_become_65 (fun x24 u_ H locs e_ hP hD hS => ?_)
          have e_ : x24 = z_ := e_
          subst e_
          have hP : va_P G.1 vwCl (zw G MS 51 a g25 L26) H := hP
          have hD : va_D A (zw G MS 51 a g25 L26) := hD
          exact y_iret C hr hlk hP hD hS h (Nat.le_of_ble_eq_true rfl) (Nat.le_of_ble_eq_true rfl) dX12_become_68
      refine lv_if_ne (x := p2) (tgt := 35) hx hb dX12_become_27 (by decide) (fun c28 => ?_) (fun c28 => ?_)
      ·
        have h := ite_e c28 h
        refine lv_iload_n hx hb dX12_become_35 rfl (lv_at hl 2 rfl) ?_
        refine lv_iconst (v := 1) hx hb dX12_become_36 (by decide) ?_
        refine lv_icmp_ne (x := p2) (y := 1) (tgt := 45) hx hb dX12_become_37 (by decide) (fun c29 => ?_) (fun c29 => ?_)
        ·
          have h := ite_e c29 h
          refine lv_iload_n hx hb dX12_become_45 rfl (lv_at hl 2 rfl) ?_
          refine lv_iconst (v := 2) hx hb dX12_become_46 (by decide) ?_
          refine lv_icmp_ne (x := p2) (y := 2) (tgt := 55) hx hb dX12_become_47 (by decide) (fun c30 => ?_) (fun c30 => ?_)
          ·
            have h := ite_e c30 h
            refine lv_bipush (v := 99) hx hb dX12_become_55 (by decide) ?_
            exact J57 p1 p2 p3 99 0 p3 g8 L9 H locs ls h hP hD hS (lv_sub hl [0, 1, 2, 3] rfl)
          ·
            have h := ite_t c30 h
            refine lv_bipush (v := 9) hx hb dX12_become_50 (by decide) ?_
            refine lv_goto (tgt := 57) hx hb dX12_become_52 (by decide) ?_
            exact J57 p1 p2 p3 9 0 p3 g8 L9 H locs ls h hP hD hS (lv_sub hl [0, 1, 2, 3] rfl)
        ·
          have h := ite_t c29 h
          refine lv_bipush (v := 30) hx hb dX12_become_40 (by decide) ?_
          refine lv_goto (tgt := 57) hx hb dX12_become_42 (by decide) ?_
          exact J57 p1 p2 p3 30 0 p3 g8 L9 H locs ls h hP hD hS (lv_sub hl [0, 1, 2, 3] rfl)
      ·
        have h := ite_t c28 h
        refine lv_bipush (v := 60) hx hb dX12_become_30 (by decide) ?_
        refine lv_goto (tgt := 57) hx hb dX12_become_32 (by decide) ?_
        exact J57 p1 p2 p3 60 0 p3 g8 L9 H locs ls h hP hD hS (lv_sub hl [0, 1, 2, 3] rfl)
    ·
      have h := ite_t c11 h
      exact J22 g8 L9 H locs ls h hP hD hS (lv_sub hl [] rfl)
def fX12_obey_p31 (fu : Nat) (t0 : Int32) (g : Nat → Nat → Int32) (L : Nat → Nat → Int64) : Option ((Int32) × zS) :=
  ckb t0 (some (t0, (g, L)))
def fX12_obey_p18 (fu : Nat) (g : Nat → Nat → Int32) (L : Nat → Nat → Int64) : Option ((Int32) × zS) :=
  cb (fX12_refuses fu 1 g L) (fun x2 g3 L4 =>
  if x2 ≤ 0 then fX12_obey_p31 fu 0 g3 L4
  else fX12_obey_p31 fu 1 g3 L4)
def fX12_obey (fu : Nat) (p1 : Int32) (g : Nat → Nat → Int32) (L : Nat → Nat → Int64) : Option ((Int32) × zS) :=
  sti g 0 0 0 (fun g1 =>
  if (p1 : Int32) < (-1) then fX12_obey_p18 fu g1 L
  else if p1 < (g1 0 2) then cb (fX12_keeps fu 48 (g1 0 52) g1 L) (fun x9 g10 L11 =>
  sti g10 0 52 p1 (fun g13 =>
  ckb 1 (some (1, (g13, L11)))))
  else fX12_obey_p18 fu g1 L)
set_option maxHeartbeats 4000000 in
set_option maxRecDepth 100000 in
theorem rX12_obey (l : Launch) (G : kG) (sz : Nat) (a : Nat → Nat) (fu : Nat) (g : Nat → Nat → Int32) (L : Nat → Nat → Int64) (p1 : Int32) (res : Int32) (s9 : zS) (h : fX12_obey fu p1 g L = some (res, s9)) : kM l yX12_obey cX12_obey 2 (some .boolean) { frames := 7, cells := 0, slots := 0, locals := 133 } G [.ref (a 0), .int p1] (zw G MS 51 a g L) sz (kQi G (S := Unit) (fun r' _ => r' = res) (fun _ => zw G MS 51 a s9.1 s9.2)) := by
  refine kM.of (by decide) (Nat.le_of_ble_eq_true rfl) ?_
  intro p e s m below meth c A ls H C hr hlk hnm hP hD hS hl
  have C : kC G p s m c cX12_obey 2 RX12 A := C
  have hx := C.1
  have hb := C.2.1
  have hl : lv_has ls 2 [(0, .ref (a 0)), (1, .int p1)] := hl
  obtain ⟨locs, hlocs⟩ : ∃ q : List Loc, q = [] := ⟨_, rfl⟩
  rw [← hlocs] at hS
  rw [← hlocs]
  unfold fX12_obey at h
  refine lv_aload_n hx hb dX12_obey_0 rfl (lv_at hl 0 rfl) ?_
  refine lv_iconst (v := 0) hx hb dX12_obey_1 (by decide) ?_
  refine y_puti (Or.inl fl_X12_177) ft_X12_0 C hP hD hS (by decide) ms_0 rfl rfl rfl dX12_obey_2 h (fun g1 H locs h hP hD hS => ?_)
  refine lv_iload_n hx hb dX12_obey_5 rfl (lv_at hl 1 rfl) ?_
  refine lv_iconst (v := -1) hx hb dX12_obey_6 (by decide) ?_
  have J18 : ∀ (g : Nat → Nat → Int32) (L : Nat → Nat → Int64) (H : Heap) (locs : List Loc) (ls : Array Slot), fX12_obey_p18 fu g L = some (res, s9) → va_P G.1 vwCl (zw G MS 51 a g L) H → va_D A (zw G MS 51 a g L) → va_S A s.heap H locs → lv_has ls 2 [(0, .ref (a 0))] → W p l e { frames := 7, cells := 0, slots := 0, locals := 133 } s m [.ref (a 0), .int p1].toArray below meth c H locs 0 0 (MQ below ((kQi G (S := Unit) (fun r' _ => r' = res) (fun _ => zw G MS 51 a s9.1 s9.2)) A) [.ref (a 0), .int p1].toArray s 0 0 A) (F0 m 18 ls []) := by
    intro g L H locs ls h hP hD hS hl
    unfold fX12_obey_p18 at h
    refine lv_aload_n hx hb dX12_obey_18 rfl (lv_at hl 0 rfl) ?_
    refine lv_iconst (v := 1) hx hb dX12_obey_19 (by decide) ?_
    obtain ⟨z_, g3, L4, hf5, h⟩ := cb_some h
    refine x_callVi (rest := []) li_X12_411 C (rX12_refuses l G H.size a fu g L 1 z_ (g3, L4) hf5) (kR rfl) hP hD hS 0 12 rfl (zat (by decide) ms_0) rfl hl.1 rfl (Nat.le_of_ble_eq_true rfl) dX12_obey_20 (fun x2 u_ H locs e_ hP hD hS => ?_)
    have e_ : x2 = z_ := e_
    subst e_
    have hP : va_P G.1 vwCl (zw G MS 51 a g3 L4) H := hP
    have hD : va_D A (zw G MS 51 a g3 L4) := hD
    have J31 : ∀ (t0 : Int32) (g : Nat → Nat → Int32) (L : Nat → Nat → Int64) (H : Heap) (locs : List Loc) (ls : Array Slot), fX12_obey_p31 fu t0 g L = some (res, s9) → va_P G.1 vwCl (zw G MS 51 a g L) H → va_D A (zw G MS 51 a g L) → va_S A s.heap H locs → lv_has ls 2 [] → W p l e { frames := 7, cells := 0, slots := 0, locals := 133 } s m [.ref (a 0), .int p1].toArray below meth c H locs 0 0 (MQ below ((kQi G (S := Unit) (fun r' _ => r' = res) (fun _ => zw G MS 51 a s9.1 s9.2)) A) [.ref (a 0), .int p1].toArray s 0 0 A) (F0 m 31 ls [.int t0]) := by
      intro t0 g L H locs ls h hP hD hS hl
      unfold fX12_obey_p31 at h
      exact y_zret C hr hlk hP hD hS h (Nat.le_of_ble_eq_true rfl) (Nat.le_of_ble_eq_true rfl) dX12_obey_31
    refine lv_if_le (x := x2) (tgt := 30) hx hb dX12_obey_23 (by decide) (fun c6 => ?_) (fun c6 => ?_)
    ·
      have h := ite_t c6 h
      refine lv_iconst (v := 0) hx hb dX12_obey_30 (by decide) ?_
      exact J31 0 g3 L4 H locs ls h hP hD hS (lv_sub hl [] rfl)
    ·
      have h := ite_e c6 h
      refine lv_iconst (v := 1) hx hb dX12_obey_26 (by decide) ?_
      refine lv_goto (tgt := 31) hx hb dX12_obey_27 (by decide) ?_
      exact J31 1 g3 L4 H locs ls h hP hD hS (lv_sub hl [] rfl)
  refine lv_icmp_lt (x := p1) (y := (-1)) (tgt := 18) hx hb dX12_obey_7 (by decide) (fun c7 => ?_) (fun c7 => ?_)
  ·
    have h := ite_t c7 h
    exact J18 g1 L H locs ls h hP hD hS (lv_sub hl [0] rfl)
  ·
    have h := ite_e c7 h
    refine lv_iload_n hx hb dX12_obey_10 rfl (lv_at hl 1 rfl) ?_
    refine lv_aload_n hx hb dX12_obey_11 rfl (lv_at hl 0 rfl) ?_
    refine x_getv (v := .int (g1 0 2)) (Or.inl fl_X12_338) C hP (by decide) ms_0 rfl dX12_obey_12 ?_
    refine lv_icmp_lt (x := p1) (y := (g1 0 2)) (tgt := 32) hx hb dX12_obey_15 (by decide) (fun c8 => ?_) (fun c8 => ?_)
    ·
      have h := ite_t c8 h
      refine lv_aload_n hx hb dX12_obey_32 rfl (lv_at hl 0 rfl) ?_
      refine lv_bipush (v := 48) hx hb dX12_obey_33 (by decide) ?_
      refine lv_aload_n hx hb dX12_obey_35 rfl (lv_at hl 0 rfl) ?_
      refine x_getv (v := .int (g1 0 52)) (Or.inl fl_X12_105) C hP (by decide) ms_0 rfl dX12_obey_36 ?_
      obtain ⟨z_, g10, L11, hf12, h⟩ := cb_some h
      refine x_callVv (rest := []) li_X12_414 C (rX12_keeps l G H.size a fu g1 L 48 (g1 0 52) z_ (g10, L11) hf12) (kR rfl) hP hD hS 0 12 rfl (zat (by decide) ms_0) rfl hl.1 rfl (Nat.le_of_ble_eq_true rfl) dX12_obey_39 (fun u_ H locs e_ hP hD hS => ?_)
      have hP : va_P G.1 vwCl (zw G MS 51 a g10 L11) H := hP
      have hD : va_D A (zw G MS 51 a g10 L11) := hD
      refine lv_aload_n hx hb dX12_obey_42 rfl (lv_at hl 0 rfl) ?_
      refine lv_iload_n hx hb dX12_obey_43 rfl (lv_at hl 1 rfl) ?_
      refine y_puti (Or.inl fl_X12_105) ft_X12_52 C hP hD hS (by decide) ms_0 rfl rfl rfl dX12_obey_44 h (fun g13 H locs h hP hD hS => ?_)
      refine lv_iconst (v := 1) hx hb dX12_obey_47 (by decide) ?_
      exact y_zret C hr hlk hP hD hS h (Nat.le_of_ble_eq_true rfl) (Nat.le_of_ble_eq_true rfl) dX12_obey_48
    ·
      have h := ite_e c8 h
      exact J18 g1 L H locs ls h hP hD hS (lv_sub hl [0] rfl)
def fX12_undo_p89 (fu : Nat) (g : Nat → Nat → Int32) (L : Nat → Nat → Int64) : Option ((Int32) × zS) :=
  some ((g 0 62), (g, L))
def fX12_undo (fu : Nat) (g : Nat → Nat → Int32) (L : Nat → Nat → Int64) : Option ((Int32) × zS) :=
  sti g 0 0 0 (fun g1 =>
  if (g1 0 62) = 0 then some ((-1), (g1, L))
  else sti g1 0 62 ((g1 0 62) - 1) (fun g3 =>
  ck (2 * (g3 0 62)) 80 (
  if (g3 36 (Int32.toNatClampNeg (2 * (g3 0 62)))) = 48 then ck ((2 * (g3 0 62)) + 1) 80 (
  sti g3 0 52 (g3 36 (Int32.toNatClampNeg ((2 * (g3 0 62)) + 1))) (fun g6 =>
  fX12_undo_p89 fu g6 L))
  else ck (2 * (g3 0 62)) 80 (
  ck ((2 * (g3 0 62)) + 1) 80 (
  ck (g3 36 (Int32.toNatClampNeg (2 * (g3 0 62)))) 48 (sti g3 12 (Int32.toNatClampNeg (g3 36 (Int32.toNatClampNeg (2 * (g3 0 62))))) (g3 36 (Int32.toNatClampNeg ((2 * (g3 0 62)) + 1))) (fun g5 =>
  fX12_undo_p89 fu g5 L)))))))
set_option maxHeartbeats 4000000 in
set_option maxRecDepth 100000 in
theorem rX12_undo (l : Launch) (G : kG) (sz : Nat) (a : Nat → Nat) (fu : Nat) (g : Nat → Nat → Int32) (L : Nat → Nat → Int64) (res : Int32) (s9 : zS) (h : fX12_undo fu g L = some (res, s9)) : kM l yX12_undo cX12_undo 1 (some .int) { frames := 6, cells := 0, slots := 0, locals := 110 } G [.ref (a 0)] (zw G MS 51 a g L) sz (kQi G (S := Unit) (fun r' _ => r' = res) (fun _ => zw G MS 51 a s9.1 s9.2)) := by
  refine kM.of (by decide) (Nat.le_of_ble_eq_true rfl) ?_
  intro p e s m below meth c A ls H C hr hlk hnm hP hD hS hl
  have C : kC G p s m c cX12_undo 1 RX12 A := C
  have hx := C.1
  have hb := C.2.1
  have hl : lv_has ls 1 [(0, .ref (a 0))] := hl
  obtain ⟨locs, hlocs⟩ : ∃ q : List Loc, q = [] := ⟨_, rfl⟩
  rw [← hlocs] at hS
  rw [← hlocs]
  unfold fX12_undo at h
  refine lv_aload_n hx hb dX12_undo_0 rfl (lv_at hl 0 rfl) ?_
  refine lv_iconst (v := 0) hx hb dX12_undo_1 (by decide) ?_
  refine y_puti (Or.inl fl_X12_177) ft_X12_0 C hP hD hS (by decide) ms_0 rfl rfl rfl dX12_undo_2 h (fun g1 H locs h hP hD hS => ?_)
  refine lv_aload_n hx hb dX12_undo_5 rfl (lv_at hl 0 rfl) ?_
  refine x_getv (v := .int (g1 0 62)) (Or.inl fl_X12_345) C hP (by decide) ms_0 rfl dX12_undo_6 ?_
  refine lv_if_ne (x := (g1 0 62)) (tgt := 14) hx hb dX12_undo_9 (by decide) (fun c2 => ?_) (fun c2 => ?_)
  ·
    have h := ite_e c2 h
    refine lv_aload_n hx hb dX12_undo_14 rfl (lv_at hl 0 rfl) ?_
    refine lv_dup hx hb dX12_undo_15 rfl ?_
    refine x_getv (v := .int (g1 0 62)) (Or.inl fl_X12_345) C hP (by decide) ms_0 rfl dX12_undo_16 ?_
    refine lv_iconst (v := 1) hx hb dX12_undo_19 (by decide) ?_
    refine lv_isub hx hb dX12_undo_20 ?_
    refine y_puti (Or.inl fl_X12_345) ft_X12_62 C hP hD hS (by decide) ms_0 rfl rfl rfl dX12_undo_21 h (fun g3 H locs h hP hD hS => ?_)
    refine lv_aload_n hx hb dX12_undo_24 rfl (lv_at hl 0 rfl) ?_
    refine x_getr (Or.inl fl_X12_132) C hP (by decide) ms_0 rfl dX12_undo_25 ?_
    refine lv_iconst (v := 2) hx hb dX12_undo_28 (by decide) ?_
    refine lv_aload_n hx hb dX12_undo_29 rfl (lv_at hl 0 rfl) ?_
    refine x_getv (v := .int (g3 0 62)) (Or.inl fl_X12_345) C hP (by decide) ms_0 rfl dX12_undo_30 ?_
    refine lv_imul hx hb dX12_undo_33 ?_
    refine y_ald C hP (by decide) ms_36 dX12_undo_34 h (fun h => ?_)
    refine lv_bipush (v := 48) hx hb dX12_undo_35 (by decide) ?_
    have J89 : ∀ (g : Nat → Nat → Int32) (L : Nat → Nat → Int64) (H : Heap) (locs : List Loc) (ls : Array Slot), fX12_undo_p89 fu g L = some (res, s9) → va_P G.1 vwCl (zw G MS 51 a g L) H → va_D A (zw G MS 51 a g L) → va_S A s.heap H locs → lv_has ls 1 [(0, .ref (a 0))] → W p l e { frames := 6, cells := 0, slots := 0, locals := 110 } s m [.ref (a 0)].toArray below meth c H locs 0 0 (MQ below ((kQi G (S := Unit) (fun r' _ => r' = res) (fun _ => zw G MS 51 a s9.1 s9.2)) A) [.ref (a 0)].toArray s 0 0 A) (F0 m 89 ls []) := by
      intro g L H locs ls h hP hD hS hl
      unfold fX12_undo_p89 at h
      refine lv_aload_n hx hb dX12_undo_89 rfl (lv_at hl 0 rfl) ?_
      refine x_getv (v := .int (g 0 62)) (Or.inl fl_X12_345) C hP (by decide) ms_0 rfl dX12_undo_90 ?_
      exact y_iret C hr hlk hP hD hS h (Nat.le_of_ble_eq_true rfl) (Nat.le_of_ble_eq_true rfl) dX12_undo_93
    refine lv_icmp_ne (x := (g3 36 (Int32.toNatClampNeg (2 * (g3 0 62))))) (y := 48) (tgt := 60) hx hb dX12_undo_37 (by decide) (fun c4 => ?_) (fun c4 => ?_)
    ·
      have h := ite_e c4 h
      refine lv_aload_n hx hb dX12_undo_60 rfl (lv_at hl 0 rfl) ?_
      refine x_getr (Or.inl fl_X12_50) C hP (by decide) ms_0 rfl dX12_undo_61 ?_
      refine lv_aload_n hx hb dX12_undo_64 rfl (lv_at hl 0 rfl) ?_
      refine x_getr (Or.inl fl_X12_132) C hP (by decide) ms_0 rfl dX12_undo_65 ?_
      refine lv_iconst (v := 2) hx hb dX12_undo_68 (by decide) ?_
      refine lv_aload_n hx hb dX12_undo_69 rfl (lv_at hl 0 rfl) ?_
      refine x_getv (v := .int (g3 0 62)) (Or.inl fl_X12_345) C hP (by decide) ms_0 rfl dX12_undo_70 ?_
      refine lv_imul hx hb dX12_undo_73 ?_
      refine y_ald C hP (by decide) ms_36 dX12_undo_74 h (fun h => ?_)
      refine lv_aload_n hx hb dX12_undo_75 rfl (lv_at hl 0 rfl) ?_
      refine x_getr (Or.inl fl_X12_132) C hP (by decide) ms_0 rfl dX12_undo_76 ?_
      refine lv_iconst (v := 2) hx hb dX12_undo_79 (by decide) ?_
      refine lv_aload_n hx hb dX12_undo_80 rfl (lv_at hl 0 rfl) ?_
      refine x_getv (v := .int (g3 0 62)) (Or.inl fl_X12_345) C hP (by decide) ms_0 rfl dX12_undo_81 ?_
      refine lv_imul hx hb dX12_undo_84 ?_
      refine lv_iconst (v := 1) hx hb dX12_undo_85 (by decide) ?_
      refine lv_iadd hx hb dX12_undo_86 ?_
      refine y_ald C hP (by decide) ms_36 dX12_undo_87 h (fun h => ?_)
      refine y_ast C hP hD hS (by decide) ms_12 dX12_undo_88 h (fun g5 H locs h hP hD hS => ?_)
      exact J89 g5 L H locs ls h hP hD hS (lv_sub hl [0] rfl)
    ·
      have h := ite_t c4 h
      refine lv_aload_n hx hb dX12_undo_40 rfl (lv_at hl 0 rfl) ?_
      refine lv_aload_n hx hb dX12_undo_41 rfl (lv_at hl 0 rfl) ?_
      refine x_getr (Or.inl fl_X12_132) C hP (by decide) ms_0 rfl dX12_undo_42 ?_
      refine lv_iconst (v := 2) hx hb dX12_undo_45 (by decide) ?_
      refine lv_aload_n hx hb dX12_undo_46 rfl (lv_at hl 0 rfl) ?_
      refine x_getv (v := .int (g3 0 62)) (Or.inl fl_X12_345) C hP (by decide) ms_0 rfl dX12_undo_47 ?_
      refine lv_imul hx hb dX12_undo_50 ?_
      refine lv_iconst (v := 1) hx hb dX12_undo_51 (by decide) ?_
      refine lv_iadd hx hb dX12_undo_52 ?_
      refine y_ald C hP (by decide) ms_36 dX12_undo_53 h (fun h => ?_)
      refine y_puti (Or.inl fl_X12_105) ft_X12_52 C hP hD hS (by decide) ms_0 rfl rfl rfl dX12_undo_54 h (fun g6 H locs h hP hD hS => ?_)
      refine lv_goto (tgt := 89) hx hb dX12_undo_57 (by decide) ?_
      exact J89 g6 L H locs ls h hP hD hS (lv_sub hl [0] rfl)
  ·
    have h := ite_t c2 h
    refine lv_iconst (v := -1) hx hb dX12_undo_12 (by decide) ?_
    exact y_iret C hr hlk hP hD hS h (Nat.le_of_ble_eq_true rfl) (Nat.le_of_ble_eq_true rfl) dX12_undo_13
def fX12_copies_32_37_s2 (fu : Nat) (k2 : Int32 × (Nat → Nat → Int32) × (Nat → Nat → Int64) → Option ((Unit) × zS)) (v3 : Int32) (g : Nat → Nat → Int32) (L : Nat → Nat → Int64) : Option ((Unit) × zS) :=
  if 12 ≤ (v3 : Int32) then some ((), (g, L))
  else ck v3 12 (
  ck v3 12 (sti g 37 (Int32.toNatClampNeg v3) (g 32 (Int32.toNatClampNeg v3)) (fun g2 =>
  k2 ((v3 + 1), g2, L))))
def fX12_copies_32_37_l2 (fu : Nat) (v3 : Int32) (g : Nat → Nat → Int32) (L : Nat → Nat → Int64) : Option ((Unit) × zS) :=
  whileK (fun k v => fX12_copies_32_37_s2 fu k v.1 v.2.1 v.2.2) fu (v3, g, L)
def fX12_copies_32_37 (fu : Nat) (g : Nat → Nat → Int32) (L : Nat → Nat → Int64) : Option ((Unit) × zS) :=
  fX12_copies_32_37_l2 fu 0 g L
set_option maxHeartbeats 4000000 in
set_option maxRecDepth 100000 in
theorem rX12_copies_32_37 (l : Launch) (G : kG) (sz : Nat) (a : Nat → Nat) (fu : Nat) (g : Nat → Nat → Int32) (L : Nat → Nat → Int64) (res : Unit) (s9 : zS) (h : fX12_copies_32_37 fu g L = some (res, s9)) : kM l yX12_copies cX12_copies 4 none { frames := 6, cells := 0, slots := 0, locals := 110 } G [.ref (a 0), .ref (a 32), .ref (a 37)] (zw G MS 51 a g L) sz (kQv G (S := Unit) (fun _ => True) (fun _ => zw G MS 51 a s9.1 s9.2)) := by
  refine kM.of (by decide) (Nat.le_of_ble_eq_true rfl) ?_
  intro p e s m below meth c A ls H C hr hlk hnm hP hD hS hl
  have C : kC G p s m c cX12_copies 4 RX12 A := C
  have hx := C.1
  have hb := C.2.1
  have hl : lv_has ls 4 [(0, .ref (a 0)), (1, .ref (a 32)), (2, .ref (a 37))] := hl
  obtain ⟨locs, hlocs⟩ : ∃ q : List Loc, q = [] := ⟨_, rfl⟩
  rw [← hlocs] at hS
  rw [← hlocs]
  unfold fX12_copies_32_37 at h
  refine lv_iconst (v := 0) hx hb dX12_copies_0 (by decide) ?_
  refine lv_istore_n (lv' := [(3, .int 0), (0, .ref (a 0)), (1, .ref (a 32)), (2, .ref (a 37))]) hx hb dX12_copies_1 rfl hl (by decide) rfl (fun ls hl => ?_)
  have lp2 : ∀ (_ : True), ∀ (n : Nat) (v : Int32 × (Nat → Nat → Int32) × (Nat → Nat → Int64)), whileK (fun k v => fX12_copies_32_37_s2 fu k v.1 v.2.1 v.2.2) n v = some (res, s9) → ∀ (H : Heap) (locs : List Loc) (ls : Array Slot), va_P G.1 vwCl (zw G MS 51 a (v.2.1) (v.2.2)) H → va_D A (zw G MS 51 a (v.2.1) (v.2.2)) → va_S A s.heap H locs → lv_has ls 4 [(1, .ref (a 32)), (2, .ref (a 37)), (3, .int (v.1))] → W p l e { frames := 6, cells := 0, slots := 0, locals := 110 } s m [.ref (a 0), .ref (a 32), .ref (a 37)].toArray below meth c H locs 0 0 (MQ below ((kQv G (S := Unit) (fun _ => True) (fun _ => zw G MS 51 a s9.1 s9.2)) A) [.ref (a 0), .ref (a 32), .ref (a 37)].toArray s 0 0 A) (F0 m 2 ls []) := by
    intro _
    refine while_ind (fun k2 ih2 v h => ?_)
    obtain ⟨v3, g, L⟩ := v
    intro H locs ls hP hD hS hl
    have h : fX12_copies_32_37_s2 fu k2 v3 g L = some (res, s9) := h
    have hP : va_P G.1 vwCl (zw G MS 51 a g L) H := hP
    have hD : va_D A (zw G MS 51 a g L) := hD
    have hl : lv_has ls 4 [(1, .ref (a 32)), (2, .ref (a 37)), (3, .int v3)] := hl
    show W p l e { frames := 6, cells := 0, slots := 0, locals := 110 } s m [.ref (a 0), .ref (a 32), .ref (a 37)].toArray below meth c H locs 0 0 (MQ below ((kQv G (S := Unit) (fun _ => True) (fun _ => zw G MS 51 a s9.1 s9.2)) A) [.ref (a 0), .ref (a 32), .ref (a 37)].toArray s 0 0 A) (F0 m 2 ls [])
    unfold fX12_copies_32_37_s2 at h
    refine lv_iload_n hx hb dX12_copies_2 rfl (lv_at hl 2 rfl) ?_
    refine lv_aload_n hx hb dX12_copies_3 rfl (lv_at hl 0 rfl) ?_
    refine x_alen (v := 12) C hP (by decide) ms_32 rfl dX12_copies_4 ?_
    refine lv_icmp_ge (x := v3) (y := 12) (tgt := 20) hx hb dX12_copies_5 (by decide) (fun c1 => ?_) (fun c1 => ?_)
    ·
      have h := ite_t c1 h
      exact y_vret C hr hlk hP hD hS h (Nat.le_of_ble_eq_true rfl) (Nat.le_of_ble_eq_true rfl) dX12_copies_20
    ·
      have h := ite_e c1 h
      refine lv_aload_n hx hb dX12_copies_8 rfl (lv_at hl 1 rfl) ?_
      refine lv_iload_n hx hb dX12_copies_9 rfl (lv_at hl 2 rfl) ?_
      refine lv_aload_n hx hb dX12_copies_10 rfl (lv_at hl 0 rfl) ?_
      refine lv_iload_n hx hb dX12_copies_11 rfl (lv_at hl 2 rfl) ?_
      refine y_ald C hP (by decide) ms_32 dX12_copies_12 h (fun h => ?_)
      refine y_ast C hP hD hS (by decide) ms_37 dX12_copies_13 h (fun g2 H locs h hP hD hS => ?_)
      refine lv_iinc (v := (v3 + 1)) (lv' := [(3, .int (v3 + 1)), (1, .ref (a 32)), (2, .ref (a 37))]) hx hb dX12_copies_14 hl (k := 2) rfl rfl (by decide) rfl (fun ls hl => ?_)
      refine lv_goto (tgt := 2) hx hb dX12_copies_17 (by decide) ?_
      exact ih2 ((v3 + 1), g2, L) h H locs ls hP hD hS (lv_sub hl [1, 2, 0] rfl)
  exact lp2 trivial fu (0, g, L) h H locs ls hP hD hS (lv_sub hl [2, 3, 0] rfl)
def fX12_moreBy (fu : Nat) (p1 : Int32) (p2 : Int32) (g : Nat → Nat → Int32) (L : Nat → Nat → Int64) : Option ((Int32) × zS) :=
  cb (fX12_works0 fu g L) (fun x1 g2 L3 =>
  cb (fX12_copies_32_37 fu g2 L3) (fun x5 g6 L7 =>
  cb (fX12_lates fu g6 L7) (fun x9 g10 L11 =>
  ck (0 + p1) 48 (
  ck (0 + p1) 48 (sti g10 12 (Int32.toNatClampNeg (0 + p1)) ((g10 12 (Int32.toNatClampNeg (0 + p1))) + p2) (fun g13 =>
  sti g13 0 61 p1 (fun g14 =>
  cb (fX12_works0 fu g14 L11) (fun x15 g16 L17 =>
  sti g16 0 61 (-1) (fun g19 =>
  ck (0 + p1) 48 (
  ck (0 + p1) 48 (sti g19 12 (Int32.toNatClampNeg (0 + p1)) ((g19 12 (Int32.toNatClampNeg (0 + p1))) - p2) (fun g20 =>
  cb (fX12_lates fu g20 L17) (fun x21 g22 L23 =>
  some ((x21 - x9), (g22, L23)))))))))))))))
set_option maxHeartbeats 4000000 in
set_option maxRecDepth 100000 in
theorem rX12_moreBy (l : Launch) (G : kG) (sz : Nat) (a : Nat → Nat) (fu : Nat) (g : Nat → Nat → Int32) (L : Nat → Nat → Int64) (p1 : Int32) (p2 : Int32) (res : Int32) (s9 : zS) (h : fX12_moreBy fu p1 p2 g L = some (res, s9)) : kM l yX12_moreBy cX12_moreBy 4 (some .int) { frames := 11, cells := 0, slots := 0, locals := 228 } G [.ref (a 0), .int p1, .int p2] (zw G MS 51 a g L) sz (kQi G (S := Unit) (fun r' _ => r' = res) (fun _ => zw G MS 51 a s9.1 s9.2)) := by
  refine kM.of (by decide) (Nat.le_of_ble_eq_true rfl) ?_
  intro p e s m below meth c A ls H C hr hlk hnm hP hD hS hl
  have C : kC G p s m c cX12_moreBy 4 RX12 A := C
  have hx := C.1
  have hb := C.2.1
  have hl : lv_has ls 4 [(0, .ref (a 0)), (1, .int p1), (2, .int p2)] := hl
  obtain ⟨locs, hlocs⟩ : ∃ q : List Loc, q = [] := ⟨_, rfl⟩
  rw [← hlocs] at hS
  rw [← hlocs]
  unfold fX12_moreBy at h
  refine lv_aload_n hx hb dX12_moreBy_0 rfl (lv_at hl 0 rfl) ?_
  obtain ⟨z_, g2, L3, hf4, h⟩ := cb_some h
  refine x_callVv (rest := []) li_X12_386 C (rX12_works0 l G H.size a fu g L z_ (g2, L3) hf4) (kR rfl) hP hD hS 0 12 rfl (zat (by decide) ms_0) rfl hl.1 rfl (Nat.le_of_ble_eq_true rfl) dX12_moreBy_1 (fun u_ H locs e_ hP hD hS => ?_)
  have hP : va_P G.1 vwCl (zw G MS 51 a g2 L3) H := hP
  have hD : va_D A (zw G MS 51 a g2 L3) := hD
  refine lv_aload_n hx hb dX12_moreBy_4 rfl (lv_at hl 0 rfl) ?_
  refine lv_aload_n hx hb dX12_moreBy_5 rfl (lv_at hl 0 rfl) ?_
  refine x_getr (Or.inl fl_X12_117) C hP (by decide) ms_0 rfl dX12_moreBy_6 ?_
  refine lv_aload_n hx hb dX12_moreBy_9 rfl (lv_at hl 0 rfl) ?_
  refine x_getr (Or.inl fl_X12_135) C hP (by decide) ms_0 rfl dX12_moreBy_10 ?_
  obtain ⟨z_, g6, L7, hf8, h⟩ := cb_some h
  refine x_callVv (rest := []) li_X12_341 C (rX12_copies_32_37 l G H.size a fu g2 L3 z_ (g6, L7) hf8) (kR rfl) hP hD hS 0 12 rfl (zat (by decide) ms_0) rfl hl.1 rfl (Nat.le_of_ble_eq_true rfl) dX12_moreBy_13 (fun u_ H locs e_ hP hD hS => ?_)
  have hP : va_P G.1 vwCl (zw G MS 51 a g6 L7) H := hP
  have hD : va_D A (zw G MS 51 a g6 L7) := hD
  refine lv_aload_n hx hb dX12_moreBy_16 rfl (lv_at hl 0 rfl) ?_
  obtain ⟨z_, g10, L11, hf12, h⟩ := cb_some h
  refine x_callVi (rest := []) li_X12_418 C (rX12_lates l G H.size a fu g6 L7 z_ (g10, L11) hf12) (kR rfl) hP hD hS 0 12 rfl (zat (by decide) ms_0) rfl hl.1 rfl (Nat.le_of_ble_eq_true rfl) dX12_moreBy_17 (fun x9 u_ H locs e_ hP hD hS => ?_)
  have e_ : x9 = z_ := e_
  subst e_
  have hP : va_P G.1 vwCl (zw G MS 51 a g10 L11) H := hP
  have hD : va_D A (zw G MS 51 a g10 L11) := hD
  refine lv_istore_n (lv' := [(3, .int x9), (0, .ref (a 0)), (1, .int p1), (2, .int p2)]) hx hb dX12_moreBy_20 rfl hl (by decide) rfl (fun ls hl => ?_)
  refine lv_aload_n hx hb dX12_moreBy_21 rfl (lv_at hl 1 rfl) ?_
  refine x_getr (Or.inl fl_X12_50) C hP (by decide) ms_0 rfl dX12_moreBy_22 ?_
  refine lv_iconst (v := 0) hx hb dX12_moreBy_25 (by decide) ?_
  refine lv_iload_n hx hb dX12_moreBy_26 rfl (lv_at hl 2 rfl) ?_
  refine lv_iadd hx hb dX12_moreBy_27 ?_
  refine lv_dup2_11 hx hb dX12_moreBy_28 rfl rfl ?_
  refine y_ald C hP (by decide) ms_12 dX12_moreBy_29 h (fun h => ?_)
  refine lv_iload_n hx hb dX12_moreBy_30 rfl (lv_at hl 3 rfl) ?_
  refine lv_iadd hx hb dX12_moreBy_31 ?_
  refine y_ast C hP hD hS (by decide) ms_12 dX12_moreBy_32 h (fun g13 H locs h hP hD hS => ?_)
  refine lv_aload_n hx hb dX12_moreBy_33 rfl (lv_at hl 1 rfl) ?_
  refine lv_iload_n hx hb dX12_moreBy_34 rfl (lv_at hl 2 rfl) ?_
  refine y_puti (Or.inl fl_X12_129) ft_X12_61 C hP hD hS (by decide) ms_0 rfl rfl rfl dX12_moreBy_35 h (fun g14 H locs h hP hD hS => ?_)
  refine lv_aload_n hx hb dX12_moreBy_38 rfl (lv_at hl 1 rfl) ?_
  obtain ⟨z_, g16, L17, hf18, h⟩ := cb_some h
  refine x_callVv (rest := []) li_X12_386 C (rX12_works0 l G H.size a fu g14 L11 z_ (g16, L17) hf18) (kR rfl) hP hD hS 0 12 rfl (zat (by decide) ms_0) rfl hl.1 rfl (Nat.le_of_ble_eq_true rfl) dX12_moreBy_39 (fun u_ H locs e_ hP hD hS => ?_)
  have hP : va_P G.1 vwCl (zw G MS 51 a g16 L17) H := hP
  have hD : va_D A (zw G MS 51 a g16 L17) := hD
  refine lv_aload_n hx hb dX12_moreBy_42 rfl (lv_at hl 1 rfl) ?_
  refine lv_iconst (v := -1) hx hb dX12_moreBy_43 (by decide) ?_
  refine y_puti (Or.inl fl_X12_129) ft_X12_61 C hP hD hS (by decide) ms_0 rfl rfl rfl dX12_moreBy_44 h (fun g19 H locs h hP hD hS => ?_)
  refine lv_aload_n hx hb dX12_moreBy_47 rfl (lv_at hl 1 rfl) ?_
  refine x_getr (Or.inl fl_X12_50) C hP (by decide) ms_0 rfl dX12_moreBy_48 ?_
  refine lv_iconst (v := 0) hx hb dX12_moreBy_51 (by decide) ?_
  refine lv_iload_n hx hb dX12_moreBy_52 rfl (lv_at hl 2 rfl) ?_
  refine lv_iadd hx hb dX12_moreBy_53 ?_
  refine lv_dup2_11 hx hb dX12_moreBy_54 rfl rfl ?_
  refine y_ald C hP (by decide) ms_12 dX12_moreBy_55 h (fun h => ?_)
  refine lv_iload_n hx hb dX12_moreBy_56 rfl (lv_at hl 3 rfl) ?_
  refine lv_isub hx hb dX12_moreBy_57 ?_
  refine y_ast C hP hD hS (by decide) ms_12 dX12_moreBy_58 h (fun g20 H locs h hP hD hS => ?_)
  refine lv_aload_n hx hb dX12_moreBy_59 rfl (lv_at hl 1 rfl) ?_
  obtain ⟨z_, g22, L23, hf24, h⟩ := cb_some h
  refine x_callVi (rest := []) li_X12_418 C (rX12_lates l G H.size a fu g20 L17 z_ (g22, L23) hf24) (kR rfl) hP hD hS 0 12 rfl (zat (by decide) ms_0) rfl hl.1 rfl (Nat.le_of_ble_eq_true rfl) dX12_moreBy_60 (fun x21 u_ H locs e_ hP hD hS => ?_)
  have e_ : x21 = z_ := e_
  subst e_
  have hP : va_P G.1 vwCl (zw G MS 51 a g22 L23) H := hP
  have hD : va_D A (zw G MS 51 a g22 L23) := hD
  refine lv_iload_n hx hb dX12_moreBy_63 rfl (lv_at hl 0 rfl) ?_
  refine lv_isub hx hb dX12_moreBy_64 ?_
  exact y_iret C hr hlk hP hD hS h (Nat.le_of_ble_eq_true rfl) (Nat.le_of_ble_eq_true rfl) dX12_moreBy_65
def fX12_later_p35 (fu : Nat) (k4 : Int32 × Int32 × (Nat → Nat → Int32) × (Nat → Nat → Int64) → Option ((Int32) × zS)) (v2 : Int32) (t0 : Int32) (t1 : Int32) (g : Nat → Nat → Int32) (L : Nat → Nat → Int64) : Option ((Int32) × zS) :=
  lti (t1 ||| t0) (fun x2 =>
  k4 (x2, (v2 + 1), g, L))
def fX12_later_s4 (fu : Nat) (k4 : Int32 × Int32 × (Nat → Nat → Int32) × (Nat → Nat → Int64) → Option ((Int32) × zS)) (v1 : Int32) (v2 : Int32) (g : Nat → Nat → Int32) (L : Nat → Nat → Int64) : Option ((Int32) × zS) :=
  if (g 0 1) ≤ v2 then some (v1, (g, L))
  else ck v2 12 (
  ck v2 12 (
  if (g 32 (Int32.toNatClampNeg v2)) ≤ (g 37 (Int32.toNatClampNeg v2)) then fX12_later_p35 fu k4 v2 0 v1 g L
  else fX12_later_p35 fu k4 v2 ((1 : Int32) <<< ((v2 : Int32) &&& 31) : Int32) v1 g L))
def fX12_later_l4 (fu : Nat) (v1 : Int32) (v2 : Int32) (g : Nat → Nat → Int32) (L : Nat → Nat → Int64) : Option ((Int32) × zS) :=
  whileK (fun k v => fX12_later_s4 fu k v.1 v.2.1 v.2.2.1 v.2.2.2) fu (v1, v2, g, L)
def fX12_later (fu : Nat) (g : Nat → Nat → Int32) (L : Nat → Nat → Int64) : Option ((Int32) × zS) :=
  fX12_later_l4 fu 0 0 g L
set_option maxHeartbeats 4000000 in
set_option maxRecDepth 100000 in
theorem rX12_later (l : Launch) (G : kG) (sz : Nat) (a : Nat → Nat) (fu : Nat) (g : Nat → Nat → Int32) (L : Nat → Nat → Int64) (res : Int32) (s9 : zS) (h : fX12_later fu g L = some (res, s9)) : kM l yX12_later cX12_later 3 (some .int) { frames := 6, cells := 0, slots := 0, locals := 110 } G [.ref (a 0)] (zw G MS 51 a g L) sz (kQi G (S := Unit) (fun r' _ => r' = res) (fun _ => zw G MS 51 a s9.1 s9.2)) := by
  refine kM.of (by decide) (Nat.le_of_ble_eq_true rfl) ?_
  intro p e s m below meth c A ls H C hr hlk hnm hP hD hS hl
  have C : kC G p s m c cX12_later 3 RX12 A := C
  have hx := C.1
  have hb := C.2.1
  have hl : lv_has ls 3 [(0, .ref (a 0))] := hl
  obtain ⟨locs, hlocs⟩ : ∃ q : List Loc, q = [] := ⟨_, rfl⟩
  rw [← hlocs] at hS
  rw [← hlocs]
  unfold fX12_later at h
  refine lv_iconst (v := 0) hx hb dX12_later_0 (by decide) ?_
  refine lv_istore_n (lv' := [(1, .int 0), (0, .ref (a 0))]) hx hb dX12_later_1 rfl hl (by decide) rfl (fun ls hl => ?_)
  refine lv_iconst (v := 0) hx hb dX12_later_2 (by decide) ?_
  refine lv_istore_n (lv' := [(2, .int 0), (1, .int 0), (0, .ref (a 0))]) hx hb dX12_later_3 rfl hl (by decide) rfl (fun ls hl => ?_)
  have lp4 : ∀ (_ : True), ∀ (n : Nat) (v : Int32 × Int32 × (Nat → Nat → Int32) × (Nat → Nat → Int64)), whileK (fun k v => fX12_later_s4 fu k v.1 v.2.1 v.2.2.1 v.2.2.2) n v = some (res, s9) → ∀ (H : Heap) (locs : List Loc) (ls : Array Slot), va_P G.1 vwCl (zw G MS 51 a (v.2.2.1) (v.2.2.2)) H → va_D A (zw G MS 51 a (v.2.2.1) (v.2.2.2)) → va_S A s.heap H locs → lv_has ls 3 [(0, .ref (a 0)), (1, .int (v.1)), (2, .int (v.2.1))] → W p l e { frames := 6, cells := 0, slots := 0, locals := 110 } s m [.ref (a 0)].toArray below meth c H locs 0 0 (MQ below ((kQi G (S := Unit) (fun r' _ => r' = res) (fun _ => zw G MS 51 a s9.1 s9.2)) A) [.ref (a 0)].toArray s 0 0 A) (F0 m 4 ls []) := by
    intro _
    refine while_ind (fun k4 ih4 v h => ?_)
    obtain ⟨v1, v2, g, L⟩ := v
    intro H locs ls hP hD hS hl
    have h : fX12_later_s4 fu k4 v1 v2 g L = some (res, s9) := h
    have hP : va_P G.1 vwCl (zw G MS 51 a g L) H := hP
    have hD : va_D A (zw G MS 51 a g L) := hD
    have hl : lv_has ls 3 [(0, .ref (a 0)), (1, .int v1), (2, .int v2)] := hl
    show W p l e { frames := 6, cells := 0, slots := 0, locals := 110 } s m [.ref (a 0)].toArray below meth c H locs 0 0 (MQ below ((kQi G (S := Unit) (fun r' _ => r' = res) (fun _ => zw G MS 51 a s9.1 s9.2)) A) [.ref (a 0)].toArray s 0 0 A) (F0 m 4 ls [])
    unfold fX12_later_s4 at h
    refine lv_iload_n hx hb dX12_later_4 rfl (lv_at hl 2 rfl) ?_
    refine lv_aload_n hx hb dX12_later_5 rfl (lv_at hl 0 rfl) ?_
    refine x_getv (v := .int (g 0 1)) (Or.inl fl_X12_335) C hP (by decide) ms_0 rfl dX12_later_6 ?_
    refine lv_icmp_ge (x := v2) (y := (g 0 1)) (tgt := 43) hx hb dX12_later_9 (by decide) (fun c1 => ?_) (fun c1 => ?_)
    ·
      have h := ite_t c1 h
      refine lv_iload_n hx hb dX12_later_43 rfl (lv_at hl 1 rfl) ?_
      exact y_iret C hr hlk hP hD hS h (Nat.le_of_ble_eq_true rfl) (Nat.le_of_ble_eq_true rfl) dX12_later_44
    ·
      have h := ite_e c1 h
      refine lv_iload_n hx hb dX12_later_12 rfl (lv_at hl 1 rfl) ?_
      refine lv_aload_n hx hb dX12_later_13 rfl (lv_at hl 0 rfl) ?_
      refine x_getr (Or.inl fl_X12_117) C hP (by decide) ms_0 rfl dX12_later_14 ?_
      refine lv_iload_n hx hb dX12_later_17 rfl (lv_at hl 2 rfl) ?_
      refine y_ald C hP (by decide) ms_32 dX12_later_18 h (fun h => ?_)
      refine lv_aload_n hx hb dX12_later_19 rfl (lv_at hl 0 rfl) ?_
      refine x_getr (Or.inl fl_X12_135) C hP (by decide) ms_0 rfl dX12_later_20 ?_
      refine lv_iload_n hx hb dX12_later_23 rfl (lv_at hl 2 rfl) ?_
      refine y_ald C hP (by decide) ms_37 dX12_later_24 h (fun h => ?_)
      have J35 : ∀ (v2 : Int32) (t0 : Int32) (t1 : Int32) (g : Nat → Nat → Int32) (L : Nat → Nat → Int64) (H : Heap) (locs : List Loc) (ls : Array Slot), fX12_later_p35 fu k4 v2 t0 t1 g L = some (res, s9) → va_P G.1 vwCl (zw G MS 51 a g L) H → va_D A (zw G MS 51 a g L) → va_S A s.heap H locs → lv_has ls 3 [(0, .ref (a 0)), (2, .int v2)] → W p l e { frames := 6, cells := 0, slots := 0, locals := 110 } s m [.ref (a 0)].toArray below meth c H locs 0 0 (MQ below ((kQi G (S := Unit) (fun r' _ => r' = res) (fun _ => zw G MS 51 a s9.1 s9.2)) A) [.ref (a 0)].toArray s 0 0 A) (F0 m 35 ls [.int t0, .int t1]) := by
        intro v2 t0 t1 g L H locs ls h hP hD hS hl
        unfold fX12_later_p35 at h
        refine lv_ior hx hb dX12_later_35 ?_
        refine y_let h (fun x2 h => ?_)
        refine lv_istore_n (lv' := [(1, .int x2), (0, .ref (a 0)), (2, .int v2)]) hx hb dX12_later_36 rfl hl (by decide) rfl (fun ls hl => ?_)
        refine lv_iinc (v := (v2 + 1)) (lv' := [(2, .int (v2 + 1)), (1, .int x2), (0, .ref (a 0))]) hx hb dX12_later_37 hl (k := 2) rfl rfl (by decide) rfl (fun ls hl => ?_)
        refine lv_goto (tgt := 4) hx hb dX12_later_40 (by decide) ?_
        exact ih4 (x2, (v2 + 1), g, L) h H locs ls hP hD hS (lv_sub hl [2, 1, 0] rfl)
      refine lv_icmp_le (x := (g 32 (Int32.toNatClampNeg v2))) (y := (g 37 (Int32.toNatClampNeg v2))) (tgt := 34) hx hb dX12_later_25 (by decide) (fun c3 => ?_) (fun c3 => ?_)
      ·
        have h := ite_t c3 h
        refine lv_iconst (v := 0) hx hb dX12_later_34 (by decide) ?_
        exact J35 v2 0 v1 g L H locs ls h hP hD hS (lv_sub hl [0, 2] rfl)
      ·
        have h := ite_e c3 h
        refine lv_iconst (v := 1) hx hb dX12_later_28 (by decide) ?_
        refine lv_iload_n hx hb dX12_later_29 rfl (lv_at hl 2 rfl) ?_
        refine lv_ishl hx hb dX12_later_30 ?_
        refine lv_goto (tgt := 35) hx hb dX12_later_31 (by decide) ?_
        exact J35 v2 ((1 : Int32) <<< ((v2 : Int32) &&& 31) : Int32) v1 g L H locs ls h hP hD hS (lv_sub hl [0, 2] rfl)
  exact lp4 trivial fu (0, 0, g, L) h H locs ls hP hD hS (lv_sub hl [2, 1, 0] rfl)
def fX12_far_p37 (fu : Nat) (g : Nat → Nat → Int32) (L : Nat → Nat → Int64) : Option ((Int32) × zS) :=
  some (0, (g, L))
def fX12_far_p60 (fu : Nat) (t0 : Int32) (g : Nat → Nat → Int32) (L : Nat → Nat → Int64) : Option ((Int32) × zS) :=
  some (t0, (g, L))
def fX12_far (fu : Nat) (p1 : Int32) (p2 : Int32) (p3 : Int32) (g : Nat → Nat → Int32) (L : Nat → Nat → Int64) : Option ((Int32) × zS) :=
  sti g 0 0 0 (fun g1 =>
  cb (fX12_isLesson fu p1 g1 L) (fun x2 g3 L4 =>
  if x2 = 0 then fX12_far_p37 fu g3 L4
  else cb (fX12_isWhat fu p3 1 g3 L4) (fun x7 g8 L9 =>
  if x7 = 0 then fX12_far_p37 fu g8 L9
  else cb (fX12_within fu p2 0 120 g8 L9) (fun x12 g13 L14 =>
  cb (fX12_right fu x12 2 g13 L14) (fun x16 g17 L18 =>
  if x16 = 0 then fX12_far_p37 fu g17 L18
  else cb (fX12_moreBy fu p1 p2 g17 L18) (fun x21 g22 L23 =>
  if p3 = 0 then cb (fX12_later fu g22 L23) (fun x26 g27 L28 =>
  fX12_far_p60 fu x26 g27 L28)
  else fX12_far_p60 fu x21 g22 L23))))))
set_option maxHeartbeats 4000000 in
set_option maxRecDepth 100000 in
theorem rX12_far (l : Launch) (G : kG) (sz : Nat) (a : Nat → Nat) (fu : Nat) (g : Nat → Nat → Int32) (L : Nat → Nat → Int64) (p1 : Int32) (p2 : Int32) (p3 : Int32) (res : Int32) (s9 : zS) (h : fX12_far fu p1 p2 p3 g L = some (res, s9)) : kM l yX12_far cX12_far 5 (some .int) { frames := 12, cells := 0, slots := 0, locals := 251 } G [.ref (a 0), .int p1, .int p2, .int p3] (zw G MS 51 a g L) sz (kQi G (S := Unit) (fun r' _ => r' = res) (fun _ => zw G MS 51 a s9.1 s9.2)) := by
  refine kM.of (by decide) (Nat.le_of_ble_eq_true rfl) ?_
  intro p e s m below meth c A ls H C hr hlk hnm hP hD hS hl
  have C : kC G p s m c cX12_far 5 RX12 A := C
  have hx := C.1
  have hb := C.2.1
  have hl : lv_has ls 5 [(0, .ref (a 0)), (1, .int p1), (2, .int p2), (3, .int p3)] := hl
  obtain ⟨locs, hlocs⟩ : ∃ q : List Loc, q = [] := ⟨_, rfl⟩
  rw [← hlocs] at hS
  rw [← hlocs]
  unfold fX12_far at h
  refine lv_aload_n hx hb dX12_far_0 rfl (lv_at hl 0 rfl) ?_
  refine lv_iconst (v := 0) hx hb dX12_far_1 (by decide) ?_
  refine y_puti (Or.inl fl_X12_177) ft_X12_0 C hP hD hS (by decide) ms_0 rfl rfl rfl dX12_far_2 h (fun g1 H locs h hP hD hS => ?_)
  refine lv_aload_n hx hb dX12_far_5 rfl (lv_at hl 0 rfl) ?_
  refine lv_iload_n hx hb dX12_far_6 rfl (lv_at hl 1 rfl) ?_
  obtain ⟨z_, g3, L4, hf5, h⟩ := cb_some h
  refine x_callVi (rest := []) li_X12_402 C (rX12_isLesson l G H.size a fu g1 L p1 z_ (g3, L4) hf5) (kR rfl) hP hD hS 0 12 rfl (zat (by decide) ms_0) rfl hl.1 rfl (Nat.le_of_ble_eq_true rfl) dX12_far_7 (fun x2 u_ H locs e_ hP hD hS => ?_)
  have e_ : x2 = z_ := e_
  subst e_
  have hP : va_P G.1 vwCl (zw G MS 51 a g3 L4) H := hP
  have hD : va_D A (zw G MS 51 a g3 L4) := hD
  have J37 : ∀ (g : Nat → Nat → Int32) (L : Nat → Nat → Int64) (H : Heap) (locs : List Loc) (ls : Array Slot), fX12_far_p37 fu g L = some (res, s9) → va_P G.1 vwCl (zw G MS 51 a g L) H → va_D A (zw G MS 51 a g L) → va_S A s.heap H locs → lv_has ls 5 [] → W p l e { frames := 12, cells := 0, slots := 0, locals := 251 } s m [.ref (a 0), .int p1, .int p2, .int p3].toArray below meth c H locs 0 0 (MQ below ((kQi G (S := Unit) (fun r' _ => r' = res) (fun _ => zw G MS 51 a s9.1 s9.2)) A) [.ref (a 0), .int p1, .int p2, .int p3].toArray s 0 0 A) (F0 m 37 ls []) := by
    intro g L H locs ls h hP hD hS hl
    unfold fX12_far_p37 at h
    refine lv_iconst (v := 0) hx hb dX12_far_37 (by decide) ?_
    exact y_iret C hr hlk hP hD hS h (Nat.le_of_ble_eq_true rfl) (Nat.le_of_ble_eq_true rfl) dX12_far_38
  refine lv_if_eq (x := x2) (tgt := 37) hx hb dX12_far_10 (by decide) (fun c6 => ?_) (fun c6 => ?_)
  ·
    have h := ite_t c6 h
    exact J37 g3 L4 H locs ls h hP hD hS (lv_sub hl [] rfl)
  ·
    have h := ite_e c6 h
    refine lv_aload_n hx hb dX12_far_13 rfl (lv_at hl 0 rfl) ?_
    refine lv_iload_n hx hb dX12_far_14 rfl (lv_at hl 3 rfl) ?_
    refine lv_iconst (v := 1) hx hb dX12_far_15 (by decide) ?_
    obtain ⟨z_, g8, L9, hf10, h⟩ := cb_some h
    refine x_callVi (rest := []) li_X12_405 C (rX12_isWhat l G H.size a fu g3 L4 p3 1 z_ (g8, L9) hf10) (kR rfl) hP hD hS 0 12 rfl (zat (by decide) ms_0) rfl hl.1 rfl (Nat.le_of_ble_eq_true rfl) dX12_far_16 (fun x7 u_ H locs e_ hP hD hS => ?_)
    have e_ : x7 = z_ := e_
    subst e_
    have hP : va_P G.1 vwCl (zw G MS 51 a g8 L9) H := hP
    have hD : va_D A (zw G MS 51 a g8 L9) := hD
    refine lv_if_eq (x := x7) (tgt := 37) hx hb dX12_far_19 (by decide) (fun c11 => ?_) (fun c11 => ?_)
    ·
      have h := ite_t c11 h
      exact J37 g8 L9 H locs ls h hP hD hS (lv_sub hl [] rfl)
    ·
      have h := ite_e c11 h
      refine lv_aload_n hx hb dX12_far_22 rfl (lv_at hl 0 rfl) ?_
      refine lv_iload_n hx hb dX12_far_23 rfl (lv_at hl 2 rfl) ?_
      refine lv_iconst (v := 0) hx hb dX12_far_24 (by decide) ?_
      refine lv_bipush (v := 120) hx hb dX12_far_25 (by decide) ?_
      obtain ⟨z_, g13, L14, hf15, h⟩ := cb_some h
      refine x_callSi (rest := [.ref (a 0)]) li_X12_392 C (rX12_within l G H.size a fu g8 L9 p2 0 120 z_ (g13, L14) hf15) (kR rfl) hP hD hS rfl hl.1 rfl (Nat.le_of_ble_eq_true rfl) dX12_far_27 (fun x12 u_ H locs e_ hP hD hS => ?_)
      have e_ : x12 = z_ := e_
      subst e_
      have hP : va_P G.1 vwCl (zw G MS 51 a g13 L14) H := hP
      have hD : va_D A (zw G MS 51 a g13 L14) := hD
      refine lv_iconst (v := 2) hx hb dX12_far_30 (by decide) ?_
      obtain ⟨z_, g17, L18, hf19, h⟩ := cb_some h
      refine x_callVi (rest := []) li_X12_328 C (rX12_right l G H.size a fu g13 L14 x12 2 z_ (g17, L18) hf19) (kR rfl) hP hD hS 0 12 rfl (zat (by decide) ms_0) rfl hl.1 rfl (Nat.le_of_ble_eq_true rfl) dX12_far_31 (fun x16 u_ H locs e_ hP hD hS => ?_)
      have e_ : x16 = z_ := e_
      subst e_
      have hP : va_P G.1 vwCl (zw G MS 51 a g17 L18) H := hP
      have hD : va_D A (zw G MS 51 a g17 L18) := hD
      refine lv_if_ne (x := x16) (tgt := 39) hx hb dX12_far_34 (by decide) (fun c20 => ?_) (fun c20 => ?_)
      ·
        have h := ite_e c20 h
        refine lv_aload_n hx hb dX12_far_39 rfl (lv_at hl 0 rfl) ?_
        refine lv_iload_n hx hb dX12_far_40 rfl (lv_at hl 1 rfl) ?_
        refine lv_iload_n hx hb dX12_far_41 rfl (lv_at hl 2 rfl) ?_
        obtain ⟨z_, g22, L23, hf24, h⟩ := cb_some h
        refine x_callVi (rest := []) li_X12_421 C (rX12_moreBy l G H.size a fu g17 L18 p1 p2 z_ (g22, L23) hf24) (kR rfl) hP hD hS 0 12 rfl (zat (by decide) ms_0) rfl hl.1 rfl (Nat.le_of_ble_eq_true rfl) dX12_far_42 (fun x21 u_ H locs e_ hP hD hS => ?_)
        have e_ : x21 = z_ := e_
        subst e_
        have hP : va_P G.1 vwCl (zw G MS 51 a g22 L23) H := hP
        have hD : va_D A (zw G MS 51 a g22 L23) := hD
        refine lv_istore (lv' := [(4, .int x21), (0, .ref (a 0)), (1, .int p1), (2, .int p2), (3, .int p3)]) hx hb dX12_far_45 hl (by decide) rfl (fun ls hl => ?_)
        refine lv_iload_n hx hb dX12_far_47 rfl (lv_at hl 4 rfl) ?_
        have J60 : ∀ (t0 : Int32) (g : Nat → Nat → Int32) (L : Nat → Nat → Int64) (H : Heap) (locs : List Loc) (ls : Array Slot), fX12_far_p60 fu t0 g L = some (res, s9) → va_P G.1 vwCl (zw G MS 51 a g L) H → va_D A (zw G MS 51 a g L) → va_S A s.heap H locs → lv_has ls 5 [] → W p l e { frames := 12, cells := 0, slots := 0, locals := 251 } s m [.ref (a 0), .int p1, .int p2, .int p3].toArray below meth c H locs 0 0 (MQ below ((kQi G (S := Unit) (fun r' _ => r' = res) (fun _ => zw G MS 51 a s9.1 s9.2)) A) [.ref (a 0), .int p1, .int p2, .int p3].toArray s 0 0 A) (F0 m 60 ls [.int t0]) := by
          intro t0 g L H locs ls h hP hD hS hl
          unfold fX12_far_p60 at h
          exact y_iret C hr hlk hP hD hS h (Nat.le_of_ble_eq_true rfl) (Nat.le_of_ble_eq_true rfl) dX12_far_60
        refine lv_if_ne (x := p3) (tgt := 58) hx hb dX12_far_48 (by decide) (fun c25 => ?_) (fun c25 => ?_)
        ·
          have h := ite_e c25 h
          refine lv_iload hx hb dX12_far_58 (lv_at hl 0 rfl) ?_
          exact J60 x21 g22 L23 H locs ls h hP hD hS (lv_sub hl [] rfl)
        ·
          have h := ite_t c25 h
          refine lv_aload_n hx hb dX12_far_51 rfl (lv_at hl 1 rfl) ?_
          obtain ⟨z_, g27, L28, hf29, h⟩ := cb_some h
          refine x_callVi (rest := []) li_X12_424 C (rX12_later l G H.size a fu g22 L23 z_ (g27, L28) hf29) (kR rfl) hP hD hS 0 12 rfl (zat (by decide) ms_0) rfl hl.1 rfl (Nat.le_of_ble_eq_true rfl) dX12_far_52 (fun x26 u_ H locs e_ hP hD hS => ?_)
          have e_ : x26 = z_ := e_
          subst e_
          have hP : va_P G.1 vwCl (zw G MS 51 a g27 L28) H := hP
          have hD : va_D A (zw G MS 51 a g27 L28) := hD
          refine lv_goto (tgt := 60) hx hb dX12_far_55 (by decide) ?_
          exact J60 x26 g27 L28 H locs ls h hP hD hS (lv_sub hl [] rfl)
      ·
        have h := ite_t c20 h
        exact J37 g17 L18 H locs ls h hP hD hS (lv_sub hl [] rfl)
def fX12_reaches_p39 (fu : Nat) (g : Nat → Nat → Int32) (L : Nat → Nat → Int64) : Option ((Int32) × zS) :=
  some (0, (g, L))
def fX12_reaches_s43 (fu : Nat) (v1 : Int32) (v2 : Int32) (k43 : Int32 × (Nat → Nat → Int32) × (Nat → Nat → Int64) → Option ((Int32) × zS)) (v3 : Int32) (g : Nat → Nat → Int32) (L : Nat → Nat → Int64) : Option ((Int32) × zS) :=
  if 120 < (v3 : Int32) then some ((-1), (g, L))
  else cb (fX12_moreBy fu v1 v3 g L) (fun x18 g19 L20 =>
  cb (fX12_later fu g19 L20) (fun x22 g23 L24 =>
  if (((x22 : Int32) >>> ((v2 : Int32) &&& 31) : Int32) &&& 1) = 1 then some (v3, (g23, L24))
  else k43 ((v3 + 1), g23, L24)))
def fX12_reaches_l43 (fu : Nat) (v1 : Int32) (v2 : Int32) (v3 : Int32) (g : Nat → Nat → Int32) (L : Nat → Nat → Int64) : Option ((Int32) × zS) :=
  whileK (fun k v => fX12_reaches_s43 fu v1 v2 k v.1 v.2.1 v.2.2) fu (v3, g, L)
def fX12_reaches_p32 (fu : Nat) (v1 : Int32) (v2 : Int32) (t0 : Int32) (g : Nat → Nat → Int32) (L : Nat → Nat → Int64) : Option ((Int32) × zS) :=
  cb (fX12_right fu t0 2 g L) (fun x12 g13 L14 =>
  if x12 = 0 then fX12_reaches_p39 fu g13 L14
  else fX12_reaches_l43 fu v1 v2 1 g13 L14)
def fX12_reaches (fu : Nat) (p1 : Int32) (p2 : Int32) (g : Nat → Nat → Int32) (L : Nat → Nat → Int64) : Option ((Int32) × zS) :=
  sti g 0 0 0 (fun g1 =>
  cb (fX12_isLesson fu p1 g1 L) (fun x2 g3 L4 =>
  if x2 = 0 then fX12_reaches_p39 fu g3 L4
  else cb (fX12_isLesson fu p2 g3 L4) (fun x7 g8 L9 =>
  if x7 = 0 then fX12_reaches_p39 fu g8 L9
  else if (p1 : Int32) = p2 then fX12_reaches_p32 fu p1 p2 0 g8 L9
  else fX12_reaches_p32 fu p1 p2 1 g8 L9)))
set_option maxHeartbeats 4000000 in
set_option maxRecDepth 100000 in
theorem rX12_reaches (l : Launch) (G : kG) (sz : Nat) (a : Nat → Nat) (fu : Nat) (g : Nat → Nat → Int32) (L : Nat → Nat → Int64) (p1 : Int32) (p2 : Int32) (res : Int32) (s9 : zS) (h : fX12_reaches fu p1 p2 g L = some (res, s9)) : kM l yX12_reaches cX12_reaches 4 (some .int) { frames := 12, cells := 0, slots := 0, locals := 251 } G [.ref (a 0), .int p1, .int p2] (zw G MS 51 a g L) sz (kQi G (S := Unit) (fun r' _ => r' = res) (fun _ => zw G MS 51 a s9.1 s9.2)) := by
  refine kM.of (by decide) (Nat.le_of_ble_eq_true rfl) ?_
  intro p e s m below meth c A ls H C hr hlk hnm hP hD hS hl
  have C : kC G p s m c cX12_reaches 4 RX12 A := C
  have hx := C.1
  have hb := C.2.1
  have hl : lv_has ls 4 [(0, .ref (a 0)), (1, .int p1), (2, .int p2)] := hl
  obtain ⟨locs, hlocs⟩ : ∃ q : List Loc, q = [] := ⟨_, rfl⟩
  rw [← hlocs] at hS
  rw [← hlocs]
  unfold fX12_reaches at h
  refine lv_aload_n hx hb dX12_reaches_0 rfl (lv_at hl 0 rfl) ?_
  refine lv_iconst (v := 0) hx hb dX12_reaches_1 (by decide) ?_
  refine y_puti (Or.inl fl_X12_177) ft_X12_0 C hP hD hS (by decide) ms_0 rfl rfl rfl dX12_reaches_2 h (fun g1 H locs h hP hD hS => ?_)
  refine lv_aload_n hx hb dX12_reaches_5 rfl (lv_at hl 0 rfl) ?_
  refine lv_iload_n hx hb dX12_reaches_6 rfl (lv_at hl 1 rfl) ?_
  obtain ⟨z_, g3, L4, hf5, h⟩ := cb_some h
  refine x_callVi (rest := []) li_X12_402 C (rX12_isLesson l G H.size a fu g1 L p1 z_ (g3, L4) hf5) (kR rfl) hP hD hS 0 12 rfl (zat (by decide) ms_0) rfl hl.1 rfl (Nat.le_of_ble_eq_true rfl) dX12_reaches_7 (fun x2 u_ H locs e_ hP hD hS => ?_)
  have e_ : x2 = z_ := e_
  subst e_
  have hP : va_P G.1 vwCl (zw G MS 51 a g3 L4) H := hP
  have hD : va_D A (zw G MS 51 a g3 L4) := hD
  have J39 : ∀ (g : Nat → Nat → Int32) (L : Nat → Nat → Int64) (H : Heap) (locs : List Loc) (ls : Array Slot), fX12_reaches_p39 fu g L = some (res, s9) → va_P G.1 vwCl (zw G MS 51 a g L) H → va_D A (zw G MS 51 a g L) → va_S A s.heap H locs → lv_has ls 4 [] → W p l e { frames := 12, cells := 0, slots := 0, locals := 251 } s m [.ref (a 0), .int p1, .int p2].toArray below meth c H locs 0 0 (MQ below ((kQi G (S := Unit) (fun r' _ => r' = res) (fun _ => zw G MS 51 a s9.1 s9.2)) A) [.ref (a 0), .int p1, .int p2].toArray s 0 0 A) (F0 m 39 ls []) := by
    intro g L H locs ls h hP hD hS hl
    unfold fX12_reaches_p39 at h
    refine lv_iconst (v := 0) hx hb dX12_reaches_39 (by decide) ?_
    exact y_iret C hr hlk hP hD hS h (Nat.le_of_ble_eq_true rfl) (Nat.le_of_ble_eq_true rfl) dX12_reaches_40
  refine lv_if_eq (x := x2) (tgt := 39) hx hb dX12_reaches_10 (by decide) (fun c6 => ?_) (fun c6 => ?_)
  ·
    have h := ite_t c6 h
    exact J39 g3 L4 H locs ls h hP hD hS (lv_sub hl [] rfl)
  ·
    have h := ite_e c6 h
    refine lv_aload_n hx hb dX12_reaches_13 rfl (lv_at hl 0 rfl) ?_
    refine lv_iload_n hx hb dX12_reaches_14 rfl (lv_at hl 2 rfl) ?_
    obtain ⟨z_, g8, L9, hf10, h⟩ := cb_some h
    refine x_callVi (rest := []) li_X12_402 C (rX12_isLesson l G H.size a fu g3 L4 p2 z_ (g8, L9) hf10) (kR rfl) hP hD hS 0 12 rfl (zat (by decide) ms_0) rfl hl.1 rfl (Nat.le_of_ble_eq_true rfl) dX12_reaches_15 (fun x7 u_ H locs e_ hP hD hS => ?_)
    have e_ : x7 = z_ := e_
    subst e_
    have hP : va_P G.1 vwCl (zw G MS 51 a g8 L9) H := hP
    have hD : va_D A (zw G MS 51 a g8 L9) := hD
    refine lv_if_eq (x := x7) (tgt := 39) hx hb dX12_reaches_18 (by decide) (fun c11 => ?_) (fun c11 => ?_)
    ·
      have h := ite_t c11 h
      exact J39 g8 L9 H locs ls h hP hD hS (lv_sub hl [] rfl)
    ·
      have h := ite_e c11 h
      refine lv_aload_n hx hb dX12_reaches_21 rfl (lv_at hl 0 rfl) ?_
      refine lv_iload_n hx hb dX12_reaches_22 rfl (lv_at hl 1 rfl) ?_
      refine lv_iload_n hx hb dX12_reaches_23 rfl (lv_at hl 2 rfl) ?_
      have J32 : ∀ (v1 : Int32) (v2 : Int32) (t0 : Int32) (g : Nat → Nat → Int32) (L : Nat → Nat → Int64) (H : Heap) (locs : List Loc) (ls : Array Slot), fX12_reaches_p32 fu v1 v2 t0 g L = some (res, s9) → va_P G.1 vwCl (zw G MS 51 a g L) H → va_D A (zw G MS 51 a g L) → va_S A s.heap H locs → lv_has ls 4 [(0, .ref (a 0)), (1, .int v1), (2, .int v2)] → W p l e { frames := 12, cells := 0, slots := 0, locals := 251 } s m [.ref (a 0), .int p1, .int p2].toArray below meth c H locs 0 0 (MQ below ((kQi G (S := Unit) (fun r' _ => r' = res) (fun _ => zw G MS 51 a s9.1 s9.2)) A) [.ref (a 0), .int p1, .int p2].toArray s 0 0 A) (F0 m 32 ls [.int t0, .ref (a 0)]) := by
        intro v1 v2 t0 g L H locs ls h hP hD hS hl
        unfold fX12_reaches_p32 at h
        refine lv_iconst (v := 2) hx hb dX12_reaches_32 (by decide) ?_
        obtain ⟨z_, g13, L14, hf15, h⟩ := cb_some h
        refine x_callVi (rest := []) li_X12_328 C (rX12_right l G H.size a fu g L t0 2 z_ (g13, L14) hf15) (kR rfl) hP hD hS 0 12 rfl (zat (by decide) ms_0) rfl hl.1 rfl (Nat.le_of_ble_eq_true rfl) dX12_reaches_33 (fun x12 u_ H locs e_ hP hD hS => ?_)
        have e_ : x12 = z_ := e_
        subst e_
        have hP : va_P G.1 vwCl (zw G MS 51 a g13 L14) H := hP
        have hD : va_D A (zw G MS 51 a g13 L14) := hD
        refine lv_if_ne (x := x12) (tgt := 41) hx hb dX12_reaches_36 (by decide) (fun c16 => ?_) (fun c16 => ?_)
        ·
          have h := ite_e c16 h
          refine lv_iconst (v := 1) hx hb dX12_reaches_41 (by decide) ?_
          refine lv_istore_n (lv' := [(3, .int 1), (0, .ref (a 0)), (1, .int v1), (2, .int v2)]) hx hb dX12_reaches_42 rfl hl (by decide) rfl (fun ls hl => ?_)
          have lp43 : ∀ (v1 : Int32) (v2 : Int32), ∀ (n : Nat) (v : Int32 × (Nat → Nat → Int32) × (Nat → Nat → Int64)), whileK (fun k v => fX12_reaches_s43 fu v1 v2 k v.1 v.2.1 v.2.2) n v = some (res, s9) → ∀ (H : Heap) (locs : List Loc) (ls : Array Slot), va_P G.1 vwCl (zw G MS 51 a (v.2.1) (v.2.2)) H → va_D A (zw G MS 51 a (v.2.1) (v.2.2)) → va_S A s.heap H locs → lv_has ls 4 [(0, .ref (a 0)), (1, .int v1), (2, .int v2), (3, .int (v.1))] → W p l e { frames := 12, cells := 0, slots := 0, locals := 251 } s m [.ref (a 0), .int p1, .int p2].toArray below meth c H locs 0 0 (MQ below ((kQi G (S := Unit) (fun r' _ => r' = res) (fun _ => zw G MS 51 a s9.1 s9.2)) A) [.ref (a 0), .int p1, .int p2].toArray s 0 0 A) (F0 m 43 ls []) := by
            intro v1 v2
            refine while_ind (fun k43 ih43 v h => ?_)
            obtain ⟨v3, g, L⟩ := v
            intro H locs ls hP hD hS hl
            have h : fX12_reaches_s43 fu v1 v2 k43 v3 g L = some (res, s9) := h
            have hP : va_P G.1 vwCl (zw G MS 51 a g L) H := hP
            have hD : va_D A (zw G MS 51 a g L) := hD
            have hl : lv_has ls 4 [(0, .ref (a 0)), (1, .int v1), (2, .int v2), (3, .int v3)] := hl
            show W p l e { frames := 12, cells := 0, slots := 0, locals := 251 } s m [.ref (a 0), .int p1, .int p2].toArray below meth c H locs 0 0 (MQ below ((kQi G (S := Unit) (fun r' _ => r' = res) (fun _ => zw G MS 51 a s9.1 s9.2)) A) [.ref (a 0), .int p1, .int p2].toArray s 0 0 A) (F0 m 43 ls [])
            unfold fX12_reaches_s43 at h
            refine lv_iload_n hx hb dX12_reaches_43 rfl (lv_at hl 3 rfl) ?_
            refine lv_bipush (v := 120) hx hb dX12_reaches_44 (by decide) ?_
            refine lv_icmp_gt (x := v3) (y := 120) (tgt := 76) hx hb dX12_reaches_46 (by decide) (fun c17 => ?_) (fun c17 => ?_)
            ·
              have h := ite_t c17 h
              refine lv_iconst (v := -1) hx hb dX12_reaches_76 (by decide) ?_
              exact y_iret C hr hlk hP hD hS h (Nat.le_of_ble_eq_true rfl) (Nat.le_of_ble_eq_true rfl) dX12_reaches_77
            ·
              have h := ite_e c17 h
              refine lv_aload_n hx hb dX12_reaches_49 rfl (lv_at hl 0 rfl) ?_
              refine lv_iload_n hx hb dX12_reaches_50 rfl (lv_at hl 1 rfl) ?_
              refine lv_iload_n hx hb dX12_reaches_51 rfl (lv_at hl 3 rfl) ?_
              obtain ⟨z_, g19, L20, hf21, h⟩ := cb_some h
              refine x_callVi (rest := []) li_X12_421 C (rX12_moreBy l G H.size a fu g L v1 v3 z_ (g19, L20) hf21) (kR rfl) hP hD hS 0 12 rfl (zat (by decide) ms_0) rfl hl.1 rfl (Nat.le_of_ble_eq_true rfl) dX12_reaches_52 (fun x18 u_ H locs e_ hP hD hS => ?_)
              have e_ : x18 = z_ := e_
              subst e_
              have hP : va_P G.1 vwCl (zw G MS 51 a g19 L20) H := hP
              have hD : va_D A (zw G MS 51 a g19 L20) := hD
              refine lv_pop hx hb dX12_reaches_55 rfl ?_
              refine lv_aload_n hx hb dX12_reaches_56 rfl (lv_at hl 0 rfl) ?_
              obtain ⟨z_, g23, L24, hf25, h⟩ := cb_some h
              refine x_callVi (rest := []) li_X12_424 C (rX12_later l G H.size a fu g19 L20 z_ (g23, L24) hf25) (kR rfl) hP hD hS 0 12 rfl (zat (by decide) ms_0) rfl hl.1 rfl (Nat.le_of_ble_eq_true rfl) dX12_reaches_57 (fun x22 u_ H locs e_ hP hD hS => ?_)
              have e_ : x22 = z_ := e_
              subst e_
              have hP : va_P G.1 vwCl (zw G MS 51 a g23 L24) H := hP
              have hD : va_D A (zw G MS 51 a g23 L24) := hD
              refine lv_iload_n hx hb dX12_reaches_60 rfl (lv_at hl 2 rfl) ?_
              refine lv_ishr hx hb dX12_reaches_61 ?_
              refine lv_iconst (v := 1) hx hb dX12_reaches_62 (by decide) ?_
              refine lv_iand hx hb dX12_reaches_63 ?_
              refine lv_iconst (v := 1) hx hb dX12_reaches_64 (by decide) ?_
              refine lv_icmp_ne (x := (((x22 : Int32) >>> ((v2 : Int32) &&& 31) : Int32) &&& 1)) (y := 1) (tgt := 70) hx hb dX12_reaches_65 (by decide) (fun c26 => ?_) (fun c26 => ?_)
              ·
                have h := ite_e c26 h
                refine lv_iinc (v := (v3 + 1)) (lv' := [(3, .int (v3 + 1)), (0, .ref (a 0)), (1, .int v1), (2, .int v2)]) hx hb dX12_reaches_70 hl (k := 3) rfl rfl (by decide) rfl (fun ls hl => ?_)
                refine lv_goto (tgt := 43) hx hb dX12_reaches_73 (by decide) ?_
                exact ih43 ((v3 + 1), g23, L24) h H locs ls hP hD hS (lv_sub hl [1, 2, 3, 0] rfl)
              ·
                have h := ite_t c26 h
                refine lv_iload_n hx hb dX12_reaches_68 rfl (lv_at hl 3 rfl) ?_
                exact y_iret C hr hlk hP hD hS h (Nat.le_of_ble_eq_true rfl) (Nat.le_of_ble_eq_true rfl) dX12_reaches_69
          exact lp43 v1 v2 fu (1, g13, L14) h H locs ls hP hD hS (lv_sub hl [1, 2, 3, 0] rfl)
        ·
          have h := ite_t c16 h
          exact J39 g13 L14 H locs ls h hP hD hS (lv_sub hl [] rfl)
      refine lv_icmp_eq (x := p1) (y := p2) (tgt := 31) hx hb dX12_reaches_24 (by decide) (fun c27 => ?_) (fun c27 => ?_)
      ·
        have h := ite_t c27 h
        refine lv_iconst (v := 0) hx hb dX12_reaches_31 (by decide) ?_
        exact J32 p1 p2 0 g8 L9 H locs ls h hP hD hS (lv_sub hl [0, 1, 2] rfl)
      ·
        have h := ite_e c27 h
        refine lv_iconst (v := 1) hx hb dX12_reaches_27 (by decide) ?_
        refine lv_goto (tgt := 32) hx hb dX12_reaches_28 (by decide) ?_
        exact J32 p1 p2 1 g8 L9 H locs ls h hP hD hS (lv_sub hl [0, 1, 2] rfl)
def fX12_slack_s18 (fu : Nat) (v1 : Int32) (k18 : Int32 × (Nat → Nat → Int32) × (Nat → Nat → Int64) → Option ((Int32) × zS)) (v2 : Int32) (g : Nat → Nat → Int32) (L : Nat → Nat → Int64) : Option ((Int32) × zS) :=
  if v2 ≤ 0 then some (0, (g, L))
  else cb (fX12_moreBy fu v1 v2 g L) (fun x8 g9 L10 =>
  cb (fX12_later fu g9 L10) (fun x12 g13 L14 =>
  if (x12 &&& (((1 : Int32) <<< ((v1 : Int32) &&& 31) : Int32) ^^^ (-1))) = 0 then some (v2, (g13, L14))
  else k18 ((v2 + (-1)), g13, L14)))
def fX12_slack_l18 (fu : Nat) (v1 : Int32) (v2 : Int32) (g : Nat → Nat → Int32) (L : Nat → Nat → Int64) : Option ((Int32) × zS) :=
  whileK (fun k v => fX12_slack_s18 fu v1 k v.1 v.2.1 v.2.2) fu (v2, g, L)
def fX12_slack (fu : Nat) (p1 : Int32) (g : Nat → Nat → Int32) (L : Nat → Nat → Int64) : Option ((Int32) × zS) :=
  sti g 0 0 0 (fun g1 =>
  cb (fX12_isLesson fu p1 g1 L) (fun x2 g3 L4 =>
  if x2 = 0 then some (0, (g3, L4))
  else fX12_slack_l18 fu p1 120 g3 L4))
set_option maxHeartbeats 4000000 in
set_option maxRecDepth 100000 in
theorem rX12_slack (l : Launch) (G : kG) (sz : Nat) (a : Nat → Nat) (fu : Nat) (g : Nat → Nat → Int32) (L : Nat → Nat → Int64) (p1 : Int32) (res : Int32) (s9 : zS) (h : fX12_slack fu p1 g L = some (res, s9)) : kM l yX12_slack cX12_slack 3 (some .int) { frames := 12, cells := 0, slots := 0, locals := 251 } G [.ref (a 0), .int p1] (zw G MS 51 a g L) sz (kQi G (S := Unit) (fun r' _ => r' = res) (fun _ => zw G MS 51 a s9.1 s9.2)) := by
  refine kM.of (by decide) (Nat.le_of_ble_eq_true rfl) ?_
  intro p e s m below meth c A ls H C hr hlk hnm hP hD hS hl
  have C : kC G p s m c cX12_slack 3 RX12 A := C
  have hx := C.1
  have hb := C.2.1
  have hl : lv_has ls 3 [(0, .ref (a 0)), (1, .int p1)] := hl
  obtain ⟨locs, hlocs⟩ : ∃ q : List Loc, q = [] := ⟨_, rfl⟩
  rw [← hlocs] at hS
  rw [← hlocs]
  unfold fX12_slack at h
  refine lv_aload_n hx hb dX12_slack_0 rfl (lv_at hl 0 rfl) ?_
  refine lv_iconst (v := 0) hx hb dX12_slack_1 (by decide) ?_
  refine y_puti (Or.inl fl_X12_177) ft_X12_0 C hP hD hS (by decide) ms_0 rfl rfl rfl dX12_slack_2 h (fun g1 H locs h hP hD hS => ?_)
  refine lv_aload_n hx hb dX12_slack_5 rfl (lv_at hl 0 rfl) ?_
  refine lv_iload_n hx hb dX12_slack_6 rfl (lv_at hl 1 rfl) ?_
  obtain ⟨z_, g3, L4, hf5, h⟩ := cb_some h
  refine x_callVi (rest := []) li_X12_402 C (rX12_isLesson l G H.size a fu g1 L p1 z_ (g3, L4) hf5) (kR rfl) hP hD hS 0 12 rfl (zat (by decide) ms_0) rfl hl.1 rfl (Nat.le_of_ble_eq_true rfl) dX12_slack_7 (fun x2 u_ H locs e_ hP hD hS => ?_)
  have e_ : x2 = z_ := e_
  subst e_
  have hP : va_P G.1 vwCl (zw G MS 51 a g3 L4) H := hP
  have hD : va_D A (zw G MS 51 a g3 L4) := hD
  refine lv_if_ne (x := x2) (tgt := 15) hx hb dX12_slack_10 (by decide) (fun c6 => ?_) (fun c6 => ?_)
  ·
    have h := ite_e c6 h
    refine lv_bipush (v := 120) hx hb dX12_slack_15 (by decide) ?_
    refine lv_istore_n (lv' := [(2, .int 120), (0, .ref (a 0)), (1, .int p1)]) hx hb dX12_slack_17 rfl hl (by decide) rfl (fun ls hl => ?_)
    have lp18 : ∀ (v1 : Int32), ∀ (n : Nat) (v : Int32 × (Nat → Nat → Int32) × (Nat → Nat → Int64)), whileK (fun k v => fX12_slack_s18 fu v1 k v.1 v.2.1 v.2.2) n v = some (res, s9) → ∀ (H : Heap) (locs : List Loc) (ls : Array Slot), va_P G.1 vwCl (zw G MS 51 a (v.2.1) (v.2.2)) H → va_D A (zw G MS 51 a (v.2.1) (v.2.2)) → va_S A s.heap H locs → lv_has ls 3 [(0, .ref (a 0)), (1, .int v1), (2, .int (v.1))] → W p l e { frames := 12, cells := 0, slots := 0, locals := 251 } s m [.ref (a 0), .int p1].toArray below meth c H locs 0 0 (MQ below ((kQi G (S := Unit) (fun r' _ => r' = res) (fun _ => zw G MS 51 a s9.1 s9.2)) A) [.ref (a 0), .int p1].toArray s 0 0 A) (F0 m 18 ls []) := by
      intro v1
      refine while_ind (fun k18 ih18 v h => ?_)
      obtain ⟨v2, g, L⟩ := v
      intro H locs ls hP hD hS hl
      have h : fX12_slack_s18 fu v1 k18 v2 g L = some (res, s9) := h
      have hP : va_P G.1 vwCl (zw G MS 51 a g L) H := hP
      have hD : va_D A (zw G MS 51 a g L) := hD
      have hl : lv_has ls 3 [(0, .ref (a 0)), (1, .int v1), (2, .int v2)] := hl
      show W p l e { frames := 12, cells := 0, slots := 0, locals := 251 } s m [.ref (a 0), .int p1].toArray below meth c H locs 0 0 (MQ below ((kQi G (S := Unit) (fun r' _ => r' = res) (fun _ => zw G MS 51 a s9.1 s9.2)) A) [.ref (a 0), .int p1].toArray s 0 0 A) (F0 m 18 ls [])
      unfold fX12_slack_s18 at h
      refine lv_iload_n hx hb dX12_slack_18 rfl (lv_at hl 2 rfl) ?_
      refine lv_if_le (x := v2) (tgt := 50) hx hb dX12_slack_19 (by decide) (fun c7 => ?_) (fun c7 => ?_)
      ·
        have h := ite_t c7 h
        refine lv_iconst (v := 0) hx hb dX12_slack_50 (by decide) ?_
        exact y_iret C hr hlk hP hD hS h (Nat.le_of_ble_eq_true rfl) (Nat.le_of_ble_eq_true rfl) dX12_slack_51
      ·
        have h := ite_e c7 h
        refine lv_aload_n hx hb dX12_slack_22 rfl (lv_at hl 0 rfl) ?_
        refine lv_iload_n hx hb dX12_slack_23 rfl (lv_at hl 1 rfl) ?_
        refine lv_iload_n hx hb dX12_slack_24 rfl (lv_at hl 2 rfl) ?_
        obtain ⟨z_, g9, L10, hf11, h⟩ := cb_some h
        refine x_callVi (rest := []) li_X12_421 C (rX12_moreBy l G H.size a fu g L v1 v2 z_ (g9, L10) hf11) (kR rfl) hP hD hS 0 12 rfl (zat (by decide) ms_0) rfl hl.1 rfl (Nat.le_of_ble_eq_true rfl) dX12_slack_25 (fun x8 u_ H locs e_ hP hD hS => ?_)
        have e_ : x8 = z_ := e_
        subst e_
        have hP : va_P G.1 vwCl (zw G MS 51 a g9 L10) H := hP
        have hD : va_D A (zw G MS 51 a g9 L10) := hD
        refine lv_pop hx hb dX12_slack_28 rfl ?_
        refine lv_aload_n hx hb dX12_slack_29 rfl (lv_at hl 0 rfl) ?_
        obtain ⟨z_, g13, L14, hf15, h⟩ := cb_some h
        refine x_callVi (rest := []) li_X12_424 C (rX12_later l G H.size a fu g9 L10 z_ (g13, L14) hf15) (kR rfl) hP hD hS 0 12 rfl (zat (by decide) ms_0) rfl hl.1 rfl (Nat.le_of_ble_eq_true rfl) dX12_slack_30 (fun x12 u_ H locs e_ hP hD hS => ?_)
        have e_ : x12 = z_ := e_
        subst e_
        have hP : va_P G.1 vwCl (zw G MS 51 a g13 L14) H := hP
        have hD : va_D A (zw G MS 51 a g13 L14) := hD
        refine lv_iconst (v := 1) hx hb dX12_slack_33 (by decide) ?_
        refine lv_iload_n hx hb dX12_slack_34 rfl (lv_at hl 1 rfl) ?_
        refine lv_ishl hx hb dX12_slack_35 ?_
        refine lv_iconst (v := -1) hx hb dX12_slack_36 (by decide) ?_
        refine lv_ixor hx hb dX12_slack_37 ?_
        refine lv_iand hx hb dX12_slack_38 ?_
        refine lv_if_ne (x := (x12 &&& (((1 : Int32) <<< ((v1 : Int32) &&& 31) : Int32) ^^^ (-1)))) (tgt := 44) hx hb dX12_slack_39 (by decide) (fun c16 => ?_) (fun c16 => ?_)
        ·
          have h := ite_e c16 h
          refine lv_iinc (v := (v2 + (-1))) (lv' := [(2, .int (v2 + (-1))), (0, .ref (a 0)), (1, .int v1)]) hx hb dX12_slack_44 hl (k := 2) rfl rfl (by decide) rfl (fun ls hl => ?_)
          refine lv_goto (tgt := 18) hx hb dX12_slack_47 (by decide) ?_
          exact ih18 ((v2 + (-1)), g13, L14) h H locs ls hP hD hS (lv_sub hl [1, 2, 0] rfl)
        ·
          have h := ite_t c16 h
          refine lv_iload_n hx hb dX12_slack_42 rfl (lv_at hl 2 rfl) ?_
          exact y_iret C hr hlk hP hD hS h (Nat.le_of_ble_eq_true rfl) (Nat.le_of_ble_eq_true rfl) dX12_slack_43
    exact lp18 p1 fu (120, g3, L4) h H locs ls hP hD hS (lv_sub hl [1, 2, 0] rfl)
  ·
    have h := ite_t c6 h
    refine lv_iconst (v := 0) hx hb dX12_slack_13 (by decide) ?_
    exact y_iret C hr hlk hP hD hS h (Nat.le_of_ble_eq_true rfl) (Nat.le_of_ble_eq_true rfl) dX12_slack_14
def fX12_bits_s4 (fu : Nat) (v0 : Int32) (k4 : Int32 × Int32 × (Nat → Nat → Int32) × (Nat → Nat → Int64) → Option ((Int32) × zS)) (v1 : Int32) (v2 : Int32) (g : Nat → Nat → Int32) (L : Nat → Nat → Int64) : Option ((Int32) × zS) :=
  if 12 ≤ (v2 : Int32) then some (v1, (g, L))
  else lti (v1 + (((v0 : Int32) >>> ((v2 : Int32) &&& 31) : Int32) &&& 1)) (fun x2 =>
  k4 (x2, (v2 + 1), g, L))
def fX12_bits_l4 (fu : Nat) (v0 : Int32) (v1 : Int32) (v2 : Int32) (g : Nat → Nat → Int32) (L : Nat → Nat → Int64) : Option ((Int32) × zS) :=
  whileK (fun k v => fX12_bits_s4 fu v0 k v.1 v.2.1 v.2.2.1 v.2.2.2) fu (v1, v2, g, L)
def fX12_bits (fu : Nat) (p1 : Int32) (g : Nat → Nat → Int32) (L : Nat → Nat → Int64) : Option ((Int32) × zS) :=
  fX12_bits_l4 fu p1 0 0 g L
set_option maxHeartbeats 4000000 in
set_option maxRecDepth 100000 in
theorem rX12_bits (l : Launch) (G : kG) (sz : Nat) (a : Nat → Nat) (fu : Nat) (g : Nat → Nat → Int32) (L : Nat → Nat → Int64) (p1 : Int32) (res : Int32) (s9 : zS) (h : fX12_bits fu p1 g L = some (res, s9)) : kM l yX12_bits cX12_bits 3 (some .int) { frames := 6, cells := 0, slots := 0, locals := 110 } G [.int p1] (zw G MS 51 a g L) sz (kQi G (S := Unit) (fun r' _ => r' = res) (fun _ => zw G MS 51 a s9.1 s9.2)) := by
  refine kM.of (by decide) (Nat.le_of_ble_eq_true rfl) ?_
  intro p e s m below meth c A ls H C hr hlk hnm hP hD hS hl
  have C : kC G p s m c cX12_bits 3 RX12 A := C
  have hx := C.1
  have hb := C.2.1
  have hl : lv_has ls 3 [(0, .int p1)] := hl
  obtain ⟨locs, hlocs⟩ : ∃ q : List Loc, q = [] := ⟨_, rfl⟩
  rw [← hlocs] at hS
  rw [← hlocs]
  unfold fX12_bits at h
  refine lv_iconst (v := 0) hx hb dX12_bits_0 (by decide) ?_
  refine lv_istore_n (lv' := [(1, .int 0), (0, .int p1)]) hx hb dX12_bits_1 rfl hl (by decide) rfl (fun ls hl => ?_)
  refine lv_iconst (v := 0) hx hb dX12_bits_2 (by decide) ?_
  refine lv_istore_n (lv' := [(2, .int 0), (1, .int 0), (0, .int p1)]) hx hb dX12_bits_3 rfl hl (by decide) rfl (fun ls hl => ?_)
  have lp4 : ∀ (v0 : Int32), ∀ (n : Nat) (v : Int32 × Int32 × (Nat → Nat → Int32) × (Nat → Nat → Int64)), whileK (fun k v => fX12_bits_s4 fu v0 k v.1 v.2.1 v.2.2.1 v.2.2.2) n v = some (res, s9) → ∀ (H : Heap) (locs : List Loc) (ls : Array Slot), va_P G.1 vwCl (zw G MS 51 a (v.2.2.1) (v.2.2.2)) H → va_D A (zw G MS 51 a (v.2.2.1) (v.2.2.2)) → va_S A s.heap H locs → lv_has ls 3 [(0, .int v0), (1, .int (v.1)), (2, .int (v.2.1))] → W p l e { frames := 6, cells := 0, slots := 0, locals := 110 } s m [.int p1].toArray below meth c H locs 0 0 (MQ below ((kQi G (S := Unit) (fun r' _ => r' = res) (fun _ => zw G MS 51 a s9.1 s9.2)) A) [.int p1].toArray s 0 0 A) (F0 m 4 ls []) := by
    intro v0
    refine while_ind (fun k4 ih4 v h => ?_)
    obtain ⟨v1, v2, g, L⟩ := v
    intro H locs ls hP hD hS hl
    have h : fX12_bits_s4 fu v0 k4 v1 v2 g L = some (res, s9) := h
    have hP : va_P G.1 vwCl (zw G MS 51 a g L) H := hP
    have hD : va_D A (zw G MS 51 a g L) := hD
    have hl : lv_has ls 3 [(0, .int v0), (1, .int v1), (2, .int v2)] := hl
    show W p l e { frames := 6, cells := 0, slots := 0, locals := 110 } s m [.int p1].toArray below meth c H locs 0 0 (MQ below ((kQi G (S := Unit) (fun r' _ => r' = res) (fun _ => zw G MS 51 a s9.1 s9.2)) A) [.int p1].toArray s 0 0 A) (F0 m 4 ls [])
    unfold fX12_bits_s4 at h
    refine lv_iload_n hx hb dX12_bits_4 rfl (lv_at hl 2 rfl) ?_
    refine lv_bipush (v := 12) hx hb dX12_bits_5 (by decide) ?_
    refine lv_icmp_ge (x := v2) (y := 12) (tgt := 24) hx hb dX12_bits_7 (by decide) (fun c1 => ?_) (fun c1 => ?_)
    ·
      have h := ite_t c1 h
      refine lv_iload_n hx hb dX12_bits_24 rfl (lv_at hl 1 rfl) ?_
      exact y_iret C hr hlk hP hD hS h (Nat.le_of_ble_eq_true rfl) (Nat.le_of_ble_eq_true rfl) dX12_bits_25
    ·
      have h := ite_e c1 h
      refine lv_iload_n hx hb dX12_bits_10 rfl (lv_at hl 1 rfl) ?_
      refine lv_iload_n hx hb dX12_bits_11 rfl (lv_at hl 0 rfl) ?_
      refine lv_iload_n hx hb dX12_bits_12 rfl (lv_at hl 2 rfl) ?_
      refine lv_ishr hx hb dX12_bits_13 ?_
      refine lv_iconst (v := 1) hx hb dX12_bits_14 (by decide) ?_
      refine lv_iand hx hb dX12_bits_15 ?_
      refine lv_iadd hx hb dX12_bits_16 ?_
      refine y_let h (fun x2 h => ?_)
      refine lv_istore_n (lv' := [(1, .int x2), (0, .int v0), (2, .int v2)]) hx hb dX12_bits_17 rfl hl (by decide) rfl (fun ls hl => ?_)
      refine lv_iinc (v := (v2 + 1)) (lv' := [(2, .int (v2 + 1)), (1, .int x2), (0, .int v0)]) hx hb dX12_bits_18 hl (k := 2) rfl rfl (by decide) rfl (fun ls hl => ?_)
      refine lv_goto (tgt := 4) hx hb dX12_bits_21 (by decide) ?_
      exact ih4 (x2, (v2 + 1), g, L) h H locs ls hP hD hS (lv_sub hl [2, 1, 0] rfl)
  exact lp4 p1 fu (0, 0, g, L) h H locs ls hP hD hS (lv_sub hl [2, 1, 0] rfl)
def fX12_gaps_p59 (fu : Nat) (g : Nat → Nat → Int32) (L : Nat → Nat → Int64) : Option ((Int32) × zS) :=
  some (0, (g, L))
def fX12_gaps_p336 (fu : Nat) (v6 : Int32) (g : Nat → Nat → Int32) (L : Nat → Nat → Int64) : Option ((Int32) × zS) :=
  some (v6, (g, L))
def fX12_gaps_s295 (fu : Nat) (v6 : Int32) (k295 : Int32 × (Nat → Nat → Int32) × (Nat → Nat → Int64) → Option ((Int32) × zS)) (v7 : Int32) (g : Nat → Nat → Int32) (L : Nat → Nat → Int64) : Option ((Int32) × zS) :=
  if 12 ≤ (v7 : Int32) then (if (v6 : Int32) = (-1) then fX12_gaps_p336 fu v6 g L
  else sti g 0 65 1 (fun g17 =>
  fX12_gaps_p336 fu v6 g17 L))
  else ck v7 12 (
  ck (12 + v7) 48 (sti g 12 (Int32.toNatClampNeg (12 + v7)) (g 39 (Int32.toNatClampNeg v7)) (fun g18 =>
  k295 ((v7 + 1), g18, L))))
def fX12_gaps_l295 (fu : Nat) (v6 : Int32) (v7 : Int32) (g : Nat → Nat → Int32) (L : Nat → Nat → Int64) : Option ((Int32) × zS) :=
  whileK (fun k v => fX12_gaps_s295 fu v6 k v.1 v.2.1 v.2.2) fu (v7, g, L)
def fX12_gaps_p286 (fu : Nat) (k152 : Int32 × Int32 × (Nat → Nat → Int32) × (Nat → Nat → Int64) → Option ((Int32) × zS)) (v2 : Int32) (v3 : Int32) (v4 : Int32) (v5 : Int32) (v6 : Int32) (v7 : Int32) (g : Nat → Nat → Int32) (L : Nat → Nat → Int64) : Option ((Int32) × zS) :=
  k152 (v6, (v7 + 1), g, L)
def fX12_gaps_s256 (fu : Nat) (k152 : Int32 × Int32 × (Nat → Nat → Int32) × (Nat → Nat → Int64) → Option ((Int32) × zS)) (v2 : Int32) (v3 : Int32) (v4 : Int32) (v5 : Int32) (v6 : Int32) (v7 : Int32) (k256 : Int32 × (Nat → Nat → Int32) × (Nat → Nat → Int64) → Option ((Int32) × zS)) (v10 : Int32) (g : Nat → Nat → Int32) (L : Nat → Nat → Int64) : Option ((Int32) × zS) :=
  if 12 ≤ (v10 : Int32) then fX12_gaps_p286 fu k152 v2 v3 v4 v5 v6 v7 g L
  else ck (12 + v10) 48 (
  ck v10 12 (sti g 38 (Int32.toNatClampNeg v10) (g 12 (Int32.toNatClampNeg (12 + v10))) (fun g31 =>
  k256 ((v10 + 1), g31, L))))
def fX12_gaps_l256 (fu : Nat) (k152 : Int32 × Int32 × (Nat → Nat → Int32) × (Nat → Nat → Int64) → Option ((Int32) × zS)) (v2 : Int32) (v3 : Int32) (v4 : Int32) (v5 : Int32) (v6 : Int32) (v7 : Int32) (v10 : Int32) (g : Nat → Nat → Int32) (L : Nat → Nat → Int64) : Option ((Int32) × zS) :=
  whileK (fun k v => fX12_gaps_s256 fu k152 v2 v3 v4 v5 v6 v7 k v.1 v.2.1 v.2.2) fu (v10, g, L)
def fX12_gaps_p233 (fu : Nat) (k152 : Int32 × Int32 × (Nat → Nat → Int32) × (Nat → Nat → Int64) → Option ((Int32) × zS)) (v2 : Int32) (v3 : Int32) (v4 : Int32) (v5 : Int32) (v6 : Int32) (v7 : Int32) (v8 : Int32) (g : Nat → Nat → Int32) (L : Nat → Nat → Int64) : Option ((Int32) × zS) :=
  cb (fX12_works0 fu g L) (fun x21 g22 L23 =>
  cb (fX12_late fu v2 g22 L23) (fun x25 g26 L27 =>
  if (x25 : Int32) ≤ v3 then fX12_gaps_l256 fu k152 v2 v3 v4 v5 v8 v7 0 g26 L27
  else fX12_gaps_p286 fu k152 v2 v3 v4 v5 v6 v7 g26 L27))
def fX12_gaps_s172 (fu : Nat) (k152 : Int32 × Int32 × (Nat → Nat → Int32) × (Nat → Nat → Int64) → Option ((Int32) × zS)) (v2 : Int32) (v3 : Int32) (v4 : Int32) (v5 : Int32) (v6 : Int32) (v7 : Int32) (k172 : Int32 × Int32 × Int32 × (Nat → Nat → Int32) × (Nat → Nat → Int64) → Option ((Int32) × zS)) (v8 : Int32) (v9 : Int32) (v10 : Int32) (g : Nat → Nat → Int32) (L : Nat → Nat → Int64) : Option ((Int32) × zS) :=
  if v10 < 0 then (if (v6 : Int32) = (-1) then fX12_gaps_p233 fu k152 v2 v3 v4 v5 v6 v7 v8 g L
  else if (v8 : Int32) < v6 then fX12_gaps_p233 fu k152 v2 v3 v4 v5 v6 v7 v8 g L
  else fX12_gaps_p286 fu k152 v2 v3 v4 v5 v6 v7 g L)
  else ck v10 5 (
  cnz 5 (
  ck (12 + (g 40 (Int32.toNatClampNeg v10))) 48 (sti g 12 (Int32.toNatClampNeg (12 + (g 40 (Int32.toNatClampNeg v10)))) (v9 - v9 / 5 * 5) (fun g34 =>
  cnz 5 (
  lti (v8 + (v9 - v9 / 5 * 5)) (fun x35 =>
  cnz 5 (
  lti (v9 / 5) (fun x36 =>
  k172 (x35, x36, (v10 + (-1)), g34, L)))))))))
def fX12_gaps_l172 (fu : Nat) (k152 : Int32 × Int32 × (Nat → Nat → Int32) × (Nat → Nat → Int64) → Option ((Int32) × zS)) (v2 : Int32) (v3 : Int32) (v4 : Int32) (v5 : Int32) (v6 : Int32) (v7 : Int32) (v8 : Int32) (v9 : Int32) (v10 : Int32) (g : Nat → Nat → Int32) (L : Nat → Nat → Int64) : Option ((Int32) × zS) :=
  whileK (fun k v => fX12_gaps_s172 fu k152 v2 v3 v4 v5 v6 v7 k v.1 v.2.1 v.2.2.1 v.2.2.2.1 v.2.2.2.2) fu (v8, v9, v10, g, L)
def fX12_gaps_s152 (fu : Nat) (v2 : Int32) (v3 : Int32) (v4 : Int32) (v5 : Int32) (k152 : Int32 × Int32 × (Nat → Nat → Int32) × (Nat → Nat → Int64) → Option ((Int32) × zS)) (v6 : Int32) (v7 : Int32) (g : Nat → Nat → Int32) (L : Nat → Nat → Int64) : Option ((Int32) × zS) :=
  if v5 ≤ (v7 : Int32) then fX12_gaps_l295 fu v6 0 g L
  else lti (v4 - 1) (fun x19 =>
  fX12_gaps_l172 fu k152 v2 v3 v4 v5 v6 v7 0 v7 x19 g L)
def fX12_gaps_l152 (fu : Nat) (v2 : Int32) (v3 : Int32) (v4 : Int32) (v5 : Int32) (v6 : Int32) (v7 : Int32) (g : Nat → Nat → Int32) (L : Nat → Nat → Int64) : Option ((Int32) × zS) :=
  whileK (fun k v => fX12_gaps_s152 fu v2 v3 v4 v5 k v.1 v.2.1 v.2.2.1 v.2.2.2) fu (v6, v7, g, L)
def fX12_gaps_s127 (fu : Nat) (v2 : Int32) (v3 : Int32) (v4 : Int32) (k127 : Int32 × Int32 × (Nat → Nat → Int32) × (Nat → Nat → Int64) → Option ((Int32) × zS)) (v5 : Int32) (v6 : Int32) (g : Nat → Nat → Int32) (L : Nat → Nat → Int64) : Option ((Int32) × zS) :=
  if v4 ≤ (v6 : Int32) then fX12_gaps_l152 fu v2 v3 v4 v5 (-1) 0 g L
  else lti (v5 * 5) (fun x37 =>
  k127 (x37, (v6 + 1), g, L))
def fX12_gaps_l127 (fu : Nat) (v2 : Int32) (v3 : Int32) (v4 : Int32) (v5 : Int32) (v6 : Int32) (g : Nat → Nat → Int32) (L : Nat → Nat → Int64) : Option ((Int32) × zS) :=
  whileK (fun k v => fX12_gaps_s127 fu v2 v3 v4 k v.1 v.2.1 v.2.2.1 v.2.2.2) fu (v5, v6, g, L)
def fX12_gaps_p115 (fu : Nat) (k67 : Int32 × Int32 × (Nat → Nat → Int32) × (Nat → Nat → Int64) → Option ((Int32) × zS)) (v1 : Int32) (v2 : Int32) (v3 : Int32) (v4 : Int32) (v5 : Int32) (g : Nat → Nat → Int32) (L : Nat → Nat → Int64) : Option ((Int32) × zS) :=
  k67 (v4, (v5 + 1), g, L)
def fX12_gaps_s67 (fu : Nat) (v1 : Int32) (v2 : Int32) (v3 : Int32) (k67 : Int32 × Int32 × (Nat → Nat → Int32) × (Nat → Nat → Int64) → Option ((Int32) × zS)) (v4 : Int32) (v5 : Int32) (g : Nat → Nat → Int32) (L : Nat → Nat → Int64) : Option ((Int32) × zS) :=
  if 12 ≤ (v5 : Int32) then fX12_gaps_l127 fu v2 v3 v4 1 0 g L
  else ck (12 + v5) 48 (
  ck v5 12 (sti g 39 (Int32.toNatClampNeg v5) (g 12 (Int32.toNatClampNeg (12 + v5))) (fun g38 =>
  if (((v1 : Int32) >>> ((v5 : Int32) &&& 31) : Int32) &&& 1) = 0 then fX12_gaps_p115 fu k67 v1 v2 v3 v4 v5 g38 L
  else ck v4 5 (sti g38 40 (Int32.toNatClampNeg v4) v5 (fun g40 =>
  fX12_gaps_p115 fu k67 v1 v2 v3 (v4 + 1) v5 g40 L)))))
def fX12_gaps_l67 (fu : Nat) (v1 : Int32) (v2 : Int32) (v3 : Int32) (v4 : Int32) (v5 : Int32) (g : Nat → Nat → Int32) (L : Nat → Nat → Int64) : Option ((Int32) × zS) :=
  whileK (fun k v => fX12_gaps_s67 fu v1 v2 v3 k v.1 v.2.1 v.2.2.1 v.2.2.2) fu (v4, v5, g, L)
def fX12_gaps_p52 (fu : Nat) (v1 : Int32) (v2 : Int32) (v3 : Int32) (t0 : Int32) (g : Nat → Nat → Int32) (L : Nat → Nat → Int64) : Option ((Int32) × zS) :=
  cb (fX12_right fu t0 2 g L) (fun x7 g8 L9 =>
  if x7 = 0 then fX12_gaps_p59 fu g8 L9
  else fX12_gaps_l67 fu v1 v2 v3 0 0 g8 L9)
def fX12_gaps_p51 (fu : Nat) (v1 : Int32) (v2 : Int32) (v3 : Int32) (g : Nat → Nat → Int32) (L : Nat → Nat → Int64) : Option ((Int32) × zS) :=
  fX12_gaps_p52 fu v1 v2 v3 0 g L
def fX12_gaps (fu : Nat) (p1 : Int32) (p2 : Int32) (p3 : Int32) (g : Nat → Nat → Int32) (L : Nat → Nat → Int64) : Option ((Int32) × zS) :=
  sti g 0 0 0 (fun g1 =>
  cb (fX12_isLesson fu p2 g1 L) (fun x2 g3 L4 =>
  if x2 = 0 then fX12_gaps_p59 fu g3 L4
  else if p1 < 0 then fX12_gaps_p51 fu p1 p2 p3 g3 L4
  else if ((1 : Int32) <<< (((g3 0 1) : Int32) &&& 31) : Int32) ≤ p1 then fX12_gaps_p51 fu p1 p2 p3 g3 L4
  else cb (fX12_bits fu p1 g3 L4) (fun x43 g44 L45 =>
  if 5 < (x43 : Int32) then fX12_gaps_p51 fu p1 p2 p3 g44 L45
  else cb (fX12_within fu p3 0 999 g44 L45) (fun x48 g49 L50 =>
  if x48 = 0 then fX12_gaps_p51 fu p1 p2 p3 g49 L50
  else fX12_gaps_p52 fu p1 p2 p3 1 g49 L50))))
set_option maxHeartbeats 4000000 in
set_option maxRecDepth 100000 in
theorem rX12_gaps (l : Launch) (G : kG) (sz : Nat) (a : Nat → Nat) (fu : Nat) (g : Nat → Nat → Int32) (L : Nat → Nat → Int64) (p1 : Int32) (p2 : Int32) (p3 : Int32) (res : Int32) (s9 : zS) (h : fX12_gaps fu p1 p2 p3 g L = some (res, s9)) : kM l yX12_gaps cX12_gaps 11 (some .int) { frames := 11, cells := 0, slots := 0, locals := 228 } G [.ref (a 0), .int p1, .int p2, .int p3] (zw G MS 51 a g L) sz (kQi G (S := Unit) (fun r' _ => r' = res) (fun _ => zw G MS 51 a s9.1 s9.2)) := by
  refine kM.of (by decide) (Nat.le_of_ble_eq_true rfl) ?_
  intro p e s m below meth c A ls H C hr hlk hnm hP hD hS hl
  have C : kC G p s m c cX12_gaps 11 RX12 A := C
  have hx := C.1
  have hb := C.2.1
  have hl : lv_has ls 11 [(0, .ref (a 0)), (1, .int p1), (2, .int p2), (3, .int p3)] := hl
  obtain ⟨locs, hlocs⟩ : ∃ q : List Loc, q = [] := ⟨_, rfl⟩
  rw [← hlocs] at hS
  rw [← hlocs]
  unfold fX12_gaps at h
  refine lv_aload_n hx hb dX12_gaps_0 rfl (lv_at hl 0 rfl) ?_
  refine lv_iconst (v := 0) hx hb dX12_gaps_1 (by decide) ?_
  refine y_puti (Or.inl fl_X12_177) ft_X12_0 C hP hD hS (by decide) ms_0 rfl rfl rfl dX12_gaps_2 h (fun g1 H locs h hP hD hS => ?_)
  refine lv_aload_n hx hb dX12_gaps_5 rfl (lv_at hl 0 rfl) ?_
  refine lv_iload_n hx hb dX12_gaps_6 rfl (lv_at hl 2 rfl) ?_
  obtain ⟨z_, g3, L4, hf5, h⟩ := cb_some h
  refine x_callVi (rest := []) li_X12_402 C (rX12_isLesson l G H.size a fu g1 L p2 z_ (g3, L4) hf5) (kR rfl) hP hD hS 0 12 rfl (zat (by decide) ms_0) rfl hl.1 rfl (Nat.le_of_ble_eq_true rfl) dX12_gaps_7 (fun x2 u_ H locs e_ hP hD hS => ?_)
  have e_ : x2 = z_ := e_
  subst e_
  have hP : va_P G.1 vwCl (zw G MS 51 a g3 L4) H := hP
  have hD : va_D A (zw G MS 51 a g3 L4) := hD
  have J59 : ∀ (g : Nat → Nat → Int32) (L : Nat → Nat → Int64) (H : Heap) (locs : List Loc) (ls : Array Slot), fX12_gaps_p59 fu g L = some (res, s9) → va_P G.1 vwCl (zw G MS 51 a g L) H → va_D A (zw G MS 51 a g L) → va_S A s.heap H locs → lv_has ls 11 [] → W p l e { frames := 11, cells := 0, slots := 0, locals := 228 } s m [.ref (a 0), .int p1, .int p2, .int p3].toArray below meth c H locs 0 0 (MQ below ((kQi G (S := Unit) (fun r' _ => r' = res) (fun _ => zw G MS 51 a s9.1 s9.2)) A) [.ref (a 0), .int p1, .int p2, .int p3].toArray s 0 0 A) (F0 m 59 ls []) := by
    intro g L H locs ls h hP hD hS hl
    unfold fX12_gaps_p59 at h
    refine lv_iconst (v := 0) hx hb dX12_gaps_59 (by decide) ?_
    exact y_iret C hr hlk hP hD hS h (Nat.le_of_ble_eq_true rfl) (Nat.le_of_ble_eq_true rfl) dX12_gaps_60
  refine lv_if_eq (x := x2) (tgt := 59) hx hb dX12_gaps_10 (by decide) (fun c6 => ?_) (fun c6 => ?_)
  ·
    have h := ite_t c6 h
    exact J59 g3 L4 H locs ls h hP hD hS (lv_sub hl [] rfl)
  ·
    have h := ite_e c6 h
    refine lv_aload_n hx hb dX12_gaps_13 rfl (lv_at hl 0 rfl) ?_
    refine lv_iload_n hx hb dX12_gaps_14 rfl (lv_at hl 1 rfl) ?_
    have J52 : ∀ (v1 : Int32) (v2 : Int32) (v3 : Int32) (t0 : Int32) (g : Nat → Nat → Int32) (L : Nat → Nat → Int64) (H : Heap) (locs : List Loc) (ls : Array Slot), fX12_gaps_p52 fu v1 v2 v3 t0 g L = some (res, s9) → va_P G.1 vwCl (zw G MS 51 a g L) H → va_D A (zw G MS 51 a g L) → va_S A s.heap H locs → lv_has ls 11 [(0, .ref (a 0)), (1, .int v1), (2, .int v2), (3, .int v3)] → W p l e { frames := 11, cells := 0, slots := 0, locals := 228 } s m [.ref (a 0), .int p1, .int p2, .int p3].toArray below meth c H locs 0 0 (MQ below ((kQi G (S := Unit) (fun r' _ => r' = res) (fun _ => zw G MS 51 a s9.1 s9.2)) A) [.ref (a 0), .int p1, .int p2, .int p3].toArray s 0 0 A) (F0 m 52 ls [.int t0, .ref (a 0)]) := by
      intro v1 v2 v3 t0 g L H locs ls h hP hD hS hl
      unfold fX12_gaps_p52 at h
      refine lv_iconst (v := 2) hx hb dX12_gaps_52 (by decide) ?_
      obtain ⟨z_, g8, L9, hf10, h⟩ := cb_some h
      refine x_callVi (rest := []) li_X12_328 C (rX12_right l G H.size a fu g L t0 2 z_ (g8, L9) hf10) (kR rfl) hP hD hS 0 12 rfl (zat (by decide) ms_0) rfl hl.1 rfl (Nat.le_of_ble_eq_true rfl) dX12_gaps_53 (fun x7 u_ H locs e_ hP hD hS => ?_)
      have e_ : x7 = z_ := e_
      subst e_
      have hP : va_P G.1 vwCl (zw G MS 51 a g8 L9) H := hP
      have hD : va_D A (zw G MS 51 a g8 L9) := hD
      refine lv_if_ne (x := x7) (tgt := 61) hx hb dX12_gaps_56 (by decide) (fun c11 => ?_) (fun c11 => ?_)
      ·
        have h := ite_e c11 h
        refine lv_iconst (v := 0) hx hb dX12_gaps_61 (by decide) ?_
        refine lv_istore (lv' := [(4, .int 0), (0, .ref (a 0)), (1, .int v1), (2, .int v2), (3, .int v3)]) hx hb dX12_gaps_62 hl (by decide) rfl (fun ls hl => ?_)
        refine lv_iconst (v := 0) hx hb dX12_gaps_64 (by decide) ?_
        refine lv_istore (lv' := [(5, .int 0), (4, .int 0), (0, .ref (a 0)), (1, .int v1), (2, .int v2), (3, .int v3)]) hx hb dX12_gaps_65 hl (by decide) rfl (fun ls hl => ?_)
        have lp67 : ∀ (v1 : Int32) (v2 : Int32) (v3 : Int32), ∀ (n : Nat) (v : Int32 × Int32 × (Nat → Nat → Int32) × (Nat → Nat → Int64)), whileK (fun k v => fX12_gaps_s67 fu v1 v2 v3 k v.1 v.2.1 v.2.2.1 v.2.2.2) n v = some (res, s9) → ∀ (H : Heap) (locs : List Loc) (ls : Array Slot), va_P G.1 vwCl (zw G MS 51 a (v.2.2.1) (v.2.2.2)) H → va_D A (zw G MS 51 a (v.2.2.1) (v.2.2.2)) → va_S A s.heap H locs → lv_has ls 11 [(0, .ref (a 0)), (1, .int v1), (2, .int v2), (3, .int v3), (4, .int (v.1)), (5, .int (v.2.1))] → W p l e { frames := 11, cells := 0, slots := 0, locals := 228 } s m [.ref (a 0), .int p1, .int p2, .int p3].toArray below meth c H locs 0 0 (MQ below ((kQi G (S := Unit) (fun r' _ => r' = res) (fun _ => zw G MS 51 a s9.1 s9.2)) A) [.ref (a 0), .int p1, .int p2, .int p3].toArray s 0 0 A) (F0 m 67 ls []) := by
          intro v1 v2 v3
          refine while_ind (fun k67 ih67 v h => ?_)
          obtain ⟨v4, v5, g, L⟩ := v
          intro H locs ls hP hD hS hl
          have h : fX12_gaps_s67 fu v1 v2 v3 k67 v4 v5 g L = some (res, s9) := h
          have hP : va_P G.1 vwCl (zw G MS 51 a g L) H := hP
          have hD : va_D A (zw G MS 51 a g L) := hD
          have hl : lv_has ls 11 [(0, .ref (a 0)), (1, .int v1), (2, .int v2), (3, .int v3), (4, .int v4), (5, .int v5)] := hl
          show W p l e { frames := 11, cells := 0, slots := 0, locals := 228 } s m [.ref (a 0), .int p1, .int p2, .int p3].toArray below meth c H locs 0 0 (MQ below ((kQi G (S := Unit) (fun r' _ => r' = res) (fun _ => zw G MS 51 a s9.1 s9.2)) A) [.ref (a 0), .int p1, .int p2, .int p3].toArray s 0 0 A) (F0 m 67 ls [])
          unfold fX12_gaps_s67 at h
          refine lv_iload hx hb dX12_gaps_67 (lv_at hl 5 rfl) ?_
          refine lv_bipush (v := 12) hx hb dX12_gaps_69 (by decide) ?_
          refine lv_icmp_ge (x := v5) (y := 12) (tgt := 121) hx hb dX12_gaps_71 (by decide) (fun c12 => ?_) (fun c12 => ?_)
          ·
            have h := ite_t c12 h
            refine lv_iconst (v := 1) hx hb dX12_gaps_121 (by decide) ?_
            refine lv_istore (lv' := [(5, .int 1), (0, .ref (a 0)), (1, .int v1), (2, .int v2), (3, .int v3), (4, .int v4)]) hx hb dX12_gaps_122 hl (by decide) rfl (fun ls hl => ?_)
            refine lv_iconst (v := 0) hx hb dX12_gaps_124 (by decide) ?_
            refine lv_istore (lv' := [(6, .int 0), (5, .int 1), (0, .ref (a 0)), (1, .int v1), (2, .int v2), (3, .int v3), (4, .int v4)]) hx hb dX12_gaps_125 hl (by decide) rfl (fun ls hl => ?_)
            have lp127 : ∀ (v2 : Int32) (v3 : Int32) (v4 : Int32), ∀ (n : Nat) (v : Int32 × Int32 × (Nat → Nat → Int32) × (Nat → Nat → Int64)), whileK (fun k v => fX12_gaps_s127 fu v2 v3 v4 k v.1 v.2.1 v.2.2.1 v.2.2.2) n v = some (res, s9) → ∀ (H : Heap) (locs : List Loc) (ls : Array Slot), va_P G.1 vwCl (zw G MS 51 a (v.2.2.1) (v.2.2.2)) H → va_D A (zw G MS 51 a (v.2.2.1) (v.2.2.2)) → va_S A s.heap H locs → lv_has ls 11 [(0, .ref (a 0)), (2, .int v2), (3, .int v3), (4, .int v4), (5, .int (v.1)), (6, .int (v.2.1))] → W p l e { frames := 11, cells := 0, slots := 0, locals := 228 } s m [.ref (a 0), .int p1, .int p2, .int p3].toArray below meth c H locs 0 0 (MQ below ((kQi G (S := Unit) (fun r' _ => r' = res) (fun _ => zw G MS 51 a s9.1 s9.2)) A) [.ref (a 0), .int p1, .int p2, .int p3].toArray s 0 0 A) (F0 m 127 ls []) := by
              intro v2 v3 v4
              refine while_ind (fun k127 ih127 v h => ?_)
              obtain ⟨v5, v6, g, L⟩ := v
              intro H locs ls hP hD hS hl
              have h : fX12_gaps_s127 fu v2 v3 v4 k127 v5 v6 g L = some (res, s9) := h
              have hP : va_P G.1 vwCl (zw G MS 51 a g L) H := hP
              have hD : va_D A (zw G MS 51 a g L) := hD
              have hl : lv_has ls 11 [(0, .ref (a 0)), (2, .int v2), (3, .int v3), (4, .int v4), (5, .int v5), (6, .int v6)] := hl
              show W p l e { frames := 11, cells := 0, slots := 0, locals := 228 } s m [.ref (a 0), .int p1, .int p2, .int p3].toArray below meth c H locs 0 0 (MQ below ((kQi G (S := Unit) (fun r' _ => r' = res) (fun _ => zw G MS 51 a s9.1 s9.2)) A) [.ref (a 0), .int p1, .int p2, .int p3].toArray s 0 0 A) (F0 m 127 ls [])
              unfold fX12_gaps_s127 at h
              refine lv_iload hx hb dX12_gaps_127 (lv_at hl 5 rfl) ?_
              refine lv_iload hx hb dX12_gaps_129 (lv_at hl 3 rfl) ?_
              refine lv_icmp_ge (x := v6) (y := v4) (tgt := 146) hx hb dX12_gaps_131 (by decide) (fun c13 => ?_) (fun c13 => ?_)
              ·
                have h := ite_t c13 h
                refine lv_iconst (v := -1) hx hb dX12_gaps_146 (by decide) ?_
                refine lv_istore (lv' := [(6, .int (-1)), (0, .ref (a 0)), (2, .int v2), (3, .int v3), (4, .int v4), (5, .int v5)]) hx hb dX12_gaps_147 hl (by decide) rfl (fun ls hl => ?_)
                refine lv_iconst (v := 0) hx hb dX12_gaps_149 (by decide) ?_
                refine lv_istore (lv' := [(7, .int 0), (6, .int (-1)), (0, .ref (a 0)), (2, .int v2), (3, .int v3), (4, .int v4), (5, .int v5)]) hx hb dX12_gaps_150 hl (by decide) rfl (fun ls hl => ?_)
                have lp152 : ∀ (v2 : Int32) (v3 : Int32) (v4 : Int32) (v5 : Int32), ∀ (n : Nat) (v : Int32 × Int32 × (Nat → Nat → Int32) × (Nat → Nat → Int64)), whileK (fun k v => fX12_gaps_s152 fu v2 v3 v4 v5 k v.1 v.2.1 v.2.2.1 v.2.2.2) n v = some (res, s9) → ∀ (H : Heap) (locs : List Loc) (ls : Array Slot), va_P G.1 vwCl (zw G MS 51 a (v.2.2.1) (v.2.2.2)) H → va_D A (zw G MS 51 a (v.2.2.1) (v.2.2.2)) → va_S A s.heap H locs → lv_has ls 11 [(0, .ref (a 0)), (2, .int v2), (3, .int v3), (4, .int v4), (5, .int v5), (6, .int (v.1)), (7, .int (v.2.1))] → W p l e { frames := 11, cells := 0, slots := 0, locals := 228 } s m [.ref (a 0), .int p1, .int p2, .int p3].toArray below meth c H locs 0 0 (MQ below ((kQi G (S := Unit) (fun r' _ => r' = res) (fun _ => zw G MS 51 a s9.1 s9.2)) A) [.ref (a 0), .int p1, .int p2, .int p3].toArray s 0 0 A) (F0 m 152 ls []) := by
                  intro v2 v3 v4 v5
                  refine while_ind (fun k152 ih152 v h => ?_)
                  obtain ⟨v6, v7, g, L⟩ := v
                  intro H locs ls hP hD hS hl
                  have h : fX12_gaps_s152 fu v2 v3 v4 v5 k152 v6 v7 g L = some (res, s9) := h
                  have hP : va_P G.1 vwCl (zw G MS 51 a g L) H := hP
                  have hD : va_D A (zw G MS 51 a g L) := hD
                  have hl : lv_has ls 11 [(0, .ref (a 0)), (2, .int v2), (3, .int v3), (4, .int v4), (5, .int v5), (6, .int v6), (7, .int v7)] := hl
                  show W p l e { frames := 11, cells := 0, slots := 0, locals := 228 } s m [.ref (a 0), .int p1, .int p2, .int p3].toArray below meth c H locs 0 0 (MQ below ((kQi G (S := Unit) (fun r' _ => r' = res) (fun _ => zw G MS 51 a s9.1 s9.2)) A) [.ref (a 0), .int p1, .int p2, .int p3].toArray s 0 0 A) (F0 m 152 ls [])
                  unfold fX12_gaps_s152 at h
                  refine lv_iload hx hb dX12_gaps_152 (lv_at hl 6 rfl) ?_
                  refine lv_iload hx hb dX12_gaps_154 (lv_at hl 4 rfl) ?_
                  refine lv_icmp_ge (x := v7) (y := v5) (tgt := 292) hx hb dX12_gaps_156 (by decide) (fun c14 => ?_) (fun c14 => ?_)
                  ·
                    have h := ite_t c14 h
                    refine lv_iconst (v := 0) hx hb dX12_gaps_292 (by decide) ?_
                    refine lv_istore (lv' := [(7, .int 0), (0, .ref (a 0)), (2, .int v2), (3, .int v3), (4, .int v4), (5, .int v5), (6, .int v6)]) hx hb dX12_gaps_293 hl (by decide) rfl (fun ls hl => ?_)
                    have lp295 : ∀ (v6 : Int32), ∀ (n : Nat) (v : Int32 × (Nat → Nat → Int32) × (Nat → Nat → Int64)), whileK (fun k v => fX12_gaps_s295 fu v6 k v.1 v.2.1 v.2.2) n v = some (res, s9) → ∀ (H : Heap) (locs : List Loc) (ls : Array Slot), va_P G.1 vwCl (zw G MS 51 a (v.2.1) (v.2.2)) H → va_D A (zw G MS 51 a (v.2.1) (v.2.2)) → va_S A s.heap H locs → lv_has ls 11 [(0, .ref (a 0)), (6, .int v6), (7, .int (v.1))] → W p l e { frames := 11, cells := 0, slots := 0, locals := 228 } s m [.ref (a 0), .int p1, .int p2, .int p3].toArray below meth c H locs 0 0 (MQ below ((kQi G (S := Unit) (fun r' _ => r' = res) (fun _ => zw G MS 51 a s9.1 s9.2)) A) [.ref (a 0), .int p1, .int p2, .int p3].toArray s 0 0 A) (F0 m 295 ls []) := by
                      intro v6
                      refine while_ind (fun k295 ih295 v h => ?_)
                      obtain ⟨v7, g, L⟩ := v
                      intro H locs ls hP hD hS hl
                      have h : fX12_gaps_s295 fu v6 k295 v7 g L = some (res, s9) := h
                      have hP : va_P G.1 vwCl (zw G MS 51 a g L) H := hP
                      have hD : va_D A (zw G MS 51 a g L) := hD
                      have hl : lv_has ls 11 [(0, .ref (a 0)), (6, .int v6), (7, .int v7)] := hl
                      show W p l e { frames := 11, cells := 0, slots := 0, locals := 228 } s m [.ref (a 0), .int p1, .int p2, .int p3].toArray below meth c H locs 0 0 (MQ below ((kQi G (S := Unit) (fun r' _ => r' = res) (fun _ => zw G MS 51 a s9.1 s9.2)) A) [.ref (a 0), .int p1, .int p2, .int p3].toArray s 0 0 A) (F0 m 295 ls [])
                      unfold fX12_gaps_s295 at h
                      refine lv_iload hx hb dX12_gaps_295 (lv_at hl 2 rfl) ?_
                      refine lv_bipush (v := 12) hx hb dX12_gaps_297 (by decide) ?_
                      refine lv_icmp_ge (x := v7) (y := 12) (tgt := 325) hx hb dX12_gaps_299 (by decide) (fun c15 => ?_) (fun c15 => ?_)
                      ·
                        have h := ite_t c15 h
                        refine lv_iload hx hb dX12_gaps_325 (lv_at hl 1 rfl) ?_
                        refine lv_iconst (v := -1) hx hb dX12_gaps_327 (by decide) ?_
                        have J336 : ∀ (v6 : Int32) (g : Nat → Nat → Int32) (L : Nat → Nat → Int64) (H : Heap) (locs : List Loc) (ls : Array Slot), fX12_gaps_p336 fu v6 g L = some (res, s9) → va_P G.1 vwCl (zw G MS 51 a g L) H → va_D A (zw G MS 51 a g L) → va_S A s.heap H locs → lv_has ls 11 [(6, .int v6)] → W p l e { frames := 11, cells := 0, slots := 0, locals := 228 } s m [.ref (a 0), .int p1, .int p2, .int p3].toArray below meth c H locs 0 0 (MQ below ((kQi G (S := Unit) (fun r' _ => r' = res) (fun _ => zw G MS 51 a s9.1 s9.2)) A) [.ref (a 0), .int p1, .int p2, .int p3].toArray s 0 0 A) (F0 m 336 ls []) := by
                          intro v6 g L H locs ls h hP hD hS hl
                          unfold fX12_gaps_p336 at h
                          refine lv_iload hx hb dX12_gaps_336 (lv_at hl 0 rfl) ?_
                          exact y_iret C hr hlk hP hD hS h (Nat.le_of_ble_eq_true rfl) (Nat.le_of_ble_eq_true rfl) dX12_gaps_338
                        refine lv_icmp_eq (x := v6) (y := (-1)) (tgt := 336) hx hb dX12_gaps_328 (by decide) (fun c16 => ?_) (fun c16 => ?_)
                        ·
                          have h := ite_t c16 h
                          exact J336 v6 g L H locs ls h hP hD hS (lv_sub hl [1] rfl)
                        ·
                          have h := ite_e c16 h
                          refine lv_aload_n hx hb dX12_gaps_331 rfl (lv_at hl 0 rfl) ?_
                          refine lv_iconst (v := 1) hx hb dX12_gaps_332 (by decide) ?_
                          refine y_puti (Or.inl fl_X12_351) ft_X12_65 C hP hD hS (by decide) ms_0 rfl rfl rfl dX12_gaps_333 h (fun g17 H locs h hP hD hS => ?_)
                          exact J336 v6 g17 L H locs ls h hP hD hS (lv_sub hl [1] rfl)
                      ·
                        have h := ite_e c15 h
                        refine lv_aload_n hx hb dX12_gaps_302 rfl (lv_at hl 0 rfl) ?_
                        refine x_getr (Or.inl fl_X12_50) C hP (by decide) ms_0 rfl dX12_gaps_303 ?_
                        refine lv_bipush (v := 12) hx hb dX12_gaps_306 (by decide) ?_
                        refine lv_iload hx hb dX12_gaps_308 (lv_at hl 2 rfl) ?_
                        refine lv_iadd hx hb dX12_gaps_310 ?_
                        refine lv_aload_n hx hb dX12_gaps_311 rfl (lv_at hl 0 rfl) ?_
                        refine x_getr (Or.inl fl_X12_141) C hP (by decide) ms_0 rfl dX12_gaps_312 ?_
                        refine lv_iload hx hb dX12_gaps_315 (lv_at hl 2 rfl) ?_
                        refine y_ald C hP (by decide) ms_39 dX12_gaps_317 h (fun h => ?_)
                        refine y_ast C hP hD hS (by decide) ms_12 dX12_gaps_318 h (fun g18 H locs h hP hD hS => ?_)
                        refine lv_iinc (v := (v7 + 1)) (lv' := [(7, .int (v7 + 1)), (0, .ref (a 0)), (6, .int v6)]) hx hb dX12_gaps_319 hl (k := 2) rfl rfl (by decide) rfl (fun ls hl => ?_)
                        refine lv_goto (tgt := 295) hx hb dX12_gaps_322 (by decide) ?_
                        exact ih295 ((v7 + 1), g18, L) h H locs ls hP hD hS (lv_sub hl [1, 2, 0] rfl)
                    exact lp295 v6 fu (0, g, L) h H locs ls hP hD hS (lv_sub hl [1, 6, 0] rfl)
                  ·
                    have h := ite_e c14 h
                    refine lv_iconst (v := 0) hx hb dX12_gaps_159 (by decide) ?_
                    refine lv_istore (lv' := [(8, .int 0), (0, .ref (a 0)), (2, .int v2), (3, .int v3), (4, .int v4), (5, .int v5), (6, .int v6), (7, .int v7)]) hx hb dX12_gaps_160 hl (by decide) rfl (fun ls hl => ?_)
                    refine lv_iload hx hb dX12_gaps_162 (lv_at hl 7 rfl) ?_
                    refine lv_istore (lv' := [(9, .int v7), (8, .int 0), (0, .ref (a 0)), (2, .int v2), (3, .int v3), (4, .int v4), (5, .int v5), (6, .int v6), (7, .int v7)]) hx hb dX12_gaps_164 hl (by decide) rfl (fun ls hl => ?_)
                    refine lv_iload hx hb dX12_gaps_166 (lv_at hl 5 rfl) ?_
                    refine lv_iconst (v := 1) hx hb dX12_gaps_168 (by decide) ?_
                    refine lv_isub hx hb dX12_gaps_169 ?_
                    refine y_let h (fun x19 h => ?_)
                    refine lv_istore (lv' := [(10, .int x19), (9, .int v7), (8, .int 0), (0, .ref (a 0)), (2, .int v2), (3, .int v3), (4, .int v4), (5, .int v5), (6, .int v6), (7, .int v7)]) hx hb dX12_gaps_170 hl (by decide) rfl (fun ls hl => ?_)
                    have lp172 : ∀ (v6 : Int32) (v7 : Int32), ∀ (n : Nat) (v : Int32 × Int32 × Int32 × (Nat → Nat → Int32) × (Nat → Nat → Int64)), whileK (fun k v => fX12_gaps_s172 fu k152 v2 v3 v4 v5 v6 v7 k v.1 v.2.1 v.2.2.1 v.2.2.2.1 v.2.2.2.2) n v = some (res, s9) → ∀ (H : Heap) (locs : List Loc) (ls : Array Slot), va_P G.1 vwCl (zw G MS 51 a (v.2.2.2.1) (v.2.2.2.2)) H → va_D A (zw G MS 51 a (v.2.2.2.1) (v.2.2.2.2)) → va_S A s.heap H locs → lv_has ls 11 [(0, .ref (a 0)), (2, .int v2), (3, .int v3), (4, .int v4), (5, .int v5), (6, .int v6), (7, .int v7), (8, .int (v.1)), (9, .int (v.2.1)), (10, .int (v.2.2.1))] → W p l e { frames := 11, cells := 0, slots := 0, locals := 228 } s m [.ref (a 0), .int p1, .int p2, .int p3].toArray below meth c H locs 0 0 (MQ below ((kQi G (S := Unit) (fun r' _ => r' = res) (fun _ => zw G MS 51 a s9.1 s9.2)) A) [.ref (a 0), .int p1, .int p2, .int p3].toArray s 0 0 A) (F0 m 172 ls []) := by
                      intro v6 v7
                      refine while_ind (fun k172 ih172 v h => ?_)
                      obtain ⟨v8, v9, v10, g, L⟩ := v
                      intro H locs ls hP hD hS hl
                      have h : fX12_gaps_s172 fu k152 v2 v3 v4 v5 v6 v7 k172 v8 v9 v10 g L = some (res, s9) := h
                      have hP : va_P G.1 vwCl (zw G MS 51 a g L) H := hP
                      have hD : va_D A (zw G MS 51 a g L) := hD
                      have hl : lv_has ls 11 [(0, .ref (a 0)), (2, .int v2), (3, .int v3), (4, .int v4), (5, .int v5), (6, .int v6), (7, .int v7), (8, .int v8), (9, .int v9), (10, .int v10)] := hl
                      show W p l e { frames := 11, cells := 0, slots := 0, locals := 228 } s m [.ref (a 0), .int p1, .int p2, .int p3].toArray below meth c H locs 0 0 (MQ below ((kQi G (S := Unit) (fun r' _ => r' = res) (fun _ => zw G MS 51 a s9.1 s9.2)) A) [.ref (a 0), .int p1, .int p2, .int p3].toArray s 0 0 A) (F0 m 172 ls [])
                      unfold fX12_gaps_s172 at h
                      refine lv_iload hx hb dX12_gaps_172 (lv_at hl 9 rfl) ?_
                      refine lv_if_lt (x := v10) (tgt := 217) hx hb dX12_gaps_174 (by decide) (fun c20 => ?_) (fun c20 => ?_)
                      ·
                        have h := ite_t c20 h
                        refine lv_iload hx hb dX12_gaps_217 (lv_at hl 5 rfl) ?_
                        refine lv_iconst (v := -1) hx hb dX12_gaps_219 (by decide) ?_
                        have J286 : ∀ (v6 : Int32) (v7 : Int32) (g : Nat → Nat → Int32) (L : Nat → Nat → Int64) (H : Heap) (locs : List Loc) (ls : Array Slot), fX12_gaps_p286 fu k152 v2 v3 v4 v5 v6 v7 g L = some (res, s9) → va_P G.1 vwCl (zw G MS 51 a g L) H → va_D A (zw G MS 51 a g L) → va_S A s.heap H locs → lv_has ls 11 [(0, .ref (a 0)), (2, .int v2), (3, .int v3), (4, .int v4), (5, .int v5), (6, .int v6), (7, .int v7)] → W p l e { frames := 11, cells := 0, slots := 0, locals := 228 } s m [.ref (a 0), .int p1, .int p2, .int p3].toArray below meth c H locs 0 0 (MQ below ((kQi G (S := Unit) (fun r' _ => r' = res) (fun _ => zw G MS 51 a s9.1 s9.2)) A) [.ref (a 0), .int p1, .int p2, .int p3].toArray s 0 0 A) (F0 m 286 ls []) := by
                          intro v6 v7 g L H locs ls h hP hD hS hl
                          unfold fX12_gaps_p286 at h
                          refine lv_iinc (v := (v7 + 1)) (lv' := [(7, .int (v7 + 1)), (0, .ref (a 0)), (2, .int v2), (3, .int v3), (4, .int v4), (5, .int v5), (6, .int v6)]) hx hb dX12_gaps_286 hl (k := 6) rfl rfl (by decide) rfl (fun ls hl => ?_)
                          refine lv_goto (tgt := 152) hx hb dX12_gaps_289 (by decide) ?_
                          exact ih152 (v6, (v7 + 1), g, L) h H locs ls hP hD hS (lv_sub hl [1, 2, 3, 4, 5, 6, 0] rfl)
                        have J233 : ∀ (v6 : Int32) (v7 : Int32) (v8 : Int32) (g : Nat → Nat → Int32) (L : Nat → Nat → Int64) (H : Heap) (locs : List Loc) (ls : Array Slot), fX12_gaps_p233 fu k152 v2 v3 v4 v5 v6 v7 v8 g L = some (res, s9) → va_P G.1 vwCl (zw G MS 51 a g L) H → va_D A (zw G MS 51 a g L) → va_S A s.heap H locs → lv_has ls 11 [(0, .ref (a 0)), (2, .int v2), (3, .int v3), (4, .int v4), (5, .int v5), (6, .int v6), (7, .int v7), (8, .int v8)] → W p l e { frames := 11, cells := 0, slots := 0, locals := 228 } s m [.ref (a 0), .int p1, .int p2, .int p3].toArray below meth c H locs 0 0 (MQ below ((kQi G (S := Unit) (fun r' _ => r' = res) (fun _ => zw G MS 51 a s9.1 s9.2)) A) [.ref (a 0), .int p1, .int p2, .int p3].toArray s 0 0 A) (F0 m 233 ls []) := by
                          intro v6 v7 v8 g L H locs ls h hP hD hS hl
                          unfold fX12_gaps_p233 at h
                          refine lv_aload_n hx hb dX12_gaps_233 rfl (lv_at hl 0 rfl) ?_
                          obtain ⟨z_, g22, L23, hf24, h⟩ := cb_some h
                          refine x_callVv (rest := []) li_X12_386 C (rX12_works0 l G H.size a fu g L z_ (g22, L23) hf24) (kR rfl) hP hD hS 0 12 rfl (zat (by decide) ms_0) rfl hl.1 rfl (Nat.le_of_ble_eq_true rfl) dX12_gaps_234 (fun u_ H locs e_ hP hD hS => ?_)
                          have hP : va_P G.1 vwCl (zw G MS 51 a g22 L23) H := hP
                          have hD : va_D A (zw G MS 51 a g22 L23) := hD
                          refine lv_aload_n hx hb dX12_gaps_237 rfl (lv_at hl 0 rfl) ?_
                          refine lv_iload_n hx hb dX12_gaps_238 rfl (lv_at hl 1 rfl) ?_
                          obtain ⟨z_, g26, L27, hf28, h⟩ := cb_some h
                          refine x_callVi (rest := []) li_X12_389 C (rX12_late l G H.size a fu g22 L23 v2 z_ (g26, L27) hf28) (kR rfl) hP hD hS 0 12 rfl (zat (by decide) ms_0) rfl hl.1 rfl (Nat.le_of_ble_eq_true rfl) dX12_gaps_239 (fun x25 u_ H locs e_ hP hD hS => ?_)
                          have e_ : x25 = z_ := e_
                          subst e_
                          have hP : va_P G.1 vwCl (zw G MS 51 a g26 L27) H := hP
                          have hD : va_D A (zw G MS 51 a g26 L27) := hD
                          refine lv_iload_n hx hb dX12_gaps_242 rfl (lv_at hl 2 rfl) ?_
                          refine lv_icmp_le (x := x25) (y := v3) (tgt := 249) hx hb dX12_gaps_243 (by decide) (fun c29 => ?_) (fun c29 => ?_)
                          ·
                            have h := ite_t c29 h
                            refine lv_iload hx hb dX12_gaps_249 (lv_at hl 7 rfl) ?_
                            refine lv_istore (lv' := [(6, .int v8), (0, .ref (a 0)), (2, .int v2), (3, .int v3), (4, .int v4), (5, .int v5), (7, .int v7), (8, .int v8)]) hx hb dX12_gaps_251 hl (by decide) rfl (fun ls hl => ?_)
                            refine lv_iconst (v := 0) hx hb dX12_gaps_253 (by decide) ?_
                            refine lv_istore (lv' := [(10, .int 0), (6, .int v8), (0, .ref (a 0)), (2, .int v2), (3, .int v3), (4, .int v4), (5, .int v5), (7, .int v7), (8, .int v8)]) hx hb dX12_gaps_254 hl (by decide) rfl (fun ls hl => ?_)
                            have lp256 : ∀ (v6 : Int32) (v7 : Int32), ∀ (n : Nat) (v : Int32 × (Nat → Nat → Int32) × (Nat → Nat → Int64)), whileK (fun k v => fX12_gaps_s256 fu k152 v2 v3 v4 v5 v6 v7 k v.1 v.2.1 v.2.2) n v = some (res, s9) → ∀ (H : Heap) (locs : List Loc) (ls : Array Slot), va_P G.1 vwCl (zw G MS 51 a (v.2.1) (v.2.2)) H → va_D A (zw G MS 51 a (v.2.1) (v.2.2)) → va_S A s.heap H locs → lv_has ls 11 [(0, .ref (a 0)), (2, .int v2), (3, .int v3), (4, .int v4), (5, .int v5), (6, .int v6), (7, .int v7), (10, .int (v.1))] → W p l e { frames := 11, cells := 0, slots := 0, locals := 228 } s m [.ref (a 0), .int p1, .int p2, .int p3].toArray below meth c H locs 0 0 (MQ below ((kQi G (S := Unit) (fun r' _ => r' = res) (fun _ => zw G MS 51 a s9.1 s9.2)) A) [.ref (a 0), .int p1, .int p2, .int p3].toArray s 0 0 A) (F0 m 256 ls []) := by
                              intro v6 v7
                              refine while_ind (fun k256 ih256 v h => ?_)
                              obtain ⟨v10, g, L⟩ := v
                              intro H locs ls hP hD hS hl
                              have h : fX12_gaps_s256 fu k152 v2 v3 v4 v5 v6 v7 k256 v10 g L = some (res, s9) := h
                              have hP : va_P G.1 vwCl (zw G MS 51 a g L) H := hP
                              have hD : va_D A (zw G MS 51 a g L) := hD
                              have hl : lv_has ls 11 [(0, .ref (a 0)), (2, .int v2), (3, .int v3), (4, .int v4), (5, .int v5), (6, .int v6), (7, .int v7), (10, .int v10)] := hl
                              show W p l e { frames := 11, cells := 0, slots := 0, locals := 228 } s m [.ref (a 0), .int p1, .int p2, .int p3].toArray below meth c H locs 0 0 (MQ below ((kQi G (S := Unit) (fun r' _ => r' = res) (fun _ => zw G MS 51 a s9.1 s9.2)) A) [.ref (a 0), .int p1, .int p2, .int p3].toArray s 0 0 A) (F0 m 256 ls [])
                              unfold fX12_gaps_s256 at h
                              refine lv_iload hx hb dX12_gaps_256 (lv_at hl 7 rfl) ?_
                              refine lv_bipush (v := 12) hx hb dX12_gaps_258 (by decide) ?_
                              refine lv_icmp_ge (x := v10) (y := 12) (tgt := 286) hx hb dX12_gaps_260 (by decide) (fun c30 => ?_) (fun c30 => ?_)
                              ·
                                have h := ite_t c30 h
                                exact J286 v6 v7 g L H locs ls h hP hD hS (lv_sub hl [0, 1, 2, 3, 4, 5, 6] rfl)
                              ·
                                have h := ite_e c30 h
                                refine lv_aload_n hx hb dX12_gaps_263 rfl (lv_at hl 0 rfl) ?_
                                refine x_getr (Or.inl fl_X12_138) C hP (by decide) ms_0 rfl dX12_gaps_264 ?_
                                refine lv_iload hx hb dX12_gaps_267 (lv_at hl 7 rfl) ?_
                                refine lv_aload_n hx hb dX12_gaps_269 rfl (lv_at hl 0 rfl) ?_
                                refine x_getr (Or.inl fl_X12_50) C hP (by decide) ms_0 rfl dX12_gaps_270 ?_
                                refine lv_bipush (v := 12) hx hb dX12_gaps_273 (by decide) ?_
                                refine lv_iload hx hb dX12_gaps_275 (lv_at hl 7 rfl) ?_
                                refine lv_iadd hx hb dX12_gaps_277 ?_
                                refine y_ald C hP (by decide) ms_12 dX12_gaps_278 h (fun h => ?_)
                                refine y_ast C hP hD hS (by decide) ms_38 dX12_gaps_279 h (fun g31 H locs h hP hD hS => ?_)
                                refine lv_iinc (v := (v10 + 1)) (lv' := [(10, .int (v10 + 1)), (0, .ref (a 0)), (2, .int v2), (3, .int v3), (4, .int v4), (5, .int v5), (6, .int v6), (7, .int v7)]) hx hb dX12_gaps_280 hl (k := 7) rfl rfl (by decide) rfl (fun ls hl => ?_)
                                refine lv_goto (tgt := 256) hx hb dX12_gaps_283 (by decide) ?_
                                exact ih256 ((v10 + 1), g31, L) h H locs ls hP hD hS (lv_sub hl [1, 2, 3, 4, 5, 6, 7, 0] rfl)
                            exact lp256 v8 v7 fu (0, g26, L27) h H locs ls hP hD hS (lv_sub hl [2, 3, 4, 5, 6, 1, 7, 0] rfl)
                          ·
                            have h := ite_e c29 h
                            refine lv_goto (tgt := 286) hx hb dX12_gaps_246 (by decide) ?_
                            exact J286 v6 v7 g26 L27 H locs ls h hP hD hS (lv_sub hl [0, 1, 2, 3, 4, 5, 6] rfl)
                        refine lv_icmp_eq (x := v6) (y := (-1)) (tgt := 233) hx hb dX12_gaps_220 (by decide) (fun c32 => ?_) (fun c32 => ?_)
                        ·
                          have h := ite_t c32 h
                          exact J233 v6 v7 v8 g L H locs ls h hP hD hS (lv_sub hl [0, 1, 2, 3, 4, 5, 6, 7] rfl)
                        ·
                          have h := ite_e c32 h
                          refine lv_iload hx hb dX12_gaps_223 (lv_at hl 7 rfl) ?_
                          refine lv_iload hx hb dX12_gaps_225 (lv_at hl 5 rfl) ?_
                          refine lv_icmp_lt (x := v8) (y := v6) (tgt := 233) hx hb dX12_gaps_227 (by decide) (fun c33 => ?_) (fun c33 => ?_)
                          ·
                            have h := ite_t c33 h
                            exact J233 v6 v7 v8 g L H locs ls h hP hD hS (lv_sub hl [0, 1, 2, 3, 4, 5, 6, 7] rfl)
                          ·
                            have h := ite_e c33 h
                            refine lv_goto (tgt := 286) hx hb dX12_gaps_230 (by decide) ?_
                            exact J286 v6 v7 g L H locs ls h hP hD hS (lv_sub hl [0, 1, 2, 3, 4, 5, 6] rfl)
                      ·
                        have h := ite_e c20 h
                        refine lv_aload_n hx hb dX12_gaps_177 rfl (lv_at hl 0 rfl) ?_
                        refine x_getr (Or.inl fl_X12_50) C hP (by decide) ms_0 rfl dX12_gaps_178 ?_
                        refine lv_bipush (v := 12) hx hb dX12_gaps_181 (by decide) ?_
                        refine lv_aload_n hx hb dX12_gaps_183 rfl (lv_at hl 0 rfl) ?_
                        refine x_getr (Or.inl fl_X12_144) C hP (by decide) ms_0 rfl dX12_gaps_184 ?_
                        refine lv_iload hx hb dX12_gaps_187 (lv_at hl 9 rfl) ?_
                        refine y_ald C hP (by decide) ms_40 dX12_gaps_189 h (fun h => ?_)
                        refine lv_iadd hx hb dX12_gaps_190 ?_
                        refine lv_iload hx hb dX12_gaps_191 (lv_at hl 8 rfl) ?_
                        refine lv_iconst (v := 5) hx hb dX12_gaps_193 (by decide) ?_
                        obtain ⟨nz, h⟩ := cnz_some h
                        refine lv_irem hx hb dX12_gaps_194 nz ?_
                        refine y_ast C hP hD hS (by decide) ms_12 dX12_gaps_195 h (fun g34 H locs h hP hD hS => ?_)
                        refine lv_iload hx hb dX12_gaps_196 (lv_at hl 7 rfl) ?_
                        refine lv_iload hx hb dX12_gaps_198 (lv_at hl 8 rfl) ?_
                        refine lv_iconst (v := 5) hx hb dX12_gaps_200 (by decide) ?_
                        obtain ⟨nz, h⟩ := cnz_some h
                        refine lv_irem hx hb dX12_gaps_201 nz ?_
                        refine lv_iadd hx hb dX12_gaps_202 ?_
                        refine y_let h (fun x35 h => ?_)
                        refine lv_istore (lv' := [(8, .int x35), (0, .ref (a 0)), (2, .int v2), (3, .int v3), (4, .int v4), (5, .int v5), (6, .int v6), (7, .int v7), (9, .int v9), (10, .int v10)]) hx hb dX12_gaps_203 hl (by decide) rfl (fun ls hl => ?_)
                        refine lv_iload hx hb dX12_gaps_205 (lv_at hl 8 rfl) ?_
                        refine lv_iconst (v := 5) hx hb dX12_gaps_207 (by decide) ?_
                        obtain ⟨nz, h⟩ := cnz_some h
                        refine lv_idiv hx hb dX12_gaps_208 nz ?_
                        refine y_let h (fun x36 h => ?_)
                        refine lv_istore (lv' := [(9, .int x36), (8, .int x35), (0, .ref (a 0)), (2, .int v2), (3, .int v3), (4, .int v4), (5, .int v5), (6, .int v6), (7, .int v7), (10, .int v10)]) hx hb dX12_gaps_209 hl (by decide) rfl (fun ls hl => ?_)
                        refine lv_iinc (v := (v10 + (-1))) (lv' := [(10, .int (v10 + (-1))), (9, .int x36), (8, .int x35), (0, .ref (a 0)), (2, .int v2), (3, .int v3), (4, .int v4), (5, .int v5), (6, .int v6), (7, .int v7)]) hx hb dX12_gaps_211 hl (k := 9) rfl rfl (by decide) rfl (fun ls hl => ?_)
                        refine lv_goto (tgt := 172) hx hb dX12_gaps_214 (by decide) ?_
                        exact ih172 (x35, x36, (v10 + (-1)), g34, L) h H locs ls hP hD hS (lv_sub hl [3, 4, 5, 6, 7, 8, 9, 2, 1, 0] rfl)
                    exact lp172 v6 v7 fu (0, v7, x19, g, L) h H locs ls hP hD hS (lv_sub hl [3, 4, 5, 6, 7, 8, 9, 2, 1, 0] rfl)
                exact lp152 v2 v3 v4 v5 fu ((-1), 0, g, L) h H locs ls hP hD hS (lv_sub hl [2, 3, 4, 5, 6, 1, 0] rfl)
              ·
                have h := ite_e c13 h
                refine lv_iload hx hb dX12_gaps_134 (lv_at hl 4 rfl) ?_
                refine lv_iconst (v := 5) hx hb dX12_gaps_136 (by decide) ?_
                refine lv_imul hx hb dX12_gaps_137 ?_
                refine y_let h (fun x37 h => ?_)
                refine lv_istore (lv' := [(5, .int x37), (0, .ref (a 0)), (2, .int v2), (3, .int v3), (4, .int v4), (6, .int v6)]) hx hb dX12_gaps_138 hl (by decide) rfl (fun ls hl => ?_)
                refine lv_iinc (v := (v6 + 1)) (lv' := [(6, .int (v6 + 1)), (5, .int x37), (0, .ref (a 0)), (2, .int v2), (3, .int v3), (4, .int v4)]) hx hb dX12_gaps_140 hl (k := 5) rfl rfl (by decide) rfl (fun ls hl => ?_)
                refine lv_goto (tgt := 127) hx hb dX12_gaps_143 (by decide) ?_
                exact ih127 (x37, (v6 + 1), g, L) h H locs ls hP hD hS (lv_sub hl [2, 3, 4, 5, 1, 0] rfl)
            exact lp127 v2 v3 v4 fu (1, 0, g, L) h H locs ls hP hD hS (lv_sub hl [2, 4, 5, 6, 1, 0] rfl)
          ·
            have h := ite_e c12 h
            refine lv_aload_n hx hb dX12_gaps_74 rfl (lv_at hl 0 rfl) ?_
            refine x_getr (Or.inl fl_X12_141) C hP (by decide) ms_0 rfl dX12_gaps_75 ?_
            refine lv_iload hx hb dX12_gaps_78 (lv_at hl 5 rfl) ?_
            refine lv_aload_n hx hb dX12_gaps_80 rfl (lv_at hl 0 rfl) ?_
            refine x_getr (Or.inl fl_X12_50) C hP (by decide) ms_0 rfl dX12_gaps_81 ?_
            refine lv_bipush (v := 12) hx hb dX12_gaps_84 (by decide) ?_
            refine lv_iload hx hb dX12_gaps_86 (lv_at hl 5 rfl) ?_
            refine lv_iadd hx hb dX12_gaps_88 ?_
            refine y_ald C hP (by decide) ms_12 dX12_gaps_89 h (fun h => ?_)
            refine y_ast C hP hD hS (by decide) ms_39 dX12_gaps_90 h (fun g38 H locs h hP hD hS => ?_)
            refine lv_iload_n hx hb dX12_gaps_91 rfl (lv_at hl 1 rfl) ?_
            refine lv_iload hx hb dX12_gaps_92 (lv_at hl 5 rfl) ?_
            refine lv_ishr hx hb dX12_gaps_94 ?_
            refine lv_iconst (v := 1) hx hb dX12_gaps_95 (by decide) ?_
            refine lv_iand hx hb dX12_gaps_96 ?_
            have J115 : ∀ (v4 : Int32) (v5 : Int32) (g : Nat → Nat → Int32) (L : Nat → Nat → Int64) (H : Heap) (locs : List Loc) (ls : Array Slot), fX12_gaps_p115 fu k67 v1 v2 v3 v4 v5 g L = some (res, s9) → va_P G.1 vwCl (zw G MS 51 a g L) H → va_D A (zw G MS 51 a g L) → va_S A s.heap H locs → lv_has ls 11 [(0, .ref (a 0)), (1, .int v1), (2, .int v2), (3, .int v3), (4, .int v4), (5, .int v5)] → W p l e { frames := 11, cells := 0, slots := 0, locals := 228 } s m [.ref (a 0), .int p1, .int p2, .int p3].toArray below meth c H locs 0 0 (MQ below ((kQi G (S := Unit) (fun r' _ => r' = res) (fun _ => zw G MS 51 a s9.1 s9.2)) A) [.ref (a 0), .int p1, .int p2, .int p3].toArray s 0 0 A) (F0 m 115 ls []) := by
              intro v4 v5 g L H locs ls h hP hD hS hl
              unfold fX12_gaps_p115 at h
              refine lv_iinc (v := (v5 + 1)) (lv' := [(5, .int (v5 + 1)), (0, .ref (a 0)), (1, .int v1), (2, .int v2), (3, .int v3), (4, .int v4)]) hx hb dX12_gaps_115 hl (k := 5) rfl rfl (by decide) rfl (fun ls hl => ?_)
              refine lv_goto (tgt := 67) hx hb dX12_gaps_118 (by decide) ?_
              exact ih67 (v4, (v5 + 1), g, L) h H locs ls hP hD hS (lv_sub hl [1, 2, 3, 4, 5, 0] rfl)
            refine lv_if_ne (x := (((v1 : Int32) >>> ((v5 : Int32) &&& 31) : Int32) &&& 1)) (tgt := 103) hx hb dX12_gaps_97 (by decide) (fun c39 => ?_) (fun c39 => ?_)
            ·
              have h := ite_e c39 h
              refine lv_aload_n hx hb dX12_gaps_103 rfl (lv_at hl 0 rfl) ?_
              refine x_getr (Or.inl fl_X12_144) C hP (by decide) ms_0 rfl dX12_gaps_104 ?_
              refine lv_iload hx hb dX12_gaps_107 (lv_at hl 4 rfl) ?_
              refine lv_iload hx hb dX12_gaps_109 (lv_at hl 5 rfl) ?_
              refine y_ast C hP hD hS (by decide) ms_40 dX12_gaps_111 h (fun g40 H locs h hP hD hS => ?_)
              refine lv_iinc (v := (v4 + 1)) (lv' := [(4, .int (v4 + 1)), (0, .ref (a 0)), (1, .int v1), (2, .int v2), (3, .int v3), (5, .int v5)]) hx hb dX12_gaps_112 hl (k := 4) rfl rfl (by decide) rfl (fun ls hl => ?_)
              exact J115 (v4 + 1) v5 g40 L H locs ls h hP hD hS (lv_sub hl [1, 2, 3, 4, 0, 5] rfl)
            ·
              have h := ite_t c39 h
              refine lv_goto (tgt := 115) hx hb dX12_gaps_100 (by decide) ?_
              exact J115 v4 v5 g38 L H locs ls h hP hD hS (lv_sub hl [0, 1, 2, 3, 4, 5] rfl)
        exact lp67 v1 v2 v3 fu (0, 0, g8, L9) h H locs ls hP hD hS (lv_sub hl [2, 3, 4, 5, 1, 0] rfl)
      ·
        have h := ite_t c11 h
        exact J59 g8 L9 H locs ls h hP hD hS (lv_sub hl [] rfl)
    have J51 : ∀ (v1 : Int32) (v2 : Int32) (v3 : Int32) (g : Nat → Nat → Int32) (L : Nat → Nat → Int64) (H : Heap) (locs : List Loc) (ls : Array Slot), fX12_gaps_p51 fu v1 v2 v3 g L = some (res, s9) → va_P G.1 vwCl (zw G MS 51 a g L) H → va_D A (zw G MS 51 a g L) → va_S A s.heap H locs → lv_has ls 11 [(0, .ref (a 0)), (1, .int v1), (2, .int v2), (3, .int v3)] → W p l e { frames := 11, cells := 0, slots := 0, locals := 228 } s m [.ref (a 0), .int p1, .int p2, .int p3].toArray below meth c H locs 0 0 (MQ below ((kQi G (S := Unit) (fun r' _ => r' = res) (fun _ => zw G MS 51 a s9.1 s9.2)) A) [.ref (a 0), .int p1, .int p2, .int p3].toArray s 0 0 A) (F0 m 51 ls [.ref (a 0)]) := by
      intro v1 v2 v3 g L H locs ls h hP hD hS hl
      unfold fX12_gaps_p51 at h
      refine lv_iconst (v := 0) hx hb dX12_gaps_51 (by decide) ?_
      exact J52 v1 v2 v3 0 g L H locs ls h hP hD hS (lv_sub hl [0, 1, 2, 3] rfl)
    refine lv_if_lt (x := p1) (tgt := 51) hx hb dX12_gaps_15 (by decide) (fun c41 => ?_) (fun c41 => ?_)
    ·
      have h := ite_t c41 h
      exact J51 p1 p2 p3 g3 L4 H locs ls h hP hD hS (lv_sub hl [0, 1, 2, 3] rfl)
    ·
      have h := ite_e c41 h
      refine lv_iload_n hx hb dX12_gaps_18 rfl (lv_at hl 1 rfl) ?_
      refine lv_iconst (v := 1) hx hb dX12_gaps_19 (by decide) ?_
      refine lv_aload_n hx hb dX12_gaps_20 rfl (lv_at hl 0 rfl) ?_
      refine x_getv (v := .int (g3 0 1)) (Or.inl fl_X12_335) C hP (by decide) ms_0 rfl dX12_gaps_21 ?_
      refine lv_ishl hx hb dX12_gaps_24 ?_
      refine lv_icmp_ge (x := p1) (y := ((1 : Int32) <<< (((g3 0 1) : Int32) &&& 31) : Int32)) (tgt := 51) hx hb dX12_gaps_25 (by decide) (fun c42 => ?_) (fun c42 => ?_)
      ·
        have h := ite_t c42 h
        exact J51 p1 p2 p3 g3 L4 H locs ls h hP hD hS (lv_sub hl [0, 1, 2, 3] rfl)
      ·
        have h := ite_e c42 h
        refine lv_iload_n hx hb dX12_gaps_28 rfl (lv_at hl 1 rfl) ?_
        obtain ⟨z_, g44, L45, hf46, h⟩ := cb_some h
        refine x_callSi (rest := [.ref (a 0)]) li_X12_427 C (rX12_bits l G H.size a fu g3 L4 p1 z_ (g44, L45) hf46) (kR rfl) hP hD hS rfl hl.1 rfl (Nat.le_of_ble_eq_true rfl) dX12_gaps_29 (fun x43 u_ H locs e_ hP hD hS => ?_)
        have e_ : x43 = z_ := e_
        subst e_
        have hP : va_P G.1 vwCl (zw G MS 51 a g44 L45) H := hP
        have hD : va_D A (zw G MS 51 a g44 L45) := hD
        refine lv_iconst (v := 5) hx hb dX12_gaps_32 (by decide) ?_
        refine lv_icmp_gt (x := x43) (y := 5) (tgt := 51) hx hb dX12_gaps_33 (by decide) (fun c47 => ?_) (fun c47 => ?_)
        ·
          have h := ite_t c47 h
          exact J51 p1 p2 p3 g44 L45 H locs ls h hP hD hS (lv_sub hl [0, 1, 2, 3] rfl)
        ·
          have h := ite_e c47 h
          refine lv_iload_n hx hb dX12_gaps_36 rfl (lv_at hl 3 rfl) ?_
          refine lv_iconst (v := 0) hx hb dX12_gaps_37 (by decide) ?_
          refine lv_sipush (v := 999) hx hb dX12_gaps_38 (by decide) ?_
          obtain ⟨z_, g49, L50, hf51, h⟩ := cb_some h
          refine x_callSi (rest := [.ref (a 0)]) li_X12_392 C (rX12_within l G H.size a fu g44 L45 p3 0 999 z_ (g49, L50) hf51) (kR rfl) hP hD hS rfl hl.1 rfl (Nat.le_of_ble_eq_true rfl) dX12_gaps_41 (fun x48 u_ H locs e_ hP hD hS => ?_)
          have e_ : x48 = z_ := e_
          subst e_
          have hP : va_P G.1 vwCl (zw G MS 51 a g49 L50) H := hP
          have hD : va_D A (zw G MS 51 a g49 L50) := hD
          refine lv_if_eq (x := x48) (tgt := 51) hx hb dX12_gaps_44 (by decide) (fun c52 => ?_) (fun c52 => ?_)
          ·
            have h := ite_t c52 h
            exact J51 p1 p2 p3 g49 L50 H locs ls h hP hD hS (lv_sub hl [0, 1, 2, 3] rfl)
          ·
            have h := ite_e c52 h
            refine lv_iconst (v := 1) hx hb dX12_gaps_47 (by decide) ?_
            refine lv_goto (tgt := 52) hx hb dX12_gaps_48 (by decide) ?_
            exact J52 p1 p2 p3 1 g49 L50 H locs ls h hP hD hS (lv_sub hl [0, 1, 2, 3] rfl)
def fX12_gap_p35 (fu : Nat) (t0 : Int32) (g : Nat → Nat → Int32) (L : Nat → Nat → Int64) : Option ((Int32) × zS) :=
  some (t0, (g, L))
def fX12_gap_p34 (fu : Nat) (g : Nat → Nat → Int32) (L : Nat → Nat → Int64) : Option ((Int32) × zS) :=
  fX12_gap_p35 fu 0 g L
def fX12_gap (fu : Nat) (p1 : Int32) (g : Nat → Nat → Int32) (L : Nat → Nat → Int64) : Option ((Int32) × zS) :=
  sti g 0 0 0 (fun g1 =>
  cb (fX12_isLesson fu p1 g1 L) (fun x2 g3 L4 =>
  if x2 = 0 then fX12_gap_p34 fu g3 L4
  else cb (fX12_right fu (g3 0 65) 1 g3 L4) (fun x7 g8 L9 =>
  if x7 = 0 then fX12_gap_p34 fu g8 L9
  else ck p1 12 (
  fX12_gap_p35 fu (g8 38 (Int32.toNatClampNeg p1)) g8 L9))))
set_option maxHeartbeats 4000000 in
set_option maxRecDepth 100000 in
theorem rX12_gap (l : Launch) (G : kG) (sz : Nat) (a : Nat → Nat) (fu : Nat) (g : Nat → Nat → Int32) (L : Nat → Nat → Int64) (p1 : Int32) (res : Int32) (s9 : zS) (h : fX12_gap fu p1 g L = some (res, s9)) : kM l yX12_gap cX12_gap 2 (some .int) { frames := 8, cells := 0, slots := 0, locals := 153 } G [.ref (a 0), .int p1] (zw G MS 51 a g L) sz (kQi G (S := Unit) (fun r' _ => r' = res) (fun _ => zw G MS 51 a s9.1 s9.2)) := by
  refine kM.of (by decide) (Nat.le_of_ble_eq_true rfl) ?_
  intro p e s m below meth c A ls H C hr hlk hnm hP hD hS hl
  have C : kC G p s m c cX12_gap 2 RX12 A := C
  have hx := C.1
  have hb := C.2.1
  have hl : lv_has ls 2 [(0, .ref (a 0)), (1, .int p1)] := hl
  obtain ⟨locs, hlocs⟩ : ∃ q : List Loc, q = [] := ⟨_, rfl⟩
  rw [← hlocs] at hS
  rw [← hlocs]
  unfold fX12_gap at h
  refine lv_aload_n hx hb dX12_gap_0 rfl (lv_at hl 0 rfl) ?_
  refine lv_iconst (v := 0) hx hb dX12_gap_1 (by decide) ?_
  refine y_puti (Or.inl fl_X12_177) ft_X12_0 C hP hD hS (by decide) ms_0 rfl rfl rfl dX12_gap_2 h (fun g1 H locs h hP hD hS => ?_)
  refine lv_aload_n hx hb dX12_gap_5 rfl (lv_at hl 0 rfl) ?_
  refine lv_iload_n hx hb dX12_gap_6 rfl (lv_at hl 1 rfl) ?_
  obtain ⟨z_, g3, L4, hf5, h⟩ := cb_some h
  refine x_callVi (rest := []) li_X12_402 C (rX12_isLesson l G H.size a fu g1 L p1 z_ (g3, L4) hf5) (kR rfl) hP hD hS 0 12 rfl (zat (by decide) ms_0) rfl hl.1 rfl (Nat.le_of_ble_eq_true rfl) dX12_gap_7 (fun x2 u_ H locs e_ hP hD hS => ?_)
  have e_ : x2 = z_ := e_
  subst e_
  have hP : va_P G.1 vwCl (zw G MS 51 a g3 L4) H := hP
  have hD : va_D A (zw G MS 51 a g3 L4) := hD
  have J35 : ∀ (t0 : Int32) (g : Nat → Nat → Int32) (L : Nat → Nat → Int64) (H : Heap) (locs : List Loc) (ls : Array Slot), fX12_gap_p35 fu t0 g L = some (res, s9) → va_P G.1 vwCl (zw G MS 51 a g L) H → va_D A (zw G MS 51 a g L) → va_S A s.heap H locs → lv_has ls 2 [] → W p l e { frames := 8, cells := 0, slots := 0, locals := 153 } s m [.ref (a 0), .int p1].toArray below meth c H locs 0 0 (MQ below ((kQi G (S := Unit) (fun r' _ => r' = res) (fun _ => zw G MS 51 a s9.1 s9.2)) A) [.ref (a 0), .int p1].toArray s 0 0 A) (F0 m 35 ls [.int t0]) := by
    intro t0 g L H locs ls h hP hD hS hl
    unfold fX12_gap_p35 at h
    exact y_iret C hr hlk hP hD hS h (Nat.le_of_ble_eq_true rfl) (Nat.le_of_ble_eq_true rfl) dX12_gap_35
  have J34 : ∀ (g : Nat → Nat → Int32) (L : Nat → Nat → Int64) (H : Heap) (locs : List Loc) (ls : Array Slot), fX12_gap_p34 fu g L = some (res, s9) → va_P G.1 vwCl (zw G MS 51 a g L) H → va_D A (zw G MS 51 a g L) → va_S A s.heap H locs → lv_has ls 2 [] → W p l e { frames := 8, cells := 0, slots := 0, locals := 153 } s m [.ref (a 0), .int p1].toArray below meth c H locs 0 0 (MQ below ((kQi G (S := Unit) (fun r' _ => r' = res) (fun _ => zw G MS 51 a s9.1 s9.2)) A) [.ref (a 0), .int p1].toArray s 0 0 A) (F0 m 34 ls []) := by
    intro g L H locs ls h hP hD hS hl
    unfold fX12_gap_p34 at h
    refine lv_iconst (v := 0) hx hb dX12_gap_34 (by decide) ?_
    exact J35 0 g L H locs ls h hP hD hS (lv_sub hl [] rfl)
  refine lv_if_eq (x := x2) (tgt := 34) hx hb dX12_gap_10 (by decide) (fun c6 => ?_) (fun c6 => ?_)
  ·
    have h := ite_t c6 h
    exact J34 g3 L4 H locs ls h hP hD hS (lv_sub hl [] rfl)
  ·
    have h := ite_e c6 h
    refine lv_aload_n hx hb dX12_gap_13 rfl (lv_at hl 0 rfl) ?_
    refine lv_aload_n hx hb dX12_gap_14 rfl (lv_at hl 0 rfl) ?_
    refine x_getv (v := .int (g3 0 65)) (Or.inl fl_X12_351) C hP (by decide) ms_0 rfl dX12_gap_15 ?_
    refine lv_iconst (v := 1) hx hb dX12_gap_18 (by decide) ?_
    obtain ⟨z_, g8, L9, hf10, h⟩ := cb_some h
    refine x_callVi (rest := []) li_X12_328 C (rX12_right l G H.size a fu g3 L4 (g3 0 65) 1 z_ (g8, L9) hf10) (kR rfl) hP hD hS 0 12 rfl (zat (by decide) ms_0) rfl hl.1 rfl (Nat.le_of_ble_eq_true rfl) dX12_gap_19 (fun x7 u_ H locs e_ hP hD hS => ?_)
    have e_ : x7 = z_ := e_
    subst e_
    have hP : va_P G.1 vwCl (zw G MS 51 a g8 L9) H := hP
    have hD : va_D A (zw G MS 51 a g8 L9) := hD
    refine lv_if_eq (x := x7) (tgt := 34) hx hb dX12_gap_22 (by decide) (fun c11 => ?_) (fun c11 => ?_)
    ·
      have h := ite_t c11 h
      exact J34 g8 L9 H locs ls h hP hD hS (lv_sub hl [] rfl)
    ·
      have h := ite_e c11 h
      refine lv_aload_n hx hb dX12_gap_25 rfl (lv_at hl 0 rfl) ?_
      refine x_getr (Or.inl fl_X12_138) C hP (by decide) ms_0 rfl dX12_gap_26 ?_
      refine lv_iload_n hx hb dX12_gap_29 rfl (lv_at hl 1 rfl) ?_
      refine y_ald C hP (by decide) ms_38 dX12_gap_30 h (fun h => ?_)
      refine lv_goto (tgt := 35) hx hb dX12_gap_31 (by decide) ?_
      exact J35 (g8 38 (Int32.toNatClampNeg p1)) g8 L9 H locs ls h hP hD hS (lv_sub hl [] rfl)
