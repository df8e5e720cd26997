theorem dL_house_0 : decode cL_house 0 = .ok (.aload_n 2, 1) := by decide +kernel
theorem dL_house_1 : decode cL_house 1 = .ok (.iconst 0, 1) := by decide +kernel
theorem dL_house_2 : decode cL_house 2 = .ok (.aload_n 0, 1) := by decide +kernel
theorem dL_house_3 : decode cL_house 3 = .ok (.iload_n 1, 1) := by decide +kernel
theorem tw_733 : (Jvm.Cond.methodLink "MarshBellsLaw" (7 : Nat) ({ cls := "MarshBells", name := "house", desc := "(I)I" } : Jvm.MethodName)) ∈ lw_tbl := tk_4 (List.mem_of_getElem? (i := 13) rfl)
theorem tw_736 : (Jvm.Cond.code ({ cls := "MarshBells", name := "house", desc := "(I)I" } : Jvm.MethodName) prog_1_method_3_code (3 : Nat) (Option.some Jvm.ClassFile.FieldType.int)) ∈ lw_tbl := tk_4 (List.mem_of_getElem? (i := 16) rfl)
theorem tw_734 : (Jvm.Cond.instanceMethod ({ cls := "MarshBells", name := "house", desc := "(I)I" } : Jvm.MethodName)) ∈ lw_tbl := tk_4 (List.mem_of_getElem? (i := 14) rfl)
theorem tw_735 : (Jvm.Cond.selects "MarshBells" ({ cls := "MarshBells", name := "house", desc := "(I)I" } : Jvm.MethodName) ({ cls := "MarshBells", name := "house", desc := "(I)I" } : Jvm.MethodName)) ∈ lw_tbl := tk_4 (List.mem_of_getElem? (i := 15) rfl)
theorem li_L_7 : kLV RL 7 RX11 yX11_house cX11_house 3 (some .int) 1 := ⟨tw_733, tw_734, tw_735, tw_736, tw_1, by decide +kernel⟩
theorem dL_house_4 : decode cL_house 4 = .ok (.invokevirtual 7, 3) := by decide +kernel
theorem tw_732 : (Jvm.Cond.classLink "MarshBellsLaw" (13 : Nat) "java/lang/IllegalArgumentException") ∈ lw_tbl := tk_4 (List.mem_of_getElem? (i := 12) rfl)
theorem tw_739 : (Jvm.Cond.castable "java/lang/IllegalArgumentException" "java/lang/IllegalArgumentException") ∈ lw_tbl := tk_4 (List.mem_of_getElem? (i := 19) rfl)
theorem dL_house_12 : decode cL_house 12 = .ok (.astore_n 3, 1) := by decide +kernel
theorem dL_house_13 : decode cL_house 13 = .ok (.iconst 1, 1) := by decide +kernel
theorem dL_house_14 : decode cL_house 14 = .ok (.ireturn, 1) := by decide +kernel
theorem dL_house_7 : decode cL_house 7 = .ok (.i2l, 1) := by decide +kernel
theorem dL_house_8 : decode cL_house 8 = .ok (.lastore, 1) := by decide +kernel
theorem dL_house_9 : decode cL_house 9 = .ok (.goto 6, 3) := by decide +kernel
theorem dL_house_15 : decode cL_house 15 = .ok (.iconst 0, 1) := by decide +kernel
theorem dL_house_16 : decode cL_house 16 = .ok (.ireturn, 1) := by decide +kernel
theorem dL_count_0 : decode cL_count 0 = .ok (.aload_n 2, 1) := by decide +kernel
theorem dL_count_1 : decode cL_count 1 = .ok (.iconst 0, 1) := by decide +kernel
theorem dL_count_2 : decode cL_count 2 = .ok (.aload_n 0, 1) := by decide +kernel
theorem dL_count_3 : decode cL_count 3 = .ok (.iload_n 1, 1) := by decide +kernel
theorem tw_993 : (Jvm.Cond.methodLink "MarshBellsLaw" (15 : Nat) ({ cls := "MarshBells", name := "count", desc := "(I)I" } : Jvm.MethodName)) ∈ lw_tbl := tk_5 (List.mem_of_getElem? (i := 33) rfl)
theorem tw_996 : (Jvm.Cond.code ({ cls := "MarshBells", name := "count", desc := "(I)I" } : Jvm.MethodName) prog_1_method_5_code (2 : Nat) (Option.some Jvm.ClassFile.FieldType.int)) ∈ lw_tbl := tk_5 (List.mem_of_getElem? (i := 36) rfl)
theorem tw_994 : (Jvm.Cond.instanceMethod ({ cls := "MarshBells", name := "count", desc := "(I)I" } : Jvm.MethodName)) ∈ lw_tbl := tk_5 (List.mem_of_getElem? (i := 34) rfl)
theorem tw_995 : (Jvm.Cond.selects "MarshBells" ({ cls := "MarshBells", name := "count", desc := "(I)I" } : Jvm.MethodName) ({ cls := "MarshBells", name := "count", desc := "(I)I" } : Jvm.MethodName)) ∈ lw_tbl := tk_5 (List.mem_of_getElem? (i := 35) rfl)
theorem li_L_15 : kLV RL 15 RX11 yX11_count cX11_count 2 (some .int) 1 := ⟨tw_993, tw_994, tw_995, tw_996, tw_1, by decide +kernel⟩
theorem dL_count_4 : decode cL_count 4 = .ok (.invokevirtual 15, 3) := by decide +kernel
theorem tw_992 : (Jvm.Cond.classLink "MarshBellsLaw" (18 : Nat) "java/util/NoSuchElementException") ∈ lw_tbl := tk_5 (List.mem_of_getElem? (i := 32) rfl)
theorem tw_1002 : (Jvm.Cond.castable "java/util/NoSuchElementException" "java/util/NoSuchElementException") ∈ lw_tbl := tk_5 (List.mem_of_getElem? (i := 42) rfl)
theorem dL_count_12 : decode cL_count 12 = .ok (.astore_n 3, 1) := by decide +kernel
theorem dL_count_13 : decode cL_count 13 = .ok (.iconst 1, 1) := by decide +kernel
theorem dL_count_14 : decode cL_count 14 = .ok (.ireturn, 1) := by decide +kernel
theorem dL_count_7 : decode cL_count 7 = .ok (.i2l, 1) := by decide +kernel
theorem dL_count_8 : decode cL_count 8 = .ok (.lastore, 1) := by decide +kernel
theorem dL_count_9 : decode cL_count 9 = .ok (.goto 6, 3) := by decide +kernel
theorem dL_count_15 : decode cL_count 15 = .ok (.iconst 0, 1) := by decide +kernel
theorem dL_count_16 : decode cL_count 16 = .ok (.ireturn, 1) := by decide +kernel
theorem dL_lesson_0 : decode cL_lesson 0 = .ok (.aload_n 3, 1) := by decide +kernel
theorem dL_lesson_1 : decode cL_lesson 1 = .ok (.iconst 0, 1) := by decide +kernel
theorem dL_lesson_2 : decode cL_lesson 2 = .ok (.aload_n 0, 1) := by decide +kernel
theorem dL_lesson_3 : decode cL_lesson 3 = .ok (.iload_n 1, 1) := by decide +kernel
theorem dL_lesson_4 : decode cL_lesson 4 = .ok (.iload_n 2, 1) := by decide +kernel
theorem tw_1035 : (Jvm.Cond.methodLink "MarshBellsLaw" (20 : Nat) ({ cls := "MarshBells", name := "lesson", desc := "(II)I" } : Jvm.MethodName)) ∈ lw_tbl := tk_5 (List.mem_of_getElem? (i := 75) rfl)
theorem tw_1038 : (Jvm.Cond.code ({ cls := "MarshBells", name := "lesson", desc := "(II)I" } : Jvm.MethodName) prog_1_method_6_code (4 : Nat) (Option.some Jvm.ClassFile.FieldType.int)) ∈ lw_tbl := tk_5 (List.mem_of_getElem? (i := 78) rfl)
theorem tw_1036 : (Jvm.Cond.instanceMethod ({ cls := "MarshBells", name := "lesson", desc := "(II)I" } : Jvm.MethodName)) ∈ lw_tbl := tk_5 (List.mem_of_getElem? (i := 76) rfl)
theorem tw_1037 : (Jvm.Cond.selects "MarshBells" ({ cls := "MarshBells", name := "lesson", desc := "(II)I" } : Jvm.MethodName) ({ cls := "MarshBells", name := "lesson", desc := "(II)I" } : Jvm.MethodName)) ∈ lw_tbl := tk_5 (List.mem_of_getElem? (i := 77) rfl)
theorem li_L_20 : kLV RL 20 RX11 yX11_lesson cX11_lesson 4 (some .int) 2 := ⟨tw_1035, tw_1036, tw_1037, tw_1038, tw_1, by decide +kernel⟩
theorem dL_lesson_5 : decode cL_lesson 5 = .ok (.invokevirtual 20, 3) := by decide +kernel
theorem dL_lesson_13 : decode cL_lesson 13 = .ok (.astore 4, 2) := by decide +kernel
theorem dL_lesson_15 : decode cL_lesson 15 = .ok (.iconst 1, 1) := by decide +kernel
theorem dL_lesson_16 : decode cL_lesson 16 = .ok (.ireturn, 1) := by decide +kernel
theorem dL_day_0 : decode cL_day 0 = .ok (.aload_n 3, 1) := by decide +kernel
theorem dL_day_1 : decode cL_day 1 = .ok (.iconst 0, 1) := by decide +kernel
theorem dL_day_2 : decode cL_day 2 = .ok (.aload_n 0, 1) := by decide +kernel
theorem dL_day_3 : decode cL_day 3 = .ok (.iload_n 1, 1) := by decide +kernel
theorem dL_day_4 : decode cL_day 4 = .ok (.iload_n 2, 1) := by decide +kernel
theorem tw_1046 : (Jvm.Cond.methodLink "MarshBellsLaw" (24 : Nat) ({ cls := "MarshBells", name := "day", desc := "(II)I" } : Jvm.MethodName)) ∈ lw_tbl := tk_5 (List.mem_of_getElem? (i := 86) rfl)
theorem tw_1049 : (Jvm.Cond.code ({ cls := "MarshBells", name := "day", desc := "(II)I" } : Jvm.MethodName) prog_1_method_7_code (3 : Nat) (Option.some Jvm.ClassFile.FieldType.int)) ∈ lw_tbl := tk_5 (List.mem_of_getElem? (i := 89) rfl)
theorem tw_1047 : (Jvm.Cond.instanceMethod ({ cls := "MarshBells", name := "day", desc := "(II)I" } : Jvm.MethodName)) ∈ lw_tbl := tk_5 (List.mem_of_getElem? (i := 87) rfl)
theorem tw_1048 : (Jvm.Cond.selects "MarshBells" ({ cls := "MarshBells", name := "day", desc := "(II)I" } : Jvm.MethodName) ({ cls := "MarshBells", name := "day", desc := "(II)I" } : Jvm.MethodName)) ∈ lw_tbl := tk_5 (List.mem_of_getElem? (i := 88) rfl)
theorem li_L_24 : kLV RL 24 RX11 yX11_day cX11_day 3 (some .int) 2 := ⟨tw_1046, tw_1047, tw_1048, tw_1049, tw_1, by decide +kernel⟩
theorem dL_day_5 : decode cL_day 5 = .ok (.invokevirtual 24, 3) := by decide +kernel
theorem dL_day_13 : decode cL_day 13 = .ok (.astore 4, 2) := by decide +kernel
theorem dL_day_15 : decode cL_day 15 = .ok (.iconst 1, 1) := by decide +kernel
theorem dL_day_16 : decode cL_day 16 = .ok (.ireturn, 1) := by decide +kernel
theorem dL_chain_0 : decode cL_chain 0 = .ok (.aload_n 3, 1) := by decide +kernel
theorem dL_chain_1 : decode cL_chain 1 = .ok (.iconst 0, 1) := by decide +kernel
theorem dL_chain_2 : decode cL_chain 2 = .ok (.aload_n 0, 1) := by decide +kernel
theorem dL_chain_3 : decode cL_chain 3 = .ok (.iload_n 1, 1) := by decide +kernel
theorem dL_chain_4 : decode cL_chain 4 = .ok (.iload_n 2, 1) := by decide +kernel
theorem tw_1054 : (Jvm.Cond.methodLink "MarshBellsLaw" (27 : Nat) ({ cls := "MarshBells", name := "chain", desc := "(II)I" } : Jvm.MethodName)) ∈ lw_tbl := tk_5 (List.mem_of_getElem? (i := 94) rfl)
theorem tw_1057 : (Jvm.Cond.code ({ cls := "MarshBells", name := "chain", desc := "(II)I" } : Jvm.MethodName) prog_1_method_8_code (5 : Nat) (Option.some Jvm.ClassFile.FieldType.int)) ∈ lw_tbl := tk_5 (List.mem_of_getElem? (i := 97) rfl)
theorem tw_1055 : (Jvm.Cond.instanceMethod ({ cls := "MarshBells", name := "chain", desc := "(II)I" } : Jvm.MethodName)) ∈ lw_tbl := tk_5 (List.mem_of_getElem? (i := 95) rfl)
theorem tw_1056 : (Jvm.Cond.selects "MarshBells" ({ cls := "MarshBells", name := "chain", desc := "(II)I" } : Jvm.MethodName) ({ cls := "MarshBells", name := "chain", desc := "(II)I" } : Jvm.MethodName)) ∈ lw_tbl := tk_5 (List.mem_of_getElem? (i := 96) rfl)
theorem li_L_27 : kLV RL 27 RX11 yX11_chain cX11_chain 5 (some .int) 2 := ⟨tw_1054, tw_1055, tw_1056, tw_1057, tw_1, by decide +kernel⟩
theorem dL_chain_5 : decode cL_chain 5 = .ok (.invokevirtual 27, 3) := by decide +kernel
theorem dL_chain_13 : decode cL_chain 13 = .ok (.astore 4, 2) := by decide +kernel
theorem dL_chain_15 : decode cL_chain 15 = .ok (.iconst 1, 1) := by decide +kernel
theorem dL_chain_16 : decode cL_chain 16 = .ok (.ireturn, 1) := by decide +kernel
theorem dL_become_0 : decode cL_become 0 = .ok (.aload 4, 2) := by decide +kernel
theorem dL_become_2 : decode cL_become 2 = .ok (.iconst 0, 1) := by decide +kernel
theorem dL_become_3 : decode cL_become 3 = .ok (.aload_n 0, 1) := by decide +kernel
theorem dL_become_4 : decode cL_become 4 = .ok (.iload_n 1, 1) := by decide +kernel
theorem dL_become_5 : decode cL_become 5 = .ok (.iload_n 2, 1) := by decide +kernel
theorem dL_become_6 : decode cL_become 6 = .ok (.iload_n 3, 1) := by decide +kernel
theorem tw_1061 : (Jvm.Cond.methodLink "MarshBellsLaw" (30 : Nat) ({ cls := "MarshBells", name := "become", desc := "(III)I" } : Jvm.MethodName)) ∈ lw_tbl := tk_5 (List.mem_of_getElem? (i := 101) rfl)
theorem tw_1064 : (Jvm.Cond.code ({ cls := "MarshBells", name := "become", desc := "(III)I" } : Jvm.MethodName) prog_1_method_9_code (5 : Nat) (Option.some Jvm.ClassFile.FieldType.int)) ∈ lw_tbl := tk_5 (List.mem_of_getElem? (i := 104) rfl)
theorem tw_1062 : (Jvm.Cond.instanceMethod ({ cls := "MarshBells", name := "become", desc := "(III)I" } : Jvm.MethodName)) ∈ lw_tbl := tk_5 (List.mem_of_getElem? (i := 102) rfl)
theorem tw_1063 : (Jvm.Cond.selects "MarshBells" ({ cls := "MarshBells", name := "become", desc := "(III)I" } : Jvm.MethodName) ({ cls := "MarshBells", name := "become", desc := "(III)I" } : Jvm.MethodName)) ∈ lw_tbl := tk_5 (List.mem_of_getElem? (i := 103) rfl)
theorem li_L_30 : kLV RL 30 RX11 yX11_become cX11_become 5 (some .int) 3 := ⟨tw_1061, tw_1062, tw_1063, tw_1064, tw_1, by decide +kernel⟩
theorem dL_become_7 : decode cL_become 7 = .ok (.invokevirtual 30, 3) := by decide +kernel
theorem dL_become_15 : decode cL_become 15 = .ok (.astore 5, 2) := by decide +kernel
theorem dL_become_17 : decode cL_become 17 = .ok (.iconst 1, 1) := by decide +kernel
theorem dL_become_18 : decode cL_become 18 = .ok (.ireturn, 1) := by decide +kernel
theorem dL_far_0 : decode cL_far 0 = .ok (.aload 4, 2) := by decide +kernel
theorem dL_far_2 : decode cL_far 2 = .ok (.iconst 0, 1) := by decide +kernel
theorem dL_far_3 : decode cL_far 3 = .ok (.aload_n 0, 1) := by decide +kernel
theorem dL_far_4 : decode cL_far 4 = .ok (.iload_n 1, 1) := by decide +kernel
theorem dL_far_5 : decode cL_far 5 = .ok (.iload_n 2, 1) := by decide +kernel
theorem dL_far_6 : decode cL_far 6 = .ok (.iload_n 3, 1) := by decide +kernel
theorem tw_1076 : (Jvm.Cond.methodLink "MarshBellsLaw" (34 : Nat) ({ cls := "MarshBells", name := "far", desc := "(III)I" } : Jvm.MethodName)) ∈ lw_tbl := tk_5 (List.mem_of_getElem? (i := 116) rfl)
theorem tw_1079 : (Jvm.Cond.code ({ cls := "MarshBells", name := "far", desc := "(III)I" } : Jvm.MethodName) prog_1_method_12_code (4 : Nat) (Option.some Jvm.ClassFile.FieldType.int)) ∈ lw_tbl := tk_5 (List.mem_of_getElem? (i := 119) rfl)
theorem tw_1077 : (Jvm.Cond.instanceMethod ({ cls := "MarshBells", name := "far", desc := "(III)I" } : Jvm.MethodName)) ∈ lw_tbl := tk_5 (List.mem_of_getElem? (i := 117) rfl)
theorem tw_1078 : (Jvm.Cond.selects "MarshBells" ({ cls := "MarshBells", name := "far", desc := "(III)I" } : Jvm.MethodName) ({ cls := "MarshBells", name := "far", desc := "(III)I" } : Jvm.MethodName)) ∈ lw_tbl := tk_5 (List.mem_of_getElem? (i := 118) rfl)
theorem li_L_34 : kLV RL 34 RX11 yX11_far cX11_far 4 (some .int) 3 := ⟨tw_1076, tw_1077, tw_1078, tw_1079, tw_1, by decide +kernel⟩
theorem dL_far_7 : decode cL_far 7 = .ok (.invokevirtual 34, 3) := by decide +kernel
theorem dL_far_15 : decode cL_far 15 = .ok (.astore 5, 2) := by decide +kernel
theorem dL_far_17 : decode cL_far 17 = .ok (.iconst 1, 1) := by decide +kernel
theorem dL_far_18 : decode cL_far 18 = .ok (.ireturn, 1) := by decide +kernel
theorem dL_reaches_0 : decode cL_reaches 0 = .ok (.aload_n 3, 1) := by decide +kernel
theorem dL_reaches_1 : decode cL_reaches 1 = .ok (.iconst 0, 1) := by decide +kernel
theorem dL_reaches_2 : decode cL_reaches 2 = .ok (.aload_n 0, 1) := by decide +kernel
theorem dL_reaches_3 : decode cL_reaches 3 = .ok (.iload_n 1, 1) := by decide +kernel
theorem dL_reaches_4 : decode cL_reaches 4 = .ok (.iload_n 2, 1) := by decide +kernel
theorem tw_1104 : (Jvm.Cond.methodLink "MarshBellsLaw" (37 : Nat) ({ cls := "MarshBells", name := "reaches", desc := "(II)I" } : Jvm.MethodName)) ∈ lw_tbl := tk_5 (List.mem_of_getElem? (i := 144) rfl)
theorem tw_1107 : (Jvm.Cond.code ({ cls := "MarshBells", name := "reaches", desc := "(II)I" } : Jvm.MethodName) prog_1_method_13_code (3 : Nat) (Option.some Jvm.ClassFile.FieldType.int)) ∈ lw_tbl := tk_5 (List.mem_of_getElem? (i := 147) rfl)
theorem tw_1105 : (Jvm.Cond.instanceMethod ({ cls := "MarshBells", name := "reaches", desc := "(II)I" } : Jvm.MethodName)) ∈ lw_tbl := tk_5 (List.mem_of_getElem? (i := 145) rfl)
theorem tw_1106 : (Jvm.Cond.selects "MarshBells" ({ cls := "MarshBells", name := "reaches", desc := "(II)I" } : Jvm.MethodName) ({ cls := "MarshBells", name := "reaches", desc := "(II)I" } : Jvm.MethodName)) ∈ lw_tbl := tk_5 (List.mem_of_getElem? (i := 146) rfl)
theorem li_L_37 : kLV RL 37 RX11 yX11_reaches cX11_reaches 3 (some .int) 2 := ⟨tw_1104, tw_1105, tw_1106, tw_1107, tw_1, by decide +kernel⟩
theorem dL_reaches_5 : decode cL_reaches 5 = .ok (.invokevirtual 37, 3) := by decide +kernel
theorem dL_reaches_13 : decode cL_reaches 13 = .ok (.astore 4, 2) := by decide +kernel
theorem dL_reaches_15 : decode cL_reaches 15 = .ok (.iconst 1, 1) := by decide +kernel
theorem dL_reaches_16 : decode cL_reaches 16 = .ok (.ireturn, 1) := by decide +kernel
theorem dL_slack_0 : decode cL_slack 0 = .ok (.aload_n 2, 1) := by decide +kernel
theorem dL_slack_1 : decode cL_slack 1 = .ok (.iconst 0, 1) := by decide +kernel
theorem dL_slack_2 : decode cL_slack 2 = .ok (.aload_n 0, 1) := by decide +kernel
theorem dL_slack_3 : decode cL_slack 3 = .ok (.iload_n 1, 1) := by decide +kernel
theorem tw_1117 : (Jvm.Cond.methodLink "MarshBellsLaw" (40 : Nat) ({ cls := "MarshBells", name := "slack", desc := "(I)I" } : Jvm.MethodName)) ∈ lw_tbl := tk_5 (List.mem_of_getElem? (i := 157) rfl)
theorem tw_1120 : (Jvm.Cond.code ({ cls := "MarshBells", name := "slack", desc := "(I)I" } : Jvm.MethodName) prog_1_method_14_code (2 : Nat) (Option.some Jvm.ClassFile.FieldType.int)) ∈ lw_tbl := tk_5 (List.mem_of_getElem? (i := 160) rfl)
theorem tw_1118 : (Jvm.Cond.instanceMethod ({ cls := "MarshBells", name := "slack", desc := "(I)I" } : Jvm.MethodName)) ∈ lw_tbl := tk_5 (List.mem_of_getElem? (i := 158) rfl)
theorem tw_1119 : (Jvm.Cond.selects "MarshBells" ({ cls := "MarshBells", name := "slack", desc := "(I)I" } : Jvm.MethodName) ({ cls := "MarshBells", name := "slack", desc := "(I)I" } : Jvm.MethodName)) ∈ lw_tbl := tk_5 (List.mem_of_getElem? (i := 159) rfl)
theorem li_L_40 : kLV RL 40 RX11 yX11_slack cX11_slack 2 (some .int) 1 := ⟨tw_1117, tw_1118, tw_1119, tw_1120, tw_1, by decide +kernel⟩
theorem dL_slack_4 : decode cL_slack 4 = .ok (.invokevirtual 40, 3) := by decide +kernel
theorem dL_slack_12 : decode cL_slack 12 = .ok (.astore_n 3, 1) := by decide +kernel
theorem dL_slack_13 : decode cL_slack 13 = .ok (.iconst 1, 1) := by decide +kernel
theorem dL_slack_14 : decode cL_slack 14 = .ok (.ireturn, 1) := by decide +kernel
theorem dL_gaps_0 : decode cL_gaps 0 = .ok (.aload 4, 2) := by decide +kernel
theorem dL_gaps_2 : decode cL_gaps 2 = .ok (.iconst 0, 1) := by decide +kernel
theorem dL_gaps_3 : decode cL_gaps 3 = .ok (.aload_n 0, 1) := by decide +kernel
theorem dL_gaps_4 : decode cL_gaps 4 = .ok (.iload_n 1, 1) := by decide +kernel
theorem dL_gaps_5 : decode cL_gaps 5 = .ok (.iload_n 2, 1) := by decide +kernel
theorem dL_gaps_6 : decode cL_gaps 6 = .ok (.iload_n 3, 1) := by decide +kernel
theorem tw_1129 : (Jvm.Cond.methodLink "MarshBellsLaw" (43 : Nat) ({ cls := "MarshBells", name := "gaps", desc := "(III)I" } : Jvm.MethodName)) ∈ lw_tbl := tk_5 (List.mem_of_getElem? (i := 169) rfl)
theorem tw_1132 : (Jvm.Cond.code ({ cls := "MarshBells", name := "gaps", desc := "(III)I" } : Jvm.MethodName) prog_1_method_15_code (5 : Nat) (Option.some Jvm.ClassFile.FieldType.int)) ∈ lw_tbl := tk_5 (List.mem_of_getElem? (i := 172) rfl)
theorem tw_1130 : (Jvm.Cond.instanceMethod ({ cls := "MarshBells", name := "gaps", desc := "(III)I" } : Jvm.MethodName)) ∈ lw_tbl := tk_5 (List.mem_of_getElem? (i := 170) rfl)
theorem tw_1131 : (Jvm.Cond.selects "MarshBells" ({ cls := "MarshBells", name := "gaps", desc := "(III)I" } : Jvm.MethodName) ({ cls := "MarshBells", name := "gaps", desc := "(III)I" } : Jvm.MethodName)) ∈ lw_tbl := tk_5 (List.mem_of_getElem? (i := 171) rfl)
theorem li_L_43 : kLV RL 43 RX11 yX11_gaps cX11_gaps 5 (some .int) 3 := ⟨tw_1129, tw_1130, tw_1131, tw_1132, tw_1, by decide +kernel⟩
theorem dL_gaps_7 : decode cL_gaps 7 = .ok (.invokevirtual 43, 3) := by decide +kernel
theorem dL_gaps_15 : decode cL_gaps 15 = .ok (.astore 5, 2) := by decide +kernel
theorem dL_gaps_17 : decode cL_gaps 17 = .ok (.iconst 1, 1) := by decide +kernel
theorem dL_gaps_18 : decode cL_gaps 18 = .ok (.ireturn, 1) := by decide +kernel
theorem dL_gap_0 : decode cL_gap 0 = .ok (.aload_n 2, 1) := by decide +kernel
theorem dL_gap_1 : decode cL_gap 1 = .ok (.iconst 0, 1) := by decide +kernel
theorem dL_gap_2 : decode cL_gap 2 = .ok (.aload_n 0, 1) := by decide +kernel
theorem dL_gap_3 : decode cL_gap 3 = .ok (.iload_n 1, 1) := by decide +kernel
theorem tw_1169 : (Jvm.Cond.methodLink "MarshBellsLaw" (46 : Nat) ({ cls := "MarshBells", name := "gap", desc := "(I)I" } : Jvm.MethodName)) ∈ lw_tbl := tk_5 (List.mem_of_getElem? (i := 209) rfl)
theorem tw_1172 : (Jvm.Cond.code ({ cls := "MarshBells", name := "gap", desc := "(I)I" } : Jvm.MethodName) prog_1_method_16_code (2 : Nat) (Option.some Jvm.ClassFile.FieldType.int)) ∈ lw_tbl := tk_5 (List.mem_of_getElem? (i := 212) rfl)
theorem tw_1170 : (Jvm.Cond.instanceMethod ({ cls := "MarshBells", name := "gap", desc := "(I)I" } : Jvm.MethodName)) ∈ lw_tbl := tk_5 (List.mem_of_getElem? (i := 210) rfl)
theorem tw_1171 : (Jvm.Cond.selects "MarshBells" ({ cls := "MarshBells", name := "gap", desc := "(I)I" } : Jvm.MethodName) ({ cls := "MarshBells", name := "gap", desc := "(I)I" } : Jvm.MethodName)) ∈ lw_tbl := tk_5 (List.mem_of_getElem? (i := 211) rfl)
theorem li_L_46 : kLV RL 46 RX11 yX11_gap cX11_gap 2 (some .int) 1 := ⟨tw_1169, tw_1170, tw_1171, tw_1172, tw_1, by decide +kernel⟩
theorem dL_gap_4 : decode cL_gap 4 = .ok (.invokevirtual 46, 3) := by decide +kernel
theorem dL_gap_12 : decode cL_gap 12 = .ok (.astore_n 3, 1) := by decide +kernel
theorem dL_gap_13 : decode cL_gap 13 = .ok (.iconst 1, 1) := by decide +kernel
theorem dL_gap_14 : decode cL_gap 14 = .ok (.ireturn, 1) := by decide +kernel
theorem dL_chance_0 : decode cL_chance 0 = .ok (.aload 4, 2) := by decide +kernel
theorem dL_chance_2 : decode cL_chance 2 = .ok (.iconst 0, 1) := by decide +kernel
theorem dL_chance_3 : decode cL_chance 3 = .ok (.aload_n 0, 1) := by decide +kernel
theorem dL_chance_4 : decode cL_chance 4 = .ok (.iload_n 1, 1) := by decide +kernel
theorem dL_chance_5 : decode cL_chance 5 = .ok (.iload_n 2, 1) := by decide +kernel
theorem dL_chance_6 : decode cL_chance 6 = .ok (.iload_n 3, 1) := by decide +kernel
theorem tw_1176 : (Jvm.Cond.methodLink "MarshBellsLaw" (49 : Nat) ({ cls := "MarshBells", name := "chance", desc := "(III)J" } : Jvm.MethodName)) ∈ lw_tbl := tk_5 (List.mem_of_getElem? (i := 216) rfl)
theorem tw_1179 : (Jvm.Cond.code ({ cls := "MarshBells", name := "chance", desc := "(III)J" } : Jvm.MethodName) prog_1_method_17_code (4 : Nat) (Option.some Jvm.ClassFile.FieldType.long)) ∈ lw_tbl := tk_5 (List.mem_of_getElem? (i := 219) rfl)
theorem tw_1177 : (Jvm.Cond.instanceMethod ({ cls := "MarshBells", name := "chance", desc := "(III)J" } : Jvm.MethodName)) ∈ lw_tbl := tk_5 (List.mem_of_getElem? (i := 217) rfl)
theorem tw_1178 : (Jvm.Cond.selects "MarshBells" ({ cls := "MarshBells", name := "chance", desc := "(III)J" } : Jvm.MethodName) ({ cls := "MarshBells", name := "chance", desc := "(III)J" } : Jvm.MethodName)) ∈ lw_tbl := tk_5 (List.mem_of_getElem? (i := 218) rfl)
theorem li_L_49 : kLV RL 49 RX11 yX11_chance cX11_chance 4 (some .long) 3 := ⟨tw_1176, tw_1177, tw_1178, tw_1179, tw_1, by decide +kernel⟩
theorem dL_chance_7 : decode cL_chance 7 = .ok (.invokevirtual 49, 3) := by decide +kernel
theorem dL_chance_14 : decode cL_chance 14 = .ok (.astore 5, 2) := by decide +kernel
theorem dL_chance_16 : decode cL_chance 16 = .ok (.iconst 1, 1) := by decide +kernel
theorem dL_chance_17 : decode cL_chance 17 = .ok (.ireturn, 1) := by decide +kernel
theorem dL_mean_0 : decode cL_mean 0 = .ok (.aload_n 3, 1) := by decide +kernel
theorem dL_mean_1 : decode cL_mean 1 = .ok (.iconst 0, 1) := by decide +kernel
theorem dL_mean_2 : decode cL_mean 2 = .ok (.aload_n 0, 1) := by decide +kernel
theorem dL_mean_3 : decode cL_mean 3 = .ok (.iload_n 1, 1) := by decide +kernel
theorem dL_mean_4 : decode cL_mean 4 = .ok (.iload_n 2, 1) := by decide +kernel
theorem tw_1206 : (Jvm.Cond.methodLink "MarshBellsLaw" (53 : Nat) ({ cls := "MarshBells", name := "mean", desc := "(II)J" } : Jvm.MethodName)) ∈ lw_tbl := tk_6 (List.mem_of_getElem? (i := 6) rfl)
theorem tw_1209 : (Jvm.Cond.code ({ cls := "MarshBells", name := "mean", desc := "(II)J" } : Jvm.MethodName) prog_1_method_18_code (3 : Nat) (Option.some Jvm.ClassFile.FieldType.long)) ∈ lw_tbl := tk_6 (List.mem_of_getElem? (i := 9) rfl)
theorem tw_1207 : (Jvm.Cond.instanceMethod ({ cls := "MarshBells", name := "mean", desc := "(II)J" } : Jvm.MethodName)) ∈ lw_tbl := tk_6 (List.mem_of_getElem? (i := 7) rfl)
theorem tw_1208 : (Jvm.Cond.selects "MarshBells" ({ cls := "MarshBells", name := "mean", desc := "(II)J" } : Jvm.MethodName) ({ cls := "MarshBells", name := "mean", desc := "(II)J" } : Jvm.MethodName)) ∈ lw_tbl := tk_6 (List.mem_of_getElem? (i := 8) rfl)
theorem li_L_53 : kLV RL 53 RX11 yX11_mean cX11_mean 3 (some .long) 2 := ⟨tw_1206, tw_1207, tw_1208, tw_1209, tw_1, by decide +kernel⟩
theorem dL_mean_5 : decode cL_mean 5 = .ok (.invokevirtual 53, 3) := by decide +kernel
theorem dL_mean_12 : decode cL_mean 12 = .ok (.astore 4, 2) := by decide +kernel
theorem dL_mean_14 : decode cL_mean 14 = .ok (.iconst 1, 1) := by decide +kernel
theorem dL_mean_15 : decode cL_mean 15 = .ok (.ireturn, 1) := by decide +kernel
theorem dL_swap_0 : decode cL_swap 0 = .ok (.aload_n 2, 1) := by decide +kernel
theorem dL_swap_1 : decode cL_swap 1 = .ok (.iconst 0, 1) := by decide +kernel
theorem dL_swap_2 : decode cL_swap 2 = .ok (.aload_n 0, 1) := by decide +kernel
theorem dL_swap_3 : decode cL_swap 3 = .ok (.iload_n 1, 1) := by decide +kernel
theorem tw_1217 : (Jvm.Cond.methodLink "MarshBellsLaw" (57 : Nat) ({ cls := "MarshBells", name := "swap", desc := "(I)I" } : Jvm.MethodName)) ∈ lw_tbl := tk_6 (List.mem_of_getElem? (i := 17) rfl)
theorem tw_1220 : (Jvm.Cond.code ({ cls := "MarshBells", name := "swap", desc := "(I)I" } : Jvm.MethodName) prog_1_method_19_code (2 : Nat) (Option.some Jvm.ClassFile.FieldType.int)) ∈ lw_tbl := tk_6 (List.mem_of_getElem? (i := 20) rfl)
theorem tw_1218 : (Jvm.Cond.instanceMethod ({ cls := "MarshBells", name := "swap", desc := "(I)I" } : Jvm.MethodName)) ∈ lw_tbl := tk_6 (List.mem_of_getElem? (i := 18) rfl)
theorem tw_1219 : (Jvm.Cond.selects "MarshBells" ({ cls := "MarshBells", name := "swap", desc := "(I)I" } : Jvm.MethodName) ({ cls := "MarshBells", name := "swap", desc := "(I)I" } : Jvm.MethodName)) ∈ lw_tbl := tk_6 (List.mem_of_getElem? (i := 19) rfl)
theorem li_L_57 : kLV RL 57 RX11 yX11_swap cX11_swap 2 (some .int) 1 := ⟨tw_1217, tw_1218, tw_1219, tw_1220, tw_1, by decide +kernel⟩
theorem dL_swap_4 : decode cL_swap 4 = .ok (.invokevirtual 57, 3) := by decide +kernel
theorem dL_swap_12 : decode cL_swap 12 = .ok (.astore_n 3, 1) := by decide +kernel
theorem dL_swap_13 : decode cL_swap 13 = .ok (.iconst 1, 1) := by decide +kernel
theorem dL_swap_14 : decode cL_swap 14 = .ok (.ireturn, 1) := by decide +kernel
theorem dL_swap_7 : decode cL_swap 7 = .ok (.i2l, 1) := by decide +kernel
theorem dL_swap_8 : decode cL_swap 8 = .ok (.lastore, 1) := by decide +kernel
theorem dL_swap_9 : decode cL_swap 9 = .ok (.goto 6, 3) := by decide +kernel
theorem dL_swap_15 : decode cL_swap 15 = .ok (.iconst 0, 1) := by decide +kernel
theorem dL_swap_16 : decode cL_swap 16 = .ok (.ireturn, 1) := by decide +kernel
theorem dL_room_0 : decode cL_room 0 = .ok (.aload_n 3, 1) := by decide +kernel
theorem dL_room_1 : decode cL_room 1 = .ok (.iconst 0, 1) := by decide +kernel
theorem dL_room_2 : decode cL_room 2 = .ok (.aload_n 0, 1) := by decide +kernel
theorem dL_room_3 : decode cL_room 3 = .ok (.iload_n 1, 1) := by decide +kernel
theorem dL_room_4 : decode cL_room 4 = .ok (.iload_n 2, 1) := by decide +kernel
theorem tw_1232 : (Jvm.Cond.methodLink "MarshBellsLaw" (60 : Nat) ({ cls := "MarshBells", name := "room", desc := "(II)I" } : Jvm.MethodName)) ∈ lw_tbl := tk_6 (List.mem_of_getElem? (i := 32) rfl)
theorem tw_1235 : (Jvm.Cond.code ({ cls := "MarshBells", name := "room", desc := "(II)I" } : Jvm.MethodName) prog_1_method_20_code (3 : Nat) (Option.some Jvm.ClassFile.FieldType.int)) ∈ lw_tbl := tk_6 (List.mem_of_getElem? (i := 35) rfl)
theorem tw_1233 : (Jvm.Cond.instanceMethod ({ cls := "MarshBells", name := "room", desc := "(II)I" } : Jvm.MethodName)) ∈ lw_tbl := tk_6 (List.mem_of_getElem? (i := 33) rfl)
theorem tw_1234 : (Jvm.Cond.selects "MarshBells" ({ cls := "MarshBells", name := "room", desc := "(II)I" } : Jvm.MethodName) ({ cls := "MarshBells", name := "room", desc := "(II)I" } : Jvm.MethodName)) ∈ lw_tbl := tk_6 (List.mem_of_getElem? (i := 34) rfl)
theorem li_L_60 : kLV RL 60 RX11 yX11_room cX11_room 3 (some .int) 2 := ⟨tw_1232, tw_1233, tw_1234, tw_1235, tw_1, by decide +kernel⟩
theorem dL_room_5 : decode cL_room 5 = .ok (.invokevirtual 60, 3) := by decide +kernel
theorem dL_room_13 : decode cL_room 13 = .ok (.astore 4, 2) := by decide +kernel
theorem dL_room_15 : decode cL_room 15 = .ok (.iconst 1, 1) := by decide +kernel
theorem dL_room_16 : decode cL_room 16 = .ok (.ireturn, 1) := by decide +kernel
theorem dL_limit_0 : decode cL_limit 0 = .ok (.aload_n 3, 1) := by decide +kernel
theorem dL_limit_1 : decode cL_limit 1 = .ok (.iconst 0, 1) := by decide +kernel
theorem dL_limit_2 : decode cL_limit 2 = .ok (.aload_n 0, 1) := by decide +kernel
theorem dL_limit_3 : decode cL_limit 3 = .ok (.iload_n 1, 1) := by decide +kernel
theorem dL_limit_4 : decode cL_limit 4 = .ok (.iload_n 2, 1) := by decide +kernel
theorem tw_1246 : (Jvm.Cond.methodLink "MarshBellsLaw" (63 : Nat) ({ cls := "MarshBells", name := "limit", desc := "(II)I" } : Jvm.MethodName)) ∈ lw_tbl := tk_6 (List.mem_of_getElem? (i := 46) rfl)
theorem tw_1249 : (Jvm.Cond.code ({ cls := "MarshBells", name := "limit", desc := "(II)I" } : Jvm.MethodName) prog_1_method_21_code (3 : Nat) (Option.some Jvm.ClassFile.FieldType.int)) ∈ lw_tbl := tk_6 (List.mem_of_getElem? (i := 49) rfl)
theorem tw_1247 : (Jvm.Cond.instanceMethod ({ cls := "MarshBells", name := "limit", desc := "(II)I" } : Jvm.MethodName)) ∈ lw_tbl := tk_6 (List.mem_of_getElem? (i := 47) rfl)
theorem tw_1248 : (Jvm.Cond.selects "MarshBells" ({ cls := "MarshBells", name := "limit", desc := "(II)I" } : Jvm.MethodName) ({ cls := "MarshBells", name := "limit", desc := "(II)I" } : Jvm.MethodName)) ∈ lw_tbl := tk_6 (List.mem_of_getElem? (i := 48) rfl)
theorem li_L_63 : kLV RL 63 RX11 yX11_limit cX11_limit 3 (some .int) 2 := ⟨tw_1246, tw_1247, tw_1248, tw_1249, tw_1, by decide +kernel⟩
theorem dL_limit_5 : decode cL_limit 5 = .ok (.invokevirtual 63, 3) := by decide +kernel
theorem dL_limit_13 : decode cL_limit 13 = .ok (.astore 4, 2) := by decide +kernel
theorem dL_limit_15 : decode cL_limit 15 = .ok (.iconst 1, 1) := by decide +kernel
theorem dL_limit_16 : decode cL_limit 16 = .ok (.ireturn, 1) := by decide +kernel
theorem dL_compare_0 : decode cL_compare 0 = .ok (.aload_n 2, 1) := by decide +kernel
theorem dL_compare_1 : decode cL_compare 1 = .ok (.iconst 0, 1) := by decide +kernel
theorem dL_compare_2 : decode cL_compare 2 = .ok (.aload_n 0, 1) := by decide +kernel
theorem dL_compare_3 : decode cL_compare 3 = .ok (.iload_n 1, 1) := by decide +kernel
theorem tw_1253 : (Jvm.Cond.methodLink "MarshBellsLaw" (66 : Nat) ({ cls := "MarshBells", name := "compare", desc := "(I)I" } : Jvm.MethodName)) ∈ lw_tbl := tk_6 (List.mem_of_getElem? (i := 53) rfl)
theorem tw_1256 : (Jvm.Cond.code ({ cls := "MarshBells", name := "compare", desc := "(I)I" } : Jvm.MethodName) prog_1_method_23_code (2 : Nat) (Option.some Jvm.ClassFile.FieldType.int)) ∈ lw_tbl := tk_6 (List.mem_of_getElem? (i := 56) rfl)
theorem tw_1254 : (Jvm.Cond.instanceMethod ({ cls := "MarshBells", name := "compare", desc := "(I)I" } : Jvm.MethodName)) ∈ lw_tbl := tk_6 (List.mem_of_getElem? (i := 54) rfl)
theorem tw_1255 : (Jvm.Cond.selects "MarshBells" ({ cls := "MarshBells", name := "compare", desc := "(I)I" } : Jvm.MethodName) ({ cls := "MarshBells", name := "compare", desc := "(I)I" } : Jvm.MethodName)) ∈ lw_tbl := tk_6 (List.mem_of_getElem? (i := 55) rfl)
theorem li_L_66 : kLV RL 66 RX11 yX11_compare cX11_compare 2 (some .int) 1 := ⟨tw_1253, tw_1254, tw_1255, tw_1256, tw_1, by decide +kernel⟩
theorem dL_compare_4 : decode cL_compare 4 = .ok (.invokevirtual 66, 3) := by decide +kernel
theorem dL_compare_12 : decode cL_compare 12 = .ok (.astore_n 3, 1) := by decide +kernel
theorem dL_compare_13 : decode cL_compare 13 = .ok (.iconst 1, 1) := by decide +kernel
theorem dL_compare_14 : decode cL_compare 14 = .ok (.ireturn, 1) := by decide +kernel
theorem dL_compare_7 : decode cL_compare 7 = .ok (.i2l, 1) := by decide +kernel
theorem dL_compare_8 : decode cL_compare 8 = .ok (.lastore, 1) := by decide +kernel
theorem dL_compare_9 : decode cL_compare 9 = .ok (.goto 6, 3) := by decide +kernel
theorem dL_compare_15 : decode cL_compare 15 = .ok (.iconst 0, 1) := by decide +kernel
theorem dL_compare_16 : decode cL_compare 16 = .ok (.ireturn, 1) := by decide +kernel
theorem dL_bell_0 : decode cL_bell 0 = .ok (.aload_n 2, 1) := by decide +kernel
theorem dL_bell_1 : decode cL_bell 1 = .ok (.iconst 0, 1) := by decide +kernel
theorem dL_bell_2 : decode cL_bell 2 = .ok (.aload_n 0, 1) := by decide +kernel
theorem dL_bell_3 : decode cL_bell 3 = .ok (.iload_n 1, 1) := by decide +kernel
theorem tw_1261 : (Jvm.Cond.methodLink "MarshBellsLaw" (69 : Nat) ({ cls := "MarshBells", name := "bell", desc := "(I)I" } : Jvm.MethodName)) ∈ lw_tbl := tk_6 (List.mem_of_getElem? (i := 61) rfl)
theorem tw_1264 : (Jvm.Cond.code ({ cls := "MarshBells", name := "bell", desc := "(I)I" } : Jvm.MethodName) prog_1_method_25_code (2 : Nat) (Option.some Jvm.ClassFile.FieldType.int)) ∈ lw_tbl := tk_6 (List.mem_of_getElem? (i := 64) rfl)
theorem tw_1262 : (Jvm.Cond.instanceMethod ({ cls := "MarshBells", name := "bell", desc := "(I)I" } : Jvm.MethodName)) ∈ lw_tbl := tk_6 (List.mem_of_getElem? (i := 62) rfl)
theorem tw_1263 : (Jvm.Cond.selects "MarshBells" ({ cls := "MarshBells", name := "bell", desc := "(I)I" } : Jvm.MethodName) ({ cls := "MarshBells", name := "bell", desc := "(I)I" } : Jvm.MethodName)) ∈ lw_tbl := tk_6 (List.mem_of_getElem? (i := 63) rfl)
theorem li_L_69 : kLV RL 69 RX11 yX11_bell cX11_bell 2 (some .int) 1 := ⟨tw_1261, tw_1262, tw_1263, tw_1264, tw_1, by decide +kernel⟩
theorem dL_bell_4 : decode cL_bell 4 = .ok (.invokevirtual 69, 3) := by decide +kernel
theorem dL_bell_12 : decode cL_bell 12 = .ok (.astore_n 3, 1) := by decide +kernel
theorem dL_bell_13 : decode cL_bell 13 = .ok (.iconst 1, 1) := by decide +kernel
theorem dL_bell_14 : decode cL_bell 14 = .ok (.ireturn, 1) := by decide +kernel
theorem dL_bell_7 : decode cL_bell 7 = .ok (.i2l, 1) := by decide +kernel
theorem dL_bell_8 : decode cL_bell 8 = .ok (.lastore, 1) := by decide +kernel
theorem dL_bell_9 : decode cL_bell 9 = .ok (.goto 6, 3) := by decide +kernel
theorem dL_bell_15 : decode cL_bell 15 = .ok (.iconst 0, 1) := by decide +kernel
theorem dL_bell_16 : decode cL_bell 16 = .ok (.ireturn, 1) := by decide +kernel
theorem dL_see_0 : decode cL_see 0 = .ok (.aload_n 3, 1) := by decide +kernel
theorem dL_see_1 : decode cL_see 1 = .ok (.iconst 0, 1) := by decide +kernel
theorem dL_see_2 : decode cL_see 2 = .ok (.aload_n 0, 1) := by decide +kernel
theorem dL_see_3 : decode cL_see 3 = .ok (.iload_n 1, 1) := by decide +kernel
theorem dL_see_4 : decode cL_see 4 = .ok (.iload_n 2, 1) := by decide +kernel
theorem tw_1273 : (Jvm.Cond.methodLink "MarshBellsLaw" (72 : Nat) ({ cls := "MarshBells", name := "see", desc := "(II)I" } : Jvm.MethodName)) ∈ lw_tbl := tk_6 (List.mem_of_getElem? (i := 73) rfl)
theorem tw_1276 : (Jvm.Cond.code ({ cls := "MarshBells", name := "see", desc := "(II)I" } : Jvm.MethodName) prog_1_method_26_code (3 : Nat) (Option.some Jvm.ClassFile.FieldType.int)) ∈ lw_tbl := tk_6 (List.mem_of_getElem? (i := 76) rfl)
theorem tw_1274 : (Jvm.Cond.instanceMethod ({ cls := "MarshBells", name := "see", desc := "(II)I" } : Jvm.MethodName)) ∈ lw_tbl := tk_6 (List.mem_of_getElem? (i := 74) rfl)
theorem tw_1275 : (Jvm.Cond.selects "MarshBells" ({ cls := "MarshBells", name := "see", desc := "(II)I" } : Jvm.MethodName) ({ cls := "MarshBells", name := "see", desc := "(II)I" } : Jvm.MethodName)) ∈ lw_tbl := tk_6 (List.mem_of_getElem? (i := 75) rfl)
theorem li_L_72 : kLV RL 72 RX11 yX11_see cX11_see 3 (some .int) 2 := ⟨tw_1273, tw_1274, tw_1275, tw_1276, tw_1, by decide +kernel⟩
theorem dL_see_5 : decode cL_see 5 = .ok (.invokevirtual 72, 3) := by decide +kernel
theorem dL_see_13 : decode cL_see 13 = .ok (.astore 4, 2) := by decide +kernel
theorem dL_see_15 : decode cL_see 15 = .ok (.iconst 1, 1) := by decide +kernel
theorem dL_see_16 : decode cL_see 16 = .ok (.ireturn, 1) := by decide +kernel
theorem dL_fits_0 : decode cL_fits 0 = .ok (.aload_n 2, 1) := by decide +kernel
theorem dL_fits_1 : decode cL_fits 1 = .ok (.iconst 0, 1) := by decide +kernel
theorem dL_fits_2 : decode cL_fits 2 = .ok (.aload_n 0, 1) := by decide +kernel
theorem dL_fits_3 : decode cL_fits 3 = .ok (.iload_n 1, 1) := by decide +kernel
theorem tw_1284 : (Jvm.Cond.methodLink "MarshBellsLaw" (75 : Nat) ({ cls := "MarshBells", name := "fits", desc := "(I)I" } : Jvm.MethodName)) ∈ lw_tbl := tk_6 (List.mem_of_getElem? (i := 84) rfl)
theorem tw_1287 : (Jvm.Cond.code ({ cls := "MarshBells", name := "fits", desc := "(I)I" } : Jvm.MethodName) prog_1_method_28_code (2 : Nat) (Option.some Jvm.ClassFile.FieldType.int)) ∈ lw_tbl := tk_6 (List.mem_of_getElem? (i := 87) rfl)
theorem tw_1285 : (Jvm.Cond.instanceMethod ({ cls := "MarshBells", name := "fits", desc := "(I)I" } : Jvm.MethodName)) ∈ lw_tbl := tk_6 (List.mem_of_getElem? (i := 85) rfl)
theorem tw_1286 : (Jvm.Cond.selects "MarshBells" ({ cls := "MarshBells", name := "fits", desc := "(I)I" } : Jvm.MethodName) ({ cls := "MarshBells", name := "fits", desc := "(I)I" } : Jvm.MethodName)) ∈ lw_tbl := tk_6 (List.mem_of_getElem? (i := 86) rfl)
theorem li_L_75 : kLV RL 75 RX11 yX11_fits cX11_fits 2 (some .int) 1 := ⟨tw_1284, tw_1285, tw_1286, tw_1287, tw_1, by decide +kernel⟩
theorem dL_fits_4 : decode cL_fits 4 = .ok (.invokevirtual 75, 3) := by decide +kernel
theorem dL_fits_12 : decode cL_fits 12 = .ok (.astore_n 3, 1) := by decide +kernel
theorem dL_fits_13 : decode cL_fits 13 = .ok (.iconst 1, 1) := by decide +kernel
theorem dL_fits_14 : decode cL_fits 14 = .ok (.ireturn, 1) := by decide +kernel
theorem dL_fits_7 : decode cL_fits 7 = .ok (.i2l, 1) := by decide +kernel
theorem dL_fits_8 : decode cL_fits 8 = .ok (.lastore, 1) := by decide +kernel
theorem dL_fits_9 : decode cL_fits 9 = .ok (.goto 6, 3) := by decide +kernel
theorem dL_fits_15 : decode cL_fits 15 = .ok (.iconst 0, 1) := by decide +kernel
theorem dL_fits_16 : decode cL_fits 16 = .ok (.ireturn, 1) := by decide +kernel
theorem dL_term_0 : decode cL_term 0 = .ok (.aload 5, 2) := by decide +kernel
theorem dL_term_2 : decode cL_term 2 = .ok (.iconst 0, 1) := by decide +kernel
theorem dL_term_3 : decode cL_term 3 = .ok (.aload_n 0, 1) := by decide +kernel
theorem dL_term_4 : decode cL_term 4 = .ok (.iload_n 1, 1) := by decide +kernel
theorem dL_term_5 : decode cL_term 5 = .ok (.iload_n 2, 1) := by decide +kernel
theorem dL_term_6 : decode cL_term 6 = .ok (.iload_n 3, 1) := by decide +kernel
theorem dL_term_7 : decode cL_term 7 = .ok (.iload 4, 2) := by decide +kernel
theorem tw_1304 : (Jvm.Cond.methodLink "MarshBellsLaw" (78 : Nat) ({ cls := "MarshBells", name := "term", desc := "(IIII)I" } : Jvm.MethodName)) ∈ lw_tbl := tk_6 (List.mem_of_getElem? (i := 104) rfl)
theorem tw_1307 : (Jvm.Cond.code ({ cls := "MarshBells", name := "term", desc := "(IIII)I" } : Jvm.MethodName) prog_1_method_30_code (5 : Nat) (Option.some Jvm.ClassFile.FieldType.int)) ∈ lw_tbl := tk_6 (List.mem_of_getElem? (i := 107) rfl)
theorem tw_1305 : (Jvm.Cond.instanceMethod ({ cls := "MarshBells", name := "term", desc := "(IIII)I" } : Jvm.MethodName)) ∈ lw_tbl := tk_6 (List.mem_of_getElem? (i := 105) rfl)
theorem tw_1306 : (Jvm.Cond.selects "MarshBells" ({ cls := "MarshBells", name := "term", desc := "(IIII)I" } : Jvm.MethodName) ({ cls := "MarshBells", name := "term", desc := "(IIII)I" } : Jvm.MethodName)) ∈ lw_tbl := tk_6 (List.mem_of_getElem? (i := 106) rfl)
theorem li_L_78 : kLV RL 78 RX11 yX11_term cX11_term 5 (some .int) 4 := ⟨tw_1304, tw_1305, tw_1306, tw_1307, tw_1, by decide +kernel⟩
theorem dL_term_9 : decode cL_term 9 = .ok (.invokevirtual 78, 3) := by decide +kernel
theorem dL_term_17 : decode cL_term 17 = .ok (.astore 6, 2) := by decide +kernel
theorem dL_term_19 : decode cL_term 19 = .ok (.iconst 1, 1) := by decide +kernel
theorem dL_term_20 : decode cL_term 20 = .ok (.ireturn, 1) := by decide +kernel
theorem dL_on_0 : decode cL_on 0 = .ok (.aload_n 3, 1) := by decide +kernel
theorem dL_on_1 : decode cL_on 1 = .ok (.iconst 0, 1) := by decide +kernel
theorem dL_on_2 : decode cL_on 2 = .ok (.aload_n 0, 1) := by decide +kernel
theorem dL_on_3 : decode cL_on 3 = .ok (.iload_n 1, 1) := by decide +kernel
theorem dL_on_4 : decode cL_on 4 = .ok (.iload_n 2, 1) := by decide +kernel
theorem tw_1326 : (Jvm.Cond.methodLink "MarshBellsLaw" (82 : Nat) ({ cls := "MarshBells", name := "on", desc := "(II)I" } : Jvm.MethodName)) ∈ lw_tbl := tk_6 (List.mem_of_getElem? (i := 126) rfl)
theorem tw_1329 : (Jvm.Cond.code ({ cls := "MarshBells", name := "on", desc := "(II)I" } : Jvm.MethodName) prog_1_method_31_code (3 : Nat) (Option.some Jvm.ClassFile.FieldType.int)) ∈ lw_tbl := tk_6 (List.mem_of_getElem? (i := 129) rfl)
theorem tw_1327 : (Jvm.Cond.instanceMethod ({ cls := "MarshBells", name := "on", desc := "(II)I" } : Jvm.MethodName)) ∈ lw_tbl := tk_6 (List.mem_of_getElem? (i := 127) rfl)
theorem tw_1328 : (Jvm.Cond.selects "MarshBells" ({ cls := "MarshBells", name := "on", desc := "(II)I" } : Jvm.MethodName) ({ cls := "MarshBells", name := "on", desc := "(II)I" } : Jvm.MethodName)) ∈ lw_tbl := tk_6 (List.mem_of_getElem? (i := 128) rfl)
theorem li_L_82 : kLV RL 82 RX11 yX11_on cX11_on 3 (some .int) 2 := ⟨tw_1326, tw_1327, tw_1328, tw_1329, tw_1, by decide +kernel⟩
theorem dL_on_5 : decode cL_on 5 = .ok (.invokevirtual 82, 3) := by decide +kernel
theorem dL_on_13 : decode cL_on 13 = .ok (.astore 4, 2) := by decide +kernel
theorem dL_on_15 : decode cL_on 15 = .ok (.iconst 1, 1) := by decide +kernel
theorem dL_on_16 : decode cL_on 16 = .ok (.ireturn, 1) := by decide +kernel
theorem dL_on_17 : decode cL_on 17 = .ok (.astore 4, 2) := by decide +kernel
theorem dL_on_19 : decode cL_on 19 = .ok (.iconst 2, 1) := by decide +kernel
theorem dL_on_20 : decode cL_on 20 = .ok (.ireturn, 1) := by decide +kernel
theorem dL_on_8 : decode cL_on 8 = .ok (.i2l, 1) := by decide +kernel
theorem dL_on_9 : decode cL_on 9 = .ok (.lastore, 1) := by decide +kernel
theorem dL_on_10 : decode cL_on 10 = .ok (.goto 11, 3) := by decide +kernel
theorem dL_on_21 : decode cL_on 21 = .ok (.iconst 0, 1) := by decide +kernel
theorem dL_on_22 : decode cL_on 22 = .ok (.ireturn, 1) := by decide +kernel
theorem dL_clash_0 : decode cL_clash 0 = .ok (.aload_n 2, 1) := by decide +kernel
theorem dL_clash_1 : decode cL_clash 1 = .ok (.iconst 0, 1) := by decide +kernel
theorem dL_clash_2 : decode cL_clash 2 = .ok (.aload_n 0, 1) := by decide +kernel
theorem dL_clash_3 : decode cL_clash 3 = .ok (.iload_n 1, 1) := by decide +kernel
theorem tw_1341 : (Jvm.Cond.methodLink "MarshBellsLaw" (85 : Nat) ({ cls := "MarshBells", name := "clash", desc := "(I)I" } : Jvm.MethodName)) ∈ lw_tbl := tk_6 (List.mem_of_getElem? (i := 141) rfl)
theorem tw_1344 : (Jvm.Cond.code ({ cls := "MarshBells", name := "clash", desc := "(I)I" } : Jvm.MethodName) prog_1_method_32_code (2 : Nat) (Option.some Jvm.ClassFile.FieldType.int)) ∈ lw_tbl := tk_6 (List.mem_of_getElem? (i := 144) rfl)
theorem tw_1342 : (Jvm.Cond.instanceMethod ({ cls := "MarshBells", name := "clash", desc := "(I)I" } : Jvm.MethodName)) ∈ lw_tbl := tk_6 (List.mem_of_getElem? (i := 142) rfl)
theorem tw_1343 : (Jvm.Cond.selects "MarshBells" ({ cls := "MarshBells", name := "clash", desc := "(I)I" } : Jvm.MethodName) ({ cls := "MarshBells", name := "clash", desc := "(I)I" } : Jvm.MethodName)) ∈ lw_tbl := tk_6 (List.mem_of_getElem? (i := 143) rfl)
theorem li_L_85 : kLV RL 85 RX11 yX11_clash cX11_clash 2 (some .int) 1 := ⟨tw_1341, tw_1342, tw_1343, tw_1344, tw_1, by decide +kernel⟩
theorem dL_clash_4 : decode cL_clash 4 = .ok (.invokevirtual 85, 3) := by decide +kernel
theorem dL_clash_12 : decode cL_clash 12 = .ok (.astore_n 3, 1) := by decide +kernel
theorem dL_clash_13 : decode cL_clash 13 = .ok (.iconst 1, 1) := by decide +kernel
theorem dL_clash_14 : decode cL_clash 14 = .ok (.ireturn, 1) := by decide +kernel
theorem dL_clash_7 : decode cL_clash 7 = .ok (.i2l, 1) := by decide +kernel
theorem dL_clash_8 : decode cL_clash 8 = .ok (.lastore, 1) := by decide +kernel
theorem dL_clash_9 : decode cL_clash 9 = .ok (.goto 6, 3) := by decide +kernel
theorem dL_clash_15 : decode cL_clash 15 = .ok (.iconst 0, 1) := by decide +kernel
theorem dL_clash_16 : decode cL_clash 16 = .ok (.ireturn, 1) := by decide +kernel
theorem dL_busiest_0 : decode cL_busiest 0 = .ok (.aload_n 2, 1) := by decide +kernel
theorem dL_busiest_1 : decode cL_busiest 1 = .ok (.iconst 0, 1) := by decide +kernel
theorem dL_busiest_2 : decode cL_busiest 2 = .ok (.aload_n 0, 1) := by decide +kernel
theorem dL_busiest_3 : decode cL_busiest 3 = .ok (.iload_n 1, 1) := by decide +kernel
theorem tw_1360 : (Jvm.Cond.methodLink "MarshBellsLaw" (88 : Nat) ({ cls := "MarshBells", name := "busiest", desc := "(I)I" } : Jvm.MethodName)) ∈ lw_tbl := tk_6 (List.mem_of_getElem? (i := 160) rfl)
theorem tw_1363 : (Jvm.Cond.code ({ cls := "MarshBells", name := "busiest", desc := "(I)I" } : Jvm.MethodName) prog_1_method_33_code (3 : Nat) (Option.some Jvm.ClassFile.FieldType.int)) ∈ lw_tbl := tk_6 (List.mem_of_getElem? (i := 163) rfl)
theorem tw_1361 : (Jvm.Cond.instanceMethod ({ cls := "MarshBells", name := "busiest", desc := "(I)I" } : Jvm.MethodName)) ∈ lw_tbl := tk_6 (List.mem_of_getElem? (i := 161) rfl)
theorem tw_1362 : (Jvm.Cond.selects "MarshBells" ({ cls := "MarshBells", name := "busiest", desc := "(I)I" } : Jvm.MethodName) ({ cls := "MarshBells", name := "busiest", desc := "(I)I" } : Jvm.MethodName)) ∈ lw_tbl := tk_6 (List.mem_of_getElem? (i := 162) rfl)
theorem li_L_88 : kLV RL 88 RX11 yX11_busiest cX11_busiest 3 (some .int) 1 := ⟨tw_1360, tw_1361, tw_1362, tw_1363, tw_1, by decide +kernel⟩
theorem dL_busiest_4 : decode cL_busiest 4 = .ok (.invokevirtual 88, 3) := by decide +kernel
theorem dL_busiest_12 : decode cL_busiest 12 = .ok (.astore_n 3, 1) := by decide +kernel
theorem dL_busiest_13 : decode cL_busiest 13 = .ok (.iconst 1, 1) := by decide +kernel
theorem dL_busiest_14 : decode cL_busiest 14 = .ok (.ireturn, 1) := by decide +kernel
theorem dL_busiest_7 : decode cL_busiest 7 = .ok (.i2l, 1) := by decide +kernel
theorem dL_busiest_8 : decode cL_busiest 8 = .ok (.lastore, 1) := by decide +kernel
theorem dL_busiest_9 : decode cL_busiest 9 = .ok (.goto 6, 3) := by decide +kernel
theorem dL_busiest_15 : decode cL_busiest 15 = .ok (.iconst 0, 1) := by decide +kernel
theorem dL_busiest_16 : decode cL_busiest 16 = .ok (.ireturn, 1) := by decide +kernel
theorem dL_shift_0 : decode cL_shift 0 = .ok (.aload_n 3, 1) := by decide +kernel
theorem dL_shift_1 : decode cL_shift 1 = .ok (.iconst 0, 1) := by decide +kernel
theorem dL_shift_2 : decode cL_shift 2 = .ok (.aload_n 0, 1) := by decide +kernel
theorem dL_shift_3 : decode cL_shift 3 = .ok (.iload_n 1, 1) := by decide +kernel
theorem dL_shift_4 : decode cL_shift 4 = .ok (.iload_n 2, 1) := by decide +kernel
theorem tw_1372 : (Jvm.Cond.methodLink "MarshBellsLaw" (91 : Nat) ({ cls := "MarshBells", name := "shift", desc := "(II)I" } : Jvm.MethodName)) ∈ lw_tbl := tk_6 (List.mem_of_getElem? (i := 172) rfl)
theorem tw_1375 : (Jvm.Cond.code ({ cls := "MarshBells", name := "shift", desc := "(II)I" } : Jvm.MethodName) prog_1_method_35_code (3 : Nat) (Option.some Jvm.ClassFile.FieldType.int)) ∈ lw_tbl := tk_6 (List.mem_of_getElem? (i := 175) rfl)
theorem tw_1373 : (Jvm.Cond.instanceMethod ({ cls := "MarshBells", name := "shift", desc := "(II)I" } : Jvm.MethodName)) ∈ lw_tbl := tk_6 (List.mem_of_getElem? (i := 173) rfl)
theorem tw_1374 : (Jvm.Cond.selects "MarshBells" ({ cls := "MarshBells", name := "shift", desc := "(II)I" } : Jvm.MethodName) ({ cls := "MarshBells", name := "shift", desc := "(II)I" } : Jvm.MethodName)) ∈ lw_tbl := tk_6 (List.mem_of_getElem? (i := 174) rfl)
theorem li_L_91 : kLV RL 91 RX11 yX11_shift cX11_shift 3 (some .int) 2 := ⟨tw_1372, tw_1373, tw_1374, tw_1375, tw_1, by decide +kernel⟩
theorem dL_shift_5 : decode cL_shift 5 = .ok (.invokevirtual 91, 3) := by decide +kernel
theorem dL_shift_13 : decode cL_shift 13 = .ok (.astore 4, 2) := by decide +kernel
theorem dL_shift_15 : decode cL_shift 15 = .ok (.iconst 1, 1) := by decide +kernel
theorem dL_shift_16 : decode cL_shift 16 = .ok (.ireturn, 1) := by decide +kernel
theorem dL_harm_0 : decode cL_harm 0 = .ok (.aload_n 3, 1) := by decide +kernel
theorem dL_harm_1 : decode cL_harm 1 = .ok (.iconst 0, 1) := by decide +kernel
theorem dL_harm_2 : decode cL_harm 2 = .ok (.aload_n 0, 1) := by decide +kernel
theorem dL_harm_3 : decode cL_harm 3 = .ok (.iload_n 1, 1) := by decide +kernel
theorem dL_harm_4 : decode cL_harm 4 = .ok (.iload_n 2, 1) := by decide +kernel
theorem tw_1383 : (Jvm.Cond.methodLink "MarshBellsLaw" (94 : Nat) ({ cls := "MarshBells", name := "harm", desc := "(II)I" } : Jvm.MethodName)) ∈ lw_tbl := tk_6 (List.mem_of_getElem? (i := 183) rfl)
theorem tw_1386 : (Jvm.Cond.code ({ cls := "MarshBells", name := "harm", desc := "(II)I" } : Jvm.MethodName) prog_1_method_36_code (3 : Nat) (Option.some Jvm.ClassFile.FieldType.int)) ∈ lw_tbl := tk_6 (List.mem_of_getElem? (i := 186) rfl)
theorem tw_1384 : (Jvm.Cond.instanceMethod ({ cls := "MarshBells", name := "harm", desc := "(II)I" } : Jvm.MethodName)) ∈ lw_tbl := tk_6 (List.mem_of_getElem? (i := 184) rfl)
theorem tw_1385 : (Jvm.Cond.selects "MarshBells" ({ cls := "MarshBells", name := "harm", desc := "(II)I" } : Jvm.MethodName) ({ cls := "MarshBells", name := "harm", desc := "(II)I" } : Jvm.MethodName)) ∈ lw_tbl := tk_6 (List.mem_of_getElem? (i := 185) rfl)
theorem li_L_94 : kLV RL 94 RX11 yX11_harm cX11_harm 3 (some .int) 2 := ⟨tw_1383, tw_1384, tw_1385, tw_1386, tw_1, by decide +kernel⟩
theorem dL_harm_5 : decode cL_harm 5 = .ok (.invokevirtual 94, 3) := by decide +kernel
theorem dL_harm_13 : decode cL_harm 13 = .ok (.astore 4, 2) := by decide +kernel
theorem dL_harm_15 : decode cL_harm 15 = .ok (.iconst 1, 1) := by decide +kernel
theorem dL_harm_16 : decode cL_harm 16 = .ok (.ireturn, 1) := by decide +kernel
theorem dL_pair_0 : decode cL_pair 0 = .ok (.aload_n 2, 1) := by decide +kernel
theorem dL_pair_1 : decode cL_pair 1 = .ok (.iconst 0, 1) := by decide +kernel
theorem dL_pair_2 : decode cL_pair 2 = .ok (.aload_n 0, 1) := by decide +kernel
theorem dL_pair_3 : decode cL_pair 3 = .ok (.iload_n 1, 1) := by decide +kernel
theorem tw_1394 : (Jvm.Cond.methodLink "MarshBellsLaw" (97 : Nat) ({ cls := "MarshBells", name := "pair", desc := "(I)I" } : Jvm.MethodName)) ∈ lw_tbl := tk_6 (List.mem_of_getElem? (i := 194) rfl)
theorem tw_1397 : (Jvm.Cond.code ({ cls := "MarshBells", name := "pair", desc := "(I)I" } : Jvm.MethodName) prog_1_method_37_code (2 : Nat) (Option.some Jvm.ClassFile.FieldType.int)) ∈ lw_tbl := tk_6 (List.mem_of_getElem? (i := 197) rfl)
theorem tw_1395 : (Jvm.Cond.instanceMethod ({ cls := "MarshBells", name := "pair", desc := "(I)I" } : Jvm.MethodName)) ∈ lw_tbl := tk_6 (List.mem_of_getElem? (i := 195) rfl)
theorem tw_1396 : (Jvm.Cond.selects "MarshBells" ({ cls := "MarshBells", name := "pair", desc := "(I)I" } : Jvm.MethodName) ({ cls := "MarshBells", name := "pair", desc := "(I)I" } : Jvm.MethodName)) ∈ lw_tbl := tk_6 (List.mem_of_getElem? (i := 196) rfl)
theorem li_L_97 : kLV RL 97 RX11 yX11_pair cX11_pair 2 (some .int) 1 := ⟨tw_1394, tw_1395, tw_1396, tw_1397, tw_1, by decide +kernel⟩
theorem dL_pair_4 : decode cL_pair 4 = .ok (.invokevirtual 97, 3) := by decide +kernel
theorem dL_pair_12 : decode cL_pair 12 = .ok (.astore_n 3, 1) := by decide +kernel
theorem dL_pair_13 : decode cL_pair 13 = .ok (.iconst 1, 1) := by decide +kernel
theorem dL_pair_14 : decode cL_pair 14 = .ok (.ireturn, 1) := by decide +kernel
theorem dL_pair_7 : decode cL_pair 7 = .ok (.i2l, 1) := by decide +kernel
theorem dL_pair_8 : decode cL_pair 8 = .ok (.lastore, 1) := by decide +kernel
theorem dL_pair_9 : decode cL_pair 9 = .ok (.goto 6, 3) := by decide +kernel
theorem dL_pair_15 : decode cL_pair 15 = .ok (.iconst 0, 1) := by decide +kernel
theorem dL_pair_16 : decode cL_pair 16 = .ok (.ireturn, 1) := by decide +kernel
theorem dL_pause_0 : decode cL_pause 0 = .ok (.aload_n 3, 1) := by decide +kernel
theorem dL_pause_1 : decode cL_pause 1 = .ok (.iconst 0, 1) := by decide +kernel
theorem dL_pause_2 : decode cL_pause 2 = .ok (.aload_n 0, 1) := by decide +kernel
theorem dL_pause_3 : decode cL_pause 3 = .ok (.iload_n 1, 1) := by decide +kernel
theorem dL_pause_4 : decode cL_pause 4 = .ok (.iload_n 2, 1) := by decide +kernel
theorem tw_1405 : (Jvm.Cond.methodLink "MarshBellsLaw" (100 : Nat) ({ cls := "MarshBells", name := "pause", desc := "(II)I" } : Jvm.MethodName)) ∈ lw_tbl := tk_6 (List.mem_of_getElem? (i := 205) rfl)
theorem tw_1408 : (Jvm.Cond.code ({ cls := "MarshBells", name := "pause", desc := "(II)I" } : Jvm.MethodName) prog_1_method_38_code (3 : Nat) (Option.some Jvm.ClassFile.FieldType.int)) ∈ lw_tbl := tk_6 (List.mem_of_getElem? (i := 208) rfl)
theorem tw_1406 : (Jvm.Cond.instanceMethod ({ cls := "MarshBells", name := "pause", desc := "(II)I" } : Jvm.MethodName)) ∈ lw_tbl := tk_6 (List.mem_of_getElem? (i := 206) rfl)
theorem tw_1407 : (Jvm.Cond.selects "MarshBells" ({ cls := "MarshBells", name := "pause", desc := "(II)I" } : Jvm.MethodName) ({ cls := "MarshBells", name := "pause", desc := "(II)I" } : Jvm.MethodName)) ∈ lw_tbl := tk_6 (List.mem_of_getElem? (i := 207) rfl)
theorem li_L_100 : kLV RL 100 RX11 yX11_pause cX11_pause 3 (some .int) 2 := ⟨tw_1405, tw_1406, tw_1407, tw_1408, tw_1, by decide +kernel⟩
theorem dL_pause_5 : decode cL_pause 5 = .ok (.invokevirtual 100, 3) := by decide +kernel
theorem dL_pause_13 : decode cL_pause 13 = .ok (.astore 4, 2) := by decide +kernel
theorem dL_pause_15 : decode cL_pause 15 = .ok (.iconst 1, 1) := by decide +kernel
theorem dL_pause_16 : decode cL_pause 16 = .ok (.ireturn, 1) := by decide +kernel
theorem dL_pause_17 : decode cL_pause 17 = .ok (.astore 4, 2) := by decide +kernel
theorem dL_pause_19 : decode cL_pause 19 = .ok (.iconst 2, 1) := by decide +kernel
theorem dL_pause_20 : decode cL_pause 20 = .ok (.ireturn, 1) := by decide +kernel
theorem dL_pause_8 : decode cL_pause 8 = .ok (.i2l, 1) := by decide +kernel
theorem dL_pause_9 : decode cL_pause 9 = .ok (.lastore, 1) := by decide +kernel
theorem dL_pause_10 : decode cL_pause 10 = .ok (.goto 11, 3) := by decide +kernel
theorem dL_pause_21 : decode cL_pause 21 = .ok (.iconst 0, 1) := by decide +kernel
theorem dL_pause_22 : decode cL_pause 22 = .ok (.ireturn, 1) := by decide +kernel
set_option maxHeartbeats 4000000 in
set_option maxRecDepth 100000 in
theorem c_L_house (l : Launch) (hst : l.stackTraces = false) (G : kG) (sz : Nat) (h0 : Nat) (n0 : Int32) (aout : Nat) (Fh0 : Nat → Value) (ap : Nat) (asp : Nat) (apa : Nat) (ah : Nat) (ad : Nat) (Fasp : Nat → Value) (ar : Nat) (Far : Nat → Value) (Fapa : Nat → Value) (atp : Nat) (f0 : Nat → Int32) (Fah : Nat → Value) (Fad : Nat → Value) (fJ : Nat → Int64) (e_h0_3 : Fh0 3 = .ref ap) (e_h0_4 : Fh0 4 = .ref asp) (e_h0_5 : Fh0 5 = .ref apa) (e_h0_6 : Fh0 6 = .ref ah) (e_h0_8 : Fh0 8 = .ref ad) (e_h0_13 : Fh0 13 = .int 0) (e_asp_1 : Fasp 1 = .ref ar) (e_apa_0 : Fapa 0 = .ref atp) : kMH l yL_house cL_house 4 (some .int) [(0, 9, 12, 13)] { frames := 10, cells := 1, slots := 6, locals := 195 } G [.ref h0, .int n0, .ref aout] [(h0, .inr (11, ofL 17 Fh0)), (asp, .inr (7, ofL 5 Fasp)), (ar, .inr (8, ofL 5 Far)), (apa, .inr (6, ofL 11 Fapa)), (atp, .inl (G.2.1, 700, .inl f0)), (ah, .inr (3, ofL 12 Fah)), (ad, .inr (1, ofL 10 Fad)), (aout, .inl (G.2.2.2.2, 1, .inr (.inl fJ)))] sz (kQi G (S := Nat) (fun r u => (u = 0 ∧ r = 1 ∧ n0 < 0) ∨ (u = 1 ∧ r = 1 ∧ ¬ n0 < 0 ∧ ¬ n0 ≤ 0) ∨ (u = 2 ∧ r = 0 ∧ ¬ n0 < 0 ∧ n0 ≤ 0 ∧ n0 = 0)) (fun u => match u with | 0 => [(aout, .inl (G.2.2.2.2, 1, .inr (.inl fJ))), (h0, .inr (11, ofL 17 Fh0)), (asp, .inr (7, ofL 5 Fasp)), (ar, .inr (8, ofL 5 Far)), (apa, .inr (6, ofL 11 Fapa)), (atp, .inl (G.2.1, 700, .inl f0)), (ah, .inr (3, ofL 12 Fah)), (ad, .inr (1, ofL 10 Fad))] | 1 => [(aout, .inl (G.2.2.2.2, 1, .inr (.inl fJ))), (h0, .inr (11, ofL 17 Fh0)), (asp, .inr (7, ofL 5 Fasp)), (ar, .inr (8, ofL 5 Far)), (apa, .inr (6, ofL 11 Fapa)), (atp, .inl (G.2.1, 700, .inl f0)), (ah, .inr (3, ofL 12 Fah)), (ad, .inr (1, ofL 10 Fad))] | _ => [(aout, .inl (G.2.2.2.2, 1, .inr (.inl (vp_updL fJ 0 0)))), (h0, .inr (11, ofL 17 (updV (updV (updV (updV (updV (updV Fh0 13 (.int 0)) 14 (.int (-1))) 4 (.ref ap)) 3 (.ref asp)) 15 (.int 0)) 16 (.int 0)))), (ad, .inr (1, ofL 10 (updV Fad 7 (.ref asp)))), (atp, .inl (G.2.1, 700, .inl f0)), (ar, .inr (8, ofL 5 (updV (updV Far 3 (.int 0)) 4 (.int 0)))), (apa, .inr (6, ofL 11 (updV (updV (updV (updV (updV (updV (updV (updV (updV (updV (updV Fapa 1 (.ref asp)) 2 (.int 0)) 3 (.int 0)) 7 (.int 0)) 8 (.int (-1))) 9 (.int 0)) 10 (.int 0)) 4 (.int 0)) 5 (.int 0)) 6 (.int 0)) 4 (.int 0)))), (ah, .inr (3, ofL 12 (updV (updV (updV Fah 9 (.int 0)) 10 (.int 0)) 11 (.int (-1))))), (asp, .inr (7, ofL 5 (updV (updV (updV Fasp 2 (.int 0)) 3 (.int 1)) 4 (.int 99))))])) := by
  refine kMH.of (by decide) (Nat.le_of_ble_eq_true rfl) ?_
  intro p e s m below meth c A ls H C hr hlk htab hP hD hS hl
  have C : kC G p s m c cL_house 4 RL A := C
  have hx := C.1
  have hb := C.2.1
  have hl : lv_has ls 4 [(0, .ref h0), (1, .int n0), (2, .ref aout)] := hl
  refine lv_aload_n hx hb dL_house_0 rfl (lv_at hl 2 rfl) ?_
  refine lv_iconst (v := 0) hx hb dL_house_1 (by decide) ?_
  refine lv_aload_n hx hb dL_house_2 rfl (lv_at hl 0 rfl) ?_
  refine lv_iload_n hx hb dL_house_3 rfl (lv_at hl 1 rfl) ?_
  refine k_xcallVi (wr := [(aout, .inl (G.2.2.2.2, 1, .inr (.inl fJ)))]) (rest := [.int 0, .ref aout]) li_L_7 C (c_X11_house l hst G H.size h0 n0 Fh0 ap asp apa ah ad Fasp ar Far Fapa atp f0 Fah Fad e_h0_3 e_h0_4 e_h0_5 e_h0_6 e_h0_8 e_h0_13 e_asp_1 e_apa_0) (kR rfl) hP hD hS [0, 1, 2, 3, 4, 5, 6] [7] rfl rfl rfl rfl (by decide) 0 11 rfl rfl rfl hl.1 rfl (Nat.le_of_ble_eq_true rfl) dL_house_4 (fun E ce q9 uu3 H locs hw1 hP hD hS hc1 hc2 hc3 => ?_) (fun rr2 uu3 H locs hw1 hP hD hS => ?_)
  ·
    rcases hw1 with ⟨rfl, rfl, c_4⟩ | ⟨rfl, rfl, c_5, c_6⟩
    ·
      have hP : va_P G.1 vwCl [(aout, .inl (G.2.2.2.2, 1, .inr (.inl fJ))), (h0, .inr (11, ofL 17 Fh0)), (asp, .inr (7, ofL 5 Fasp)), (ar, .inr (8, ofL 5 Far)), (apa, .inr (6, ofL 11 Fapa)), (atp, .inl (G.2.1, 700, .inl f0)), (ah, .inr (3, ofL 12 Fah)), (ad, .inr (1, ofL 10 Fad))] H := hP
      have hD : va_D A [(aout, .inl (G.2.2.2.2, 1, .inr (.inl fJ))), (h0, .inr (11, ofL 17 Fh0)), (asp, .inr (7, ofL 5 Fasp)), (ar, .inr (8, ofL 5 Far)), (apa, .inr (6, ofL 11 Fapa)), (atp, .inl (G.2.1, 700, .inl f0)), (ah, .inr (3, ofL 12 Fah)), (ad, .inr (1, ofL 10 Fad))] := hD
      refine k_catch1 C htab (by decide) (by decide) tw_732 tw_739 hc1 hc2 hc3 ?_
      refine lv_astore_n (lv' := [(3, .ref q9), (0, .ref h0), (1, .int n0), (2, .ref aout)]) hx hb dL_house_12 rfl hl (by decide) rfl (fun ls hl => ?_)
      refine lv_iconst (v := 1) hx hb dL_house_13 (by decide) ?_
      exact k_iret C hr hlk hP hD hS 0 (Or.inl ⟨rfl, rfl, c_4⟩) [0, 1, 2, 3, 4, 5, 6, 7] rfl rfl (Nat.le_of_ble_eq_true rfl) (Nat.le_of_ble_eq_true rfl) dL_house_14
    ·
      have hP : va_P G.1 vwCl [(aout, .inl (G.2.2.2.2, 1, .inr (.inl fJ))), (h0, .inr (11, ofL 17 Fh0)), (asp, .inr (7, ofL 5 Fasp)), (ar, .inr (8, ofL 5 Far)), (apa, .inr (6, ofL 11 Fapa)), (atp, .inl (G.2.1, 700, .inl f0)), (ah, .inr (3, ofL 12 Fah)), (ad, .inr (1, ofL 10 Fad))] H := hP
      have hD : va_D A [(aout, .inl (G.2.2.2.2, 1, .inr (.inl fJ))), (h0, .inr (11, ofL 17 Fh0)), (asp, .inr (7, ofL 5 Fasp)), (ar, .inr (8, ofL 5 Far)), (apa, .inr (6, ofL 11 Fapa)), (atp, .inl (G.2.1, 700, .inl f0)), (ah, .inr (3, ofL 12 Fah)), (ad, .inr (1, ofL 10 Fad))] := hD
      refine k_catch1 C htab (by decide) (by decide) tw_732 tw_739 hc1 hc2 hc3 ?_
      refine lv_astore_n (lv' := [(3, .ref q9), (0, .ref h0), (1, .int n0), (2, .ref aout)]) hx hb dL_house_12 rfl hl (by decide) rfl (fun ls hl => ?_)
      refine lv_iconst (v := 1) hx hb dL_house_13 (by decide) ?_
      exact k_iret C hr hlk hP hD hS 1 (Or.inr (Or.inl ⟨rfl, rfl, c_5, c_6⟩)) [0, 1, 2, 3, 4, 5, 6, 7] rfl rfl (Nat.le_of_ble_eq_true rfl) (Nat.le_of_ble_eq_true rfl) dL_house_14
  obtain ⟨rfl, c_7, c_8, rfl⟩ := hw1
  have hP : va_P G.1 vwCl [(aout, .inl (G.2.2.2.2, 1, .inr (.inl fJ))), (h0, .inr (11, ofL 17 (updV (updV (updV (updV (updV (updV Fh0 13 (.int 0)) 14 (.int (-1))) 4 (.ref ap)) 3 (.ref asp)) 15 (.int 0)) 16 (.int 0)))), (ad, .inr (1, ofL 10 (updV Fad 7 (.ref asp)))), (atp, .inl (G.2.1, 700, .inl f0)), (ar, .inr (8, ofL 5 (updV (updV Far 3 (.int 0)) 4 (.int 0)))), (apa, .inr (6, ofL 11 (updV (updV (updV (updV (updV (updV (updV (updV (updV (updV (updV Fapa 1 (.ref asp)) 2 (.int 0)) 3 (.int 0)) 7 (.int 0)) 8 (.int (-1))) 9 (.int 0)) 10 (.int 0)) 4 (.int 0)) 5 (.int 0)) 6 (.int 0)) 4 (.int 0)))), (ah, .inr (3, ofL 12 (updV (updV (updV Fah 9 (.int 0)) 10 (.int 0)) 11 (.int (-1))))), (asp, .inr (7, ofL 5 (updV (updV (updV Fasp 2 (.int 0)) 3 (.int 1)) 4 (.int 99))))] H := hP
  have hD : va_D A [(aout, .inl (G.2.2.2.2, 1, .inr (.inl fJ))), (h0, .inr (11, ofL 17 (updV (updV (updV (updV (updV (updV Fh0 13 (.int 0)) 14 (.int (-1))) 4 (.ref ap)) 3 (.ref asp)) 15 (.int 0)) 16 (.int 0)))), (ad, .inr (1, ofL 10 (updV Fad 7 (.ref asp)))), (atp, .inl (G.2.1, 700, .inl f0)), (ar, .inr (8, ofL 5 (updV (updV Far 3 (.int 0)) 4 (.int 0)))), (apa, .inr (6, ofL 11 (updV (updV (updV (updV (updV (updV (updV (updV (updV (updV (updV Fapa 1 (.ref asp)) 2 (.int 0)) 3 (.int 0)) 7 (.int 0)) 8 (.int (-1))) 9 (.int 0)) 10 (.int 0)) 4 (.int 0)) 5 (.int 0)) 6 (.int 0)) 4 (.int 0)))), (ah, .inr (3, ofL 12 (updV (updV (updV Fah 9 (.int 0)) 10 (.int 0)) 11 (.int (-1))))), (asp, .inr (7, ofL 5 (updV (updV (updV Fasp 2 (.int 0)) 3 (.int 1)) 4 (.int 99))))] := hD
  refine lv_i2l (v := 0) hx hb dL_house_7 (by decide) ?_
  refine k_last C hP hD hS 0 rfl (k_in (by decide)) dL_house_8 (fun H locs hP hD hS => ?_)
  have hP : va_P G.1 vwCl [(aout, .inl (G.2.2.2.2, 1, .inr (.inl (vp_updL fJ 0 0)))), (h0, .inr (11, ofL 17 (updV (updV (updV (updV (updV (updV Fh0 13 (.int 0)) 14 (.int (-1))) 4 (.ref ap)) 3 (.ref asp)) 15 (.int 0)) 16 (.int 0)))), (ad, .inr (1, ofL 10 (updV Fad 7 (.ref asp)))), (atp, .inl (G.2.1, 700, .inl f0)), (ar, .inr (8, ofL 5 (updV (updV Far 3 (.int 0)) 4 (.int 0)))), (apa, .inr (6, ofL 11 (updV (updV (updV (updV (updV (updV (updV (updV (updV (updV (updV Fapa 1 (.ref asp)) 2 (.int 0)) 3 (.int 0)) 7 (.int 0)) 8 (.int (-1))) 9 (.int 0)) 10 (.int 0)) 4 (.int 0)) 5 (.int 0)) 6 (.int 0)) 4 (.int 0)))), (ah, .inr (3, ofL 12 (updV (updV (updV Fah 9 (.int 0)) 10 (.int 0)) 11 (.int (-1))))), (asp, .inr (7, ofL 5 (updV (updV (updV Fasp 2 (.int 0)) 3 (.int 1)) 4 (.int 99))))] H := hP
  have hD : va_D A [(aout, .inl (G.2.2.2.2, 1, .inr (.inl (vp_updL fJ 0 0)))), (h0, .inr (11, ofL 17 (updV (updV (updV (updV (updV (updV Fh0 13 (.int 0)) 14 (.int (-1))) 4 (.ref ap)) 3 (.ref asp)) 15 (.int 0)) 16 (.int 0)))), (ad, .inr (1, ofL 10 (updV Fad 7 (.ref asp)))), (atp, .inl (G.2.1, 700, .inl f0)), (ar, .inr (8, ofL 5 (updV (updV Far 3 (.int 0)) 4 (.int 0)))), (apa, .inr (6, ofL 11 (updV (updV (updV (updV (updV (updV (updV (updV (updV (updV (updV Fapa 1 (.ref asp)) 2 (.int 0)) 3 (.int 0)) 7 (.int 0)) 8 (.int (-1))) 9 (.int 0)) 10 (.int 0)) 4 (.int 0)) 5 (.int 0)) 6 (.int 0)) 4 (.int 0)))), (ah, .inr (3, ofL 12 (updV (updV (updV Fah 9 (.int 0)) 10 (.int 0)) 11 (.int (-1))))), (asp, .inr (7, ofL 5 (updV (updV (updV Fasp 2 (.int 0)) 3 (.int 1)) 4 (.int 99))))] := hD
  refine lv_goto (tgt := 15) hx hb dL_house_9 (by decide) ?_
  refine lv_iconst (v := 0) hx hb dL_house_15 (by decide) ?_
  exact k_iret C hr hlk hP hD hS 2 (Or.inr (Or.inr (⟨rfl, rfl, c_7, c_8, rfl⟩))) [0, 1, 2, 3, 4, 5, 6, 7] rfl rfl (Nat.le_of_ble_eq_true rfl) (Nat.le_of_ble_eq_true rfl) dL_house_16
set_option maxHeartbeats 4000000 in
set_option maxRecDepth 100000 in
theorem c_L_count (l : Launch) (hst : l.stackTraces = false) (G : kG) (sz : Nat) (h0 : Nat) (n0 : Int32) (aout : Nat) (Fh0 : Nat → Value) (arf : Nat) (ap : Nat) (ah : Nat) (ad : Nat) (Fap : Nat → Value) (ar : Nat) (Far : Nat → Value) (Fah : Nat → Value) (Fad : Nat → Value) (fJ : Nat → Int64) (e_h0_3 : Fh0 3 = .ref ap) (e_h0_6 : Fh0 6 = .ref ah) (e_h0_8 : Fh0 8 = .ref ad) (e_h0_13 : Fh0 13 = .int 0) (e_h0_1 : Fh0 1 = .ref arf) (e_ap_1 : Fap 1 = .ref ar) (e_ap_2 : Fap 2 = .int 0) (e_ap_3 : Fap 3 = .int 1) (e_ap_4 : Fap 4 = .int 99) (e_ar_3 : Far 3 = .int 0) (e_ah_9 : Fah 9 = .int 0) (e_ah_10 : Fah 10 = .int 0) (e_ah_11 : Fah 11 = .int (-1)) (e_ad_7 : Fad 7 = .ref ap) : kMH l yL_count cL_count 4 (some .int) [(0, 9, 12, 18)] { frames := 9, cells := 1, slots := 6, locals := 174 } G [.ref h0, .int n0, .ref aout] [(h0, .inr (11, ofL 17 Fh0)), (ap, .inr (7, ofL 5 Fap)), (ar, .inr (8, ofL 5 Far)), (ah, .inr (3, ofL 12 Fah)), (ad, .inr (1, ofL 10 Fad)), (arf, .inl (G.2.1, 3, .inl (fun _ => 0))), (aout, .inl (G.2.2.2.2, 1, .inr (.inl fJ)))] sz (kQi G (S := Nat) (fun r u => (u = 0 ∧ r = 1 ∧ n0 < 0) ∨ (u = 1 ∧ r = 1 ∧ ¬ n0 < 0 ∧ ¬ n0 < 15) ∨ (u = 2 ∧ r = 0 ∧ ¬ n0 < 0 ∧ n0 < 15 ∧ n0 = 0) ∨ (u = 3 ∧ r = 0 ∧ ¬ n0 < 0 ∧ n0 < 15 ∧ n0 = 1) ∨ (u = 4 ∧ r = 0 ∧ ¬ n0 < 0 ∧ n0 < 15 ∧ n0 = 2) ∨ (u = 5 ∧ r = 0 ∧ ¬ n0 < 0 ∧ n0 < 15 ∧ n0 = 3) ∨ (u = 6 ∧ r = 0 ∧ ¬ n0 < 0 ∧ n0 < 15 ∧ n0 = 4) ∨ (u = 7 ∧ r = 0 ∧ ¬ n0 < 0 ∧ n0 < 15 ∧ n0 = 5) ∨ (u = 8 ∧ r = 0 ∧ ¬ n0 < 0 ∧ n0 < 15 ∧ n0 = 6) ∨ (u = 9 ∧ r = 0 ∧ ¬ n0 < 0 ∧ n0 < 15 ∧ n0 = 7) ∨ (u = 10 ∧ r = 0 ∧ ¬ n0 < 0 ∧ n0 < 15 ∧ n0 = 8) ∨ (u = 11 ∧ r = 0 ∧ ¬ n0 < 0 ∧ n0 < 15 ∧ n0 = 9) ∨ (u = 12 ∧ r = 0 ∧ ¬ n0 < 0 ∧ n0 < 15 ∧ n0 = 10) ∨ (u = 13 ∧ r = 0 ∧ ¬ n0 < 0 ∧ n0 < 15 ∧ n0 = 11) ∨ (u = 14 ∧ r = 0 ∧ ¬ n0 < 0 ∧ n0 < 15 ∧ n0 = 12) ∨ (u = 15 ∧ r = 0 ∧ ¬ n0 < 0 ∧ n0 < 15 ∧ n0 = 13) ∨ (u = 16 ∧ r = 0 ∧ ¬ n0 < 0 ∧ n0 < 15 ∧ n0 = 14)) (fun u => match u with | 0 => [(aout, .inl (G.2.2.2.2, 1, .inr (.inl fJ))), (h0, .inr (11, ofL 17 Fh0)), (ap, .inr (7, ofL 5 Fap)), (ar, .inr (8, ofL 5 Far)), (ah, .inr (3, ofL 12 Fah)), (ad, .inr (1, ofL 10 Fad)), (arf, .inl (G.2.1, 3, .inl (fun _ => 0)))] | 1 => [(aout, .inl (G.2.2.2.2, 1, .inr (.inl fJ))), (h0, .inr (11, ofL 17 Fh0)), (ap, .inr (7, ofL 5 Fap)), (ar, .inr (8, ofL 5 Far)), (ah, .inr (3, ofL 12 Fah)), (ad, .inr (1, ofL 10 Fad)), (arf, .inl (G.2.1, 3, .inl (fun _ => 0)))] | 2 => [(aout, .inl (G.2.2.2.2, 1, .inr (.inl (vp_updL fJ 0 0)))), (h0, .inr (11, ofL 17 Fh0)), (ap, .inr (7, ofL 5 Fap)), (ar, .inr (8, ofL 5 Far)), (ah, .inr (3, ofL 12 Fah)), (ad, .inr (1, ofL 10 Fad)), (arf, .inl (G.2.1, 3, .inl (fun _ => 0)))] | 3 => [(aout, .inl (G.2.2.2.2, 1, .inr (.inl (vp_updL fJ 0 0)))), (h0, .inr (11, ofL 17 Fh0)), (ap, .inr (7, ofL 5 Fap)), (ar, .inr (8, ofL 5 Far)), (ah, .inr (3, ofL 12 Fah)), (ad, .inr (1, ofL 10 Fad)), (arf, .inl (G.2.1, 3, .inl (fun _ => 0)))] | 4 => [(aout, .inl (G.2.2.2.2, 1, .inr (.inl (vp_updL fJ 0 (-1))))), (h0, .inr (11, ofL 17 Fh0)), (ap, .inr (7, ofL 5 Fap)), (ar, .inr (8, ofL 5 Far)), (ah, .inr (3, ofL 12 Fah)), (ad, .inr (1, ofL 10 Fad)), (arf, .inl (G.2.1, 3, .inl (fun _ => 0)))] | 5 => [(aout, .inl (G.2.2.2.2, 1, .inr (.inl (vp_updL fJ 0 1)))), (h0, .inr (11, ofL 17 Fh0)), (ap, .inr (7, ofL 5 Fap)), (ar, .inr (8, ofL 5 Far)), (ah, .inr (3, ofL 12 Fah)), (ad, .inr (1, ofL 10 Fad)), (arf, .inl (G.2.1, 3, .inl (fun _ => 0)))] | 6 => [(aout, .inl (G.2.2.2.2, 1, .inr (.inl (vp_updL fJ 0 99)))), (h0, .inr (11, ofL 17 Fh0)), (ap, .inr (7, ofL 5 Fap)), (ar, .inr (8, ofL 5 Far)), (ah, .inr (3, ofL 12 Fah)), (ad, .inr (1, ofL 10 Fad)), (arf, .inl (G.2.1, 3, .inl (fun _ => 0)))] | 7 => [(aout, .inl (G.2.2.2.2, 1, .inr (.inl (vp_updL fJ 0 0)))), (h0, .inr (11, ofL 17 Fh0)), (ap, .inr (7, ofL 5 Fap)), (ar, .inr (8, ofL 5 Far)), (ah, .inr (3, ofL 12 Fah)), (ad, .inr (1, ofL 10 Fad)), (arf, .inl (G.2.1, 3, .inl (fun _ => 0)))] | 8 => [(aout, .inl (G.2.2.2.2, 1, .inr (.inl (vp_updL fJ 0 0)))), (h0, .inr (11, ofL 17 Fh0)), (ap, .inr (7, ofL 5 Fap)), (ar, .inr (8, ofL 5 Far)), (ah, .inr (3, ofL 12 Fah)), (ad, .inr (1, ofL 10 Fad)), (arf, .inl (G.2.1, 3, .inl (fun _ => 0)))] | 9 => [(aout, .inl (G.2.2.2.2, 1, .inr (.inl (vp_updL fJ 0 0)))), (ar, .inr (8, ofL 5 Far)), (ah, .inr (3, ofL 12 Fah)), (arf, .inl (G.2.1, 3, .inl (fun _ => 0))), (h0, .inr (11, ofL 17 Fh0)), (ad, .inr (1, ofL 10 Fad)), (ap, .inr (7, ofL 5 Fap))] | 10 => [(aout, .inl (G.2.2.2.2, 1, .inr (.inl (vp_updL fJ 0 0)))), (h0, .inr (11, ofL 17 Fh0)), (ap, .inr (7, ofL 5 Fap)), (ar, .inr (8, ofL 5 Far)), (ah, .inr (3, ofL 12 Fah)), (ad, .inr (1, ofL 10 Fad)), (arf, .inl (G.2.1, 3, .inl (fun _ => 0)))] | 11 => [(aout, .inl (G.2.2.2.2, 1, .inr (.inl (vp_updL fJ 0 0)))), (h0, .inr (11, ofL 17 Fh0)), (ap, .inr (7, ofL 5 Fap)), (ar, .inr (8, ofL 5 Far)), (ah, .inr (3, ofL 12 Fah)), (ad, .inr (1, ofL 10 Fad)), (arf, .inl (G.2.1, 3, .inl (fun _ => 0)))] | 12 => [(aout, .inl (G.2.2.2.2, 1, .inr (.inl (vp_updL fJ 0 0)))), (h0, .inr (11, ofL 17 Fh0)), (ap, .inr (7, ofL 5 Fap)), (ar, .inr (8, ofL 5 Far)), (ah, .inr (3, ofL 12 Fah)), (ad, .inr (1, ofL 10 Fad)), (arf, .inl (G.2.1, 3, .inl (fun _ => 0)))] | 13 => [(aout, .inl (G.2.2.2.2, 1, .inr (.inl (vp_updL fJ 0 0)))), (h0, .inr (11, ofL 17 Fh0)), (ap, .inr (7, ofL 5 Fap)), (ar, .inr (8, ofL 5 Far)), (ah, .inr (3, ofL 12 Fah)), (ad, .inr (1, ofL 10 Fad)), (arf, .inl (G.2.1, 3, .inl (fun _ => 0)))] | 14 => [(aout, .inl (G.2.2.2.2, 1, .inr (.inl (vp_updL fJ 0 0)))), (ar, .inr (8, ofL 5 Far)), (ah, .inr (3, ofL 12 Fah)), (arf, .inl (G.2.1, 3, .inl (fun _ => 0))), (h0, .inr (11, ofL 17 Fh0)), (ad, .inr (1, ofL 10 Fad)), (ap, .inr (7, ofL 5 Fap))] | 15 => [(aout, .inl (G.2.2.2.2, 1, .inr (.inl (vp_updL fJ 0 0)))), (ar, .inr (8, ofL 5 Far)), (ah, .inr (3, ofL 12 Fah)), (arf, .inl (G.2.1, 3, .inl (fun _ => 0))), (h0, .inr (11, ofL 17 Fh0)), (ad, .inr (1, ofL 10 Fad)), (ap, .inr (7, ofL 5 Fap))] | _ => [(aout, .inl (G.2.2.2.2, 1, .inr (.inl (vp_updL fJ 0 0)))), (ar, .inr (8, ofL 5 Far)), (ah, .inr (3, ofL 12 Fah)), (arf, .inl (G.2.1, 3, .inl (fun _ => 0))), (h0, .inr (11, ofL 17 Fh0)), (ad, .inr (1, ofL 10 Fad)), (ap, .inr (7, ofL 5 Fap))])) := by
  refine kMH.of (by decide) (Nat.le_of_ble_eq_true rfl) ?_
  intro p e s m below meth c A ls H C hr hlk htab hP hD hS hl
  have C : kC G p s m c cL_count 4 RL A := C
  have hx := C.1
  have hb := C.2.1
  have hl : lv_has ls 4 [(0, .ref h0), (1, .int n0), (2, .ref aout)] := hl
  refine lv_aload_n hx hb dL_count_0 rfl (lv_at hl 2 rfl) ?_
  refine lv_iconst (v := 0) hx hb dL_count_1 (by decide) ?_
  refine lv_aload_n hx hb dL_count_2 rfl (lv_at hl 0 rfl) ?_
  refine lv_iload_n hx hb dL_count_3 rfl (lv_at hl 1 rfl) ?_
  refine k_xcallVi (wr := [(aout, .inl (G.2.2.2.2, 1, .inr (.inl fJ)))]) (rest := [.int 0, .ref aout]) li_L_15 C (c_X11_count l hst G H.size h0 n0 Fh0 arf ap ah ad Fap ar Far Fah Fad e_h0_3 e_h0_6 e_h0_8 e_h0_13 e_h0_1 e_ap_1 e_ap_2 e_ap_3 e_ap_4 e_ar_3 e_ah_9 e_ah_10 e_ah_11 e_ad_7) (kR rfl) hP hD hS [0, 1, 2, 3, 4, 5] [6] rfl rfl rfl rfl (by decide) 0 11 rfl rfl rfl hl.1 rfl (Nat.le_of_ble_eq_true rfl) dL_count_4 (fun E ce q9 uu3 H locs hw1 hP hD hS hc1 hc2 hc3 => ?_) (fun rr2 uu3 H locs hw1 hP hD hS => ?_)
  ·
    rcases hw1 with ⟨rfl, rfl, c_4⟩ | ⟨rfl, rfl, c_5, c_6⟩
    ·
      have hP : va_P G.1 vwCl [(aout, .inl (G.2.2.2.2, 1, .inr (.inl fJ))), (h0, .inr (11, ofL 17 Fh0)), (ap, .inr (7, ofL 5 Fap)), (ar, .inr (8, ofL 5 Far)), (ah, .inr (3, ofL 12 Fah)), (ad, .inr (1, ofL 10 Fad)), (arf, .inl (G.2.1, 3, .inl (fun _ => 0)))] H := hP
      have hD : va_D A [(aout, .inl (G.2.2.2.2, 1, .inr (.inl fJ))), (h0, .inr (11, ofL 17 Fh0)), (ap, .inr (7, ofL 5 Fap)), (ar, .inr (8, ofL 5 Far)), (ah, .inr (3, ofL 12 Fah)), (ad, .inr (1, ofL 10 Fad)), (arf, .inl (G.2.1, 3, .inl (fun _ => 0)))] := hD
      refine k_catch1 C htab (by decide) (by decide) tw_992 tw_1002 hc1 hc2 hc3 ?_
      refine lv_astore_n (lv' := [(3, .ref q9), (0, .ref h0), (1, .int n0), (2, .ref aout)]) hx hb dL_count_12 rfl hl (by decide) rfl (fun ls hl => ?_)
      refine lv_iconst (v := 1) hx hb dL_count_13 (by decide) ?_
      exact k_iret C hr hlk hP hD hS 0 (Or.inl ⟨rfl, rfl, c_4⟩) [0, 1, 2, 3, 4, 5, 6] rfl rfl (Nat.le_of_ble_eq_true rfl) (Nat.le_of_ble_eq_true rfl) dL_count_14
    ·
      have hP : va_P G.1 vwCl [(aout, .inl (G.2.2.2.2, 1, .inr (.inl fJ))), (h0, .inr (11, ofL 17 Fh0)), (ap, .inr (7, ofL 5 Fap)), (ar, .inr (8, ofL 5 Far)), (ah, .inr (3, ofL 12 Fah)), (ad, .inr (1, ofL 10 Fad)), (arf, .inl (G.2.1, 3, .inl (fun _ => 0)))] H := hP
      have hD : va_D A [(aout, .inl (G.2.2.2.2, 1, .inr (.inl fJ))), (h0, .inr (11, ofL 17 Fh0)), (ap, .inr (7, ofL 5 Fap)), (ar, .inr (8, ofL 5 Far)), (ah, .inr (3, ofL 12 Fah)), (ad, .inr (1, ofL 10 Fad)), (arf, .inl (G.2.1, 3, .inl (fun _ => 0)))] := hD
      refine k_catch1 C htab (by decide) (by decide) tw_992 tw_1002 hc1 hc2 hc3 ?_
      refine lv_astore_n (lv' := [(3, .ref q9), (0, .ref h0), (1, .int n0), (2, .ref aout)]) hx hb dL_count_12 rfl hl (by decide) rfl (fun ls hl => ?_)
      refine lv_iconst (v := 1) hx hb dL_count_13 (by decide) ?_
      exact k_iret C hr hlk hP hD hS 1 (Or.inr (Or.inl ⟨rfl, rfl, c_5, c_6⟩)) [0, 1, 2, 3, 4, 5, 6] rfl rfl (Nat.le_of_ble_eq_true rfl) (Nat.le_of_ble_eq_true rfl) dL_count_14
  rcases hw1 with ⟨rfl, rfl, c_7, c_8, rfl⟩ | ⟨rfl, rfl, c_9, c_10, rfl⟩ | ⟨rfl, rfl, c_11, c_12, rfl⟩ | ⟨rfl, rfl, c_13, c_14, rfl⟩ | ⟨rfl, rfl, c_15, c_16, rfl⟩ | ⟨rfl, rfl, c_17, c_18, rfl⟩ | ⟨rfl, rfl, c_19, c_20, rfl⟩ | ⟨rfl, rfl, c_21, c_22, rfl⟩ | ⟨rfl, rfl, c_23, c_24, rfl⟩ | ⟨rfl, rfl, c_25, c_26, rfl⟩ | ⟨rfl, rfl, c_27, c_28, rfl⟩ | ⟨rfl, rfl, c_29, c_30, rfl⟩ | ⟨rfl, rfl, c_31, c_32, rfl⟩ | ⟨rfl, rfl, c_33, c_34, rfl⟩ | ⟨rfl, rfl, c_35, c_36, rfl⟩
  ·
    have hP : va_P G.1 vwCl [(aout, .inl (G.2.2.2.2, 1, .inr (.inl fJ))), (h0, .inr (11, ofL 17 Fh0)), (ap, .inr (7, ofL 5 Fap)), (ar, .inr (8, ofL 5 Far)), (ah, .inr (3, ofL 12 Fah)), (ad, .inr (1, ofL 10 Fad)), (arf, .inl (G.2.1, 3, .inl (fun _ => 0)))] H := hP
    have hD : va_D A [(aout, .inl (G.2.2.2.2, 1, .inr (.inl fJ))), (h0, .inr (11, ofL 17 Fh0)), (ap, .inr (7, ofL 5 Fap)), (ar, .inr (8, ofL 5 Far)), (ah, .inr (3, ofL 12 Fah)), (ad, .inr (1, ofL 10 Fad)), (arf, .inl (G.2.1, 3, .inl (fun _ => 0)))] := hD
    refine lv_i2l (v := 0) hx hb dL_count_7 (by decide) ?_
    refine k_last C hP hD hS 0 rfl (k_in (by decide)) dL_count_8 (fun H locs hP hD hS => ?_)
    have hP : va_P G.1 vwCl [(aout, .inl (G.2.2.2.2, 1, .inr (.inl (vp_updL fJ 0 0)))), (h0, .inr (11, ofL 17 Fh0)), (ap, .inr (7, ofL 5 Fap)), (ar, .inr (8, ofL 5 Far)), (ah, .inr (3, ofL 12 Fah)), (ad, .inr (1, ofL 10 Fad)), (arf, .inl (G.2.1, 3, .inl (fun _ => 0)))] H := hP
    have hD : va_D A [(aout, .inl (G.2.2.2.2, 1, .inr (.inl (vp_updL fJ 0 0)))), (h0, .inr (11, ofL 17 Fh0)), (ap, .inr (7, ofL 5 Fap)), (ar, .inr (8, ofL 5 Far)), (ah, .inr (3, ofL 12 Fah)), (ad, .inr (1, ofL 10 Fad)), (arf, .inl (G.2.1, 3, .inl (fun _ => 0)))] := hD
    refine lv_goto (tgt := 15) hx hb dL_count_9 (by decide) ?_
    refine lv_iconst (v := 0) hx hb dL_count_15 (by decide) ?_
    exact k_iret C hr hlk hP hD hS 2 (Or.inr (Or.inr (Or.inl ⟨rfl, rfl, c_7, c_8, rfl⟩))) [0, 1, 2, 3, 4, 5, 6] rfl rfl (Nat.le_of_ble_eq_true rfl) (Nat.le_of_ble_eq_true rfl) dL_count_16
  ·
    have hP : va_P G.1 vwCl [(aout, .inl (G.2.2.2.2, 1, .inr (.inl fJ))), (h0, .inr (11, ofL 17 Fh0)), (ap, .inr (7, ofL 5 Fap)), (ar, .inr (8, ofL 5 Far)), (ah, .inr (3, ofL 12 Fah)), (ad, .inr (1, ofL 10 Fad)), (arf, .inl (G.2.1, 3, .inl (fun _ => 0)))] H := hP
    have hD : va_D A [(aout, .inl (G.2.2.2.2, 1, .inr (.inl fJ))), (h0, .inr (11, ofL 17 Fh0)), (ap, .inr (7, ofL 5 Fap)), (ar, .inr (8, ofL 5 Far)), (ah, .inr (3, ofL 12 Fah)), (ad, .inr (1, ofL 10 Fad)), (arf, .inl (G.2.1, 3, .inl (fun _ => 0)))] := hD
    refine lv_i2l (v := 0) hx hb dL_count_7 (by decide) ?_
    refine k_last C hP hD hS 0 rfl (k_in (by decide)) dL_count_8 (fun H locs hP hD hS => ?_)
    have hP : va_P G.1 vwCl [(aout, .inl (G.2.2.2.2, 1, .inr (.inl (vp_updL fJ 0 0)))), (h0, .inr (11, ofL 17 Fh0)), (ap, .inr (7, ofL 5 Fap)), (ar, .inr (8, ofL 5 Far)), (ah, .inr (3, ofL 12 Fah)), (ad, .inr (1, ofL 10 Fad)), (arf, .inl (G.2.1, 3, .inl (fun _ => 0)))] H := hP
    have hD : va_D A [(aout, .inl (G.2.2.2.2, 1, .inr (.inl (vp_updL fJ 0 0)))), (h0, .inr (11, ofL 17 Fh0)), (ap, .inr (7, ofL 5 Fap)), (ar, .inr (8, ofL 5 Far)), (ah, .inr (3, ofL 12 Fah)), (ad, .inr (1, ofL 10 Fad)), (arf, .inl (G.2.1, 3, .inl (fun _ => 0)))] := hD
    refine lv_goto (tgt := 15) hx hb dL_count_9 (by decide) ?_
    refine lv_iconst (v := 0) hx hb dL_count_15 (by decide) ?_
    exact k_iret C hr hlk hP hD hS 3 (Or.inr (Or.inr (Or.inr (Or.inl ⟨rfl, rfl, c_9, c_10, rfl⟩)))) [0, 1, 2, 3, 4, 5, 6] rfl rfl (Nat.le_of_ble_eq_true rfl) (Nat.le_of_ble_eq_true rfl) dL_count_16
  ·
    have hP : va_P G.1 vwCl [(aout, .inl (G.2.2.2.2, 1, .inr (.inl fJ))), (h0, .inr (11, ofL 17 Fh0)), (ap, .inr (7, ofL 5 Fap)), (ar, .inr (8, ofL 5 Far)), (ah, .inr (3, ofL 12 Fah)), (ad, .inr (1, ofL 10 Fad)), (arf, .inl (G.2.1, 3, .inl (fun _ => 0)))] H := hP
    have hD : va_D A [(aout, .inl (G.2.2.2.2, 1, .inr (.inl fJ))), (h0, .inr (11, ofL 17 Fh0)), (ap, .inr (7, ofL 5 Fap)), (ar, .inr (8, ofL 5 Far)), (ah, .inr (3, ofL 12 Fah)), (ad, .inr (1, ofL 10 Fad)), (arf, .inl (G.2.1, 3, .inl (fun _ => 0)))] := hD
    refine lv_i2l (v := -1) hx hb dL_count_7 (by decide) ?_
    refine k_last C hP hD hS 0 rfl (k_in (by decide)) dL_count_8 (fun H locs hP hD hS => ?_)
    have hP : va_P G.1 vwCl [(aout, .inl (G.2.2.2.2, 1, .inr (.inl (vp_updL fJ 0 (-1))))), (h0, .inr (11, ofL 17 Fh0)), (ap, .inr (7, ofL 5 Fap)), (ar, .inr (8, ofL 5 Far)), (ah, .inr (3, ofL 12 Fah)), (ad, .inr (1, ofL 10 Fad)), (arf, .inl (G.2.1, 3, .inl (fun _ => 0)))] H := hP
    have hD : va_D A [(aout, .inl (G.2.2.2.2, 1, .inr (.inl (vp_updL fJ 0 (-1))))), (h0, .inr (11, ofL 17 Fh0)), (ap, .inr (7, ofL 5 Fap)), (ar, .inr (8, ofL 5 Far)), (ah, .inr (3, ofL 12 Fah)), (ad, .inr (1, ofL 10 Fad)), (arf, .inl (G.2.1, 3, .inl (fun _ => 0)))] := hD
    refine lv_goto (tgt := 15) hx hb dL_count_9 (by decide) ?_
    refine lv_iconst (v := 0) hx hb dL_count_15 (by decide) ?_
    exact k_iret C hr hlk hP hD hS 4 (Or.inr (Or.inr (Or.inr (Or.inr (Or.inl ⟨rfl, rfl, c_11, c_12, rfl⟩))))) [0, 1, 2, 3, 4, 5, 6] rfl rfl (Nat.le_of_ble_eq_true rfl) (Nat.le_of_ble_eq_true rfl) dL_count_16
  ·
    have hP : va_P G.1 vwCl [(aout, .inl (G.2.2.2.2, 1, .inr (.inl fJ))), (h0, .inr (11, ofL 17 Fh0)), (ap, .inr (7, ofL 5 Fap)), (ar, .inr (8, ofL 5 Far)), (ah, .inr (3, ofL 12 Fah)), (ad, .inr (1, ofL 10 Fad)), (arf, .inl (G.2.1, 3, .inl (fun _ => 0)))] H := hP
    have hD : va_D A [(aout, .inl (G.2.2.2.2, 1, .inr (.inl fJ))), (h0, .inr (11, ofL 17 Fh0)), (ap, .inr (7, ofL 5 Fap)), (ar, .inr (8, ofL 5 Far)), (ah, .inr (3, ofL 12 Fah)), (ad, .inr (1, ofL 10 Fad)), (arf, .inl (G.2.1, 3, .inl (fun _ => 0)))] := hD
    refine lv_i2l (v := 1) hx hb dL_count_7 (by decide) ?_
    refine k_last C hP hD hS 0 rfl (k_in (by decide)) dL_count_8 (fun H locs hP hD hS => ?_)
    have hP : va_P G.1 vwCl [(aout, .inl (G.2.2.2.2, 1, .inr (.inl (vp_updL fJ 0 1)))), (h0, .inr (11, ofL 17 Fh0)), (ap, .inr (7, ofL 5 Fap)), (ar, .inr (8, ofL 5 Far)), (ah, .inr (3, ofL 12 Fah)), (ad, .inr (1, ofL 10 Fad)), (arf, .inl (G.2.1, 3, .inl (fun _ => 0)))] H := hP
    have hD : va_D A [(aout, .inl (G.2.2.2.2, 1, .inr (.inl (vp_updL fJ 0 1)))), (h0, .inr (11, ofL 17 Fh0)), (ap, .inr (7, ofL 5 Fap)), (ar, .inr (8, ofL 5 Far)), (ah, .inr (3, ofL 12 Fah)), (ad, .inr (1, ofL 10 Fad)), (arf, .inl (G.2.1, 3, .inl (fun _ => 0)))] := hD
    refine lv_goto (tgt := 15) hx hb dL_count_9 (by decide) ?_
    refine lv_iconst (v := 0) hx hb dL_count_15 (by decide) ?_
    exact k_iret C hr hlk hP hD hS 5 (Or.inr (Or.inr (Or.inr (Or.inr (Or.inr (Or.inl ⟨rfl, rfl, c_13, c_14, rfl⟩)))))) [0, 1, 2, 3, 4, 5, 6] rfl rfl (Nat.le_of_ble_eq_true rfl) (Nat.le_of_ble_eq_true rfl) dL_count_16
  ·
    have hP : va_P G.1 vwCl [(aout, .inl (G.2.2.2.2, 1, .inr (.inl fJ))), (h0, .inr (11, ofL 17 Fh0)), (ap, .inr (7, ofL 5 Fap)), (ar, .inr (8, ofL 5 Far)), (ah, .inr (3, ofL 12 Fah)), (ad, .inr (1, ofL 10 Fad)), (arf, .inl (G.2.1, 3, .inl (fun _ => 0)))] H := hP
    have hD : va_D A [(aout, .inl (G.2.2.2.2, 1, .inr (.inl fJ))), (h0, .inr (11, ofL 17 Fh0)), (ap, .inr (7, ofL 5 Fap)), (ar, .inr (8, ofL 5 Far)), (ah, .inr (3, ofL 12 Fah)), (ad, .inr (1, ofL 10 Fad)), (arf, .inl (G.2.1, 3, .inl (fun _ => 0)))] := hD
    refine lv_i2l (v := 99) hx hb dL_count_7 (by decide) ?_
    refine k_last C hP hD hS 0 rfl (k_in (by decide)) dL_count_8 (fun H locs hP hD hS => ?_)
    have hP : va_P G.1 vwCl [(aout, .inl (G.2.2.2.2, 1, .inr (.inl (vp_updL fJ 0 99)))), (h0, .inr (11, ofL 17 Fh0)), (ap, .inr (7, ofL 5 Fap)), (ar, .inr (8, ofL 5 Far)), (ah, .inr (3, ofL 12 Fah)), (ad, .inr (1, ofL 10 Fad)), (arf, .inl (G.2.1, 3, .inl (fun _ => 0)))] H := hP
    have hD : va_D A [(aout, .inl (G.2.2.2.2, 1, .inr (.inl (vp_updL fJ 0 99)))), (h0, .inr (11, ofL 17 Fh0)), (ap, .inr (7, ofL 5 Fap)), (ar, .inr (8, ofL 5 Far)), (ah, .inr (3, ofL 12 Fah)), (ad, .inr (1, ofL 10 Fad)), (arf, .inl (G.2.1, 3, .inl (fun _ => 0)))] := hD
    refine lv_goto (tgt := 15) hx hb dL_count_9 (by decide) ?_
    refine lv_iconst (v := 0) hx hb dL_count_15 (by decide) ?_
    exact k_iret C hr hlk hP hD hS 6 (Or.inr (Or.inr (Or.inr (Or.inr (Or.inr (Or.inr (Or.inl ⟨rfl, rfl, c_15, c_16, rfl⟩))))))) [0, 1, 2, 3, 4, 5, 6] rfl rfl (Nat.le_of_ble_eq_true rfl) (Nat.le_of_ble_eq_true rfl) dL_count_16
  ·
    have hP : va_P G.1 vwCl [(aout, .inl (G.2.2.2.2, 1, .inr (.inl fJ))), (h0, .inr (11, ofL 17 Fh0)), (ap, .inr (7, ofL 5 Fap)), (ar, .inr (8, ofL 5 Far)), (ah, .inr (3, ofL 12 Fah)), (ad, .inr (1, ofL 10 Fad)), (arf, .inl (G.2.1, 3, .inl (fun _ => 0)))] H := hP
    have hD : va_D A [(aout, .inl (G.2.2.2.2, 1, .inr (.inl fJ))), (h0, .inr (11, ofL 17 Fh0)), (ap, .inr (7, ofL 5 Fap)), (ar, .inr (8, ofL 5 Far)), (ah, .inr (3, ofL 12 Fah)), (ad, .inr (1, ofL 10 Fad)), (arf, .inl (G.2.1, 3, .inl (fun _ => 0)))] := hD
    refine lv_i2l (v := 0) hx hb dL_count_7 (by decide) ?_
    refine k_last C hP hD hS 0 rfl (k_in (by decide)) dL_count_8 (fun H locs hP hD hS => ?_)
    have hP : va_P G.1 vwCl [(aout, .inl (G.2.2.2.2, 1, .inr (.inl (vp_updL fJ 0 0)))), (h0, .inr (11, ofL 17 Fh0)), (ap, .inr (7, ofL 5 Fap)), (ar, .inr (8, ofL 5 Far)), (ah, .inr (3, ofL 12 Fah)), (ad, .inr (1, ofL 10 Fad)), (arf, .inl (G.2.1, 3, .inl (fun _ => 0)))] H := hP
    have hD : va_D A [(aout, .inl (G.2.2.2.2, 1, .inr (.inl (vp_updL fJ 0 0)))), (h0, .inr (11, ofL 17 Fh0)), (ap, .inr (7, ofL 5 Fap)), (ar, .inr (8, ofL 5 Far)), (ah, .inr (3, ofL 12 Fah)), (ad, .inr (1, ofL 10 Fad)), (arf, .inl (G.2.1, 3, .inl (fun _ => 0)))] := hD
    refine lv_goto (tgt := 15) hx hb dL_count_9 (by decide) ?_
    refine lv_iconst (v := 0) hx hb dL_count_15 (by decide) ?_
    exact k_iret C hr hlk hP hD hS 7 (Or.inr (Or.inr (Or.inr (Or.inr (Or.inr (Or.inr (Or.inr (Or.inl ⟨rfl, rfl, c_17, c_18, rfl⟩)))))))) [0, 1, 2, 3, 4, 5, 6] rfl rfl (Nat.le_of_ble_eq_true rfl) (Nat.le_of_ble_eq_true rfl) dL_count_16
  ·
    have hP : va_P G.1 vwCl [(aout, .inl (G.2.2.2.2, 1, .inr (.inl fJ))), (h0, .inr (11, ofL 17 Fh0)), (ap, .inr (7, ofL 5 Fap)), (ar, .inr (8, ofL 5 Far)), (ah, .inr (3, ofL 12 Fah)), (ad, .inr (1, ofL 10 Fad)), (arf, .inl (G.2.1, 3, .inl (fun _ => 0)))] H := hP
    have hD : va_D A [(aout, .inl (G.2.2.2.2, 1, .inr (.inl fJ))), (h0, .inr (11, ofL 17 Fh0)), (ap, .inr (7, ofL 5 Fap)), (ar, .inr (8, ofL 5 Far)), (ah, .inr (3, ofL 12 Fah)), (ad, .inr (1, ofL 10 Fad)), (arf, .inl (G.2.1, 3, .inl (fun _ => 0)))] := hD
    refine lv_i2l (v := 0) hx hb dL_count_7 (by decide) ?_
    refine k_last C hP hD hS 0 rfl (k_in (by decide)) dL_count_8 (fun H locs hP hD hS => ?_)
    have hP : va_P G.1 vwCl [(aout, .inl (G.2.2.2.2, 1, .inr (.inl (vp_updL fJ 0 0)))), (h0, .inr (11, ofL 17 Fh0)), (ap, .inr (7, ofL 5 Fap)), (ar, .inr (8, ofL 5 Far)), (ah, .inr (3, ofL 12 Fah)), (ad, .inr (1, ofL 10 Fad)), (arf, .inl (G.2.1, 3, .inl (fun _ => 0)))] H := hP
    have hD : va_D A [(aout, .inl (G.2.2.2.2, 1, .inr (.inl (vp_updL fJ 0 0)))), (h0, .inr (11, ofL 17 Fh0)), (ap, .inr (7, ofL 5 Fap)), (ar, .inr (8, ofL 5 Far)), (ah, .inr (3, ofL 12 Fah)), (ad, .inr (1, ofL 10 Fad)), (arf, .inl (G.2.1, 3, .inl (fun _ => 0)))] := hD
    refine lv_goto (tgt := 15) hx hb dL_count_9 (by decide) ?_
    refine lv_iconst (v := 0) hx hb dL_count_15 (by decide) ?_
    exact k_iret C hr hlk hP hD hS 8 (Or.inr (Or.inr (Or.inr (Or.inr (Or.inr (Or.inr (Or.inr (Or.inr (Or.inl ⟨rfl, rfl, c_19, c_20, rfl⟩))))))))) [0, 1, 2, 3, 4, 5, 6] rfl rfl (Nat.le_of_ble_eq_true rfl) (Nat.le_of_ble_eq_true rfl) dL_count_16
  ·
    have hP : va_P G.1 vwCl [(aout, .inl (G.2.2.2.2, 1, .inr (.inl fJ))), (ar, .inr (8, ofL 5 Far)), (ah, .inr (3, ofL 12 Fah)), (arf, .inl (G.2.1, 3, .inl (fun _ => 0))), (h0, .inr (11, ofL 17 Fh0)), (ad, .inr (1, ofL 10 Fad)), (ap, .inr (7, ofL 5 Fap))] H := hP
    have hD : va_D A [(aout, .inl (G.2.2.2.2, 1, .inr (.inl fJ))), (ar, .inr (8, ofL 5 Far)), (ah, .inr (3, ofL 12 Fah)), (arf, .inl (G.2.1, 3, .inl (fun _ => 0))), (h0, .inr (11, ofL 17 Fh0)), (ad, .inr (1, ofL 10 Fad)), (ap, .inr (7, ofL 5 Fap))] := hD
    refine lv_i2l (v := 0) hx hb dL_count_7 (by decide) ?_
    refine k_last C hP hD hS 0 rfl (k_in (by decide)) dL_count_8 (fun H locs hP hD hS => ?_)
    have hP : va_P G.1 vwCl [(aout, .inl (G.2.2.2.2, 1, .inr (.inl (vp_updL fJ 0 0)))), (ar, .inr (8, ofL 5 Far)), (ah, .inr (3, ofL 12 Fah)), (arf, .inl (G.2.1, 3, .inl (fun _ => 0))), (h0, .inr (11, ofL 17 Fh0)), (ad, .inr (1, ofL 10 Fad)), (ap, .inr (7, ofL 5 Fap))] H := hP
    have hD : va_D A [(aout, .inl (G.2.2.2.2, 1, .inr (.inl (vp_updL fJ 0 0)))), (ar, .inr (8, ofL 5 Far)), (ah, .inr (3, ofL 12 Fah)), (arf, .inl (G.2.1, 3, .inl (fun _ => 0))), (h0, .inr (11, ofL 17 Fh0)), (ad, .inr (1, ofL 10 Fad)), (ap, .inr (7, ofL 5 Fap))] := hD
    refine lv_goto (tgt := 15) hx hb dL_count_9 (by decide) ?_
    refine lv_iconst (v := 0) hx hb dL_count_15 (by decide) ?_
    exact k_iret C hr hlk hP hD hS 9 (Or.inr (Or.inr (Or.inr (Or.inr (Or.inr (Or.inr (Or.inr (Or.inr (Or.inr (Or.inl ⟨rfl, rfl, c_21, c_22, rfl⟩)))))))))) [0, 1, 2, 3, 4, 5, 6] rfl rfl (Nat.le_of_ble_eq_true rfl) (Nat.le_of_ble_eq_true rfl) dL_count_16
  ·
    have hP : va_P G.1 vwCl [(aout, .inl (G.2.2.2.2, 1, .inr (.inl fJ))), (h0, .inr (11, ofL 17 Fh0)), (ap, .inr (7, ofL 5 Fap)), (ar, .inr (8, ofL 5 Far)), (ah, .inr (3, ofL 12 Fah)), (ad, .inr (1, ofL 10 Fad)), (arf, .inl (G.2.1, 3, .inl (fun _ => 0)))] H := hP
    have hD : va_D A [(aout, .inl (G.2.2.2.2, 1, .inr (.inl fJ))), (h0, .inr (11, ofL 17 Fh0)), (ap, .inr (7, ofL 5 Fap)), (ar, .inr (8, ofL 5 Far)), (ah, .inr (3, ofL 12 Fah)), (ad, .inr (1, ofL 10 Fad)), (arf, .inl (G.2.1, 3, .inl (fun _ => 0)))] := hD
    refine lv_i2l (v := 0) hx hb dL_count_7 (by decide) ?_
    refine k_last C hP hD hS 0 rfl (k_in (by decide)) dL_count_8 (fun H locs hP hD hS => ?_)
    have hP : va_P G.1 vwCl [(aout, .inl (G.2.2.2.2, 1, .inr (.inl (vp_updL fJ 0 0)))), (h0, .inr (11, ofL 17 Fh0)), (ap, .inr (7, ofL 5 Fap)), (ar, .inr (8, ofL 5 Far)), (ah, .inr (3, ofL 12 Fah)), (ad, .inr (1, ofL 10 Fad)), (arf, .inl (G.2.1, 3, .inl (fun _ => 0)))] H := hP
    have hD : va_D A [(aout, .inl (G.2.2.2.2, 1, .inr (.inl (vp_updL fJ 0 0)))), (h0, .inr (11, ofL 17 Fh0)), (ap, .inr (7, ofL 5 Fap)), (ar, .inr (8, ofL 5 Far)), (ah, .inr (3, ofL 12 Fah)), (ad, .inr (1, ofL 10 Fad)), (arf, .inl (G.2.1, 3, .inl (fun _ => 0)))] := hD
    refine lv_goto (tgt := 15) hx hb dL_count_9 (by decide) ?_
    refine lv_iconst (v := 0) hx hb dL_count_15 (by decide) ?_
    exact k_iret C hr hlk hP hD hS 10 (Or.inr (Or.inr (Or.inr (Or.inr (Or.inr (Or.inr (Or.inr (Or.inr (Or.inr (Or.inr (Or.inl ⟨rfl, rfl, c_23, c_24, rfl⟩))))))))))) [0, 1, 2, 3, 4, 5, 6] rfl rfl (Nat.le_of_ble_eq_true rfl) (Nat.le_of_ble_eq_true rfl) dL_count_16
  ·
    have hP : va_P G.1 vwCl [(aout, .inl (G.2.2.2.2, 1, .inr (.inl fJ))), (h0, .inr (11, ofL 17 Fh0)), (ap, .inr (7, ofL 5 Fap)), (ar, .inr (8, ofL 5 Far)), (ah, .inr (3, ofL 12 Fah)), (ad, .inr (1, ofL 10 Fad)), (arf, .inl (G.2.1, 3, .inl (fun _ => 0)))] H := hP
    have hD : va_D A [(aout, .inl (G.2.2.2.2, 1, .inr (.inl fJ))), (h0, .inr (11, ofL 17 Fh0)), (ap, .inr (7, ofL 5 Fap)), (ar, .inr (8, ofL 5 Far)), (ah, .inr (3, ofL 12 Fah)), (ad, .inr (1, ofL 10 Fad)), (arf, .inl (G.2.1, 3, .inl (fun _ => 0)))] := hD
    refine lv_i2l (v := 0) hx hb dL_count_7 (by decide) ?_
    refine k_last C hP hD hS 0 rfl (k_in (by decide)) dL_count_8 (fun H locs hP hD hS => ?_)
    have hP : va_P G.1 vwCl [(aout, .inl (G.2.2.2.2, 1, .inr (.inl (vp_updL fJ 0 0)))), (h0, .inr (11, ofL 17 Fh0)), (ap, .inr (7, ofL 5 Fap)), (ar, .inr (8, ofL 5 Far)), (ah, .inr (3, ofL 12 Fah)), (ad, .inr (1, ofL 10 Fad)), (arf, .inl (G.2.1, 3, .inl (fun _ => 0)))] H := hP
    have hD : va_D A [(aout, .inl (G.2.2.2.2, 1, .inr (.inl (vp_updL fJ 0 0)))), (h0, .inr (11, ofL 17 Fh0)), (ap, .inr (7, ofL 5 Fap)), (ar, .inr (8, ofL 5 Far)), (ah, .inr (3, ofL 12 Fah)), (ad, .inr (1, ofL 10 Fad)), (arf, .inl (G.2.1, 3, .inl (fun _ => 0)))] := hD
    refine lv_goto (tgt := 15) hx hb dL_count_9 (by decide) ?_
    refine lv_iconst (v := 0) hx hb dL_count_15 (by decide) ?_
    exact k_iret C hr hlk hP hD hS 11 (Or.inr (Or.inr (Or.inr (Or.inr (Or.inr (Or.inr (Or.inr (Or.inr (Or.inr (Or.inr (Or.inr (Or.inl ⟨rfl, rfl, c_25, c_26, rfl⟩)))))))))))) [0, 1, 2, 3, 4, 5, 6] rfl rfl (Nat.le_of_ble_eq_true rfl) (Nat.le_of_ble_eq_true rfl) dL_count_16
  ·
    have hP : va_P G.1 vwCl [(aout, .inl (G.2.2.2.2, 1, .inr (.inl fJ))), (h0, .inr (11, ofL 17 Fh0)), (ap, .inr (7, ofL 5 Fap)), (ar, .inr (8, ofL 5 Far)), (ah, .inr (3, ofL 12 Fah)), (ad, .inr (1, ofL 10 Fad)), (arf, .inl (G.2.1, 3, .inl (fun _ => 0)))] H := hP
    have hD : va_D A [(aout, .inl (G.2.2.2.2, 1, .inr (.inl fJ))), (h0, .inr (11, ofL 17 Fh0)), (ap, .inr (7, ofL 5 Fap)), (ar, .inr (8, ofL 5 Far)), (ah, .inr (3, ofL 12 Fah)), (ad, .inr (1, ofL 10 Fad)), (arf, .inl (G.2.1, 3, .inl (fun _ => 0)))] := hD
    refine lv_i2l (v := 0) hx hb dL_count_7 (by decide) ?_
    refine k_last C hP hD hS 0 rfl (k_in (by decide)) dL_count_8 (fun H locs hP hD hS => ?_)
    have hP : va_P G.1 vwCl [(aout, .inl (G.2.2.2.2, 1, .inr (.inl (vp_updL fJ 0 0)))), (h0, .inr (11, ofL 17 Fh0)), (ap, .inr (7, ofL 5 Fap)), (ar, .inr (8, ofL 5 Far)), (ah, .inr (3, ofL 12 Fah)), (ad, .inr (1, ofL 10 Fad)), (arf, .inl (G.2.1, 3, .inl (fun _ => 0)))] H := hP
    have hD : va_D A [(aout, .inl (G.2.2.2.2, 1, .inr (.inl (vp_updL fJ 0 0)))), (h0, .inr (11, ofL 17 Fh0)), (ap, .inr (7, ofL 5 Fap)), (ar, .inr (8, ofL 5 Far)), (ah, .inr (3, ofL 12 Fah)), (ad, .inr (1, ofL 10 Fad)), (arf, .inl (G.2.1, 3, .inl (fun _ => 0)))] := hD
    refine lv_goto (tgt := 15) hx hb dL_count_9 (by decide) ?_
    refine lv_iconst (v := 0) hx hb dL_count_15 (by decide) ?_
    exact k_iret C hr hlk hP hD hS 12 (Or.inr (Or.inr (Or.inr (Or.inr (Or.inr (Or.inr (Or.inr (Or.inr (Or.inr (Or.inr (Or.inr (Or.inr (Or.inl ⟨rfl, rfl, c_27, c_28, rfl⟩))))))))))))) [0, 1, 2, 3, 4, 5, 6] rfl rfl (Nat.le_of_ble_eq_true rfl) (Nat.le_of_ble_eq_true rfl) dL_count_16
  ·
    have hP : va_P G.1 vwCl [(aout, .inl (G.2.2.2.2, 1, .inr (.inl fJ))), (h0, .inr (11, ofL 17 Fh0)), (ap, .inr (7, ofL 5 Fap)), (ar, .inr (8, ofL 5 Far)), (ah, .inr (3, ofL 12 Fah)), (ad, .inr (1, ofL 10 Fad)), (arf, .inl (G.2.1, 3, .inl (fun _ => 0)))] H := hP
    have hD : va_D A [(aout, .inl (G.2.2.2.2, 1, .inr (.inl fJ))), (h0, .inr (11, ofL 17 Fh0)), (ap, .inr (7, ofL 5 Fap)), (ar, .inr (8, ofL 5 Far)), (ah, .inr (3, ofL 12 Fah)), (ad, .inr (1, ofL 10 Fad)), (arf, .inl (G.2.1, 3, .inl (fun _ => 0)))] := hD
    refine lv_i2l (v := 0) hx hb dL_count_7 (by decide) ?_
    refine k_last C hP hD hS 0 rfl (k_in (by decide)) dL_count_8 (fun H locs hP hD hS => ?_)
    have hP : va_P G.1 vwCl [(aout, .inl (G.2.2.2.2, 1, .inr (.inl (vp_updL fJ 0 0)))), (h0, .inr (11, ofL 17 Fh0)), (ap, .inr (7, ofL 5 Fap)), (ar, .inr (8, ofL 5 Far)), (ah, .inr (3, ofL 12 Fah)), (ad, .inr (1, ofL 10 Fad)), (arf, .inl (G.2.1, 3, .inl (fun _ => 0)))] H := hP
    have hD : va_D A [(aout, .inl (G.2.2.2.2, 1, .inr (.inl (vp_updL fJ 0 0)))), (h0, .inr (11, ofL 17 Fh0)), (ap, .inr (7, ofL 5 Fap)), (ar, .inr (8, ofL 5 Far)), (ah, .inr (3, ofL 12 Fah)), (ad, .inr (1, ofL 10 Fad)), (arf, .inl (G.2.1, 3, .inl (fun _ => 0)))] := hD
    refine lv_goto (tgt := 15) hx hb dL_count_9 (by decide) ?_
    refine lv_iconst (v := 0) hx hb dL_count_15 (by decide) ?_
    exact k_iret C hr hlk hP hD hS 13 (Or.inr (Or.inr (Or.inr (Or.inr (Or.inr (Or.inr (Or.inr (Or.inr (Or.inr (Or.inr (Or.inr (Or.inr (Or.inr (Or.inl ⟨rfl, rfl, c_29, c_30, rfl⟩)))))))))))))) [0, 1, 2, 3, 4, 5, 6] rfl rfl (Nat.le_of_ble_eq_true rfl) (Nat.le_of_ble_eq_true rfl) dL_count_16
  ·
    have hP : va_P G.1 vwCl [(aout, .inl (G.2.2.2.2, 1, .inr (.inl fJ))), (ar, .inr (8, ofL 5 Far)), (ah, .inr (3, ofL 12 Fah)), (arf, .inl (G.2.1, 3, .inl (fun _ => 0))), (h0, .inr (11, ofL 17 Fh0)), (ad, .inr (1, ofL 10 Fad)), (ap, .inr (7, ofL 5 Fap))] H := hP
    have hD : va_D A [(aout, .inl (G.2.2.2.2, 1, .inr (.inl fJ))), (ar, .inr (8, ofL 5 Far)), (ah, .inr (3, ofL 12 Fah)), (arf, .inl (G.2.1, 3, .inl (fun _ => 0))), (h0, .inr (11, ofL 17 Fh0)), (ad, .inr (1, ofL 10 Fad)), (ap, .inr (7, ofL 5 Fap))] := hD
    refine lv_i2l (v := 0) hx hb dL_count_7 (by decide) ?_
    refine k_last C hP hD hS 0 rfl (k_in (by decide)) dL_count_8 (fun H locs hP hD hS => ?_)
    have hP : va_P G.1 vwCl [(aout, .inl (G.2.2.2.2, 1, .inr (.inl (vp_updL fJ 0 0)))), (ar, .inr (8, ofL 5 Far)), (ah, .inr (3, ofL 12 Fah)), (arf, .inl (G.2.1, 3, .inl (fun _ => 0))), (h0, .inr (11, ofL 17 Fh0)), (ad, .inr (1, ofL 10 Fad)), (ap, .inr (7, ofL 5 Fap))] H := hP
    have hD : va_D A [(aout, .inl (G.2.2.2.2, 1, .inr (.inl (vp_updL fJ 0 0)))), (ar, .inr (8, ofL 5 Far)), (ah, .inr (3, ofL 12 Fah)), (arf, .inl (G.2.1, 3, .inl (fun _ => 0))), (h0, .inr (11, ofL 17 Fh0)), (ad, .inr (1, ofL 10 Fad)), (ap, .inr (7, ofL 5 Fap))] := hD
    refine lv_goto (tgt := 15) hx hb dL_count_9 (by decide) ?_
    refine lv_iconst (v := 0) hx hb dL_count_15 (by decide) ?_
    exact k_iret C hr hlk hP hD hS 14 (Or.inr (Or.inr (Or.inr (Or.inr (Or.inr (Or.inr (Or.inr (Or.inr (Or.inr (Or.inr (Or.inr (Or.inr (Or.inr (Or.inr (Or.inl ⟨rfl, rfl, c_31, c_32, rfl⟩))))))))))))))) [0, 1, 2, 3, 4, 5, 6] rfl rfl (Nat.le_of_ble_eq_true rfl) (Nat.le_of_ble_eq_true rfl) dL_count_16
  ·
    have hP : va_P G.1 vwCl [(aout, .inl (G.2.2.2.2, 1, .inr (.inl fJ))), (ar, .inr (8, ofL 5 Far)), (ah, .inr (3, ofL 12 Fah)), (arf, .inl (G.2.1, 3, .inl (fun _ => 0))), (h0, .inr (11, ofL 17 Fh0)), (ad, .inr (1, ofL 10 Fad)), (ap, .inr (7, ofL 5 Fap))] H := hP
    have hD : va_D A [(aout, .inl (G.2.2.2.2, 1, .inr (.inl fJ))), (ar, .inr (8, ofL 5 Far)), (ah, .inr (3, ofL 12 Fah)), (arf, .inl (G.2.1, 3, .inl (fun _ => 0))), (h0, .inr (11, ofL 17 Fh0)), (ad, .inr (1, ofL 10 Fad)), (ap, .inr (7, ofL 5 Fap))] := hD
    refine lv_i2l (v := 0) hx hb dL_count_7 (by decide) ?_
    refine k_last C hP hD hS 0 rfl (k_in (by decide)) dL_count_8 (fun H locs hP hD hS => ?_)
    have hP : va_P G.1 vwCl [(aout, .inl (G.2.2.2.2, 1, .inr (.inl (vp_updL fJ 0 0)))), (ar, .inr (8, ofL 5 Far)), (ah, .inr (3, ofL 12 Fah)), (arf, .inl (G.2.1, 3, .inl (fun _ => 0))), (h0, .inr (11, ofL 17 Fh0)), (ad, .inr (1, ofL 10 Fad)), (ap, .inr (7, ofL 5 Fap))] H := hP
    have hD : va_D A [(aout, .inl (G.2.2.2.2, 1, .inr (.inl (vp_updL fJ 0 0)))), (ar, .inr (8, ofL 5 Far)), (ah, .inr (3, ofL 12 Fah)), (arf, .inl (G.2.1, 3, .inl (fun _ => 0))), (h0, .inr (11, ofL 17 Fh0)), (ad, .inr (1, ofL 10 Fad)), (ap, .inr (7, ofL 5 Fap))] := hD
    refine lv_goto (tgt := 15) hx hb dL_count_9 (by decide) ?_
    refine lv_iconst (v := 0) hx hb dL_count_15 (by decide) ?_
    exact k_iret C hr hlk hP hD hS 15 (Or.inr (Or.inr (Or.inr (Or.inr (Or.inr (Or.inr (Or.inr (Or.inr (Or.inr (Or.inr (Or.inr (Or.inr (Or.inr (Or.inr (Or.inr (Or.inl ⟨rfl, rfl, c_33, c_34, rfl⟩)))))))))))))))) [0, 1, 2, 3, 4, 5, 6] rfl rfl (Nat.le_of_ble_eq_true rfl) (Nat.le_of_ble_eq_true rfl) dL_count_16
  ·
    have hP : va_P G.1 vwCl [(aout, .inl (G.2.2.2.2, 1, .inr (.inl fJ))), (ar, .inr (8, ofL 5 Far)), (ah, .inr (3, ofL 12 Fah)), (arf, .inl (G.2.1, 3, .inl (fun _ => 0))), (h0, .inr (11, ofL 17 Fh0)), (ad, .inr (1, ofL 10 Fad)), (ap, .inr (7, ofL 5 Fap))] H := hP
    have hD : va_D A [(aout, .inl (G.2.2.2.2, 1, .inr (.inl fJ))), (ar, .inr (8, ofL 5 Far)), (ah, .inr (3, ofL 12 Fah)), (arf, .inl (G.2.1, 3, .inl (fun _ => 0))), (h0, .inr (11, ofL 17 Fh0)), (ad, .inr (1, ofL 10 Fad)), (ap, .inr (7, ofL 5 Fap))] := hD
    refine lv_i2l (v := 0) hx hb dL_count_7 (by decide) ?_
    refine k_last C hP hD hS 0 rfl (k_in (by decide)) dL_count_8 (fun H locs hP hD hS => ?_)
    have hP : va_P G.1 vwCl [(aout, .inl (G.2.2.2.2, 1, .inr (.inl (vp_updL fJ 0 0)))), (ar, .inr (8, ofL 5 Far)), (ah, .inr (3, ofL 12 Fah)), (arf, .inl (G.2.1, 3, .inl (fun _ => 0))), (h0, .inr (11, ofL 17 Fh0)), (ad, .inr (1, ofL 10 Fad)), (ap, .inr (7, ofL 5 Fap))] H := hP
    have hD : va_D A [(aout, .inl (G.2.2.2.2, 1, .inr (.inl (vp_updL fJ 0 0)))), (ar, .inr (8, ofL 5 Far)), (ah, .inr (3, ofL 12 Fah)), (arf, .inl (G.2.1, 3, .inl (fun _ => 0))), (h0, .inr (11, ofL 17 Fh0)), (ad, .inr (1, ofL 10 Fad)), (ap, .inr (7, ofL 5 Fap))] := hD
    refine lv_goto (tgt := 15) hx hb dL_count_9 (by decide) ?_
    refine lv_iconst (v := 0) hx hb dL_count_15 (by decide) ?_
    exact k_iret C hr hlk hP hD hS 16 (Or.inr (Or.inr (Or.inr (Or.inr (Or.inr (Or.inr (Or.inr (Or.inr (Or.inr (Or.inr (Or.inr (Or.inr (Or.inr (Or.inr (Or.inr (Or.inr (⟨rfl, rfl, c_35, c_36, rfl⟩))))))))))))))))) [0, 1, 2, 3, 4, 5, 6] rfl rfl (Nat.le_of_ble_eq_true rfl) (Nat.le_of_ble_eq_true rfl) dL_count_16
set_option maxHeartbeats 4000000 in
set_option maxRecDepth 100000 in
theorem c_L_lesson (l : Launch) (hst : l.stackTraces = false) (G : kG) (sz : Nat) (h0 : Nat) (n0 : Int32) (n1 : Int32) (aout : Nat) (Fh0 : Nat → Value) (ap : Nat) (Fap : Nat → Value) (fJ : Nat → Int64) (e_h0_3 : Fh0 3 = .ref ap) (e_ap_2 : Fap 2 = .int 0) : kMH l yL_lesson cL_lesson 5 (some .int) [(0, 10, 13, 18)] { frames := 8, cells := 1, slots := 6, locals := 154 } G [.ref h0, .int n0, .int n1, .ref aout] [(h0, .inr (11, ofL 17 Fh0)), (ap, .inr (7, ofL 5 Fap)), (aout, .inl (G.2.2.2.2, 1, .inr (.inl fJ)))] sz (kQi G (S := Nat) (fun r u => (u = 0 ∧ r = 1 ∧ n0 < 0) ∨ (u = 1 ∧ r = 1 ∧ ¬ n0 < 0)) (fun u => match u with | 0 => [(aout, .inl (G.2.2.2.2, 1, .inr (.inl fJ))), (h0, .inr (11, ofL 17 Fh0)), (ap, .inr (7, ofL 5 Fap))] | _ => [(aout, .inl (G.2.2.2.2, 1, .inr (.inl fJ))), (h0, .inr (11, ofL 17 Fh0)), (ap, .inr (7, ofL 5 Fap))])) := by
  refine kMH.of (by decide) (Nat.le_of_ble_eq_true rfl) ?_
  intro p e s m below meth c A ls H C hr hlk htab hP hD hS hl
  have C : kC G p s m c cL_lesson 5 RL A := C
  have hx := C.1
  have hb := C.2.1
  have hl : lv_has ls 5 [(0, .ref h0), (1, .int n0), (2, .int n1), (3, .ref aout)] := hl
  refine lv_aload_n hx hb dL_lesson_0 rfl (lv_at hl 3 rfl) ?_
  refine lv_iconst (v := 0) hx hb dL_lesson_1 (by decide) ?_
  refine lv_aload_n hx hb dL_lesson_2 rfl (lv_at hl 0 rfl) ?_
  refine lv_iload_n hx hb dL_lesson_3 rfl (lv_at hl 1 rfl) ?_
  refine lv_iload_n hx hb dL_lesson_4 rfl (lv_at hl 2 rfl) ?_
  refine k_xcallVi (wr := [(aout, .inl (G.2.2.2.2, 1, .inr (.inl fJ)))]) (rest := [.int 0, .ref aout]) li_L_20 C (c_X11_lesson l hst G H.size h0 n0 n1 Fh0 ap Fap e_h0_3 e_ap_2) (kR rfl) hP hD hS [0, 1] [2] rfl rfl rfl rfl (by decide) 0 11 rfl rfl rfl hl.1 rfl (Nat.le_of_ble_eq_true rfl) dL_lesson_5 (fun E ce q9 uu3 H locs hw1 hP hD hS hc1 hc2 hc3 => ?_) (fun rr2 uu3 H locs hw1 hP hD hS => ?_)
  ·
    rcases hw1 with ⟨rfl, rfl, c_4⟩ | ⟨rfl, rfl, c_5⟩
    ·
      have hP : va_P G.1 vwCl [(aout, .inl (G.2.2.2.2, 1, .inr (.inl fJ))), (h0, .inr (11, ofL 17 Fh0)), (ap, .inr (7, ofL 5 Fap))] H := hP
      have hD : va_D A [(aout, .inl (G.2.2.2.2, 1, .inr (.inl fJ))), (h0, .inr (11, ofL 17 Fh0)), (ap, .inr (7, ofL 5 Fap))] := hD
      refine k_catch1 C htab (by decide) (by decide) tw_992 tw_1002 hc1 hc2 hc3 ?_
      refine lv_astore (lv' := [(4, .ref q9), (0, .ref h0), (1, .int n0), (2, .int n1), (3, .ref aout)]) hx hb dL_lesson_13 hl (by decide) rfl (fun ls hl => ?_)
      refine lv_iconst (v := 1) hx hb dL_lesson_15 (by decide) ?_
      exact k_iret C hr hlk hP hD hS 0 (Or.inl ⟨rfl, rfl, c_4⟩) [0, 1, 2] rfl rfl (Nat.le_of_ble_eq_true rfl) (Nat.le_of_ble_eq_true rfl) dL_lesson_16
    ·
      have hP : va_P G.1 vwCl [(aout, .inl (G.2.2.2.2, 1, .inr (.inl fJ))), (h0, .inr (11, ofL 17 Fh0)), (ap, .inr (7, ofL 5 Fap))] H := hP
      have hD : va_D A [(aout, .inl (G.2.2.2.2, 1, .inr (.inl fJ))), (h0, .inr (11, ofL 17 Fh0)), (ap, .inr (7, ofL 5 Fap))] := hD
      refine k_catch1 C htab (by decide) (by decide) tw_992 tw_1002 hc1 hc2 hc3 ?_
      refine lv_astore (lv' := [(4, .ref q9), (0, .ref h0), (1, .int n0), (2, .int n1), (3, .ref aout)]) hx hb dL_lesson_13 hl (by decide) rfl (fun ls hl => ?_)
      refine lv_iconst (v := 1) hx hb dL_lesson_15 (by decide) ?_
      exact k_iret C hr hlk hP hD hS 1 (Or.inr (⟨rfl, rfl, c_5⟩)) [0, 1, 2] rfl rfl (Nat.le_of_ble_eq_true rfl) (Nat.le_of_ble_eq_true rfl) dL_lesson_16
  · exact hw1.elim
set_option maxHeartbeats 4000000 in
set_option maxRecDepth 100000 in
theorem c_L_day (l : Launch) (hst : l.stackTraces = false) (G : kG) (sz : Nat) (h0 : Nat) (n0 : Int32) (n1 : Int32) (aout : Nat) (Fh0 : Nat → Value) (ap : Nat) (Fap : Nat → Value) (fJ : Nat → Int64) (e_h0_3 : Fh0 3 = .ref ap) (e_ap_2 : Fap 2 = .int 0) : kMH l yL_day cL_day 5 (some .int) [(0, 10, 13, 18)] { frames := 8, cells := 1, slots := 6, locals := 153 } G [.ref h0, .int n0, .int n1, .ref aout] [(h0, .inr (11, ofL 17 Fh0)), (ap, .inr (7, ofL 5 Fap)), (aout, .inl (G.2.2.2.2, 1, .inr (.inl fJ)))] sz (kQi G (S := Nat) (fun r u => (u = 0 ∧ r = 1 ∧ n0 < 0) ∨ (u = 1 ∧ r = 1 ∧ ¬ n0 < 0)) (fun u => match u with | 0 => [(aout, .inl (G.2.2.2.2, 1, .inr (.inl fJ))), (h0, .inr (11, ofL 17 Fh0)), (ap, .inr (7, ofL 5 Fap))] | _ => [(aout, .inl (G.2.2.2.2, 1, .inr (.inl fJ))), (h0, .inr (11, ofL 17 Fh0)), (ap, .inr (7, ofL 5 Fap))])) := by
  refine kMH.of (by decide) (Nat.le_of_ble_eq_true rfl) ?_
  intro p e s m below meth c A ls H C hr hlk htab hP hD hS hl
  have C : kC G p s m c cL_day 5 RL A := C
  have hx := C.1
  have hb := C.2.1
  have hl : lv_has ls 5 [(0, .ref h0), (1, .int n0), (2, .int n1), (3, .ref aout)] := hl
  refine lv_aload_n hx hb dL_day_0 rfl (lv_at hl 3 rfl) ?_
  refine lv_iconst (v := 0) hx hb dL_day_1 (by decide) ?_
  refine lv_aload_n hx hb dL_day_2 rfl (lv_at hl 0 rfl) ?_
  refine lv_iload_n hx hb dL_day_3 rfl (lv_at hl 1 rfl) ?_
  refine lv_iload_n hx hb dL_day_4 rfl (lv_at hl 2 rfl) ?_
  refine k_xcallVi (wr := [(aout, .inl (G.2.2.2.2, 1, .inr (.inl fJ)))]) (rest := [.int 0, .ref aout]) li_L_24 C (c_X11_day l hst G H.size h0 n0 n1 Fh0 ap Fap e_h0_3 e_ap_2) (kR rfl) hP hD hS [0, 1] [2] rfl rfl rfl rfl (by decide) 0 11 rfl rfl rfl hl.1 rfl (Nat.le_of_ble_eq_true rfl) dL_day_5 (fun E ce q9 uu3 H locs hw1 hP hD hS hc1 hc2 hc3 => ?_) (fun rr2 uu3 H locs hw1 hP hD hS => ?_)
  ·
    rcases hw1 with ⟨rfl, rfl, c_4⟩ | ⟨rfl, rfl, c_5⟩
    ·
      have hP : va_P G.1 vwCl [(aout, .inl (G.2.2.2.2, 1, .inr (.inl fJ))), (h0, .inr (11, ofL 17 Fh0)), (ap, .inr (7, ofL 5 Fap))] H := hP
      have hD : va_D A [(aout, .inl (G.2.2.2.2, 1, .inr (.inl fJ))), (h0, .inr (11, ofL 17 Fh0)), (ap, .inr (7, ofL 5 Fap))] := hD
      refine k_catch1 C htab (by decide) (by decide) tw_992 tw_1002 hc1 hc2 hc3 ?_
      refine lv_astore (lv' := [(4, .ref q9), (0, .ref h0), (1, .int n0), (2, .int n1), (3, .ref aout)]) hx hb dL_day_13 hl (by decide) rfl (fun ls hl => ?_)
      refine lv_iconst (v := 1) hx hb dL_day_15 (by decide) ?_
      exact k_iret C hr hlk hP hD hS 0 (Or.inl ⟨rfl, rfl, c_4⟩) [0, 1, 2] rfl rfl (Nat.le_of_ble_eq_true rfl) (Nat.le_of_ble_eq_true rfl) dL_day_16
    ·
      have hP : va_P G.1 vwCl [(aout, .inl (G.2.2.2.2, 1, .inr (.inl fJ))), (h0, .inr (11, ofL 17 Fh0)), (ap, .inr (7, ofL 5 Fap))] H := hP
      have hD : va_D A [(aout, .inl (G.2.2.2.2, 1, .inr (.inl fJ))), (h0, .inr (11, ofL 17 Fh0)), (ap, .inr (7, ofL 5 Fap))] := hD
      refine k_catch1 C htab (by decide) (by decide) tw_992 tw_1002 hc1 hc2 hc3 ?_
      refine lv_astore (lv' := [(4, .ref q9), (0, .ref h0), (1, .int n0), (2, .int n1), (3, .ref aout)]) hx hb dL_day_13 hl (by decide) rfl (fun ls hl => ?_)
      refine lv_iconst (v := 1) hx hb dL_day_15 (by decide) ?_
      exact k_iret C hr hlk hP hD hS 1 (Or.inr (⟨rfl, rfl, c_5⟩)) [0, 1, 2] rfl rfl (Nat.le_of_ble_eq_true rfl) (Nat.le_of_ble_eq_true rfl) dL_day_16
  · exact hw1.elim
set_option maxHeartbeats 4000000 in
set_option maxRecDepth 100000 in
theorem c_L_chain (l : Launch) (hst : l.stackTraces = false) (G : kG) (sz : Nat) (h0 : Nat) (n0 : Int32) (n1 : Int32) (aout : Nat) (Fh0 : Nat → Value) (ap : Nat) (Fap : Nat → Value) (fJ : Nat → Int64) (e_h0_3 : Fh0 3 = .ref ap) (e_ap_2 : Fap 2 = .int 0) : kMH l yL_chain cL_chain 5 (some .int) [(0, 10, 13, 18)] { frames := 8, cells := 1, slots := 6, locals := 155 } G [.ref h0, .int n0, .int n1, .ref aout] [(h0, .inr (11, ofL 17 Fh0)), (ap, .inr (7, ofL 5 Fap)), (aout, .inl (G.2.2.2.2, 1, .inr (.inl fJ)))] sz (kQi G (S := Nat) (fun r u => (u = 0 ∧ r = 1 ∧ n0 < 0) ∨ (u = 1 ∧ r = 1 ∧ ¬ n0 < 0)) (fun u => match u with | 0 => [(aout, .inl (G.2.2.2.2, 1, .inr (.inl fJ))), (h0, .inr (11, ofL 17 Fh0)), (ap, .inr (7, ofL 5 Fap))] | _ => [(aout, .inl (G.2.2.2.2, 1, .inr (.inl fJ))), (h0, .inr (11, ofL 17 Fh0)), (ap, .inr (7, ofL 5 Fap))])) := by
  refine kMH.of (by decide) (Nat.le_of_ble_eq_true rfl) ?_
  intro p e s m below meth c A ls H C hr hlk htab hP hD hS hl
  have C : kC G p s m c cL_chain 5 RL A := C
  have hx := C.1
  have hb := C.2.1
  have hl : lv_has ls 5 [(0, .ref h0), (1, .int n0), (2, .int n1), (3, .ref aout)] := hl
  refine lv_aload_n hx hb dL_chain_0 rfl (lv_at hl 3 rfl) ?_
  refine lv_iconst (v := 0) hx hb dL_chain_1 (by decide) ?_
  refine lv_aload_n hx hb dL_chain_2 rfl (lv_at hl 0 rfl) ?_
  refine lv_iload_n hx hb dL_chain_3 rfl (lv_at hl 1 rfl) ?_
  refine lv_iload_n hx hb dL_chain_4 rfl (lv_at hl 2 rfl) ?_
  refine k_xcallVi (wr := [(aout, .inl (G.2.2.2.2, 1, .inr (.inl fJ)))]) (rest := [.int 0, .ref aout]) li_L_27 C (c_X11_chain l hst G H.size h0 n0 n1 Fh0 ap Fap e_h0_3 e_ap_2) (kR rfl) hP hD hS [0, 1] [2] rfl rfl rfl rfl (by decide) 0 11 rfl rfl rfl hl.1 rfl (Nat.le_of_ble_eq_true rfl) dL_chain_5 (fun E ce q9 uu3 H locs hw1 hP hD hS hc1 hc2 hc3 => ?_) (fun rr2 uu3 H locs hw1 hP hD hS => ?_)
  ·
    rcases hw1 with ⟨rfl, rfl, c_4⟩ | ⟨rfl, rfl, c_5⟩
    ·
      have hP : va_P G.1 vwCl [(aout, .inl (G.2.2.2.2, 1, .inr (.inl fJ))), (h0, .inr (11, ofL 17 Fh0)), (ap, .inr (7, ofL 5 Fap))] H := hP
      have hD : va_D A [(aout, .inl (G.2.2.2.2, 1, .inr (.inl fJ))), (h0, .inr (11, ofL 17 Fh0)), (ap, .inr (7, ofL 5 Fap))] := hD
      refine k_catch1 C htab (by decide) (by decide) tw_992 tw_1002 hc1 hc2 hc3 ?_
      refine lv_astore (lv' := [(4, .ref q9), (0, .ref h0), (1, .int n0), (2, .int n1), (3, .ref aout)]) hx hb dL_chain_13 hl (by decide) rfl (fun ls hl => ?_)
      refine lv_iconst (v := 1) hx hb dL_chain_15 (by decide) ?_
      exact k_iret C hr hlk hP hD hS 0 (Or.inl ⟨rfl, rfl, c_4⟩) [0, 1, 2] rfl rfl (Nat.le_of_ble_eq_true rfl) (Nat.le_of_ble_eq_true rfl) dL_chain_16
    ·
      have hP : va_P G.1 vwCl [(aout, .inl (G.2.2.2.2, 1, .inr (.inl fJ))), (h0, .inr (11, ofL 17 Fh0)), (ap, .inr (7, ofL 5 Fap))] H := hP
      have hD : va_D A [(aout, .inl (G.2.2.2.2, 1, .inr (.inl fJ))), (h0, .inr (11, ofL 17 Fh0)), (ap, .inr (7, ofL 5 Fap))] := hD
      refine k_catch1 C htab (by decide) (by decide) tw_992 tw_1002 hc1 hc2 hc3 ?_
      refine lv_astore (lv' := [(4, .ref q9), (0, .ref h0), (1, .int n0), (2, .int n1), (3, .ref aout)]) hx hb dL_chain_13 hl (by decide) rfl (fun ls hl => ?_)
      refine lv_iconst (v := 1) hx hb dL_chain_15 (by decide) ?_
      exact k_iret C hr hlk hP hD hS 1 (Or.inr (⟨rfl, rfl, c_5⟩)) [0, 1, 2] rfl rfl (Nat.le_of_ble_eq_true rfl) (Nat.le_of_ble_eq_true rfl) dL_chain_16
  · exact hw1.elim
set_option maxHeartbeats 4000000 in
set_option maxRecDepth 100000 in
theorem c_L_become (l : Launch) (hst : l.stackTraces = false) (G : kG) (sz : Nat) (h0 : Nat) (n0 : Int32) (n1 : Int32) (n2 : Int32) (aout : Nat) (Fh0 : Nat → Value) (ap : Nat) (Fap : Nat → Value) (fJ : Nat → Int64) (e_h0_3 : Fh0 3 = .ref ap) (e_ap_2 : Fap 2 = .int 0) : kMH l yL_become cL_become 6 (some .int) [(0, 12, 15, 18)] { frames := 8, cells := 1, slots := 6, locals := 155 } G [.ref h0, .int n0, .int n1, .int n2, .ref aout] [(h0, .inr (11, ofL 17 Fh0)), (ap, .inr (7, ofL 5 Fap)), (aout, .inl (G.2.2.2.2, 1, .inr (.inl fJ)))] sz (kQi G (S := Nat) (fun r u => (u = 0 ∧ r = 1 ∧ n0 < 0) ∨ (u = 1 ∧ r = 1 ∧ ¬ n0 < 0)) (fun u => match u with | 0 => [(aout, .inl (G.2.2.2.2, 1, .inr (.inl fJ))), (h0, .inr (11, ofL 17 Fh0)), (ap, .inr (7, ofL 5 Fap))] | _ => [(aout, .inl (G.2.2.2.2, 1, .inr (.inl fJ))), (h0, .inr (11, ofL 17 Fh0)), (ap, .inr (7, ofL 5 Fap))])) := by
  refine kMH.of (by decide) (Nat.le_of_ble_eq_true rfl) ?_
  intro p e s m below meth c A ls H C hr hlk htab hP hD hS hl
  have C : kC G p s m c cL_become 6 RL A := C
  have hx := C.1
  have hb := C.2.1
  have hl : lv_has ls 6 [(0, .ref h0), (1, .int n0), (2, .int n1), (3, .int n2), (4, .ref aout)] := hl
  refine lv_aload hx hb dL_become_0 (lv_at hl 4 rfl) ?_
  refine lv_iconst (v := 0) hx hb dL_become_2 (by decide) ?_
  refine lv_aload_n hx hb dL_become_3 rfl (lv_at hl 0 rfl) ?_
  refine lv_iload_n hx hb dL_become_4 rfl (lv_at hl 1 rfl) ?_
  refine lv_iload_n hx hb dL_become_5 rfl (lv_at hl 2 rfl) ?_
  refine lv_iload_n hx hb dL_become_6 rfl (lv_at hl 3 rfl) ?_
  refine k_xcallVi (wr := [(aout, .inl (G.2.2.2.2, 1, .inr (.inl fJ)))]) (rest := [.int 0, .ref aout]) li_L_30 C (c_X11_become l hst G H.size h0 n0 n1 n2 Fh0 ap Fap e_h0_3 e_ap_2) (kR rfl) hP hD hS [0, 1] [2] rfl rfl rfl rfl (by decide) 0 11 rfl rfl rfl hl.1 rfl (Nat.le_of_ble_eq_true rfl) dL_become_7 (fun E ce q9 uu3 H locs hw1 hP hD hS hc1 hc2 hc3 => ?_) (fun rr2 uu3 H locs hw1 hP hD hS => ?_)
  ·
    rcases hw1 with ⟨rfl, rfl, c_4⟩ | ⟨rfl, rfl, c_5⟩
    ·
      have hP : va_P G.1 vwCl [(aout, .inl (G.2.2.2.2, 1, .inr (.inl fJ))), (h0, .inr (11, ofL 17 Fh0)), (ap, .inr (7, ofL 5 Fap))] H := hP
      have hD : va_D A [(aout, .inl (G.2.2.2.2, 1, .inr (.inl fJ))), (h0, .inr (11, ofL 17 Fh0)), (ap, .inr (7, ofL 5 Fap))] := hD
      refine k_catch1 C htab (by decide) (by decide) tw_992 tw_1002 hc1 hc2 hc3 ?_
      refine lv_astore (lv' := [(5, .ref q9), (0, .ref h0), (1, .int n0), (2, .int n1), (3, .int n2), (4, .ref aout)]) hx hb dL_become_15 hl (by decide) rfl (fun ls hl => ?_)
      refine lv_iconst (v := 1) hx hb dL_become_17 (by decide) ?_
      exact k_iret C hr hlk hP hD hS 0 (Or.inl ⟨rfl, rfl, c_4⟩) [0, 1, 2] rfl rfl (Nat.le_of_ble_eq_true rfl) (Nat.le_of_ble_eq_true rfl) dL_become_18
    ·
      have hP : va_P G.1 vwCl [(aout, .inl (G.2.2.2.2, 1, .inr (.inl fJ))), (h0, .inr (11, ofL 17 Fh0)), (ap, .inr (7, ofL 5 Fap))] H := hP
      have hD : va_D A [(aout, .inl (G.2.2.2.2, 1, .inr (.inl fJ))), (h0, .inr (11, ofL 17 Fh0)), (ap, .inr (7, ofL 5 Fap))] := hD
      refine k_catch1 C htab (by decide) (by decide) tw_992 tw_1002 hc1 hc2 hc3 ?_
      refine lv_astore (lv' := [(5, .ref q9), (0, .ref h0), (1, .int n0), (2, .int n1), (3, .int n2), (4, .ref aout)]) hx hb dL_become_15 hl (by decide) rfl (fun ls hl => ?_)
      refine lv_iconst (v := 1) hx hb dL_become_17 (by decide) ?_
      exact k_iret C hr hlk hP hD hS 1 (Or.inr (⟨rfl, rfl, c_5⟩)) [0, 1, 2] rfl rfl (Nat.le_of_ble_eq_true rfl) (Nat.le_of_ble_eq_true rfl) dL_become_18
  · exact hw1.elim
set_option maxHeartbeats 4000000 in
set_option maxRecDepth 100000 in
theorem c_L_far (l : Launch) (hst : l.stackTraces = false) (G : kG) (sz : Nat) (h0 : Nat) (n0 : Int32) (n1 : Int32) (n2 : Int32) (aout : Nat) (Fh0 : Nat → Value) (ap : Nat) (Fap : Nat → Value) (fJ : Nat → Int64) (e_h0_3 : Fh0 3 = .ref ap) (e_ap_2 : Fap 2 = .int 0) : kMH l yL_far cL_far 6 (some .int) [(0, 12, 15, 18), (0, 12, 19, 13)] { frames := 8, cells := 1, slots := 6, locals := 154 } G [.ref h0, .int n0, .int n1, .int n2, .ref aout] [(h0, .inr (11, ofL 17 Fh0)), (ap, .inr (7, ofL 5 Fap)), (aout, .inl (G.2.2.2.2, 1, .inr (.inl fJ)))] sz (kQi G (S := Nat) (fun r u => (u = 0 ∧ r = 1 ∧ n0 < 0) ∨ (u = 1 ∧ r = 1 ∧ ¬ n0 < 0)) (fun u => match u with | 0 => [(aout, .inl (G.2.2.2.2, 1, .inr (.inl fJ))), (h0, .inr (11, ofL 17 Fh0)), (ap, .inr (7, ofL 5 Fap))] | _ => [(aout, .inl (G.2.2.2.2, 1, .inr (.inl fJ))), (h0, .inr (11, ofL 17 Fh0)), (ap, .inr (7, ofL 5 Fap))])) := by
  refine kMH.of (by decide) (Nat.le_of_ble_eq_true rfl) ?_
  intro p e s m below meth c A ls H C hr hlk htab hP hD hS hl
  have C : kC G p s m c cL_far 6 RL A := C
  have hx := C.1
  have hb := C.2.1
  have hl : lv_has ls 6 [(0, .ref h0), (1, .int n0), (2, .int n1), (3, .int n2), (4, .ref aout)] := hl
  refine lv_aload hx hb dL_far_0 (lv_at hl 4 rfl) ?_
  refine lv_iconst (v := 0) hx hb dL_far_2 (by decide) ?_
  refine lv_aload_n hx hb dL_far_3 rfl (lv_at hl 0 rfl) ?_
  refine lv_iload_n hx hb dL_far_4 rfl (lv_at hl 1 rfl) ?_
  refine lv_iload_n hx hb dL_far_5 rfl (lv_at hl 2 rfl) ?_
  refine lv_iload_n hx hb dL_far_6 rfl (lv_at hl 3 rfl) ?_
  refine k_xcallVi (wr := [(aout, .inl (G.2.2.2.2, 1, .inr (.inl fJ)))]) (rest := [.int 0, .ref aout]) li_L_34 C (c_X11_far l hst G H.size h0 n0 n1 n2 Fh0 ap Fap e_h0_3 e_ap_2) (kR rfl) hP hD hS [0, 1] [2] rfl rfl rfl rfl (by decide) 0 11 rfl rfl rfl hl.1 rfl (Nat.le_of_ble_eq_true rfl) dL_far_7 (fun E ce q9 uu3 H locs hw1 hP hD hS hc1 hc2 hc3 => ?_) (fun rr2 uu3 H locs hw1 hP hD hS => ?_)
  ·
    rcases hw1 with ⟨rfl, rfl, c_4⟩ | ⟨rfl, rfl, c_5⟩
    ·
      have hP : va_P G.1 vwCl [(aout, .inl (G.2.2.2.2, 1, .inr (.inl fJ))), (h0, .inr (11, ofL 17 Fh0)), (ap, .inr (7, ofL 5 Fap))] H := hP
      have hD : va_D A [(aout, .inl (G.2.2.2.2, 1, .inr (.inl fJ))), (h0, .inr (11, ofL 17 Fh0)), (ap, .inr (7, ofL 5 Fap))] := hD
      refine k_catch1 C htab (by decide) (by decide) tw_992 tw_1002 hc1 hc2 hc3 ?_
      refine lv_astore (lv' := [(5, .ref q9), (0, .ref h0), (1, .int n0), (2, .int n1), (3, .int n2), (4, .ref aout)]) hx hb dL_far_15 hl (by decide) rfl (fun ls hl => ?_)
      refine lv_iconst (v := 1) hx hb dL_far_17 (by decide) ?_
      exact k_iret C hr hlk hP hD hS 0 (Or.inl ⟨rfl, rfl, c_4⟩) [0, 1, 2] rfl rfl (Nat.le_of_ble_eq_true rfl) (Nat.le_of_ble_eq_true rfl) dL_far_18
    ·
      have hP : va_P G.1 vwCl [(aout, .inl (G.2.2.2.2, 1, .inr (.inl fJ))), (h0, .inr (11, ofL 17 Fh0)), (ap, .inr (7, ofL 5 Fap))] H := hP
      have hD : va_D A [(aout, .inl (G.2.2.2.2, 1, .inr (.inl fJ))), (h0, .inr (11, ofL 17 Fh0)), (ap, .inr (7, ofL 5 Fap))] := hD
      refine k_catch1 C htab (by decide) (by decide) tw_992 tw_1002 hc1 hc2 hc3 ?_
      refine lv_astore (lv' := [(5, .ref q9), (0, .ref h0), (1, .int n0), (2, .int n1), (3, .int n2), (4, .ref aout)]) hx hb dL_far_15 hl (by decide) rfl (fun ls hl => ?_)
      refine lv_iconst (v := 1) hx hb dL_far_17 (by decide) ?_
      exact k_iret C hr hlk hP hD hS 1 (Or.inr (⟨rfl, rfl, c_5⟩)) [0, 1, 2] rfl rfl (Nat.le_of_ble_eq_true rfl) (Nat.le_of_ble_eq_true rfl) dL_far_18
  · exact hw1.elim
set_option maxHeartbeats 4000000 in
set_option maxRecDepth 100000 in
theorem c_L_reaches (l : Launch) (hst : l.stackTraces = false) (G : kG) (sz : Nat) (h0 : Nat) (n0 : Int32) (n1 : Int32) (aout : Nat) (Fh0 : Nat → Value) (ap : Nat) (Fap : Nat → Value) (fJ : Nat → Int64) (e_h0_3 : Fh0 3 = .ref ap) (e_ap_2 : Fap 2 = .int 0) : kMH l yL_reaches cL_reaches 5 (some .int) [(0, 10, 13, 18), (0, 10, 17, 13)] { frames := 8, cells := 1, slots := 6, locals := 153 } G [.ref h0, .int n0, .int n1, .ref aout] [(h0, .inr (11, ofL 17 Fh0)), (ap, .inr (7, ofL 5 Fap)), (aout, .inl (G.2.2.2.2, 1, .inr (.inl fJ)))] sz (kQi G (S := Nat) (fun r u => (u = 0 ∧ r = 1 ∧ n0 < 0) ∨ (u = 1 ∧ r = 1 ∧ ¬ n0 < 0)) (fun u => match u with | 0 => [(aout, .inl (G.2.2.2.2, 1, .inr (.inl fJ))), (h0, .inr (11, ofL 17 Fh0)), (ap, .inr (7, ofL 5 Fap))] | _ => [(aout, .inl (G.2.2.2.2, 1, .inr (.inl fJ))), (h0, .inr (11, ofL 17 Fh0)), (ap, .inr (7, ofL 5 Fap))])) := by
  refine kMH.of (by decide) (Nat.le_of_ble_eq_true rfl) ?_
  intro p e s m below meth c A ls H C hr hlk htab hP hD hS hl
  have C : kC G p s m c cL_reaches 5 RL A := C
  have hx := C.1
  have hb := C.2.1
  have hl : lv_has ls 5 [(0, .ref h0), (1, .int n0), (2, .int n1), (3, .ref aout)] := hl
  refine lv_aload_n hx hb dL_reaches_0 rfl (lv_at hl 3 rfl) ?_
  refine lv_iconst (v := 0) hx hb dL_reaches_1 (by decide) ?_
  refine lv_aload_n hx hb dL_reaches_2 rfl (lv_at hl 0 rfl) ?_
  refine lv_iload_n hx hb dL_reaches_3 rfl (lv_at hl 1 rfl) ?_
  refine lv_iload_n hx hb dL_reaches_4 rfl (lv_at hl 2 rfl) ?_
  refine k_xcallVi (wr := [(aout, .inl (G.2.2.2.2, 1, .inr (.inl fJ)))]) (rest := [.int 0, .ref aout]) li_L_37 C (c_X11_reaches l hst G H.size h0 n0 n1 Fh0 ap Fap e_h0_3 e_ap_2) (kR rfl) hP hD hS [0, 1] [2] rfl rfl rfl rfl (by decide) 0 11 rfl rfl rfl hl.1 rfl (Nat.le_of_ble_eq_true rfl) dL_reaches_5 (fun E ce q9 uu3 H locs hw1 hP hD hS hc1 hc2 hc3 => ?_) (fun rr2 uu3 H locs hw1 hP hD hS => ?_)
  ·
    rcases hw1 with ⟨rfl, rfl, c_4⟩ | ⟨rfl, rfl, c_5⟩
    ·
      have hP : va_P G.1 vwCl [(aout, .inl (G.2.2.2.2, 1, .inr (.inl fJ))), (h0, .inr (11, ofL 17 Fh0)), (ap, .inr (7, ofL 5 Fap))] H := hP
      have hD : va_D A [(aout, .inl (G.2.2.2.2, 1, .inr (.inl fJ))), (h0, .inr (11, ofL 17 Fh0)), (ap, .inr (7, ofL 5 Fap))] := hD
      refine k_catch1 C htab (by decide) (by decide) tw_992 tw_1002 hc1 hc2 hc3 ?_
      refine lv_astore (lv' := [(4, .ref q9), (0, .ref h0), (1, .int n0), (2, .int n1), (3, .ref aout)]) hx hb dL_reaches_13 hl (by decide) rfl (fun ls hl => ?_)
      refine lv_iconst (v := 1) hx hb dL_reaches_15 (by decide) ?_
      exact k_iret C hr hlk hP hD hS 0 (Or.inl ⟨rfl, rfl, c_4⟩) [0, 1, 2] rfl rfl (Nat.le_of_ble_eq_true rfl) (Nat.le_of_ble_eq_true rfl) dL_reaches_16
    ·
      have hP : va_P G.1 vwCl [(aout, .inl (G.2.2.2.2, 1, .inr (.inl fJ))), (h0, .inr (11, ofL 17 Fh0)), (ap, .inr (7, ofL 5 Fap))] H := hP
      have hD : va_D A [(aout, .inl (G.2.2.2.2, 1, .inr (.inl fJ))), (h0, .inr (11, ofL 17 Fh0)), (ap, .inr (7, ofL 5 Fap))] := hD
      refine k_catch1 C htab (by decide) (by decide) tw_992 tw_1002 hc1 hc2 hc3 ?_
      refine lv_astore (lv' := [(4, .ref q9), (0, .ref h0), (1, .int n0), (2, .int n1), (3, .ref aout)]) hx hb dL_reaches_13 hl (by decide) rfl (fun ls hl => ?_)
      refine lv_iconst (v := 1) hx hb dL_reaches_15 (by decide) ?_
      exact k_iret C hr hlk hP hD hS 1 (Or.inr (⟨rfl, rfl, c_5⟩)) [0, 1, 2] rfl rfl (Nat.le_of_ble_eq_true rfl) (Nat.le_of_ble_eq_true rfl) dL_reaches_16
  · exact hw1.elim
set_option maxHeartbeats 4000000 in
set_option maxRecDepth 100000 in
theorem c_L_slack (l : Launch) (hst : l.stackTraces = false) (G : kG) (sz : Nat) (h0 : Nat) (n0 : Int32) (aout : Nat) (Fh0 : Nat → Value) (ap : Nat) (Fap : Nat → Value) (fJ : Nat → Int64) (e_h0_3 : Fh0 3 = .ref ap) (e_ap_2 : Fap 2 = .int 0) : kMH l yL_slack cL_slack 4 (some .int) [(0, 9, 12, 18)] { frames := 8, cells := 1, slots := 6, locals := 152 } G [.ref h0, .int n0, .ref aout] [(h0, .inr (11, ofL 17 Fh0)), (ap, .inr (7, ofL 5 Fap)), (aout, .inl (G.2.2.2.2, 1, .inr (.inl fJ)))] sz (kQi G (S := Nat) (fun r u => (u = 0 ∧ r = 1 ∧ n0 < 0) ∨ (u = 1 ∧ r = 1 ∧ ¬ n0 < 0)) (fun u => match u with | 0 => [(aout, .inl (G.2.2.2.2, 1, .inr (.inl fJ))), (h0, .inr (11, ofL 17 Fh0)), (ap, .inr (7, ofL 5 Fap))] | _ => [(aout, .inl (G.2.2.2.2, 1, .inr (.inl fJ))), (h0, .inr (11, ofL 17 Fh0)), (ap, .inr (7, ofL 5 Fap))])) := by
  refine kMH.of (by decide) (Nat.le_of_ble_eq_true rfl) ?_
  intro p e s m below meth c A ls H C hr hlk htab hP hD hS hl
  have C : kC G p s m c cL_slack 4 RL A := C
  have hx := C.1
  have hb := C.2.1
  have hl : lv_has ls 4 [(0, .ref h0), (1, .int n0), (2, .ref aout)] := hl
  refine lv_aload_n hx hb dL_slack_0 rfl (lv_at hl 2 rfl) ?_
  refine lv_iconst (v := 0) hx hb dL_slack_1 (by decide) ?_
  refine lv_aload_n hx hb dL_slack_2 rfl (lv_at hl 0 rfl) ?_
  refine lv_iload_n hx hb dL_slack_3 rfl (lv_at hl 1 rfl) ?_
  refine k_xcallVi (wr := [(aout, .inl (G.2.2.2.2, 1, .inr (.inl fJ)))]) (rest := [.int 0, .ref aout]) li_L_40 C (c_X11_slack l hst G H.size h0 n0 Fh0 ap Fap e_h0_3 e_ap_2) (kR rfl) hP hD hS [0, 1] [2] rfl rfl rfl rfl (by decide) 0 11 rfl rfl rfl hl.1 rfl (Nat.le_of_ble_eq_true rfl) dL_slack_4 (fun E ce q9 uu3 H locs hw1 hP hD hS hc1 hc2 hc3 => ?_) (fun rr2 uu3 H locs hw1 hP hD hS => ?_)
  ·
    rcases hw1 with ⟨rfl, rfl, c_4⟩ | ⟨rfl, rfl, c_5⟩
    ·
      have hP : va_P G.1 vwCl [(aout, .inl (G.2.2.2.2, 1, .inr (.inl fJ))), (h0, .inr (11, ofL 17 Fh0)), (ap, .inr (7, ofL 5 Fap))] H := hP
      have hD : va_D A [(aout, .inl (G.2.2.2.2, 1, .inr (.inl fJ))), (h0, .inr (11, ofL 17 Fh0)), (ap, .inr (7, ofL 5 Fap))] := hD
      refine k_catch1 C htab (by decide) (by decide) tw_992 tw_1002 hc1 hc2 hc3 ?_
      refine lv_astore_n (lv' := [(3, .ref q9), (0, .ref h0), (1, .int n0), (2, .ref aout)]) hx hb dL_slack_12 rfl hl (by decide) rfl (fun ls hl => ?_)
      refine lv_iconst (v := 1) hx hb dL_slack_13 (by decide) ?_
      exact k_iret C hr hlk hP hD hS 0 (Or.inl ⟨rfl, rfl, c_4⟩) [0, 1, 2] rfl rfl (Nat.le_of_ble_eq_true rfl) (Nat.le_of_ble_eq_true rfl) dL_slack_14
    ·
      have hP : va_P G.1 vwCl [(aout, .inl (G.2.2.2.2, 1, .inr (.inl fJ))), (h0, .inr (11, ofL 17 Fh0)), (ap, .inr (7, ofL 5 Fap))] H := hP
      have hD : va_D A [(aout, .inl (G.2.2.2.2, 1, .inr (.inl fJ))), (h0, .inr (11, ofL 17 Fh0)), (ap, .inr (7, ofL 5 Fap))] := hD
      refine k_catch1 C htab (by decide) (by decide) tw_992 tw_1002 hc1 hc2 hc3 ?_
      refine lv_astore_n (lv' := [(3, .ref q9), (0, .ref h0), (1, .int n0), (2, .ref aout)]) hx hb dL_slack_12 rfl hl (by decide) rfl (fun ls hl => ?_)
      refine lv_iconst (v := 1) hx hb dL_slack_13 (by decide) ?_
      exact k_iret C hr hlk hP hD hS 1 (Or.inr (⟨rfl, rfl, c_5⟩)) [0, 1, 2] rfl rfl (Nat.le_of_ble_eq_true rfl) (Nat.le_of_ble_eq_true rfl) dL_slack_14
  · exact hw1.elim
set_option maxHeartbeats 4000000 in
set_option maxRecDepth 100000 in
theorem c_L_gaps (l : Launch) (hst : l.stackTraces = false) (G : kG) (sz : Nat) (h0 : Nat) (n0 : Int32) (n1 : Int32) (n2 : Int32) (aout : Nat) (Fh0 : Nat → Value) (ap : Nat) (Fap : Nat → Value) (fJ : Nat → Int64) (e_h0_3 : Fh0 3 = .ref ap) (e_ap_2 : Fap 2 = .int 0) : kMH l yL_gaps cL_gaps 6 (some .int) [(0, 12, 15, 18), (0, 12, 19, 13)] { frames := 8, cells := 1, slots := 6, locals := 155 } G [.ref h0, .int n0, .int n1, .int n2, .ref aout] [(h0, .inr (11, ofL 17 Fh0)), (ap, .inr (7, ofL 5 Fap)), (aout, .inl (G.2.2.2.2, 1, .inr (.inl fJ)))] sz (kQi G (S := Nat) (fun r u => (u = 0 ∧ r = 1 ∧ n1 < 0) ∨ (u = 1 ∧ r = 1 ∧ ¬ n1 < 0)) (fun u => match u with | 0 => [(aout, .inl (G.2.2.2.2, 1, .inr (.inl fJ))), (h0, .inr (11, ofL 17 Fh0)), (ap, .inr (7, ofL 5 Fap))] | _ => [(aout, .inl (G.2.2.2.2, 1, .inr (.inl fJ))), (h0, .inr (11, ofL 17 Fh0)), (ap, .inr (7, ofL 5 Fap))])) := by
  refine kMH.of (by decide) (Nat.le_of_ble_eq_true rfl) ?_
  intro p e s m below meth c A ls H C hr hlk htab hP hD hS hl
  have C : kC G p s m c cL_gaps 6 RL A := C
  have hx := C.1
  have hb := C.2.1
  have hl : lv_has ls 6 [(0, .ref h0), (1, .int n0), (2, .int n1), (3, .int n2), (4, .ref aout)] := hl
  refine lv_aload hx hb dL_gaps_0 (lv_at hl 4 rfl) ?_
  refine lv_iconst (v := 0) hx hb dL_gaps_2 (by decide) ?_
  refine lv_aload_n hx hb dL_gaps_3 rfl (lv_at hl 0 rfl) ?_
  refine lv_iload_n hx hb dL_gaps_4 rfl (lv_at hl 1 rfl) ?_
  refine lv_iload_n hx hb dL_gaps_5 rfl (lv_at hl 2 rfl) ?_
  refine lv_iload_n hx hb dL_gaps_6 rfl (lv_at hl 3 rfl) ?_
  refine k_xcallVi (wr := [(aout, .inl (G.2.2.2.2, 1, .inr (.inl fJ)))]) (rest := [.int 0, .ref aout]) li_L_43 C (c_X11_gaps l hst G H.size h0 n0 n1 n2 Fh0 ap Fap e_h0_3 e_ap_2) (kR rfl) hP hD hS [0, 1] [2] rfl rfl rfl rfl (by decide) 0 11 rfl rfl rfl hl.1 rfl (Nat.le_of_ble_eq_true rfl) dL_gaps_7 (fun E ce q9 uu3 H locs hw1 hP hD hS hc1 hc2 hc3 => ?_) (fun rr2 uu3 H locs hw1 hP hD hS => ?_)
  ·
    rcases hw1 with ⟨rfl, rfl, c_4⟩ | ⟨rfl, rfl, c_5⟩
    ·
      have hP : va_P G.1 vwCl [(aout, .inl (G.2.2.2.2, 1, .inr (.inl fJ))), (h0, .inr (11, ofL 17 Fh0)), (ap, .inr (7, ofL 5 Fap))] H := hP
      have hD : va_D A [(aout, .inl (G.2.2.2.2, 1, .inr (.inl fJ))), (h0, .inr (11, ofL 17 Fh0)), (ap, .inr (7, ofL 5 Fap))] := hD
      refine k_catch1 C htab (by decide) (by decide) tw_992 tw_1002 hc1 hc2 hc3 ?_
      refine lv_astore (lv' := [(5, .ref q9), (0, .ref h0), (1, .int n0), (2, .int n1), (3, .int n2), (4, .ref aout)]) hx hb dL_gaps_15 hl (by decide) rfl (fun ls hl => ?_)
      refine lv_iconst (v := 1) hx hb dL_gaps_17 (by decide) ?_
      exact k_iret C hr hlk hP hD hS 0 (Or.inl ⟨rfl, rfl, c_4⟩) [0, 1, 2] rfl rfl (Nat.le_of_ble_eq_true rfl) (Nat.le_of_ble_eq_true rfl) dL_gaps_18
    ·
      have hP : va_P G.1 vwCl [(aout, .inl (G.2.2.2.2, 1, .inr (.inl fJ))), (h0, .inr (11, ofL 17 Fh0)), (ap, .inr (7, ofL 5 Fap))] H := hP
      have hD : va_D A [(aout, .inl (G.2.2.2.2, 1, .inr (.inl fJ))), (h0, .inr (11, ofL 17 Fh0)), (ap, .inr (7, ofL 5 Fap))] := hD
      refine k_catch1 C htab (by decide) (by decide) tw_992 tw_1002 hc1 hc2 hc3 ?_
      refine lv_astore (lv' := [(5, .ref q9), (0, .ref h0), (1, .int n0), (2, .int n1), (3, .int n2), (4, .ref aout)]) hx hb dL_gaps_15 hl (by decide) rfl (fun ls hl => ?_)
      refine lv_iconst (v := 1) hx hb dL_gaps_17 (by decide) ?_
      exact k_iret C hr hlk hP hD hS 1 (Or.inr (⟨rfl, rfl, c_5⟩)) [0, 1, 2] rfl rfl (Nat.le_of_ble_eq_true rfl) (Nat.le_of_ble_eq_true rfl) dL_gaps_18
  · exact hw1.elim
set_option maxHeartbeats 4000000 in
set_option maxRecDepth 100000 in
theorem c_L_gap (l : Launch) (hst : l.stackTraces = false) (G : kG) (sz : Nat) (h0 : Nat) (n0 : Int32) (aout : Nat) (Fh0 : Nat → Value) (ap : Nat) (Fap : Nat → Value) (fJ : Nat → Int64) (e_h0_3 : Fh0 3 = .ref ap) (e_ap_2 : Fap 2 = .int 0) : kMH l yL_gap cL_gap 4 (some .int) [(0, 9, 12, 18)] { frames := 8, cells := 1, slots := 6, locals := 152 } G [.ref h0, .int n0, .ref aout] [(h0, .inr (11, ofL 17 Fh0)), (ap, .inr (7, ofL 5 Fap)), (aout, .inl (G.2.2.2.2, 1, .inr (.inl fJ)))] sz (kQi G (S := Nat) (fun r u => (u = 0 ∧ r = 1 ∧ n0 < 0) ∨ (u = 1 ∧ r = 1 ∧ ¬ n0 < 0)) (fun u => match u with | 0 => [(aout, .inl (G.2.2.2.2, 1, .inr (.inl fJ))), (h0, .inr (11, ofL 17 Fh0)), (ap, .inr (7, ofL 5 Fap))] | _ => [(aout, .inl (G.2.2.2.2, 1, .inr (.inl fJ))), (h0, .inr (11, ofL 17 Fh0)), (ap, .inr (7, ofL 5 Fap))])) := by
  refine kMH.of (by decide) (Nat.le_of_ble_eq_true rfl) ?_
  intro p e s m below meth c A ls H C hr hlk htab hP hD hS hl
  have C : kC G p s m c cL_gap 4 RL A := C
  have hx := C.1
  have hb := C.2.1
  have hl : lv_has ls 4 [(0, .ref h0), (1, .int n0), (2, .ref aout)] := hl
  refine lv_aload_n hx hb dL_gap_0 rfl (lv_at hl 2 rfl) ?_
  refine lv_iconst (v := 0) hx hb dL_gap_1 (by decide) ?_
  refine lv_aload_n hx hb dL_gap_2 rfl (lv_at hl 0 rfl) ?_
  refine lv_iload_n hx hb dL_gap_3 rfl (lv_at hl 1 rfl) ?_
  refine k_xcallVi (wr := [(aout, .inl (G.2.2.2.2, 1, .inr (.inl fJ)))]) (rest := [.int 0, .ref aout]) li_L_46 C (c_X11_gap l hst G H.size h0 n0 Fh0 ap Fap e_h0_3 e_ap_2) (kR rfl) hP hD hS [0, 1] [2] rfl rfl rfl rfl (by decide) 0 11 rfl rfl rfl hl.1 rfl (Nat.le_of_ble_eq_true rfl) dL_gap_4 (fun E ce q9 uu3 H locs hw1 hP hD hS hc1 hc2 hc3 => ?_) (fun rr2 uu3 H locs hw1 hP hD hS => ?_)
  ·
    rcases hw1 with ⟨rfl, rfl, c_4⟩ | ⟨rfl, rfl, c_5⟩
    ·
      have hP : va_P G.1 vwCl [(aout, .inl (G.2.2.2.2, 1, .inr (.inl fJ))), (h0, .inr (11, ofL 17 Fh0)), (ap, .inr (7, ofL 5 Fap))] H := hP
      have hD : va_D A [(aout, .inl (G.2.2.2.2, 1, .inr (.inl fJ))), (h0, .inr (11, ofL 17 Fh0)), (ap, .inr (7, ofL 5 Fap))] := hD
      refine k_catch1 C htab (by decide) (by decide) tw_992 tw_1002 hc1 hc2 hc3 ?_
      refine lv_astore_n (lv' := [(3, .ref q9), (0, .ref h0), (1, .int n0), (2, .ref aout)]) hx hb dL_gap_12 rfl hl (by decide) rfl (fun ls hl => ?_)
      refine lv_iconst (v := 1) hx hb dL_gap_13 (by decide) ?_
      exact k_iret C hr hlk hP hD hS 0 (Or.inl ⟨rfl, rfl, c_4⟩) [0, 1, 2] rfl rfl (Nat.le_of_ble_eq_true rfl) (Nat.le_of_ble_eq_true rfl) dL_gap_14
    ·
      have hP : va_P G.1 vwCl [(aout, .inl (G.2.2.2.2, 1, .inr (.inl fJ))), (h0, .inr (11, ofL 17 Fh0)), (ap, .inr (7, ofL 5 Fap))] H := hP
      have hD : va_D A [(aout, .inl (G.2.2.2.2, 1, .inr (.inl fJ))), (h0, .inr (11, ofL 17 Fh0)), (ap, .inr (7, ofL 5 Fap))] := hD
      refine k_catch1 C htab (by decide) (by decide) tw_992 tw_1002 hc1 hc2 hc3 ?_
      refine lv_astore_n (lv' := [(3, .ref q9), (0, .ref h0), (1, .int n0), (2, .ref aout)]) hx hb dL_gap_12 rfl hl (by decide) rfl (fun ls hl => ?_)
      refine lv_iconst (v := 1) hx hb dL_gap_13 (by decide) ?_
      exact k_iret C hr hlk hP hD hS 1 (Or.inr (⟨rfl, rfl, c_5⟩)) [0, 1, 2] rfl rfl (Nat.le_of_ble_eq_true rfl) (Nat.le_of_ble_eq_true rfl) dL_gap_14
  · exact hw1.elim
set_option maxHeartbeats 4000000 in
set_option maxRecDepth 100000 in
theorem c_L_chance (l : Launch) (hst : l.stackTraces = false) (G : kG) (sz : Nat) (h0 : Nat) (n0 : Int32) (n1 : Int32) (n2 : Int32) (aout : Nat) (Fh0 : Nat → Value) (ap : Nat) (Fap : Nat → Value) (fJ : Nat → Int64) (e_h0_3 : Fh0 3 = .ref ap) (e_ap_2 : Fap 2 = .int 0) : kMH l yL_chance cL_chance 6 (some .int) [(0, 11, 14, 18), (0, 11, 18, 13)] { frames := 8, cells := 1, slots := 6, locals := 154 } G [.ref h0, .int n0, .int n1, .int n2, .ref aout] [(h0, .inr (11, ofL 17 Fh0)), (ap, .inr (7, ofL 5 Fap)), (aout, .inl (G.2.2.2.2, 1, .inr (.inl fJ)))] sz (kQi G (S := Nat) (fun r u => (u = 0 ∧ r = 1 ∧ n0 < 0) ∨ (u = 1 ∧ r = 1 ∧ ¬ n0 < 0)) (fun u => match u with | 0 => [(aout, .inl (G.2.2.2.2, 1, .inr (.inl fJ))), (h0, .inr (11, ofL 17 Fh0)), (ap, .inr (7, ofL 5 Fap))] | _ => [(aout, .inl (G.2.2.2.2, 1, .inr (.inl fJ))), (h0, .inr (11, ofL 17 Fh0)), (ap, .inr (7, ofL 5 Fap))])) := by
  refine kMH.of (by decide) (Nat.le_of_ble_eq_true rfl) ?_
  intro p e s m below meth c A ls H C hr hlk htab hP hD hS hl
  have C : kC G p s m c cL_chance 6 RL A := C
  have hx := C.1
  have hb := C.2.1
  have hl : lv_has ls 6 [(0, .ref h0), (1, .int n0), (2, .int n1), (3, .int n2), (4, .ref aout)] := hl
  refine lv_aload hx hb dL_chance_0 (lv_at hl 4 rfl) ?_
  refine lv_iconst (v := 0) hx hb dL_chance_2 (by decide) ?_
  refine lv_aload_n hx hb dL_chance_3 rfl (lv_at hl 0 rfl) ?_
  refine lv_iload_n hx hb dL_chance_4 rfl (lv_at hl 1 rfl) ?_
  refine lv_iload_n hx hb dL_chance_5 rfl (lv_at hl 2 rfl) ?_
  refine lv_iload_n hx hb dL_chance_6 rfl (lv_at hl 3 rfl) ?_
  refine k_xcallVl (wr := [(aout, .inl (G.2.2.2.2, 1, .inr (.inl fJ)))]) (rest := [.int 0, .ref aout]) li_L_49 C (c_X11_chance l hst G H.size h0 n0 n1 n2 Fh0 ap Fap e_h0_3 e_ap_2) (kR rfl) hP hD hS [0, 1] [2] rfl rfl rfl rfl (by decide) 0 11 rfl rfl rfl hl.1 rfl (Nat.le_of_ble_eq_true rfl) dL_chance_7 (fun E ce q9 uu3 H locs hw1 hP hD hS hc1 hc2 hc3 => ?_) (fun rr2 uu3 H locs hw1 hP hD hS => ?_)
  ·
    rcases hw1 with ⟨rfl, rfl, c_4⟩ | ⟨rfl, rfl, c_5⟩
    ·
      have hP : va_P G.1 vwCl [(aout, .inl (G.2.2.2.2, 1, .inr (.inl fJ))), (h0, .inr (11, ofL 17 Fh0)), (ap, .inr (7, ofL 5 Fap))] H := hP
      have hD : va_D A [(aout, .inl (G.2.2.2.2, 1, .inr (.inl fJ))), (h0, .inr (11, ofL 17 Fh0)), (ap, .inr (7, ofL 5 Fap))] := hD
      refine k_catch1 C htab (by decide) (by decide) tw_992 tw_1002 hc1 hc2 hc3 ?_
      refine lv_astore (lv' := [(5, .ref q9), (0, .ref h0), (1, .int n0), (2, .int n1), (3, .int n2), (4, .ref aout)]) hx hb dL_chance_14 hl (by decide) rfl (fun ls hl => ?_)
      refine lv_iconst (v := 1) hx hb dL_chance_16 (by decide) ?_
      exact k_iret C hr hlk hP hD hS 0 (Or.inl ⟨rfl, rfl, c_4⟩) [0, 1, 2] rfl rfl (Nat.le_of_ble_eq_true rfl) (Nat.le_of_ble_eq_true rfl) dL_chance_17
    ·
      have hP : va_P G.1 vwCl [(aout, .inl (G.2.2.2.2, 1, .inr (.inl fJ))), (h0, .inr (11, ofL 17 Fh0)), (ap, .inr (7, ofL 5 Fap))] H := hP
      have hD : va_D A [(aout, .inl (G.2.2.2.2, 1, .inr (.inl fJ))), (h0, .inr (11, ofL 17 Fh0)), (ap, .inr (7, ofL 5 Fap))] := hD
      refine k_catch1 C htab (by decide) (by decide) tw_992 tw_1002 hc1 hc2 hc3 ?_
      refine lv_astore (lv' := [(5, .ref q9), (0, .ref h0), (1, .int n0), (2, .int n1), (3, .int n2), (4, .ref aout)]) hx hb dL_chance_14 hl (by decide) rfl (fun ls hl => ?_)
      refine lv_iconst (v := 1) hx hb dL_chance_16 (by decide) ?_
      exact k_iret C hr hlk hP hD hS 1 (Or.inr (⟨rfl, rfl, c_5⟩)) [0, 1, 2] rfl rfl (Nat.le_of_ble_eq_true rfl) (Nat.le_of_ble_eq_true rfl) dL_chance_17
  · exact hw1.elim
set_option maxHeartbeats 4000000 in
set_option maxRecDepth 100000 in
theorem c_L_mean (l : Launch) (hst : l.stackTraces = false) (G : kG) (sz : Nat) (h0 : Nat) (n0 : Int32) (n1 : Int32) (aout : Nat) (Fh0 : Nat → Value) (ap : Nat) (Fap : Nat → Value) (fJ : Nat → Int64) (e_h0_3 : Fh0 3 = .ref ap) (e_ap_2 : Fap 2 = .int 0) : kMH l yL_mean cL_mean 5 (some .int) [(0, 9, 12, 18)] { frames := 8, cells := 1, slots := 6, locals := 153 } G [.ref h0, .int n0, .int n1, .ref aout] [(h0, .inr (11, ofL 17 Fh0)), (ap, .inr (7, ofL 5 Fap)), (aout, .inl (G.2.2.2.2, 1, .inr (.inl fJ)))] sz (kQi G (S := Nat) (fun r u => (u = 0 ∧ r = 1 ∧ n0 < 0) ∨ (u = 1 ∧ r = 1 ∧ ¬ n0 < 0)) (fun u => match u with | 0 => [(aout, .inl (G.2.2.2.2, 1, .inr (.inl fJ))), (h0, .inr (11, ofL 17 Fh0)), (ap, .inr (7, ofL 5 Fap))] | _ => [(aout, .inl (G.2.2.2.2, 1, .inr (.inl fJ))), (h0, .inr (11, ofL 17 Fh0)), (ap, .inr (7, ofL 5 Fap))])) := by
  refine kMH.of (by decide) (Nat.le_of_ble_eq_true rfl) ?_
  intro p e s m below meth c A ls H C hr hlk htab hP hD hS hl
  have C : kC G p s m c cL_mean 5 RL A := C
  have hx := C.1
  have hb := C.2.1
  have hl : lv_has ls 5 [(0, .ref h0), (1, .int n0), (2, .int n1), (3, .ref aout)] := hl
  refine lv_aload_n hx hb dL_mean_0 rfl (lv_at hl 3 rfl) ?_
  refine lv_iconst (v := 0) hx hb dL_mean_1 (by decide) ?_
  refine lv_aload_n hx hb dL_mean_2 rfl (lv_at hl 0 rfl) ?_
  refine lv_iload_n hx hb dL_mean_3 rfl (lv_at hl 1 rfl) ?_
  refine lv_iload_n hx hb dL_mean_4 rfl (lv_at hl 2 rfl) ?_
  refine k_xcallVl (wr := [(aout, .inl (G.2.2.2.2, 1, .inr (.inl fJ)))]) (rest := [.int 0, .ref aout]) li_L_53 C (c_X11_mean l hst G H.size h0 n0 n1 Fh0 ap Fap e_h0_3 e_ap_2) (kR rfl) hP hD hS [0, 1] [2] rfl rfl rfl rfl (by decide) 0 11 rfl rfl rfl hl.1 rfl (Nat.le_of_ble_eq_true rfl) dL_mean_5 (fun E ce q9 uu3 H locs hw1 hP hD hS hc1 hc2 hc3 => ?_) (fun rr2 uu3 H locs hw1 hP hD hS => ?_)
  ·
    rcases hw1 with ⟨rfl, rfl, c_4⟩ | ⟨rfl, rfl, c_5⟩
    ·
      have hP : va_P G.1 vwCl [(aout, .inl (G.2.2.2.2, 1, .inr (.inl fJ))), (h0, .inr (11, ofL 17 Fh0)), (ap, .inr (7, ofL 5 Fap))] H := hP
      have hD : va_D A [(aout, .inl (G.2.2.2.2, 1, .inr (.inl fJ))), (h0, .inr (11, ofL 17 Fh0)), (ap, .inr (7, ofL 5 Fap))] := hD
      refine k_catch1 C htab (by decide) (by decide) tw_992 tw_1002 hc1 hc2 hc3 ?_
      refine lv_astore (lv' := [(4, .ref q9), (0, .ref h0), (1, .int n0), (2, .int n1), (3, .ref aout)]) hx hb dL_mean_12 hl (by decide) rfl (fun ls hl => ?_)
      refine lv_iconst (v := 1) hx hb dL_mean_14 (by decide) ?_
      exact k_iret C hr hlk hP hD hS 0 (Or.inl ⟨rfl, rfl, c_4⟩) [0, 1, 2] rfl rfl (Nat.le_of_ble_eq_true rfl) (Nat.le_of_ble_eq_true rfl) dL_mean_15
    ·
      have hP : va_P G.1 vwCl [(aout, .inl (G.2.2.2.2, 1, .inr (.inl fJ))), (h0, .inr (11, ofL 17 Fh0)), (ap, .inr (7, ofL 5 Fap))] H := hP
      have hD : va_D A [(aout, .inl (G.2.2.2.2, 1, .inr (.inl fJ))), (h0, .inr (11, ofL 17 Fh0)), (ap, .inr (7, ofL 5 Fap))] := hD
      refine k_catch1 C htab (by decide) (by decide) tw_992 tw_1002 hc1 hc2 hc3 ?_
      refine lv_astore (lv' := [(4, .ref q9), (0, .ref h0), (1, .int n0), (2, .int n1), (3, .ref aout)]) hx hb dL_mean_12 hl (by decide) rfl (fun ls hl => ?_)
      refine lv_iconst (v := 1) hx hb dL_mean_14 (by decide) ?_
      exact k_iret C hr hlk hP hD hS 1 (Or.inr (⟨rfl, rfl, c_5⟩)) [0, 1, 2] rfl rfl (Nat.le_of_ble_eq_true rfl) (Nat.le_of_ble_eq_true rfl) dL_mean_15
  · exact hw1.elim
set_option maxHeartbeats 4000000 in
set_option maxRecDepth 100000 in
theorem c_L_swap (l : Launch) (hst : l.stackTraces = false) (G : kG) (sz : Nat) (h0 : Nat) (n0 : Int32) (aout : Nat) (Fh0 : Nat → Value) (atr : Nat) (Fatr : Nat → Value) (ad : Nat) (al : Nat) (Fad : Nat → Value) (ap : Nat) (Fap : Nat → Value) (Fal : Nat → Value) (fJ : Nat → Int64) (e_h0_9 : Fh0 9 = .ref atr) (e_atr_0 : Fatr 0 = .ref ad) (e_atr_2 : Fatr 2 = .ref al) (e_ad_7 : Fad 7 = .ref ap) (e_ap_2 : Fap 2 = .int 0) : kMH l yL_swap cL_swap 4 (some .int) [(0, 9, 12, 18)] { frames := 10, cells := 1, slots := 6, locals := 199 } G [.ref h0, .int n0, .ref aout] [(h0, .inr (11, ofL 17 Fh0)), (atr, .inr (10, ofL 7 Fatr)), (ad, .inr (1, ofL 10 Fad)), (ap, .inr (7, ofL 5 Fap)), (al, .inr (4, ofL 3 Fal)), (aout, .inl (G.2.2.2.2, 1, .inr (.inl fJ)))] sz (kQi G (S := Nat) (fun r u => (u = 0 ∧ r = 1 ∧ n0 < 0) ∨ (u = 1 ∧ r = 1 ∧ ¬ n0 < 0 ∧ ¬ n0 < 2) ∨ (u = 2 ∧ r = 0 ∧ ¬ n0 < 0 ∧ n0 < 2)) (fun u => match u with | 0 => [(aout, .inl (G.2.2.2.2, 1, .inr (.inl fJ))), (h0, .inr (11, ofL 17 Fh0)), (atr, .inr (10, ofL 7 Fatr)), (ad, .inr (1, ofL 10 Fad)), (ap, .inr (7, ofL 5 Fap)), (al, .inr (4, ofL 3 Fal))] | 1 => [(aout, .inl (G.2.2.2.2, 1, .inr (.inl fJ))), (h0, .inr (11, ofL 17 Fh0)), (atr, .inr (10, ofL 7 Fatr)), (ad, .inr (1, ofL 10 Fad)), (ap, .inr (7, ofL 5 Fap)), (al, .inr (4, ofL 3 Fal))] | _ => [(aout, .inl (G.2.2.2.2, 1, .inr (.inl (vp_updL fJ 0 (-1))))), (h0, .inr (11, ofL 17 Fh0)), (al, .inr (4, ofL 3 (updV Fal 0 (.int 0)))), (atr, .inr (10, ofL 7 Fatr)), (ad, .inr (1, ofL 10 Fad)), (ap, .inr (7, ofL 5 Fap))])) := by
  refine kMH.of (by decide) (Nat.le_of_ble_eq_true rfl) ?_
  intro p e s m below meth c A ls H C hr hlk htab hP hD hS hl
  have C : kC G p s m c cL_swap 4 RL A := C
  have hx := C.1
  have hb := C.2.1
  have hl : lv_has ls 4 [(0, .ref h0), (1, .int n0), (2, .ref aout)] := hl
  refine lv_aload_n hx hb dL_swap_0 rfl (lv_at hl 2 rfl) ?_
  refine lv_iconst (v := 0) hx hb dL_swap_1 (by decide) ?_
  refine lv_aload_n hx hb dL_swap_2 rfl (lv_at hl 0 rfl) ?_
  refine lv_iload_n hx hb dL_swap_3 rfl (lv_at hl 1 rfl) ?_
  refine k_xcallVi (wr := [(aout, .inl (G.2.2.2.2, 1, .inr (.inl fJ)))]) (rest := [.int 0, .ref aout]) li_L_57 C (c_X11_swap l hst G H.size h0 n0 Fh0 atr Fatr ad al Fad ap Fap Fal e_h0_9 e_atr_0 e_atr_2 e_ad_7 e_ap_2) (kR rfl) hP hD hS [0, 1, 2, 3, 4] [5] rfl rfl rfl rfl (by decide) 0 11 rfl rfl rfl hl.1 rfl (Nat.le_of_ble_eq_true rfl) dL_swap_4 (fun E ce q9 uu3 H locs hw1 hP hD hS hc1 hc2 hc3 => ?_) (fun rr2 uu3 H locs hw1 hP hD hS => ?_)
  ·
    rcases hw1 with ⟨rfl, rfl, c_4⟩ | ⟨rfl, rfl, c_5, c_6⟩
    ·
      have hP : va_P G.1 vwCl [(aout, .inl (G.2.2.2.2, 1, .inr (.inl fJ))), (h0, .inr (11, ofL 17 Fh0)), (atr, .inr (10, ofL 7 Fatr)), (ad, .inr (1, ofL 10 Fad)), (ap, .inr (7, ofL 5 Fap)), (al, .inr (4, ofL 3 Fal))] H := hP
      have hD : va_D A [(aout, .inl (G.2.2.2.2, 1, .inr (.inl fJ))), (h0, .inr (11, ofL 17 Fh0)), (atr, .inr (10, ofL 7 Fatr)), (ad, .inr (1, ofL 10 Fad)), (ap, .inr (7, ofL 5 Fap)), (al, .inr (4, ofL 3 Fal))] := hD
      refine k_catch1 C htab (by decide) (by decide) tw_992 tw_1002 hc1 hc2 hc3 ?_
      refine lv_astore_n (lv' := [(3, .ref q9), (0, .ref h0), (1, .int n0), (2, .ref aout)]) hx hb dL_swap_12 rfl hl (by decide) rfl (fun ls hl => ?_)
      refine lv_iconst (v := 1) hx hb dL_swap_13 (by decide) ?_
      exact k_iret C hr hlk hP hD hS 0 (Or.inl ⟨rfl, rfl, c_4⟩) [0, 1, 2, 3, 4, 5] rfl rfl (Nat.le_of_ble_eq_true rfl) (Nat.le_of_ble_eq_true rfl) dL_swap_14
    ·
      have hP : va_P G.1 vwCl [(aout, .inl (G.2.2.2.2, 1, .inr (.inl fJ))), (h0, .inr (11, ofL 17 Fh0)), (atr, .inr (10, ofL 7 Fatr)), (ad, .inr (1, ofL 10 Fad)), (ap, .inr (7, ofL 5 Fap)), (al, .inr (4, ofL 3 Fal))] H := hP
      have hD : va_D A [(aout, .inl (G.2.2.2.2, 1, .inr (.inl fJ))), (h0, .inr (11, ofL 17 Fh0)), (atr, .inr (10, ofL 7 Fatr)), (ad, .inr (1, ofL 10 Fad)), (ap, .inr (7, ofL 5 Fap)), (al, .inr (4, ofL 3 Fal))] := hD
      refine k_catch1 C htab (by decide) (by decide) tw_992 tw_1002 hc1 hc2 hc3 ?_
      refine lv_astore_n (lv' := [(3, .ref q9), (0, .ref h0), (1, .int n0), (2, .ref aout)]) hx hb dL_swap_12 rfl hl (by decide) rfl (fun ls hl => ?_)
      refine lv_iconst (v := 1) hx hb dL_swap_13 (by decide) ?_
      exact k_iret C hr hlk hP hD hS 1 (Or.inr (Or.inl ⟨rfl, rfl, c_5, c_6⟩)) [0, 1, 2, 3, 4, 5] rfl rfl (Nat.le_of_ble_eq_true rfl) (Nat.le_of_ble_eq_true rfl) dL_swap_14
  obtain ⟨rfl, c_7, c_8⟩ := hw1
  have hP : va_P G.1 vwCl [(aout, .inl (G.2.2.2.2, 1, .inr (.inl fJ))), (h0, .inr (11, ofL 17 Fh0)), (al, .inr (4, ofL 3 (updV Fal 0 (.int 0)))), (atr, .inr (10, ofL 7 Fatr)), (ad, .inr (1, ofL 10 Fad)), (ap, .inr (7, ofL 5 Fap))] H := hP
  have hD : va_D A [(aout, .inl (G.2.2.2.2, 1, .inr (.inl fJ))), (h0, .inr (11, ofL 17 Fh0)), (al, .inr (4, ofL 3 (updV Fal 0 (.int 0)))), (atr, .inr (10, ofL 7 Fatr)), (ad, .inr (1, ofL 10 Fad)), (ap, .inr (7, ofL 5 Fap))] := hD
  refine lv_i2l (v := -1) hx hb dL_swap_7 (by decide) ?_
  refine k_last C hP hD hS 0 rfl (k_in (by decide)) dL_swap_8 (fun H locs hP hD hS => ?_)
  have hP : va_P G.1 vwCl [(aout, .inl (G.2.2.2.2, 1, .inr (.inl (vp_updL fJ 0 (-1))))), (h0, .inr (11, ofL 17 Fh0)), (al, .inr (4, ofL 3 (updV Fal 0 (.int 0)))), (atr, .inr (10, ofL 7 Fatr)), (ad, .inr (1, ofL 10 Fad)), (ap, .inr (7, ofL 5 Fap))] H := hP
  have hD : va_D A [(aout, .inl (G.2.2.2.2, 1, .inr (.inl (vp_updL fJ 0 (-1))))), (h0, .inr (11, ofL 17 Fh0)), (al, .inr (4, ofL 3 (updV Fal 0 (.int 0)))), (atr, .inr (10, ofL 7 Fatr)), (ad, .inr (1, ofL 10 Fad)), (ap, .inr (7, ofL 5 Fap))] := hD
  refine lv_goto (tgt := 15) hx hb dL_swap_9 (by decide) ?_
  refine lv_iconst (v := 0) hx hb dL_swap_15 (by decide) ?_
  exact k_iret C hr hlk hP hD hS 2 (Or.inr (Or.inr (⟨rfl, rfl, c_7, c_8⟩))) [0, 1, 2, 3, 4, 5] rfl rfl (Nat.le_of_ble_eq_true rfl) (Nat.le_of_ble_eq_true rfl) dL_swap_16
set_option maxHeartbeats 4000000 in
set_option maxRecDepth 100000 in
theorem c_L_room (l : Launch) (hst : l.stackTraces = false) (G : kG) (sz : Nat) (h0 : Nat) (n0 : Int32) (n1 : Int32) (aout : Nat) (Fh0 : Nat → Value) (ap : Nat) (Fap : Nat → Value) (fJ : Nat → Int64) (e_h0_3 : Fh0 3 = .ref ap) (e_ap_2 : Fap 2 = .int 0) : kMH l yL_room cL_room 5 (some .int) [(0, 10, 13, 18)] { frames := 8, cells := 1, slots := 6, locals := 153 } G [.ref h0, .int n0, .int n1, .ref aout] [(h0, .inr (11, ofL 17 Fh0)), (ap, .inr (7, ofL 5 Fap)), (aout, .inl (G.2.2.2.2, 1, .inr (.inl fJ)))] sz (kQi G (S := Nat) (fun r u => (u = 0 ∧ r = 1 ∧ n0 < 0) ∨ (u = 1 ∧ r = 1 ∧ ¬ n0 < 0)) (fun u => match u with | 0 => [(aout, .inl (G.2.2.2.2, 1, .inr (.inl fJ))), (h0, .inr (11, ofL 17 Fh0)), (ap, .inr (7, ofL 5 Fap))] | _ => [(aout, .inl (G.2.2.2.2, 1, .inr (.inl fJ))), (h0, .inr (11, ofL 17 Fh0)), (ap, .inr (7, ofL 5 Fap))])) := by
  refine kMH.of (by decide) (Nat.le_of_ble_eq_true rfl) ?_
  intro p e s m below meth c A ls H C hr hlk htab hP hD hS hl
  have C : kC G p s m c cL_room 5 RL A := C
  have hx := C.1
  have hb := C.2.1
  have hl : lv_has ls 5 [(0, .ref h0), (1, .int n0), (2, .int n1), (3, .ref aout)] := hl
  refine lv_aload_n hx hb dL_room_0 rfl (lv_at hl 3 rfl) ?_
  refine lv_iconst (v := 0) hx hb dL_room_1 (by decide) ?_
  refine lv_aload_n hx hb dL_room_2 rfl (lv_at hl 0 rfl) ?_
  refine lv_iload_n hx hb dL_room_3 rfl (lv_at hl 1 rfl) ?_
  refine lv_iload_n hx hb dL_room_4 rfl (lv_at hl 2 rfl) ?_
  refine k_xcallVi (wr := [(aout, .inl (G.2.2.2.2, 1, .inr (.inl fJ)))]) (rest := [.int 0, .ref aout]) li_L_60 C (c_X11_room l hst G H.size h0 n0 n1 Fh0 ap Fap e_h0_3 e_ap_2) (kR rfl) hP hD hS [0, 1] [2] rfl rfl rfl rfl (by decide) 0 11 rfl rfl rfl hl.1 rfl (Nat.le_of_ble_eq_true rfl) dL_room_5 (fun E ce q9 uu3 H locs hw1 hP hD hS hc1 hc2 hc3 => ?_) (fun rr2 uu3 H locs hw1 hP hD hS => ?_)
  ·
    rcases hw1 with ⟨rfl, rfl, c_4⟩ | ⟨rfl, rfl, c_5⟩
    ·
      have hP : va_P G.1 vwCl [(aout, .inl (G.2.2.2.2, 1, .inr (.inl fJ))), (h0, .inr (11, ofL 17 Fh0)), (ap, .inr (7, ofL 5 Fap))] H := hP
      have hD : va_D A [(aout, .inl (G.2.2.2.2, 1, .inr (.inl fJ))), (h0, .inr (11, ofL 17 Fh0)), (ap, .inr (7, ofL 5 Fap))] := hD
      refine k_catch1 C htab (by decide) (by decide) tw_992 tw_1002 hc1 hc2 hc3 ?_
      refine lv_astore (lv' := [(4, .ref q9), (0, .ref h0), (1, .int n0), (2, .int n1), (3, .ref aout)]) hx hb dL_room_13 hl (by decide) rfl (fun ls hl => ?_)
      refine lv_iconst (v := 1) hx hb dL_room_15 (by decide) ?_
      exact k_iret C hr hlk hP hD hS 0 (Or.inl ⟨rfl, rfl, c_4⟩) [0, 1, 2] rfl rfl (Nat.le_of_ble_eq_true rfl) (Nat.le_of_ble_eq_true rfl) dL_room_16
    ·
      have hP : va_P G.1 vwCl [(aout, .inl (G.2.2.2.2, 1, .inr (.inl fJ))), (h0, .inr (11, ofL 17 Fh0)), (ap, .inr (7, ofL 5 Fap))] H := hP
      have hD : va_D A [(aout, .inl (G.2.2.2.2, 1, .inr (.inl fJ))), (h0, .inr (11, ofL 17 Fh0)), (ap, .inr (7, ofL 5 Fap))] := hD
      refine k_catch1 C htab (by decide) (by decide) tw_992 tw_1002 hc1 hc2 hc3 ?_
      refine lv_astore (lv' := [(4, .ref q9), (0, .ref h0), (1, .int n0), (2, .int n1), (3, .ref aout)]) hx hb dL_room_13 hl (by decide) rfl (fun ls hl => ?_)
      refine lv_iconst (v := 1) hx hb dL_room_15 (by decide) ?_
      exact k_iret C hr hlk hP hD hS 1 (Or.inr (⟨rfl, rfl, c_5⟩)) [0, 1, 2] rfl rfl (Nat.le_of_ble_eq_true rfl) (Nat.le_of_ble_eq_true rfl) dL_room_16
  · exact hw1.elim
set_option maxHeartbeats 4000000 in
set_option maxRecDepth 100000 in
theorem c_L_limit (l : Launch) (hst : l.stackTraces = false) (G : kG) (sz : Nat) (h0 : Nat) (n0 : Int32) (n1 : Int32) (aout : Nat) (Fh0 : Nat → Value) (ap : Nat) (Fap : Nat → Value) (fJ : Nat → Int64) (e_h0_3 : Fh0 3 = .ref ap) (e_ap_2 : Fap 2 = .int 0) : kMH l yL_limit cL_limit 5 (some .int) [(0, 10, 13, 18)] { frames := 8, cells := 1, slots := 6, locals := 153 } G [.ref h0, .int n0, .int n1, .ref aout] [(h0, .inr (11, ofL 17 Fh0)), (ap, .inr (7, ofL 5 Fap)), (aout, .inl (G.2.2.2.2, 1, .inr (.inl fJ)))] sz (kQi G (S := Nat) (fun r u => (u = 0 ∧ r = 1 ∧ n0 < 0) ∨ (u = 1 ∧ r = 1 ∧ ¬ n0 < 0)) (fun u => match u with | 0 => [(aout, .inl (G.2.2.2.2, 1, .inr (.inl fJ))), (h0, .inr (11, ofL 17 Fh0)), (ap, .inr (7, ofL 5 Fap))] | _ => [(aout, .inl (G.2.2.2.2, 1, .inr (.inl fJ))), (h0, .inr (11, ofL 17 Fh0)), (ap, .inr (7, ofL 5 Fap))])) := by
  refine kMH.of (by decide) (Nat.le_of_ble_eq_true rfl) ?_
  intro p e s m below meth c A ls H C hr hlk htab hP hD hS hl
  have C : kC G p s m c cL_limit 5 RL A := C
  have hx := C.1
  have hb := C.2.1
  have hl : lv_has ls 5 [(0, .ref h0), (1, .int n0), (2, .int n1), (3, .ref aout)] := hl
  refine lv_aload_n hx hb dL_limit_0 rfl (lv_at hl 3 rfl) ?_
  refine lv_iconst (v := 0) hx hb dL_limit_1 (by decide) ?_
  refine lv_aload_n hx hb dL_limit_2 rfl (lv_at hl 0 rfl) ?_
  refine lv_iload_n hx hb dL_limit_3 rfl (lv_at hl 1 rfl) ?_
  refine lv_iload_n hx hb dL_limit_4 rfl (lv_at hl 2 rfl) ?_
  refine k_xcallVi (wr := [(aout, .inl (G.2.2.2.2, 1, .inr (.inl fJ)))]) (rest := [.int 0, .ref aout]) li_L_63 C (c_X11_limit l hst G H.size h0 n0 n1 Fh0 ap Fap e_h0_3 e_ap_2) (kR rfl) hP hD hS [0, 1] [2] rfl rfl rfl rfl (by decide) 0 11 rfl rfl rfl hl.1 rfl (Nat.le_of_ble_eq_true rfl) dL_limit_5 (fun E ce q9 uu3 H locs hw1 hP hD hS hc1 hc2 hc3 => ?_) (fun rr2 uu3 H locs hw1 hP hD hS => ?_)
  ·
    rcases hw1 with ⟨rfl, rfl, c_4⟩ | ⟨rfl, rfl, c_5⟩
    ·
      have hP : va_P G.1 vwCl [(aout, .inl (G.2.2.2.2, 1, .inr (.inl fJ))), (h0, .inr (11, ofL 17 Fh0)), (ap, .inr (7, ofL 5 Fap))] H := hP
      have hD : va_D A [(aout, .inl (G.2.2.2.2, 1, .inr (.inl fJ))), (h0, .inr (11, ofL 17 Fh0)), (ap, .inr (7, ofL 5 Fap))] := hD
      refine k_catch1 C htab (by decide) (by decide) tw_992 tw_1002 hc1 hc2 hc3 ?_
      refine lv_astore (lv' := [(4, .ref q9), (0, .ref h0), (1, .int n0), (2, .int n1), (3, .ref aout)]) hx hb dL_limit_13 hl (by decide) rfl (fun ls hl => ?_)
      refine lv_iconst (v := 1) hx hb dL_limit_15 (by decide) ?_
      exact k_iret C hr hlk hP hD hS 0 (Or.inl ⟨rfl, rfl, c_4⟩) [0, 1, 2] rfl rfl (Nat.le_of_ble_eq_true rfl) (Nat.le_of_ble_eq_true rfl) dL_limit_16
    ·
      have hP : va_P G.1 vwCl [(aout, .inl (G.2.2.2.2, 1, .inr (.inl fJ))), (h0, .inr (11, ofL 17 Fh0)), (ap, .inr (7, ofL 5 Fap))] H := hP
      have hD : va_D A [(aout, .inl (G.2.2.2.2, 1, .inr (.inl fJ))), (h0, .inr (11, ofL 17 Fh0)), (ap, .inr (7, ofL 5 Fap))] := hD
      refine k_catch1 C htab (by decide) (by decide) tw_992 tw_1002 hc1 hc2 hc3 ?_
      refine lv_astore (lv' := [(4, .ref q9), (0, .ref h0), (1, .int n0), (2, .int n1), (3, .ref aout)]) hx hb dL_limit_13 hl (by decide) rfl (fun ls hl => ?_)
      refine lv_iconst (v := 1) hx hb dL_limit_15 (by decide) ?_
      exact k_iret C hr hlk hP hD hS 1 (Or.inr (⟨rfl, rfl, c_5⟩)) [0, 1, 2] rfl rfl (Nat.le_of_ble_eq_true rfl) (Nat.le_of_ble_eq_true rfl) dL_limit_16
  · exact hw1.elim
set_option maxHeartbeats 4000000 in
set_option maxRecDepth 100000 in
theorem c_L_compare (l : Launch) (hst : l.stackTraces = false) (G : kG) (sz : Nat) (h0 : Nat) (n0 : Int32) (aout : Nat) (Fh0 : Nat → Value) (ap : Nat) (atr : Nat) (Fatr : Nat → Value) (ad : Nat) (ah : Nat) (al : Nat) (Fad : Nat → Value) (Fap : Nat → Value) (ar : Nat) (Fah : Nat → Value) (n9 : Int32) (Fal : Nat → Value) (Far : Nat → Value) (fJ : Nat → Int64) (e_h0_3 : Fh0 3 = .ref ap) (e_h0_9 : Fh0 9 = .ref atr) (e_atr_0 : Fatr 0 = .ref ad) (e_atr_1 : Fatr 1 = .ref ah) (e_atr_2 : Fatr 2 = .ref al) (e_ad_7 : Fad 7 = .ref ap) (e_ap_1 : Fap 1 = .ref ar) (e_ap_2 : Fap 2 = .int 0) (e_ah_11 : Fah 11 = .int n9) (e_ar_3 : Far 3 = .int 0) : kMH l yL_compare cL_compare 4 (some .int) [(0, 9, 12, 18)] { frames := 10, cells := 1, slots := 6, locals := 198 } G [.ref h0, .int n0, .ref aout] [(h0, .inr (11, ofL 17 Fh0)), (atr, .inr (10, ofL 7 Fatr)), (ad, .inr (1, ofL 10 Fad)), (ap, .inr (7, ofL 5 Fap)), (ah, .inr (3, ofL 12 Fah)), (al, .inr (4, ofL 3 Fal)), (ar, .inr (8, ofL 5 Far)), (aout, .inl (G.2.2.2.2, 1, .inr (.inl fJ)))] sz (kQi G (S := Nat) (fun r u => (u = 0 ∧ r = 1 ∧ n0 < (-1)) ∨ (u = 1 ∧ r = 1 ∧ ¬ n0 < (-1) ∧ 0 ≤ n0) ∨ (u = 2 ∧ r = 0 ∧ ¬ n0 < (-1) ∧ ¬ 0 ≤ n0)) (fun u => match u with | 0 => [(aout, .inl (G.2.2.2.2, 1, .inr (.inl fJ))), (atr, .inr (10, ofL 7 Fatr)), (ad, .inr (1, ofL 10 Fad)), (ah, .inr (3, ofL 12 Fah)), (al, .inr (4, ofL 3 Fal)), (h0, .inr (11, ofL 17 Fh0)), (ap, .inr (7, ofL 5 Fap)), (ar, .inr (8, ofL 5 Far))] | 1 => [(aout, .inl (G.2.2.2.2, 1, .inr (.inl fJ))), (atr, .inr (10, ofL 7 Fatr)), (ad, .inr (1, ofL 10 Fad)), (ah, .inr (3, ofL 12 Fah)), (al, .inr (4, ofL 3 Fal)), (h0, .inr (11, ofL 17 Fh0)), (ap, .inr (7, ofL 5 Fap)), (ar, .inr (8, ofL 5 Far))] | _ => [(aout, .inl (G.2.2.2.2, 1, .inr (.inl (vp_updL fJ 0 0)))), (al, .inr (4, ofL 3 Fal)), (h0, .inr (11, ofL 17 Fh0)), (ar, .inr (8, ofL 5 Far)), (atr, .inr (10, ofL 7 Fatr)), (ah, .inr (3, ofL 12 (updV (updV Fah 11 (.int n0)) 11 (.int n9)))), (ad, .inr (1, ofL 10 Fad)), (ap, .inr (7, ofL 5 Fap))])) := by
  refine kMH.of (by decide) (Nat.le_of_ble_eq_true rfl) ?_
  intro p e s m below meth c A ls H C hr hlk htab hP hD hS hl
  have C : kC G p s m c cL_compare 4 RL A := C
  have hx := C.1
  have hb := C.2.1
  have hl : lv_has ls 4 [(0, .ref h0), (1, .int n0), (2, .ref aout)] := hl
  refine lv_aload_n hx hb dL_compare_0 rfl (lv_at hl 2 rfl) ?_
  refine lv_iconst (v := 0) hx hb dL_compare_1 (by decide) ?_
  refine lv_aload_n hx hb dL_compare_2 rfl (lv_at hl 0 rfl) ?_
  refine lv_iload_n hx hb dL_compare_3 rfl (lv_at hl 1 rfl) ?_
  refine k_xcallVi (wr := [(aout, .inl (G.2.2.2.2, 1, .inr (.inl fJ)))]) (rest := [.int 0, .ref aout]) li_L_66 C (c_X11_compare l hst G H.size h0 n0 Fh0 ap atr Fatr ad ah al Fad Fap ar Fah n9 Fal Far e_h0_3 e_h0_9 e_atr_0 e_atr_1 e_atr_2 e_ad_7 e_ap_1 e_ap_2 e_ah_11 e_ar_3) (kR rfl) hP hD hS [0, 1, 2, 3, 4, 5, 6] [7] rfl rfl rfl rfl (by decide) 0 11 rfl rfl rfl hl.1 rfl (Nat.le_of_ble_eq_true rfl) dL_compare_4 (fun E ce q9 uu3 H locs hw1 hP hD hS hc1 hc2 hc3 => ?_) (fun rr2 uu3 H locs hw1 hP hD hS => ?_)
  ·
    rcases hw1 with ⟨rfl, rfl, c_4⟩ | ⟨rfl, rfl, c_5, c_6⟩
    ·
      have hP : va_P G.1 vwCl [(aout, .inl (G.2.2.2.2, 1, .inr (.inl fJ))), (atr, .inr (10, ofL 7 Fatr)), (ad, .inr (1, ofL 10 Fad)), (ah, .inr (3, ofL 12 Fah)), (al, .inr (4, ofL 3 Fal)), (h0, .inr (11, ofL 17 Fh0)), (ap, .inr (7, ofL 5 Fap)), (ar, .inr (8, ofL 5 Far))] H := hP
      have hD : va_D A [(aout, .inl (G.2.2.2.2, 1, .inr (.inl fJ))), (atr, .inr (10, ofL 7 Fatr)), (ad, .inr (1, ofL 10 Fad)), (ah, .inr (3, ofL 12 Fah)), (al, .inr (4, ofL 3 Fal)), (h0, .inr (11, ofL 17 Fh0)), (ap, .inr (7, ofL 5 Fap)), (ar, .inr (8, ofL 5 Far))] := hD
      refine k_catch1 C htab (by decide) (by decide) tw_992 tw_1002 hc1 hc2 hc3 ?_
      refine lv_astore_n (lv' := [(3, .ref q9), (0, .ref h0), (1, .int n0), (2, .ref aout)]) hx hb dL_compare_12 rfl hl (by decide) rfl (fun ls hl => ?_)
      refine lv_iconst (v := 1) hx hb dL_compare_13 (by decide) ?_
      exact k_iret C hr hlk hP hD hS 0 (Or.inl ⟨rfl, rfl, c_4⟩) [0, 1, 2, 3, 4, 5, 6, 7] rfl rfl (Nat.le_of_ble_eq_true rfl) (Nat.le_of_ble_eq_true rfl) dL_compare_14
    ·
      have hP : va_P G.1 vwCl [(aout, .inl (G.2.2.2.2, 1, .inr (.inl fJ))), (atr, .inr (10, ofL 7 Fatr)), (ad, .inr (1, ofL 10 Fad)), (ah, .inr (3, ofL 12 Fah)), (al, .inr (4, ofL 3 Fal)), (h0, .inr (11, ofL 17 Fh0)), (ap, .inr (7, ofL 5 Fap)), (ar, .inr (8, ofL 5 Far))] H := hP
      have hD : va_D A [(aout, .inl (G.2.2.2.2, 1, .inr (.inl fJ))), (atr, .inr (10, ofL 7 Fatr)), (ad, .inr (1, ofL 10 Fad)), (ah, .inr (3, ofL 12 Fah)), (al, .inr (4, ofL 3 Fal)), (h0, .inr (11, ofL 17 Fh0)), (ap, .inr (7, ofL 5 Fap)), (ar, .inr (8, ofL 5 Far))] := hD
      refine k_catch1 C htab (by decide) (by decide) tw_992 tw_1002 hc1 hc2 hc3 ?_
      refine lv_astore_n (lv' := [(3, .ref q9), (0, .ref h0), (1, .int n0), (2, .ref aout)]) hx hb dL_compare_12 rfl hl (by decide) rfl (fun ls hl => ?_)
      refine lv_iconst (v := 1) hx hb dL_compare_13 (by decide) ?_
      exact k_iret C hr hlk hP hD hS 1 (Or.inr (Or.inl ⟨rfl, rfl, c_5, c_6⟩)) [0, 1, 2, 3, 4, 5, 6, 7] rfl rfl (Nat.le_of_ble_eq_true rfl) (Nat.le_of_ble_eq_true rfl) dL_compare_14
  obtain ⟨rfl, c_7, c_8⟩ := hw1
  have hP : va_P G.1 vwCl [(aout, .inl (G.2.2.2.2, 1, .inr (.inl fJ))), (al, .inr (4, ofL 3 Fal)), (h0, .inr (11, ofL 17 Fh0)), (ar, .inr (8, ofL 5 Far)), (atr, .inr (10, ofL 7 Fatr)), (ah, .inr (3, ofL 12 (updV (updV Fah 11 (.int n0)) 11 (.int n9)))), (ad, .inr (1, ofL 10 Fad)), (ap, .inr (7, ofL 5 Fap))] H := hP
  have hD : va_D A [(aout, .inl (G.2.2.2.2, 1, .inr (.inl fJ))), (al, .inr (4, ofL 3 Fal)), (h0, .inr (11, ofL 17 Fh0)), (ar, .inr (8, ofL 5 Far)), (atr, .inr (10, ofL 7 Fatr)), (ah, .inr (3, ofL 12 (updV (updV Fah 11 (.int n0)) 11 (.int n9)))), (ad, .inr (1, ofL 10 Fad)), (ap, .inr (7, ofL 5 Fap))] := hD
  refine lv_i2l (v := 0) hx hb dL_compare_7 (by decide) ?_
  refine k_last C hP hD hS 0 rfl (k_in (by decide)) dL_compare_8 (fun H locs hP hD hS => ?_)
  have hP : va_P G.1 vwCl [(aout, .inl (G.2.2.2.2, 1, .inr (.inl (vp_updL fJ 0 0)))), (al, .inr (4, ofL 3 Fal)), (h0, .inr (11, ofL 17 Fh0)), (ar, .inr (8, ofL 5 Far)), (atr, .inr (10, ofL 7 Fatr)), (ah, .inr (3, ofL 12 (updV (updV Fah 11 (.int n0)) 11 (.int n9)))), (ad, .inr (1, ofL 10 Fad)), (ap, .inr (7, ofL 5 Fap))] H := hP
  have hD : va_D A [(aout, .inl (G.2.2.2.2, 1, .inr (.inl (vp_updL fJ 0 0)))), (al, .inr (4, ofL 3 Fal)), (h0, .inr (11, ofL 17 Fh0)), (ar, .inr (8, ofL 5 Far)), (atr, .inr (10, ofL 7 Fatr)), (ah, .inr (3, ofL 12 (updV (updV Fah 11 (.int n0)) 11 (.int n9)))), (ad, .inr (1, ofL 10 Fad)), (ap, .inr (7, ofL 5 Fap))] := hD
  refine lv_goto (tgt := 15) hx hb dL_compare_9 (by decide) ?_
  refine lv_iconst (v := 0) hx hb dL_compare_15 (by decide) ?_
  exact k_iret C hr hlk hP hD hS 2 (Or.inr (Or.inr (⟨rfl, rfl, c_7, c_8⟩))) [0, 1, 2, 3, 4, 5, 6, 7] rfl rfl (Nat.le_of_ble_eq_true rfl) (Nat.le_of_ble_eq_true rfl) dL_compare_16
set_option maxHeartbeats 4000000 in
set_option maxRecDepth 100000 in
theorem c_L_bell (l : Launch) (hst : l.stackTraces = false) (G : kG) (sz : Nat) (h0 : Nat) (n0 : Int32) (aout : Nat) (Fh0 : Nat → Value) (atr : Nat) (Fatr : Nat → Value) (ad : Nat) (ah : Nat) (asv : Nat) (Fad : Nat → Value) (ap : Nat) (Fap : Nat → Value) (Fah : Nat → Value) (ao : Nat) (f0 : Nat → Int32) (f1 : Nat → Int32) (fJ : Nat → Int64) (e_h0_9 : Fh0 9 = .ref atr) (e_atr_0 : Fatr 0 = .ref ad) (e_atr_1 : Fatr 1 = .ref ah) (e_atr_3 : Fatr 3 = .ref asv) (e_ad_7 : Fad 7 = .ref ap) (e_ap_2 : Fap 2 = .int 0) (e_ah_0 : Fah 0 = .ref ao) : kMH l yL_bell cL_bell 4 (some .int) [(0, 9, 12, 13)] { frames := 10, cells := 1, slots := 6, locals := 198 } G [.ref h0, .int n0, .ref aout] [(h0, .inr (11, ofL 17 Fh0)), (atr, .inr (10, ofL 7 Fatr)), (ad, .inr (1, ofL 10 Fad)), (ap, .inr (7, ofL 5 Fap)), (ah, .inr (3, ofL 12 Fah)), (ao, .inl (G.2.1, 12, .inl f0)), (asv, .inl (G.2.1, 12, .inl f1)), (aout, .inl (G.2.2.2.2, 1, .inr (.inl fJ)))] sz (kQi G (S := Nat) (fun r u => (u = 0 ∧ r = 1 ∧ n0 < 0) ∨ (u = 1 ∧ r = 1 ∧ ¬ n0 < 0 ∧ ¬ n0 ≤ 60) ∨ (u = 2 ∧ r = 0 ∧ ¬ n0 < 0 ∧ n0 ≤ 60)) (fun u => match u with | 0 => [(aout, .inl (G.2.2.2.2, 1, .inr (.inl fJ))), (h0, .inr (11, ofL 17 Fh0)), (atr, .inr (10, ofL 7 Fatr)), (ad, .inr (1, ofL 10 Fad)), (ap, .inr (7, ofL 5 Fap)), (ah, .inr (3, ofL 12 Fah)), (ao, .inl (G.2.1, 12, .inl f0)), (asv, .inl (G.2.1, 12, .inl f1))] | 1 => [(aout, .inl (G.2.2.2.2, 1, .inr (.inl fJ))), (h0, .inr (11, ofL 17 Fh0)), (atr, .inr (10, ofL 7 Fatr)), (ad, .inr (1, ofL 10 Fad)), (ap, .inr (7, ofL 5 Fap)), (ah, .inr (3, ofL 12 Fah)), (ao, .inl (G.2.1, 12, .inl f0)), (asv, .inl (G.2.1, 12, .inl f1))] | _ => [(aout, .inl (G.2.2.2.2, 1, .inr (.inl (vp_updL fJ 0 0)))), (h0, .inr (11, ofL 17 Fh0)), (ah, .inr (3, ofL 12 Fah)), (ao, .inl (G.2.1, 12, .inl (va_cpy (va_cpy f0 f1 0 0 12) f0 0 0 12))), (asv, .inl (G.2.1, 12, .inl (va_cpy f0 f1 0 0 12))), (atr, .inr (10, ofL 7 Fatr)), (ad, .inr (1, ofL 10 Fad)), (ap, .inr (7, ofL 5 Fap))])) := by
  refine kMH.of (by decide) (Nat.le_of_ble_eq_true rfl) ?_
  intro p e s m below meth c A ls H C hr hlk htab hP hD hS hl
  have C : kC G p s m c cL_bell 4 RL A := C
  have hx := C.1
  have hb := C.2.1
  have hl : lv_has ls 4 [(0, .ref h0), (1, .int n0), (2, .ref aout)] := hl
  refine lv_aload_n hx hb dL_bell_0 rfl (lv_at hl 2 rfl) ?_
  refine lv_iconst (v := 0) hx hb dL_bell_1 (by decide) ?_
  refine lv_aload_n hx hb dL_bell_2 rfl (lv_at hl 0 rfl) ?_
  refine lv_iload_n hx hb dL_bell_3 rfl (lv_at hl 1 rfl) ?_
  refine k_xcallVi (wr := [(aout, .inl (G.2.2.2.2, 1, .inr (.inl fJ)))]) (rest := [.int 0, .ref aout]) li_L_69 C (c_X11_bell l hst G H.size h0 n0 Fh0 atr Fatr ad ah asv Fad ap Fap Fah ao f0 f1 e_h0_9 e_atr_0 e_atr_1 e_atr_3 e_ad_7 e_ap_2 e_ah_0) (kR rfl) hP hD hS [0, 1, 2, 3, 4, 5, 6] [7] rfl rfl rfl rfl (by decide) 0 11 rfl rfl rfl hl.1 rfl (Nat.le_of_ble_eq_true rfl) dL_bell_4 (fun E ce q9 uu3 H locs hw1 hP hD hS hc1 hc2 hc3 => ?_) (fun rr2 uu3 H locs hw1 hP hD hS => ?_)
  ·
    rcases hw1 with ⟨rfl, rfl, c_4⟩ | ⟨rfl, rfl, c_5, c_6⟩
    ·
      have hP : va_P G.1 vwCl [(aout, .inl (G.2.2.2.2, 1, .inr (.inl fJ))), (h0, .inr (11, ofL 17 Fh0)), (atr, .inr (10, ofL 7 Fatr)), (ad, .inr (1, ofL 10 Fad)), (ap, .inr (7, ofL 5 Fap)), (ah, .inr (3, ofL 12 Fah)), (ao, .inl (G.2.1, 12, .inl f0)), (asv, .inl (G.2.1, 12, .inl f1))] H := hP
      have hD : va_D A [(aout, .inl (G.2.2.2.2, 1, .inr (.inl fJ))), (h0, .inr (11, ofL 17 Fh0)), (atr, .inr (10, ofL 7 Fatr)), (ad, .inr (1, ofL 10 Fad)), (ap, .inr (7, ofL 5 Fap)), (ah, .inr (3, ofL 12 Fah)), (ao, .inl (G.2.1, 12, .inl f0)), (asv, .inl (G.2.1, 12, .inl f1))] := hD
      refine k_catch1 C htab (by decide) (by decide) tw_732 tw_739 hc1 hc2 hc3 ?_
      refine lv_astore_n (lv' := [(3, .ref q9), (0, .ref h0), (1, .int n0), (2, .ref aout)]) hx hb dL_bell_12 rfl hl (by decide) rfl (fun ls hl => ?_)
      refine lv_iconst (v := 1) hx hb dL_bell_13 (by decide) ?_
      exact k_iret C hr hlk hP hD hS 0 (Or.inl ⟨rfl, rfl, c_4⟩) [0, 1, 2, 3, 4, 5, 6, 7] rfl rfl (Nat.le_of_ble_eq_true rfl) (Nat.le_of_ble_eq_true rfl) dL_bell_14
    ·
      have hP : va_P G.1 vwCl [(aout, .inl (G.2.2.2.2, 1, .inr (.inl fJ))), (h0, .inr (11, ofL 17 Fh0)), (atr, .inr (10, ofL 7 Fatr)), (ad, .inr (1, ofL 10 Fad)), (ap, .inr (7, ofL 5 Fap)), (ah, .inr (3, ofL 12 Fah)), (ao, .inl (G.2.1, 12, .inl f0)), (asv, .inl (G.2.1, 12, .inl f1))] H := hP
      have hD : va_D A [(aout, .inl (G.2.2.2.2, 1, .inr (.inl fJ))), (h0, .inr (11, ofL 17 Fh0)), (atr, .inr (10, ofL 7 Fatr)), (ad, .inr (1, ofL 10 Fad)), (ap, .inr (7, ofL 5 Fap)), (ah, .inr (3, ofL 12 Fah)), (ao, .inl (G.2.1, 12, .inl f0)), (asv, .inl (G.2.1, 12, .inl f1))] := hD
      refine k_catch1 C htab (by decide) (by decide) tw_732 tw_739 hc1 hc2 hc3 ?_
      refine lv_astore_n (lv' := [(3, .ref q9), (0, .ref h0), (1, .int n0), (2, .ref aout)]) hx hb dL_bell_12 rfl hl (by decide) rfl (fun ls hl => ?_)
      refine lv_iconst (v := 1) hx hb dL_bell_13 (by decide) ?_
      exact k_iret C hr hlk hP hD hS 1 (Or.inr (Or.inl ⟨rfl, rfl, c_5, c_6⟩)) [0, 1, 2, 3, 4, 5, 6, 7] rfl rfl (Nat.le_of_ble_eq_true rfl) (Nat.le_of_ble_eq_true rfl) dL_bell_14
  obtain ⟨rfl, c_7, c_8⟩ := hw1
  have hP : va_P G.1 vwCl [(aout, .inl (G.2.2.2.2, 1, .inr (.inl fJ))), (h0, .inr (11, ofL 17 Fh0)), (ah, .inr (3, ofL 12 Fah)), (ao, .inl (G.2.1, 12, .inl (va_cpy (va_cpy f0 f1 0 0 12) f0 0 0 12))), (asv, .inl (G.2.1, 12, .inl (va_cpy f0 f1 0 0 12))), (atr, .inr (10, ofL 7 Fatr)), (ad, .inr (1, ofL 10 Fad)), (ap, .inr (7, ofL 5 Fap))] H := hP
  have hD : va_D A [(aout, .inl (G.2.2.2.2, 1, .inr (.inl fJ))), (h0, .inr (11, ofL 17 Fh0)), (ah, .inr (3, ofL 12 Fah)), (ao, .inl (G.2.1, 12, .inl (va_cpy (va_cpy f0 f1 0 0 12) f0 0 0 12))), (asv, .inl (G.2.1, 12, .inl (va_cpy f0 f1 0 0 12))), (atr, .inr (10, ofL 7 Fatr)), (ad, .inr (1, ofL 10 Fad)), (ap, .inr (7, ofL 5 Fap))] := hD
  refine lv_i2l (v := 0) hx hb dL_bell_7 (by decide) ?_
  refine k_last C hP hD hS 0 rfl (k_in (by decide)) dL_bell_8 (fun H locs hP hD hS => ?_)
  have hP : va_P G.1 vwCl [(aout, .inl (G.2.2.2.2, 1, .inr (.inl (vp_updL fJ 0 0)))), (h0, .inr (11, ofL 17 Fh0)), (ah, .inr (3, ofL 12 Fah)), (ao, .inl (G.2.1, 12, .inl (va_cpy (va_cpy f0 f1 0 0 12) f0 0 0 12))), (asv, .inl (G.2.1, 12, .inl (va_cpy f0 f1 0 0 12))), (atr, .inr (10, ofL 7 Fatr)), (ad, .inr (1, ofL 10 Fad)), (ap, .inr (7, ofL 5 Fap))] H := hP
  have hD : va_D A [(aout, .inl (G.2.2.2.2, 1, .inr (.inl (vp_updL fJ 0 0)))), (h0, .inr (11, ofL 17 Fh0)), (ah, .inr (3, ofL 12 Fah)), (ao, .inl (G.2.1, 12, .inl (va_cpy (va_cpy f0 f1 0 0 12) f0 0 0 12))), (asv, .inl (G.2.1, 12, .inl (va_cpy f0 f1 0 0 12))), (atr, .inr (10, ofL 7 Fatr)), (ad, .inr (1, ofL 10 Fad)), (ap, .inr (7, ofL 5 Fap))] := hD
  refine lv_goto (tgt := 15) hx hb dL_bell_9 (by decide) ?_
  refine lv_iconst (v := 0) hx hb dL_bell_15 (by decide) ?_
  exact k_iret C hr hlk hP hD hS 2 (Or.inr (Or.inr (⟨rfl, rfl, c_7, c_8⟩))) [0, 1, 2, 3, 4, 5, 6, 7] rfl rfl (Nat.le_of_ble_eq_true rfl) (Nat.le_of_ble_eq_true rfl) dL_bell_16
set_option maxHeartbeats 4000000 in
set_option maxRecDepth 100000 in
theorem c_L_see (l : Launch) (hst : l.stackTraces = false) (G : kG) (sz : Nat) (h0 : Nat) (n0 : Int32) (n1 : Int32) (aout : Nat) (Fh0 : Nat → Value) (ap : Nat) (Fap : Nat → Value) (fJ : Nat → Int64) (e_h0_3 : Fh0 3 = .ref ap) (e_ap_2 : Fap 2 = .int 0) : kMH l yL_see cL_see 5 (some .int) [(0, 10, 13, 18)] { frames := 8, cells := 1, slots := 6, locals := 153 } G [.ref h0, .int n0, .int n1, .ref aout] [(h0, .inr (11, ofL 17 Fh0)), (ap, .inr (7, ofL 5 Fap)), (aout, .inl (G.2.2.2.2, 1, .inr (.inl fJ)))] sz (kQi G (S := Nat) (fun r u => (u = 0 ∧ r = 1 ∧ n0 < 0) ∨ (u = 1 ∧ r = 1 ∧ ¬ n0 < 0)) (fun u => match u with | 0 => [(aout, .inl (G.2.2.2.2, 1, .inr (.inl fJ))), (h0, .inr (11, ofL 17 Fh0)), (ap, .inr (7, ofL 5 Fap))] | _ => [(aout, .inl (G.2.2.2.2, 1, .inr (.inl fJ))), (h0, .inr (11, ofL 17 Fh0)), (ap, .inr (7, ofL 5 Fap))])) := by
  refine kMH.of (by decide) (Nat.le_of_ble_eq_true rfl) ?_
  intro p e s m below meth c A ls H C hr hlk htab hP hD hS hl
  have C : kC G p s m c cL_see 5 RL A := C
  have hx := C.1
  have hb := C.2.1
  have hl : lv_has ls 5 [(0, .ref h0), (1, .int n0), (2, .int n1), (3, .ref aout)] := hl
  refine lv_aload_n hx hb dL_see_0 rfl (lv_at hl 3 rfl) ?_
  refine lv_iconst (v := 0) hx hb dL_see_1 (by decide) ?_
  refine lv_aload_n hx hb dL_see_2 rfl (lv_at hl 0 rfl) ?_
  refine lv_iload_n hx hb dL_see_3 rfl (lv_at hl 1 rfl) ?_
  refine lv_iload_n hx hb dL_see_4 rfl (lv_at hl 2 rfl) ?_
  refine k_xcallVi (wr := [(aout, .inl (G.2.2.2.2, 1, .inr (.inl fJ)))]) (rest := [.int 0, .ref aout]) li_L_72 C (c_X11_see l hst G H.size h0 n0 n1 Fh0 ap Fap e_h0_3 e_ap_2) (kR rfl) hP hD hS [0, 1] [2] rfl rfl rfl rfl (by decide) 0 11 rfl rfl rfl hl.1 rfl (Nat.le_of_ble_eq_true rfl) dL_see_5 (fun E ce q9 uu3 H locs hw1 hP hD hS hc1 hc2 hc3 => ?_) (fun rr2 uu3 H locs hw1 hP hD hS => ?_)
  ·
    rcases hw1 with ⟨rfl, rfl, c_4⟩ | ⟨rfl, rfl, c_5⟩
    ·
      have hP : va_P G.1 vwCl [(aout, .inl (G.2.2.2.2, 1, .inr (.inl fJ))), (h0, .inr (11, ofL 17 Fh0)), (ap, .inr (7, ofL 5 Fap))] H := hP
      have hD : va_D A [(aout, .inl (G.2.2.2.2, 1, .inr (.inl fJ))), (h0, .inr (11, ofL 17 Fh0)), (ap, .inr (7, ofL 5 Fap))] := hD
      refine k_catch1 C htab (by decide) (by decide) tw_992 tw_1002 hc1 hc2 hc3 ?_
      refine lv_astore (lv' := [(4, .ref q9), (0, .ref h0), (1, .int n0), (2, .int n1), (3, .ref aout)]) hx hb dL_see_13 hl (by decide) rfl (fun ls hl => ?_)
      refine lv_iconst (v := 1) hx hb dL_see_15 (by decide) ?_
      exact k_iret C hr hlk hP hD hS 0 (Or.inl ⟨rfl, rfl, c_4⟩) [0, 1, 2] rfl rfl (Nat.le_of_ble_eq_true rfl) (Nat.le_of_ble_eq_true rfl) dL_see_16
    ·
      have hP : va_P G.1 vwCl [(aout, .inl (G.2.2.2.2, 1, .inr (.inl fJ))), (h0, .inr (11, ofL 17 Fh0)), (ap, .inr (7, ofL 5 Fap))] H := hP
      have hD : va_D A [(aout, .inl (G.2.2.2.2, 1, .inr (.inl fJ))), (h0, .inr (11, ofL 17 Fh0)), (ap, .inr (7, ofL 5 Fap))] := hD
      refine k_catch1 C htab (by decide) (by decide) tw_992 tw_1002 hc1 hc2 hc3 ?_
      refine lv_astore (lv' := [(4, .ref q9), (0, .ref h0), (1, .int n0), (2, .int n1), (3, .ref aout)]) hx hb dL_see_13 hl (by decide) rfl (fun ls hl => ?_)
      refine lv_iconst (v := 1) hx hb dL_see_15 (by decide) ?_
      exact k_iret C hr hlk hP hD hS 1 (Or.inr (⟨rfl, rfl, c_5⟩)) [0, 1, 2] rfl rfl (Nat.le_of_ble_eq_true rfl) (Nat.le_of_ble_eq_true rfl) dL_see_16
  · exact hw1.elim
set_option maxHeartbeats 4000000 in
set_option maxRecDepth 100000 in
theorem c_L_fits (l : Launch) (hst : l.stackTraces = false) (G : kG) (sz : Nat) (h0 : Nat) (n0 : Int32) (aout : Nat) (Fh0 : Nat → Value) (atr : Nat) (Fatr : Nat → Value) (ad : Nat) (Fad : Nat → Value) (ap : Nat) (Fap : Nat → Value) (fJ : Nat → Int64) (e_h0_9 : Fh0 9 = .ref atr) (e_atr_0 : Fatr 0 = .ref ad) (e_ad_7 : Fad 7 = .ref ap) (e_ap_2 : Fap 2 = .int 0) : kMH l yL_fits cL_fits 4 (some .int) [(0, 9, 12, 18)] { frames := 9, cells := 1, slots := 6, locals := 174 } G [.ref h0, .int n0, .ref aout] [(h0, .inr (11, ofL 17 Fh0)), (atr, .inr (10, ofL 7 Fatr)), (ad, .inr (1, ofL 10 Fad)), (ap, .inr (7, ofL 5 Fap)), (aout, .inl (G.2.2.2.2, 1, .inr (.inl fJ)))] sz (kQi G (S := Nat) (fun r u => (u = 0 ∧ r = 1 ∧ n0 < 0) ∨ (u = 1 ∧ r = 1 ∧ ¬ n0 < 0 ∧ ¬ n0 < 3) ∨ (u = 2 ∧ r = 0 ∧ ¬ n0 < 0 ∧ n0 < 3 ∧ n0 = 0) ∨ (u = 3 ∧ r = 0 ∧ ¬ n0 < 0 ∧ n0 < 3 ∧ n0 = 1) ∨ (u = 4 ∧ r = 0 ∧ ¬ n0 < 0 ∧ n0 < 3 ∧ n0 = 2)) (fun u => match u with | 0 => [(aout, .inl (G.2.2.2.2, 1, .inr (.inl fJ))), (h0, .inr (11, ofL 17 Fh0)), (atr, .inr (10, ofL 7 Fatr)), (ad, .inr (1, ofL 10 Fad)), (ap, .inr (7, ofL 5 Fap))] | 1 => [(aout, .inl (G.2.2.2.2, 1, .inr (.inl fJ))), (h0, .inr (11, ofL 17 Fh0)), (atr, .inr (10, ofL 7 Fatr)), (ad, .inr (1, ofL 10 Fad)), (ap, .inr (7, ofL 5 Fap))] | 2 => [(aout, .inl (G.2.2.2.2, 1, .inr (.inl (vp_updL fJ 0 0)))), (h0, .inr (11, ofL 17 Fh0)), (atr, .inr (10, ofL 7 (updV (updV (updV Fatr 4 (.int 0)) 5 (.int (-1))) 6 (.int (-1))))), (ad, .inr (1, ofL 10 Fad)), (ap, .inr (7, ofL 5 Fap))] | 3 => [(aout, .inl (G.2.2.2.2, 1, .inr (.inl (vp_updL fJ 0 (-1))))), (h0, .inr (11, ofL 17 Fh0)), (atr, .inr (10, ofL 7 (updV (updV (updV Fatr 4 (.int 0)) 5 (.int (-1))) 6 (.int (-1))))), (ad, .inr (1, ofL 10 Fad)), (ap, .inr (7, ofL 5 Fap))] | _ => [(aout, .inl (G.2.2.2.2, 1, .inr (.inl (vp_updL fJ 0 (-1))))), (h0, .inr (11, ofL 17 Fh0)), (atr, .inr (10, ofL 7 (updV (updV (updV Fatr 4 (.int 0)) 5 (.int (-1))) 6 (.int (-1))))), (ad, .inr (1, ofL 10 Fad)), (ap, .inr (7, ofL 5 Fap))])) := by
  refine kMH.of (by decide) (Nat.le_of_ble_eq_true rfl) ?_
  intro p e s m below meth c A ls H C hr hlk htab hP hD hS hl
  have C : kC G p s m c cL_fits 4 RL A := C
  have hx := C.1
  have hb := C.2.1
  have hl : lv_has ls 4 [(0, .ref h0), (1, .int n0), (2, .ref aout)] := hl
  refine lv_aload_n hx hb dL_fits_0 rfl (lv_at hl 2 rfl) ?_
  refine lv_iconst (v := 0) hx hb dL_fits_1 (by decide) ?_
  refine lv_aload_n hx hb dL_fits_2 rfl (lv_at hl 0 rfl) ?_
  refine lv_iload_n hx hb dL_fits_3 rfl (lv_at hl 1 rfl) ?_
  refine k_xcallVi (wr := [(aout, .inl (G.2.2.2.2, 1, .inr (.inl fJ)))]) (rest := [.int 0, .ref aout]) li_L_75 C (c_X11_fits l hst G H.size h0 n0 Fh0 atr Fatr ad Fad ap Fap e_h0_9 e_atr_0 e_ad_7 e_ap_2) (kR rfl) hP hD hS [0, 1, 2, 3] [4] rfl rfl rfl rfl (by decide) 0 11 rfl rfl rfl hl.1 rfl (Nat.le_of_ble_eq_true rfl) dL_fits_4 (fun E ce q9 uu3 H locs hw1 hP hD hS hc1 hc2 hc3 => ?_) (fun rr2 uu3 H locs hw1 hP hD hS => ?_)
  ·
    rcases hw1 with ⟨rfl, rfl, c_4⟩ | ⟨rfl, rfl, c_5, c_6⟩
    ·
      have hP : va_P G.1 vwCl [(aout, .inl (G.2.2.2.2, 1, .inr (.inl fJ))), (h0, .inr (11, ofL 17 Fh0)), (atr, .inr (10, ofL 7 Fatr)), (ad, .inr (1, ofL 10 Fad)), (ap, .inr (7, ofL 5 Fap))] H := hP
      have hD : va_D A [(aout, .inl (G.2.2.2.2, 1, .inr (.inl fJ))), (h0, .inr (11, ofL 17 Fh0)), (atr, .inr (10, ofL 7 Fatr)), (ad, .inr (1, ofL 10 Fad)), (ap, .inr (7, ofL 5 Fap))] := hD
      refine k_catch1 C htab (by decide) (by decide) tw_992 tw_1002 hc1 hc2 hc3 ?_
      refine lv_astore_n (lv' := [(3, .ref q9), (0, .ref h0), (1, .int n0), (2, .ref aout)]) hx hb dL_fits_12 rfl hl (by decide) rfl (fun ls hl => ?_)
      refine lv_iconst (v := 1) hx hb dL_fits_13 (by decide) ?_
      exact k_iret C hr hlk hP hD hS 0 (Or.inl ⟨rfl, rfl, c_4⟩) [0, 1, 2, 3, 4] rfl rfl (Nat.le_of_ble_eq_true rfl) (Nat.le_of_ble_eq_true rfl) dL_fits_14
    ·
      have hP : va_P G.1 vwCl [(aout, .inl (G.2.2.2.2, 1, .inr (.inl fJ))), (h0, .inr (11, ofL 17 Fh0)), (atr, .inr (10, ofL 7 Fatr)), (ad, .inr (1, ofL 10 Fad)), (ap, .inr (7, ofL 5 Fap))] H := hP
      have hD : va_D A [(aout, .inl (G.2.2.2.2, 1, .inr (.inl fJ))), (h0, .inr (11, ofL 17 Fh0)), (atr, .inr (10, ofL 7 Fatr)), (ad, .inr (1, ofL 10 Fad)), (ap, .inr (7, ofL 5 Fap))] := hD
      refine k_catch1 C htab (by decide) (by decide) tw_992 tw_1002 hc1 hc2 hc3 ?_
      refine lv_astore_n (lv' := [(3, .ref q9), (0, .ref h0), (1, .int n0), (2, .ref aout)]) hx hb dL_fits_12 rfl hl (by decide) rfl (fun ls hl => ?_)
      refine lv_iconst (v := 1) hx hb dL_fits_13 (by decide) ?_
      exact k_iret C hr hlk hP hD hS 1 (Or.inr (Or.inl ⟨rfl, rfl, c_5, c_6⟩)) [0, 1, 2, 3, 4] rfl rfl (Nat.le_of_ble_eq_true rfl) (Nat.le_of_ble_eq_true rfl) dL_fits_14
  rcases hw1 with ⟨rfl, rfl, c_7, c_8, rfl⟩ | ⟨rfl, rfl, c_9, c_10, rfl⟩ | ⟨rfl, rfl, c_11, c_12, rfl⟩
  ·
    have hP : va_P G.1 vwCl [(aout, .inl (G.2.2.2.2, 1, .inr (.inl fJ))), (h0, .inr (11, ofL 17 Fh0)), (atr, .inr (10, ofL 7 (updV (updV (updV Fatr 4 (.int 0)) 5 (.int (-1))) 6 (.int (-1))))), (ad, .inr (1, ofL 10 Fad)), (ap, .inr (7, ofL 5 Fap))] H := hP
    have hD : va_D A [(aout, .inl (G.2.2.2.2, 1, .inr (.inl fJ))), (h0, .inr (11, ofL 17 Fh0)), (atr, .inr (10, ofL 7 (updV (updV (updV Fatr 4 (.int 0)) 5 (.int (-1))) 6 (.int (-1))))), (ad, .inr (1, ofL 10 Fad)), (ap, .inr (7, ofL 5 Fap))] := hD
    refine lv_i2l (v := 0) hx hb dL_fits_7 (by decide) ?_
    refine k_last C hP hD hS 0 rfl (k_in (by decide)) dL_fits_8 (fun H locs hP hD hS => ?_)
    have hP : va_P G.1 vwCl [(aout, .inl (G.2.2.2.2, 1, .inr (.inl (vp_updL fJ 0 0)))), (h0, .inr (11, ofL 17 Fh0)), (atr, .inr (10, ofL 7 (updV (updV (updV Fatr 4 (.int 0)) 5 (.int (-1))) 6 (.int (-1))))), (ad, .inr (1, ofL 10 Fad)), (ap, .inr (7, ofL 5 Fap))] H := hP
    have hD : va_D A [(aout, .inl (G.2.2.2.2, 1, .inr (.inl (vp_updL fJ 0 0)))), (h0, .inr (11, ofL 17 Fh0)), (atr, .inr (10, ofL 7 (updV (updV (updV Fatr 4 (.int 0)) 5 (.int (-1))) 6 (.int (-1))))), (ad, .inr (1, ofL 10 Fad)), (ap, .inr (7, ofL 5 Fap))] := hD
    refine lv_goto (tgt := 15) hx hb dL_fits_9 (by decide) ?_
    refine lv_iconst (v := 0) hx hb dL_fits_15 (by decide) ?_
    exact k_iret C hr hlk hP hD hS 2 (Or.inr (Or.inr (Or.inl ⟨rfl, rfl, c_7, c_8, rfl⟩))) [0, 1, 2, 3, 4] rfl rfl (Nat.le_of_ble_eq_true rfl) (Nat.le_of_ble_eq_true rfl) dL_fits_16
  ·
    have hP : va_P G.1 vwCl [(aout, .inl (G.2.2.2.2, 1, .inr (.inl fJ))), (h0, .inr (11, ofL 17 Fh0)), (atr, .inr (10, ofL 7 (updV (updV (updV Fatr 4 (.int 0)) 5 (.int (-1))) 6 (.int (-1))))), (ad, .inr (1, ofL 10 Fad)), (ap, .inr (7, ofL 5 Fap))] H := hP
    have hD : va_D A [(aout, .inl (G.2.2.2.2, 1, .inr (.inl fJ))), (h0, .inr (11, ofL 17 Fh0)), (atr, .inr (10, ofL 7 (updV (updV (updV Fatr 4 (.int 0)) 5 (.int (-1))) 6 (.int (-1))))), (ad, .inr (1, ofL 10 Fad)), (ap, .inr (7, ofL 5 Fap))] := hD
    refine lv_i2l (v := -1) hx hb dL_fits_7 (by decide) ?_
    refine k_last C hP hD hS 0 rfl (k_in (by decide)) dL_fits_8 (fun H locs hP hD hS => ?_)
    have hP : va_P G.1 vwCl [(aout, .inl (G.2.2.2.2, 1, .inr (.inl (vp_updL fJ 0 (-1))))), (h0, .inr (11, ofL 17 Fh0)), (atr, .inr (10, ofL 7 (updV (updV (updV Fatr 4 (.int 0)) 5 (.int (-1))) 6 (.int (-1))))), (ad, .inr (1, ofL 10 Fad)), (ap, .inr (7, ofL 5 Fap))] H := hP
    have hD : va_D A [(aout, .inl (G.2.2.2.2, 1, .inr (.inl (vp_updL fJ 0 (-1))))), (h0, .inr (11, ofL 17 Fh0)), (atr, .inr (10, ofL 7 (updV (updV (updV Fatr 4 (.int 0)) 5 (.int (-1))) 6 (.int (-1))))), (ad, .inr (1, ofL 10 Fad)), (ap, .inr (7, ofL 5 Fap))] := hD
    refine lv_goto (tgt := 15) hx hb dL_fits_9 (by decide) ?_
    refine lv_iconst (v := 0) hx hb dL_fits_15 (by decide) ?_
    exact k_iret C hr hlk hP hD hS 3 (Or.inr (Or.inr (Or.inr (Or.inl ⟨rfl, rfl, c_9, c_10, rfl⟩)))) [0, 1, 2, 3, 4] rfl rfl (Nat.le_of_ble_eq_true rfl) (Nat.le_of_ble_eq_true rfl) dL_fits_16
  ·
    have hP : va_P G.1 vwCl [(aout, .inl (G.2.2.2.2, 1, .inr (.inl fJ))), (h0, .inr (11, ofL 17 Fh0)), (atr, .inr (10, ofL 7 (updV (updV (updV Fatr 4 (.int 0)) 5 (.int (-1))) 6 (.int (-1))))), (ad, .inr (1, ofL 10 Fad)), (ap, .inr (7, ofL 5 Fap))] H := hP
    have hD : va_D A [(aout, .inl (G.2.2.2.2, 1, .inr (.inl fJ))), (h0, .inr (11, ofL 17 Fh0)), (atr, .inr (10, ofL 7 (updV (updV (updV Fatr 4 (.int 0)) 5 (.int (-1))) 6 (.int (-1))))), (ad, .inr (1, ofL 10 Fad)), (ap, .inr (7, ofL 5 Fap))] := hD
    refine lv_i2l (v := -1) hx hb dL_fits_7 (by decide) ?_
    refine k_last C hP hD hS 0 rfl (k_in (by decide)) dL_fits_8 (fun H locs hP hD hS => ?_)
    have hP : va_P G.1 vwCl [(aout, .inl (G.2.2.2.2, 1, .inr (.inl (vp_updL fJ 0 (-1))))), (h0, .inr (11, ofL 17 Fh0)), (atr, .inr (10, ofL 7 (updV (updV (updV Fatr 4 (.int 0)) 5 (.int (-1))) 6 (.int (-1))))), (ad, .inr (1, ofL 10 Fad)), (ap, .inr (7, ofL 5 Fap))] H := hP
    have hD : va_D A [(aout, .inl (G.2.2.2.2, 1, .inr (.inl (vp_updL fJ 0 (-1))))), (h0, .inr (11, ofL 17 Fh0)), (atr, .inr (10, ofL 7 (updV (updV (updV Fatr 4 (.int 0)) 5 (.int (-1))) 6 (.int (-1))))), (ad, .inr (1, ofL 10 Fad)), (ap, .inr (7, ofL 5 Fap))] := hD
    refine lv_goto (tgt := 15) hx hb dL_fits_9 (by decide) ?_
    refine lv_iconst (v := 0) hx hb dL_fits_15 (by decide) ?_
    exact k_iret C hr hlk hP hD hS 4 (Or.inr (Or.inr (Or.inr (Or.inr (⟨rfl, rfl, c_11, c_12, rfl⟩))))) [0, 1, 2, 3, 4] rfl rfl (Nat.le_of_ble_eq_true rfl) (Nat.le_of_ble_eq_true rfl) dL_fits_16
set_option maxHeartbeats 4000000 in
set_option maxRecDepth 100000 in
theorem c_L_term (l : Launch) (hst : l.stackTraces = false) (G : kG) (sz : Nat) (h0 : Nat) (n0 : Int32) (n1 : Int32) (n2 : Int32) (n3 : Int32) (aout : Nat) (Fh0 : Nat → Value) (ap : Nat) (Fap : Nat → Value) (fJ : Nat → Int64) (e_h0_3 : Fh0 3 = .ref ap) (e_ap_2 : Fap 2 = .int 0) : kMH l yL_term cL_term 7 (some .int) [(0, 14, 17, 18), (0, 14, 21, 13)] { frames := 8, cells := 1, slots := 6, locals := 155 } G [.ref h0, .int n0, .int n1, .int n2, .int n3, .ref aout] [(h0, .inr (11, ofL 17 Fh0)), (ap, .inr (7, ofL 5 Fap)), (aout, .inl (G.2.2.2.2, 1, .inr (.inl fJ)))] sz (kQi G (S := Nat) (fun r u => (u = 0 ∧ r = 1 ∧ n2 < 0) ∨ (u = 1 ∧ r = 1 ∧ ¬ n2 < 0)) (fun u => match u with | 0 => [(aout, .inl (G.2.2.2.2, 1, .inr (.inl fJ))), (h0, .inr (11, ofL 17 Fh0)), (ap, .inr (7, ofL 5 Fap))] | _ => [(aout, .inl (G.2.2.2.2, 1, .inr (.inl fJ))), (h0, .inr (11, ofL 17 Fh0)), (ap, .inr (7, ofL 5 Fap))])) := by
  refine kMH.of (by decide) (Nat.le_of_ble_eq_true rfl) ?_
  intro p e s m below meth c A ls H C hr hlk htab hP hD hS hl
  have C : kC G p s m c cL_term 7 RL A := C
  have hx := C.1
  have hb := C.2.1
  have hl : lv_has ls 7 [(0, .ref h0), (1, .int n0), (2, .int n1), (3, .int n2), (4, .int n3), (5, .ref aout)] := hl
  refine lv_aload hx hb dL_term_0 (lv_at hl 5 rfl) ?_
  refine lv_iconst (v := 0) hx hb dL_term_2 (by decide) ?_
  refine lv_aload_n hx hb dL_term_3 rfl (lv_at hl 0 rfl) ?_
  refine lv_iload_n hx hb dL_term_4 rfl (lv_at hl 1 rfl) ?_
  refine lv_iload_n hx hb dL_term_5 rfl (lv_at hl 2 rfl) ?_
  refine lv_iload_n hx hb dL_term_6 rfl (lv_at hl 3 rfl) ?_
  refine lv_iload hx hb dL_term_7 (lv_at hl 4 rfl) ?_
  refine k_xcallVi (wr := [(aout, .inl (G.2.2.2.2, 1, .inr (.inl fJ)))]) (rest := [.int 0, .ref aout]) li_L_78 C (c_X11_term l hst G H.size h0 n0 n1 n2 n3 Fh0 ap Fap e_h0_3 e_ap_2) (kR rfl) hP hD hS [0, 1] [2] rfl rfl rfl rfl (by decide) 0 11 rfl rfl rfl hl.1 rfl (Nat.le_of_ble_eq_true rfl) dL_term_9 (fun E ce q9 uu3 H locs hw1 hP hD hS hc1 hc2 hc3 => ?_) (fun rr2 uu3 H locs hw1 hP hD hS => ?_)
  ·
    rcases hw1 with ⟨rfl, rfl, c_4⟩ | ⟨rfl, rfl, c_5⟩
    ·
      have hP : va_P G.1 vwCl [(aout, .inl (G.2.2.2.2, 1, .inr (.inl fJ))), (h0, .inr (11, ofL 17 Fh0)), (ap, .inr (7, ofL 5 Fap))] H := hP
      have hD : va_D A [(aout, .inl (G.2.2.2.2, 1, .inr (.inl fJ))), (h0, .inr (11, ofL 17 Fh0)), (ap, .inr (7, ofL 5 Fap))] := hD
      refine k_catch1 C htab (by decide) (by decide) tw_992 tw_1002 hc1 hc2 hc3 ?_
      refine lv_astore (lv' := [(6, .ref q9), (0, .ref h0), (1, .int n0), (2, .int n1), (3, .int n2), (4, .int n3), (5, .ref aout)]) hx hb dL_term_17 hl (by decide) rfl (fun ls hl => ?_)
      refine lv_iconst (v := 1) hx hb dL_term_19 (by decide) ?_
      exact k_iret C hr hlk hP hD hS 0 (Or.inl ⟨rfl, rfl, c_4⟩) [0, 1, 2] rfl rfl (Nat.le_of_ble_eq_true rfl) (Nat.le_of_ble_eq_true rfl) dL_term_20
    ·
      have hP : va_P G.1 vwCl [(aout, .inl (G.2.2.2.2, 1, .inr (.inl fJ))), (h0, .inr (11, ofL 17 Fh0)), (ap, .inr (7, ofL 5 Fap))] H := hP
      have hD : va_D A [(aout, .inl (G.2.2.2.2, 1, .inr (.inl fJ))), (h0, .inr (11, ofL 17 Fh0)), (ap, .inr (7, ofL 5 Fap))] := hD
      refine k_catch1 C htab (by decide) (by decide) tw_992 tw_1002 hc1 hc2 hc3 ?_
      refine lv_astore (lv' := [(6, .ref q9), (0, .ref h0), (1, .int n0), (2, .int n1), (3, .int n2), (4, .int n3), (5, .ref aout)]) hx hb dL_term_17 hl (by decide) rfl (fun ls hl => ?_)
      refine lv_iconst (v := 1) hx hb dL_term_19 (by decide) ?_
      exact k_iret C hr hlk hP hD hS 1 (Or.inr (⟨rfl, rfl, c_5⟩)) [0, 1, 2] rfl rfl (Nat.le_of_ble_eq_true rfl) (Nat.le_of_ble_eq_true rfl) dL_term_20
  · exact hw1.elim
set_option maxHeartbeats 4000000 in
set_option maxRecDepth 100000 in
theorem c_L_on (l : Launch) (hst : l.stackTraces = false) (G : kG) (sz : Nat) (h0 : Nat) (n0 : Int32) (n1 : Int32) (aout : Nat) (Fh0 : Nat → Value) (ad : Nat) (ast : Nat) (Fast : Nat → Value) (Fad : Nat → Value) (ap : Nat) (Fap : Nat → Value) (fJ : Nat → Int64) (e_h0_12 : Fh0 12 = .ref ast) (e_h0_8 : Fh0 8 = .ref ad) (e_ast_0 : Fast 0 = .ref ad) (e_ad_7 : Fad 7 = .ref ap) (e_ap_2 : Fap 2 = .int 0) : kMH l yL_on cL_on 5 (some .int) [(0, 10, 13, 18), (0, 10, 17, 13)] { frames := 9, cells := 2, slots := 12, locals := 178 } G [.ref h0, .int n0, .int n1, .ref aout] [(h0, .inr (11, ofL 17 Fh0)), (ast, .inr (9, ofL 6 Fast)), (ad, .inr (1, ofL 10 Fad)), (ap, .inr (7, ofL 5 Fap)), (aout, .inl (G.2.2.2.2, 1, .inr (.inl fJ)))] sz (kQi G (S := Nat) (fun r u => (u = 0 ∧ r = 1 ∧ n1 < 0) ∨ (u = 1 ∧ r = 1 ∧ ¬ n1 < 0 ∧ ¬ n1 < 2) ∨ (u = 2 ∧ r = 2 ∧ ¬ n1 < 0 ∧ n1 < 2 ∧ n0 < 0) ∨ (u = 3 ∧ r = 2 ∧ ¬ n1 < 0 ∧ n1 < 2 ∧ ¬ n0 < 0 ∧ ¬ n0 ≤ 4000) ∨ (u = 4 ∧ r = 0 ∧ ¬ n1 < 0 ∧ n1 < 2 ∧ ¬ n0 < 0 ∧ n0 ≤ 4000 ∧ ¬ n1 = 0) ∨ (u = 5 ∧ r = 0 ∧ ¬ n1 < 0 ∧ n1 < 2 ∧ ¬ n0 < 0 ∧ n0 ≤ 4000 ∧ n1 = 0)) (fun u => match u with | 0 => [(aout, .inl (G.2.2.2.2, 1, .inr (.inl fJ))), (h0, .inr (11, ofL 17 Fh0)), (ast, .inr (9, ofL 6 Fast)), (ad, .inr (1, ofL 10 Fad)), (ap, .inr (7, ofL 5 Fap))] | 1 => [(aout, .inl (G.2.2.2.2, 1, .inr (.inl fJ))), (h0, .inr (11, ofL 17 Fh0)), (ast, .inr (9, ofL 6 Fast)), (ad, .inr (1, ofL 10 Fad)), (ap, .inr (7, ofL 5 Fap))] | 2 => [(aout, .inl (G.2.2.2.2, 1, .inr (.inl fJ))), (h0, .inr (11, ofL 17 Fh0)), (ast, .inr (9, ofL 6 Fast)), (ad, .inr (1, ofL 10 Fad)), (ap, .inr (7, ofL 5 Fap))] | 3 => [(aout, .inl (G.2.2.2.2, 1, .inr (.inl fJ))), (h0, .inr (11, ofL 17 Fh0)), (ast, .inr (9, ofL 6 Fast)), (ad, .inr (1, ofL 10 Fad)), (ap, .inr (7, ofL 5 Fap))] | 4 => [(aout, .inl (G.2.2.2.2, 1, .inr (.inl (vp_updL fJ 0 0)))), (h0, .inr (11, ofL 17 Fh0)), (ad, .inr (1, ofL 10 Fad)), (ap, .inr (7, ofL 5 Fap)), (ast, .inr (9, ofL 6 (updV Fast 5 (.int 0))))] | _ => [(aout, .inl (G.2.2.2.2, 1, .inr (.inl (vp_updL fJ 0 0)))), (h0, .inr (11, ofL 17 Fh0)), (ast, .inr (9, ofL 6 (updV Fast 5 (.int 0)))), (ad, .inr (1, ofL 10 Fad)), (ap, .inr (7, ofL 5 Fap))])) := by
  refine kMH.of (by decide) (Nat.le_of_ble_eq_true rfl) ?_
  intro p e s m below meth c A ls H C hr hlk htab hP hD hS hl
  have C : kC G p s m c cL_on 5 RL A := C
  have hx := C.1
  have hb := C.2.1
  have hl : lv_has ls 5 [(0, .ref h0), (1, .int n0), (2, .int n1), (3, .ref aout)] := hl
  refine lv_aload_n hx hb dL_on_0 rfl (lv_at hl 3 rfl) ?_
  refine lv_iconst (v := 0) hx hb dL_on_1 (by decide) ?_
  refine lv_aload_n hx hb dL_on_2 rfl (lv_at hl 0 rfl) ?_
  refine lv_iload_n hx hb dL_on_3 rfl (lv_at hl 1 rfl) ?_
  refine lv_iload_n hx hb dL_on_4 rfl (lv_at hl 2 rfl) ?_
  refine k_xcallVi (wr := [(aout, .inl (G.2.2.2.2, 1, .inr (.inl fJ)))]) (rest := [.int 0, .ref aout]) li_L_82 C (c_X11_on l hst G H.size h0 n0 n1 Fh0 ad ast Fast Fad ap Fap e_h0_12 e_h0_8 e_ast_0 e_ad_7 e_ap_2) (kR rfl) hP hD hS [0, 1, 2, 3] [4] rfl rfl rfl rfl (by decide) 0 11 rfl rfl rfl hl.1 rfl (Nat.le_of_ble_eq_true rfl) dL_on_5 (fun E ce q9 uu3 H locs hw1 hP hD hS hc1 hc2 hc3 => ?_) (fun rr2 uu3 H locs hw1 hP hD hS => ?_)
  ·
    rcases hw1 with ⟨rfl, rfl, c_4⟩ | ⟨rfl, rfl, c_5, c_6⟩ | ⟨rfl, rfl, c_7, c_8, c_9⟩ | ⟨rfl, rfl, c_10, c_11, c_12, c_13⟩
    ·
      have hP : va_P G.1 vwCl [(aout, .inl (G.2.2.2.2, 1, .inr (.inl fJ))), (h0, .inr (11, ofL 17 Fh0)), (ast, .inr (9, ofL 6 Fast)), (ad, .inr (1, ofL 10 Fad)), (ap, .inr (7, ofL 5 Fap))] H := hP
      have hD : va_D A [(aout, .inl (G.2.2.2.2, 1, .inr (.inl fJ))), (h0, .inr (11, ofL 17 Fh0)), (ast, .inr (9, ofL 6 Fast)), (ad, .inr (1, ofL 10 Fad)), (ap, .inr (7, ofL 5 Fap))] := hD
      refine k_catch1 C htab (by decide) (by decide) tw_992 tw_1002 hc1 hc2 hc3 ?_
      refine lv_astore (lv' := [(4, .ref q9), (0, .ref h0), (1, .int n0), (2, .int n1), (3, .ref aout)]) hx hb dL_on_13 hl (by decide) rfl (fun ls hl => ?_)
      refine lv_iconst (v := 1) hx hb dL_on_15 (by decide) ?_
      exact k_iret C hr hlk hP hD hS 0 (Or.inl ⟨rfl, rfl, c_4⟩) [0, 1, 2, 3, 4] rfl rfl (Nat.le_of_ble_eq_true rfl) (Nat.le_of_ble_eq_true rfl) dL_on_16
    ·
      have hP : va_P G.1 vwCl [(aout, .inl (G.2.2.2.2, 1, .inr (.inl fJ))), (h0, .inr (11, ofL 17 Fh0)), (ast, .inr (9, ofL 6 Fast)), (ad, .inr (1, ofL 10 Fad)), (ap, .inr (7, ofL 5 Fap))] H := hP
      have hD : va_D A [(aout, .inl (G.2.2.2.2, 1, .inr (.inl fJ))), (h0, .inr (11, ofL 17 Fh0)), (ast, .inr (9, ofL 6 Fast)), (ad, .inr (1, ofL 10 Fad)), (ap, .inr (7, ofL 5 Fap))] := hD
      refine k_catch1 C htab (by decide) (by decide) tw_992 tw_1002 hc1 hc2 hc3 ?_
      refine lv_astore (lv' := [(4, .ref q9), (0, .ref h0), (1, .int n0), (2, .int n1), (3, .ref aout)]) hx hb dL_on_13 hl (by decide) rfl (fun ls hl => ?_)
      refine lv_iconst (v := 1) hx hb dL_on_15 (by decide) ?_
      exact k_iret C hr hlk hP hD hS 1 (Or.inr (Or.inl ⟨rfl, rfl, c_5, c_6⟩)) [0, 1, 2, 3, 4] rfl rfl (Nat.le_of_ble_eq_true rfl) (Nat.le_of_ble_eq_true rfl) dL_on_16
    ·
      have hP : va_P G.1 vwCl [(aout, .inl (G.2.2.2.2, 1, .inr (.inl fJ))), (h0, .inr (11, ofL 17 Fh0)), (ast, .inr (9, ofL 6 Fast)), (ad, .inr (1, ofL 10 Fad)), (ap, .inr (7, ofL 5 Fap))] H := hP
      have hD : va_D A [(aout, .inl (G.2.2.2.2, 1, .inr (.inl fJ))), (h0, .inr (11, ofL 17 Fh0)), (ast, .inr (9, ofL 6 Fast)), (ad, .inr (1, ofL 10 Fad)), (ap, .inr (7, ofL 5 Fap))] := hD
      refine k_catch2 C htab (by decide) tw_992 (by decide) (by decide) tw_732 tw_739 hc1 hc2 hc3 ?_
      refine lv_astore (lv' := [(4, .ref q9), (0, .ref h0), (1, .int n0), (2, .int n1), (3, .ref aout)]) hx hb dL_on_17 hl (by decide) rfl (fun ls hl => ?_)
      refine lv_iconst (v := 2) hx hb dL_on_19 (by decide) ?_
      exact k_iret C hr hlk hP hD hS 2 (Or.inr (Or.inr (Or.inl ⟨rfl, rfl, c_7, c_8, c_9⟩))) [0, 1, 2, 3, 4] rfl rfl (Nat.le_of_ble_eq_true rfl) (Nat.le_of_ble_eq_true rfl) dL_on_20
    ·
      have hP : va_P G.1 vwCl [(aout, .inl (G.2.2.2.2, 1, .inr (.inl fJ))), (h0, .inr (11, ofL 17 Fh0)), (ast, .inr (9, ofL 6 Fast)), (ad, .inr (1, ofL 10 Fad)), (ap, .inr (7, ofL 5 Fap))] H := hP
      have hD : va_D A [(aout, .inl (G.2.2.2.2, 1, .inr (.inl fJ))), (h0, .inr (11, ofL 17 Fh0)), (ast, .inr (9, ofL 6 Fast)), (ad, .inr (1, ofL 10 Fad)), (ap, .inr (7, ofL 5 Fap))] := hD
      refine k_catch2 C htab (by decide) tw_992 (by decide) (by decide) tw_732 tw_739 hc1 hc2 hc3 ?_
      refine lv_astore (lv' := [(4, .ref q9), (0, .ref h0), (1, .int n0), (2, .int n1), (3, .ref aout)]) hx hb dL_on_17 hl (by decide) rfl (fun ls hl => ?_)
      refine lv_iconst (v := 2) hx hb dL_on_19 (by decide) ?_
      exact k_iret C hr hlk hP hD hS 3 (Or.inr (Or.inr (Or.inr (Or.inl ⟨rfl, rfl, c_10, c_11, c_12, c_13⟩)))) [0, 1, 2, 3, 4] rfl rfl (Nat.le_of_ble_eq_true rfl) (Nat.le_of_ble_eq_true rfl) dL_on_20
  rcases hw1 with ⟨rfl, rfl, c_14, c_15, c_16, c_17, c_18⟩ | ⟨rfl, rfl, c_19, c_20, c_21, c_22, rfl⟩
  ·
    have hP : va_P G.1 vwCl [(aout, .inl (G.2.2.2.2, 1, .inr (.inl fJ))), (h0, .inr (11, ofL 17 Fh0)), (ad, .inr (1, ofL 10 Fad)), (ap, .inr (7, ofL 5 Fap)), (ast, .inr (9, ofL 6 (updV Fast 5 (.int 0))))] H := hP
    have hD : va_D A [(aout, .inl (G.2.2.2.2, 1, .inr (.inl fJ))), (h0, .inr (11, ofL 17 Fh0)), (ad, .inr (1, ofL 10 Fad)), (ap, .inr (7, ofL 5 Fap)), (ast, .inr (9, ofL 6 (updV Fast 5 (.int 0))))] := hD
    refine lv_i2l (v := 0) hx hb dL_on_8 (by decide) ?_
    refine k_last C hP hD hS 0 rfl (k_in (by decide)) dL_on_9 (fun H locs hP hD hS => ?_)
    have hP : va_P G.1 vwCl [(aout, .inl (G.2.2.2.2, 1, .inr (.inl (vp_updL fJ 0 0)))), (h0, .inr (11, ofL 17 Fh0)), (ad, .inr (1, ofL 10 Fad)), (ap, .inr (7, ofL 5 Fap)), (ast, .inr (9, ofL 6 (updV Fast 5 (.int 0))))] H := hP
    have hD : va_D A [(aout, .inl (G.2.2.2.2, 1, .inr (.inl (vp_updL fJ 0 0)))), (h0, .inr (11, ofL 17 Fh0)), (ad, .inr (1, ofL 10 Fad)), (ap, .inr (7, ofL 5 Fap)), (ast, .inr (9, ofL 6 (updV Fast 5 (.int 0))))] := hD
    refine lv_goto (tgt := 21) hx hb dL_on_10 (by decide) ?_
    refine lv_iconst (v := 0) hx hb dL_on_21 (by decide) ?_
    exact k_iret C hr hlk hP hD hS 4 (Or.inr (Or.inr (Or.inr (Or.inr (Or.inl ⟨rfl, rfl, c_14, c_15, c_16, c_17, c_18⟩))))) [0, 1, 2, 3, 4] rfl rfl (Nat.le_of_ble_eq_true rfl) (Nat.le_of_ble_eq_true rfl) dL_on_22
  ·
    have hP : va_P G.1 vwCl [(aout, .inl (G.2.2.2.2, 1, .inr (.inl fJ))), (h0, .inr (11, ofL 17 Fh0)), (ast, .inr (9, ofL 6 (updV Fast 5 (.int 0)))), (ad, .inr (1, ofL 10 Fad)), (ap, .inr (7, ofL 5 Fap))] H := hP
    have hD : va_D A [(aout, .inl (G.2.2.2.2, 1, .inr (.inl fJ))), (h0, .inr (11, ofL 17 Fh0)), (ast, .inr (9, ofL 6 (updV Fast 5 (.int 0)))), (ad, .inr (1, ofL 10 Fad)), (ap, .inr (7, ofL 5 Fap))] := hD
    refine lv_i2l (v := 0) hx hb dL_on_8 (by decide) ?_
    refine k_last C hP hD hS 0 rfl (k_in (by decide)) dL_on_9 (fun H locs hP hD hS => ?_)
    have hP : va_P G.1 vwCl [(aout, .inl (G.2.2.2.2, 1, .inr (.inl (vp_updL fJ 0 0)))), (h0, .inr (11, ofL 17 Fh0)), (ast, .inr (9, ofL 6 (updV Fast 5 (.int 0)))), (ad, .inr (1, ofL 10 Fad)), (ap, .inr (7, ofL 5 Fap))] H := hP
    have hD : va_D A [(aout, .inl (G.2.2.2.2, 1, .inr (.inl (vp_updL fJ 0 0)))), (h0, .inr (11, ofL 17 Fh0)), (ast, .inr (9, ofL 6 (updV Fast 5 (.int 0)))), (ad, .inr (1, ofL 10 Fad)), (ap, .inr (7, ofL 5 Fap))] := hD
    refine lv_goto (tgt := 21) hx hb dL_on_10 (by decide) ?_
    refine lv_iconst (v := 0) hx hb dL_on_21 (by decide) ?_
    exact k_iret C hr hlk hP hD hS 5 (Or.inr (Or.inr (Or.inr (Or.inr (Or.inr (⟨rfl, rfl, c_19, c_20, c_21, c_22, rfl⟩)))))) [0, 1, 2, 3, 4] rfl rfl (Nat.le_of_ble_eq_true rfl) (Nat.le_of_ble_eq_true rfl) dL_on_22
set_option maxHeartbeats 4000000 in
set_option maxRecDepth 100000 in
theorem c_L_clash (l : Launch) (hst : l.stackTraces = false) (G : kG) (sz : Nat) (h0 : Nat) (n0 : Int32) (aout : Nat) (Fh0 : Nat → Value) (ad : Nat) (Fad : Nat → Value) (ap : Nat) (Fap : Nat → Value) (fJ : Nat → Int64) (e_h0_8 : Fh0 8 = .ref ad) (e_ad_7 : Fad 7 = .ref ap) (e_ap_2 : Fap 2 = .int 0) : kMH l yL_clash cL_clash 4 (some .int) [(0, 9, 12, 18)] { frames := 8, cells := 1, slots := 6, locals := 155 } G [.ref h0, .int n0, .ref aout] [(h0, .inr (11, ofL 17 Fh0)), (ad, .inr (1, ofL 10 Fad)), (ap, .inr (7, ofL 5 Fap)), (aout, .inl (G.2.2.2.2, 1, .inr (.inl fJ)))] sz (kQi G (S := Nat) (fun r u => (u = 0 ∧ r = 1 ∧ n0 < 0) ∨ (u = 1 ∧ r = 1 ∧ ¬ n0 < 0 ∧ ¬ n0 < 2) ∨ (u = 2 ∧ r = 0 ∧ ¬ n0 < 0 ∧ n0 < 2 ∧ ¬ n0 = 0) ∨ (u = 3 ∧ r = 0 ∧ ¬ n0 < 0 ∧ n0 < 2 ∧ n0 = 0)) (fun u => match u with | 0 => [(aout, .inl (G.2.2.2.2, 1, .inr (.inl fJ))), (h0, .inr (11, ofL 17 Fh0)), (ad, .inr (1, ofL 10 Fad)), (ap, .inr (7, ofL 5 Fap))] | 1 => [(aout, .inl (G.2.2.2.2, 1, .inr (.inl fJ))), (h0, .inr (11, ofL 17 Fh0)), (ad, .inr (1, ofL 10 Fad)), (ap, .inr (7, ofL 5 Fap))] | 2 => [(aout, .inl (G.2.2.2.2, 1, .inr (.inl (vp_updL fJ 0 (-1))))), (h0, .inr (11, ofL 17 Fh0)), (ad, .inr (1, ofL 10 Fad)), (ap, .inr (7, ofL 5 Fap))] | _ => [(aout, .inl (G.2.2.2.2, 1, .inr (.inl (vp_updL fJ 0 0)))), (h0, .inr (11, ofL 17 Fh0)), (ad, .inr (1, ofL 10 Fad)), (ap, .inr (7, ofL 5 Fap))])) := by
  refine kMH.of (by decide) (Nat.le_of_ble_eq_true rfl) ?_
  intro p e s m below meth c A ls H C hr hlk htab hP hD hS hl
  have C : kC G p s m c cL_clash 4 RL A := C
  have hx := C.1
  have hb := C.2.1
  have hl : lv_has ls 4 [(0, .ref h0), (1, .int n0), (2, .ref aout)] := hl
  refine lv_aload_n hx hb dL_clash_0 rfl (lv_at hl 2 rfl) ?_
  refine lv_iconst (v := 0) hx hb dL_clash_1 (by decide) ?_
  refine lv_aload_n hx hb dL_clash_2 rfl (lv_at hl 0 rfl) ?_
  refine lv_iload_n hx hb dL_clash_3 rfl (lv_at hl 1 rfl) ?_
  refine k_xcallVi (wr := [(aout, .inl (G.2.2.2.2, 1, .inr (.inl fJ)))]) (rest := [.int 0, .ref aout]) li_L_85 C (c_X11_clash l hst G H.size h0 n0 Fh0 ad Fad ap Fap e_h0_8 e_ad_7 e_ap_2) (kR rfl) hP hD hS [0, 1, 2] [3] rfl rfl rfl rfl (by decide) 0 11 rfl rfl rfl hl.1 rfl (Nat.le_of_ble_eq_true rfl) dL_clash_4 (fun E ce q9 uu3 H locs hw1 hP hD hS hc1 hc2 hc3 => ?_) (fun rr2 uu3 H locs hw1 hP hD hS => ?_)
  ·
    rcases hw1 with ⟨rfl, rfl, c_4⟩ | ⟨rfl, rfl, c_5, c_6⟩
    ·
      have hP : va_P G.1 vwCl [(aout, .inl (G.2.2.2.2, 1, .inr (.inl fJ))), (h0, .inr (11, ofL 17 Fh0)), (ad, .inr (1, ofL 10 Fad)), (ap, .inr (7, ofL 5 Fap))] H := hP
      have hD : va_D A [(aout, .inl (G.2.2.2.2, 1, .inr (.inl fJ))), (h0, .inr (11, ofL 17 Fh0)), (ad, .inr (1, ofL 10 Fad)), (ap, .inr (7, ofL 5 Fap))] := hD
      refine k_catch1 C htab (by decide) (by decide) tw_992 tw_1002 hc1 hc2 hc3 ?_
      refine lv_astore_n (lv' := [(3, .ref q9), (0, .ref h0), (1, .int n0), (2, .ref aout)]) hx hb dL_clash_12 rfl hl (by decide) rfl (fun ls hl => ?_)
      refine lv_iconst (v := 1) hx hb dL_clash_13 (by decide) ?_
      exact k_iret C hr hlk hP hD hS 0 (Or.inl ⟨rfl, rfl, c_4⟩) [0, 1, 2, 3] rfl rfl (Nat.le_of_ble_eq_true rfl) (Nat.le_of_ble_eq_true rfl) dL_clash_14
    ·
      have hP : va_P G.1 vwCl [(aout, .inl (G.2.2.2.2, 1, .inr (.inl fJ))), (h0, .inr (11, ofL 17 Fh0)), (ad, .inr (1, ofL 10 Fad)), (ap, .inr (7, ofL 5 Fap))] H := hP
      have hD : va_D A [(aout, .inl (G.2.2.2.2, 1, .inr (.inl fJ))), (h0, .inr (11, ofL 17 Fh0)), (ad, .inr (1, ofL 10 Fad)), (ap, .inr (7, ofL 5 Fap))] := hD
      refine k_catch1 C htab (by decide) (by decide) tw_992 tw_1002 hc1 hc2 hc3 ?_
      refine lv_astore_n (lv' := [(3, .ref q9), (0, .ref h0), (1, .int n0), (2, .ref aout)]) hx hb dL_clash_12 rfl hl (by decide) rfl (fun ls hl => ?_)
      refine lv_iconst (v := 1) hx hb dL_clash_13 (by decide) ?_
      exact k_iret C hr hlk hP hD hS 1 (Or.inr (Or.inl ⟨rfl, rfl, c_5, c_6⟩)) [0, 1, 2, 3] rfl rfl (Nat.le_of_ble_eq_true rfl) (Nat.le_of_ble_eq_true rfl) dL_clash_14
  rcases hw1 with ⟨rfl, rfl, c_7, c_8, c_9⟩ | ⟨rfl, rfl, c_10, c_11, rfl⟩
  ·
    have hP : va_P G.1 vwCl [(aout, .inl (G.2.2.2.2, 1, .inr (.inl fJ))), (h0, .inr (11, ofL 17 Fh0)), (ad, .inr (1, ofL 10 Fad)), (ap, .inr (7, ofL 5 Fap))] H := hP
    have hD : va_D A [(aout, .inl (G.2.2.2.2, 1, .inr (.inl fJ))), (h0, .inr (11, ofL 17 Fh0)), (ad, .inr (1, ofL 10 Fad)), (ap, .inr (7, ofL 5 Fap))] := hD
    refine lv_i2l (v := -1) hx hb dL_clash_7 (by decide) ?_
    refine k_last C hP hD hS 0 rfl (k_in (by decide)) dL_clash_8 (fun H locs hP hD hS => ?_)
    have hP : va_P G.1 vwCl [(aout, .inl (G.2.2.2.2, 1, .inr (.inl (vp_updL fJ 0 (-1))))), (h0, .inr (11, ofL 17 Fh0)), (ad, .inr (1, ofL 10 Fad)), (ap, .inr (7, ofL 5 Fap))] H := hP
    have hD : va_D A [(aout, .inl (G.2.2.2.2, 1, .inr (.inl (vp_updL fJ 0 (-1))))), (h0, .inr (11, ofL 17 Fh0)), (ad, .inr (1, ofL 10 Fad)), (ap, .inr (7, ofL 5 Fap))] := hD
    refine lv_goto (tgt := 15) hx hb dL_clash_9 (by decide) ?_
    refine lv_iconst (v := 0) hx hb dL_clash_15 (by decide) ?_
    exact k_iret C hr hlk hP hD hS 2 (Or.inr (Or.inr (Or.inl ⟨rfl, rfl, c_7, c_8, c_9⟩))) [0, 1, 2, 3] rfl rfl (Nat.le_of_ble_eq_true rfl) (Nat.le_of_ble_eq_true rfl) dL_clash_16
  ·
    have hP : va_P G.1 vwCl [(aout, .inl (G.2.2.2.2, 1, .inr (.inl fJ))), (h0, .inr (11, ofL 17 Fh0)), (ad, .inr (1, ofL 10 Fad)), (ap, .inr (7, ofL 5 Fap))] H := hP
    have hD : va_D A [(aout, .inl (G.2.2.2.2, 1, .inr (.inl fJ))), (h0, .inr (11, ofL 17 Fh0)), (ad, .inr (1, ofL 10 Fad)), (ap, .inr (7, ofL 5 Fap))] := hD
    refine lv_i2l (v := 0) hx hb dL_clash_7 (by decide) ?_
    refine k_last C hP hD hS 0 rfl (k_in (by decide)) dL_clash_8 (fun H locs hP hD hS => ?_)
    have hP : va_P G.1 vwCl [(aout, .inl (G.2.2.2.2, 1, .inr (.inl (vp_updL fJ 0 0)))), (h0, .inr (11, ofL 17 Fh0)), (ad, .inr (1, ofL 10 Fad)), (ap, .inr (7, ofL 5 Fap))] H := hP
    have hD : va_D A [(aout, .inl (G.2.2.2.2, 1, .inr (.inl (vp_updL fJ 0 0)))), (h0, .inr (11, ofL 17 Fh0)), (ad, .inr (1, ofL 10 Fad)), (ap, .inr (7, ofL 5 Fap))] := hD
    refine lv_goto (tgt := 15) hx hb dL_clash_9 (by decide) ?_
    refine lv_iconst (v := 0) hx hb dL_clash_15 (by decide) ?_
    exact k_iret C hr hlk hP hD hS 3 (Or.inr (Or.inr (Or.inr (⟨rfl, rfl, c_10, c_11, rfl⟩)))) [0, 1, 2, 3] rfl rfl (Nat.le_of_ble_eq_true rfl) (Nat.le_of_ble_eq_true rfl) dL_clash_16
set_option maxHeartbeats 4000000 in
set_option maxRecDepth 100000 in
theorem c_L_busiest (l : Launch) (hst : l.stackTraces = false) (G : kG) (sz : Nat) (h0 : Nat) (n0 : Int32) (aout : Nat) (Fh0 : Nat → Value) (ad : Nat) (ast : Nat) (Fast : Nat → Value) (Fad : Nat → Value) (ap : Nat) (Fap : Nat → Value) (fJ : Nat → Int64) (e_h0_12 : Fh0 12 = .ref ast) (e_h0_8 : Fh0 8 = .ref ad) (e_ast_0 : Fast 0 = .ref ad) (e_ad_7 : Fad 7 = .ref ap) (e_ap_2 : Fap 2 = .int 0) : kMH l yL_busiest cL_busiest 4 (some .int) [(0, 9, 12, 18)] { frames := 9, cells := 1, slots := 6, locals := 178 } G [.ref h0, .int n0, .ref aout] [(h0, .inr (11, ofL 17 Fh0)), (ast, .inr (9, ofL 6 Fast)), (ad, .inr (1, ofL 10 Fad)), (ap, .inr (7, ofL 5 Fap)), (aout, .inl (G.2.2.2.2, 1, .inr (.inl fJ)))] sz (kQi G (S := Nat) (fun r u => (u = 0 ∧ r = 1 ∧ n0 < 0) ∨ (u = 1 ∧ r = 1 ∧ ¬ n0 < 0 ∧ ¬ n0 < 2) ∨ (u = 2 ∧ r = 0 ∧ ¬ n0 < 0 ∧ n0 < 2 ∧ ¬ n0 = 1) ∨ (u = 3 ∧ r = 0 ∧ ¬ n0 < 0 ∧ n0 < 2 ∧ n0 = 1)) (fun u => match u with | 0 => [(aout, .inl (G.2.2.2.2, 1, .inr (.inl fJ))), (h0, .inr (11, ofL 17 Fh0)), (ast, .inr (9, ofL 6 Fast)), (ad, .inr (1, ofL 10 Fad)), (ap, .inr (7, ofL 5 Fap))] | 1 => [(aout, .inl (G.2.2.2.2, 1, .inr (.inl fJ))), (h0, .inr (11, ofL 17 Fh0)), (ast, .inr (9, ofL 6 Fast)), (ad, .inr (1, ofL 10 Fad)), (ap, .inr (7, ofL 5 Fap))] | 2 => [(aout, .inl (G.2.2.2.2, 1, .inr (.inl (vp_updL fJ 0 0)))), (h0, .inr (11, ofL 17 Fh0)), (ad, .inr (1, ofL 10 Fad)), (ap, .inr (7, ofL 5 Fap)), (ast, .inr (9, ofL 6 (updV Fast 5 (.int 0))))] | _ => [(aout, .inl (G.2.2.2.2, 1, .inr (.inl (vp_updL fJ 0 (-1))))), (h0, .inr (11, ofL 17 Fh0)), (ad, .inr (1, ofL 10 Fad)), (ap, .inr (7, ofL 5 Fap)), (ast, .inr (9, ofL 6 (updV Fast 5 (.int 0))))])) := by
  refine kMH.of (by decide) (Nat.le_of_ble_eq_true rfl) ?_
  intro p e s m below meth c A ls H C hr hlk htab hP hD hS hl
  have C : kC G p s m c cL_busiest 4 RL A := C
  have hx := C.1
  have hb := C.2.1
  have hl : lv_has ls 4 [(0, .ref h0), (1, .int n0), (2, .ref aout)] := hl
  refine lv_aload_n hx hb dL_busiest_0 rfl (lv_at hl 2 rfl) ?_
  refine lv_iconst (v := 0) hx hb dL_busiest_1 (by decide) ?_
  refine lv_aload_n hx hb dL_busiest_2 rfl (lv_at hl 0 rfl) ?_
  refine lv_iload_n hx hb dL_busiest_3 rfl (lv_at hl 1 rfl) ?_
  refine k_xcallVi (wr := [(aout, .inl (G.2.2.2.2, 1, .inr (.inl fJ)))]) (rest := [.int 0, .ref aout]) li_L_88 C (c_X11_busiest l hst G H.size h0 n0 Fh0 ad ast Fast Fad ap Fap e_h0_12 e_h0_8 e_ast_0 e_ad_7 e_ap_2) (kR rfl) hP hD hS [0, 1, 2, 3] [4] rfl rfl rfl rfl (by decide) 0 11 rfl rfl rfl hl.1 rfl (Nat.le_of_ble_eq_true rfl) dL_busiest_4 (fun E ce q9 uu3 H locs hw1 hP hD hS hc1 hc2 hc3 => ?_) (fun rr2 uu3 H locs hw1 hP hD hS => ?_)
  ·
    rcases hw1 with ⟨rfl, rfl, c_4⟩ | ⟨rfl, rfl, c_5, c_6⟩
    ·
      have hP : va_P G.1 vwCl [(aout, .inl (G.2.2.2.2, 1, .inr (.inl fJ))), (h0, .inr (11, ofL 17 Fh0)), (ast, .inr (9, ofL 6 Fast)), (ad, .inr (1, ofL 10 Fad)), (ap, .inr (7, ofL 5 Fap))] H := hP
      have hD : va_D A [(aout, .inl (G.2.2.2.2, 1, .inr (.inl fJ))), (h0, .inr (11, ofL 17 Fh0)), (ast, .inr (9, ofL 6 Fast)), (ad, .inr (1, ofL 10 Fad)), (ap, .inr (7, ofL 5 Fap))] := hD
      refine k_catch1 C htab (by decide) (by decide) tw_992 tw_1002 hc1 hc2 hc3 ?_
      refine lv_astore_n (lv' := [(3, .ref q9), (0, .ref h0), (1, .int n0), (2, .ref aout)]) hx hb dL_busiest_12 rfl hl (by decide) rfl (fun ls hl => ?_)
      refine lv_iconst (v := 1) hx hb dL_busiest_13 (by decide) ?_
      exact k_iret C hr hlk hP hD hS 0 (Or.inl ⟨rfl, rfl, c_4⟩) [0, 1, 2, 3, 4] rfl rfl (Nat.le_of_ble_eq_true rfl) (Nat.le_of_ble_eq_true rfl) dL_busiest_14
    ·
      have hP : va_P G.1 vwCl [(aout, .inl (G.2.2.2.2, 1, .inr (.inl fJ))), (h0, .inr (11, ofL 17 Fh0)), (ast, .inr (9, ofL 6 Fast)), (ad, .inr (1, ofL 10 Fad)), (ap, .inr (7, ofL 5 Fap))] H := hP
      have hD : va_D A [(aout, .inl (G.2.2.2.2, 1, .inr (.inl fJ))), (h0, .inr (11, ofL 17 Fh0)), (ast, .inr (9, ofL 6 Fast)), (ad, .inr (1, ofL 10 Fad)), (ap, .inr (7, ofL 5 Fap))] := hD
      refine k_catch1 C htab (by decide) (by decide) tw_992 tw_1002 hc1 hc2 hc3 ?_
      refine lv_astore_n (lv' := [(3, .ref q9), (0, .ref h0), (1, .int n0), (2, .ref aout)]) hx hb dL_busiest_12 rfl hl (by decide) rfl (fun ls hl => ?_)
      refine lv_iconst (v := 1) hx hb dL_busiest_13 (by decide) ?_
      exact k_iret C hr hlk hP hD hS 1 (Or.inr (Or.inl ⟨rfl, rfl, c_5, c_6⟩)) [0, 1, 2, 3, 4] rfl rfl (Nat.le_of_ble_eq_true rfl) (Nat.le_of_ble_eq_true rfl) dL_busiest_14
  rcases hw1 with ⟨rfl, rfl, c_7, c_8, c_9⟩ | ⟨rfl, rfl, c_10, c_11, rfl⟩
  ·
    have hP : va_P G.1 vwCl [(aout, .inl (G.2.2.2.2, 1, .inr (.inl fJ))), (h0, .inr (11, ofL 17 Fh0)), (ad, .inr (1, ofL 10 Fad)), (ap, .inr (7, ofL 5 Fap)), (ast, .inr (9, ofL 6 (updV Fast 5 (.int 0))))] H := hP
    have hD : va_D A [(aout, .inl (G.2.2.2.2, 1, .inr (.inl fJ))), (h0, .inr (11, ofL 17 Fh0)), (ad, .inr (1, ofL 10 Fad)), (ap, .inr (7, ofL 5 Fap)), (ast, .inr (9, ofL 6 (updV Fast 5 (.int 0))))] := hD
    refine lv_i2l (v := 0) hx hb dL_busiest_7 (by decide) ?_
    refine k_last C hP hD hS 0 rfl (k_in (by decide)) dL_busiest_8 (fun H locs hP hD hS => ?_)
    have hP : va_P G.1 vwCl [(aout, .inl (G.2.2.2.2, 1, .inr (.inl (vp_updL fJ 0 0)))), (h0, .inr (11, ofL 17 Fh0)), (ad, .inr (1, ofL 10 Fad)), (ap, .inr (7, ofL 5 Fap)), (ast, .inr (9, ofL 6 (updV Fast 5 (.int 0))))] H := hP
    have hD : va_D A [(aout, .inl (G.2.2.2.2, 1, .inr (.inl (vp_updL fJ 0 0)))), (h0, .inr (11, ofL 17 Fh0)), (ad, .inr (1, ofL 10 Fad)), (ap, .inr (7, ofL 5 Fap)), (ast, .inr (9, ofL 6 (updV Fast 5 (.int 0))))] := hD
    refine lv_goto (tgt := 15) hx hb dL_busiest_9 (by decide) ?_
    refine lv_iconst (v := 0) hx hb dL_busiest_15 (by decide) ?_
    exact k_iret C hr hlk hP hD hS 2 (Or.inr (Or.inr (Or.inl ⟨rfl, rfl, c_7, c_8, c_9⟩))) [0, 1, 2, 3, 4] rfl rfl (Nat.le_of_ble_eq_true rfl) (Nat.le_of_ble_eq_true rfl) dL_busiest_16
  ·
    have hP : va_P G.1 vwCl [(aout, .inl (G.2.2.2.2, 1, .inr (.inl fJ))), (h0, .inr (11, ofL 17 Fh0)), (ad, .inr (1, ofL 10 Fad)), (ap, .inr (7, ofL 5 Fap)), (ast, .inr (9, ofL 6 (updV Fast 5 (.int 0))))] H := hP
    have hD : va_D A [(aout, .inl (G.2.2.2.2, 1, .inr (.inl fJ))), (h0, .inr (11, ofL 17 Fh0)), (ad, .inr (1, ofL 10 Fad)), (ap, .inr (7, ofL 5 Fap)), (ast, .inr (9, ofL 6 (updV Fast 5 (.int 0))))] := hD
    refine lv_i2l (v := -1) hx hb dL_busiest_7 (by decide) ?_
    refine k_last C hP hD hS 0 rfl (k_in (by decide)) dL_busiest_8 (fun H locs hP hD hS => ?_)
    have hP : va_P G.1 vwCl [(aout, .inl (G.2.2.2.2, 1, .inr (.inl (vp_updL fJ 0 (-1))))), (h0, .inr (11, ofL 17 Fh0)), (ad, .inr (1, ofL 10 Fad)), (ap, .inr (7, ofL 5 Fap)), (ast, .inr (9, ofL 6 (updV Fast 5 (.int 0))))] H := hP
    have hD : va_D A [(aout, .inl (G.2.2.2.2, 1, .inr (.inl (vp_updL fJ 0 (-1))))), (h0, .inr (11, ofL 17 Fh0)), (ad, .inr (1, ofL 10 Fad)), (ap, .inr (7, ofL 5 Fap)), (ast, .inr (9, ofL 6 (updV Fast 5 (.int 0))))] := hD
    refine lv_goto (tgt := 15) hx hb dL_busiest_9 (by decide) ?_
    refine lv_iconst (v := 0) hx hb dL_busiest_15 (by decide) ?_
    exact k_iret C hr hlk hP hD hS 3 (Or.inr (Or.inr (Or.inr (⟨rfl, rfl, c_10, c_11, rfl⟩)))) [0, 1, 2, 3, 4] rfl rfl (Nat.le_of_ble_eq_true rfl) (Nat.le_of_ble_eq_true rfl) dL_busiest_16
set_option maxHeartbeats 4000000 in
set_option maxRecDepth 100000 in
theorem c_L_shift (l : Launch) (hst : l.stackTraces = false) (G : kG) (sz : Nat) (h0 : Nat) (n0 : Int32) (n1 : Int32) (aout : Nat) (Fh0 : Nat → Value) (ap : Nat) (Fap : Nat → Value) (fJ : Nat → Int64) (e_h0_3 : Fh0 3 = .ref ap) (e_ap_2 : Fap 2 = .int 0) : kMH l yL_shift cL_shift 5 (some .int) [(0, 10, 13, 18)] { frames := 8, cells := 1, slots := 6, locals := 153 } G [.ref h0, .int n0, .int n1, .ref aout] [(h0, .inr (11, ofL 17 Fh0)), (ap, .inr (7, ofL 5 Fap)), (aout, .inl (G.2.2.2.2, 1, .inr (.inl fJ)))] sz (kQi G (S := Nat) (fun r u => (u = 0 ∧ r = 1 ∧ n0 < 0) ∨ (u = 1 ∧ r = 1 ∧ ¬ n0 < 0)) (fun u => match u with | 0 => [(aout, .inl (G.2.2.2.2, 1, .inr (.inl fJ))), (h0, .inr (11, ofL 17 Fh0)), (ap, .inr (7, ofL 5 Fap))] | _ => [(aout, .inl (G.2.2.2.2, 1, .inr (.inl fJ))), (h0, .inr (11, ofL 17 Fh0)), (ap, .inr (7, ofL 5 Fap))])) := by
  refine kMH.of (by decide) (Nat.le_of_ble_eq_true rfl) ?_
  intro p e s m below meth c A ls H C hr hlk htab hP hD hS hl
  have C : kC G p s m c cL_shift 5 RL A := C
  have hx := C.1
  have hb := C.2.1
  have hl : lv_has ls 5 [(0, .ref h0), (1, .int n0), (2, .int n1), (3, .ref aout)] := hl
  refine lv_aload_n hx hb dL_shift_0 rfl (lv_at hl 3 rfl) ?_
  refine lv_iconst (v := 0) hx hb dL_shift_1 (by decide) ?_
  refine lv_aload_n hx hb dL_shift_2 rfl (lv_at hl 0 rfl) ?_
  refine lv_iload_n hx hb dL_shift_3 rfl (lv_at hl 1 rfl) ?_
  refine lv_iload_n hx hb dL_shift_4 rfl (lv_at hl 2 rfl) ?_
  refine k_xcallVi (wr := [(aout, .inl (G.2.2.2.2, 1, .inr (.inl fJ)))]) (rest := [.int 0, .ref aout]) li_L_91 C (c_X11_shift l hst G H.size h0 n0 n1 Fh0 ap Fap e_h0_3 e_ap_2) (kR rfl) hP hD hS [0, 1] [2] rfl rfl rfl rfl (by decide) 0 11 rfl rfl rfl hl.1 rfl (Nat.le_of_ble_eq_true rfl) dL_shift_5 (fun E ce q9 uu3 H locs hw1 hP hD hS hc1 hc2 hc3 => ?_) (fun rr2 uu3 H locs hw1 hP hD hS => ?_)
  ·
    rcases hw1 with ⟨rfl, rfl, c_4⟩ | ⟨rfl, rfl, c_5⟩
    ·
      have hP : va_P G.1 vwCl [(aout, .inl (G.2.2.2.2, 1, .inr (.inl fJ))), (h0, .inr (11, ofL 17 Fh0)), (ap, .inr (7, ofL 5 Fap))] H := hP
      have hD : va_D A [(aout, .inl (G.2.2.2.2, 1, .inr (.inl fJ))), (h0, .inr (11, ofL 17 Fh0)), (ap, .inr (7, ofL 5 Fap))] := hD
      refine k_catch1 C htab (by decide) (by decide) tw_992 tw_1002 hc1 hc2 hc3 ?_
      refine lv_astore (lv' := [(4, .ref q9), (0, .ref h0), (1, .int n0), (2, .int n1), (3, .ref aout)]) hx hb dL_shift_13 hl (by decide) rfl (fun ls hl => ?_)
      refine lv_iconst (v := 1) hx hb dL_shift_15 (by decide) ?_
      exact k_iret C hr hlk hP hD hS 0 (Or.inl ⟨rfl, rfl, c_4⟩) [0, 1, 2] rfl rfl (Nat.le_of_ble_eq_true rfl) (Nat.le_of_ble_eq_true rfl) dL_shift_16
    ·
      have hP : va_P G.1 vwCl [(aout, .inl (G.2.2.2.2, 1, .inr (.inl fJ))), (h0, .inr (11, ofL 17 Fh0)), (ap, .inr (7, ofL 5 Fap))] H := hP
      have hD : va_D A [(aout, .inl (G.2.2.2.2, 1, .inr (.inl fJ))), (h0, .inr (11, ofL 17 Fh0)), (ap, .inr (7, ofL 5 Fap))] := hD
      refine k_catch1 C htab (by decide) (by decide) tw_992 tw_1002 hc1 hc2 hc3 ?_
      refine lv_astore (lv' := [(4, .ref q9), (0, .ref h0), (1, .int n0), (2, .int n1), (3, .ref aout)]) hx hb dL_shift_13 hl (by decide) rfl (fun ls hl => ?_)
      refine lv_iconst (v := 1) hx hb dL_shift_15 (by decide) ?_
      exact k_iret C hr hlk hP hD hS 1 (Or.inr (⟨rfl, rfl, c_5⟩)) [0, 1, 2] rfl rfl (Nat.le_of_ble_eq_true rfl) (Nat.le_of_ble_eq_true rfl) dL_shift_16
  · exact hw1.elim
set_option maxHeartbeats 4000000 in
set_option maxRecDepth 100000 in
theorem c_L_harm (l : Launch) (hst : l.stackTraces = false) (G : kG) (sz : Nat) (h0 : Nat) (n0 : Int32) (n1 : Int32) (aout : Nat) (Fh0 : Nat → Value) (ap : Nat) (Fap : Nat → Value) (fJ : Nat → Int64) (e_h0_3 : Fh0 3 = .ref ap) (e_ap_2 : Fap 2 = .int 0) : kMH l yL_harm cL_harm 5 (some .int) [(0, 10, 13, 18)] { frames := 8, cells := 1, slots := 6, locals := 153 } G [.ref h0, .int n0, .int n1, .ref aout] [(h0, .inr (11, ofL 17 Fh0)), (ap, .inr (7, ofL 5 Fap)), (aout, .inl (G.2.2.2.2, 1, .inr (.inl fJ)))] sz (kQi G (S := Nat) (fun r u => (u = 0 ∧ r = 1 ∧ n0 < 0) ∨ (u = 1 ∧ r = 1 ∧ ¬ n0 < 0)) (fun u => match u with | 0 => [(aout, .inl (G.2.2.2.2, 1, .inr (.inl fJ))), (h0, .inr (11, ofL 17 Fh0)), (ap, .inr (7, ofL 5 Fap))] | _ => [(aout, .inl (G.2.2.2.2, 1, .inr (.inl fJ))), (h0, .inr (11, ofL 17 Fh0)), (ap, .inr (7, ofL 5 Fap))])) := by
  refine kMH.of (by decide) (Nat.le_of_ble_eq_true rfl) ?_
  intro p e s m below meth c A ls H C hr hlk htab hP hD hS hl
  have C : kC G p s m c cL_harm 5 RL A := C
  have hx := C.1
  have hb := C.2.1
  have hl : lv_has ls 5 [(0, .ref h0), (1, .int n0), (2, .int n1), (3, .ref aout)] := hl
  refine lv_aload_n hx hb dL_harm_0 rfl (lv_at hl 3 rfl) ?_
  refine lv_iconst (v := 0) hx hb dL_harm_1 (by decide) ?_
  refine lv_aload_n hx hb dL_harm_2 rfl (lv_at hl 0 rfl) ?_
  refine lv_iload_n hx hb dL_harm_3 rfl (lv_at hl 1 rfl) ?_
  refine lv_iload_n hx hb dL_harm_4 rfl (lv_at hl 2 rfl) ?_
  refine k_xcallVi (wr := [(aout, .inl (G.2.2.2.2, 1, .inr (.inl fJ)))]) (rest := [.int 0, .ref aout]) li_L_94 C (c_X11_harm l hst G H.size h0 n0 n1 Fh0 ap Fap e_h0_3 e_ap_2) (kR rfl) hP hD hS [0, 1] [2] rfl rfl rfl rfl (by decide) 0 11 rfl rfl rfl hl.1 rfl (Nat.le_of_ble_eq_true rfl) dL_harm_5 (fun E ce q9 uu3 H locs hw1 hP hD hS hc1 hc2 hc3 => ?_) (fun rr2 uu3 H locs hw1 hP hD hS => ?_)
  ·
    rcases hw1 with ⟨rfl, rfl, c_4⟩ | ⟨rfl, rfl, c_5⟩
    ·
      have hP : va_P G.1 vwCl [(aout, .inl (G.2.2.2.2, 1, .inr (.inl fJ))), (h0, .inr (11, ofL 17 Fh0)), (ap, .inr (7, ofL 5 Fap))] H := hP
      have hD : va_D A [(aout, .inl (G.2.2.2.2, 1, .inr (.inl fJ))), (h0, .inr (11, ofL 17 Fh0)), (ap, .inr (7, ofL 5 Fap))] := hD
      refine k_catch1 C htab (by decide) (by decide) tw_992 tw_1002 hc1 hc2 hc3 ?_
      refine lv_astore (lv' := [(4, .ref q9), (0, .ref h0), (1, .int n0), (2, .int n1), (3, .ref aout)]) hx hb dL_harm_13 hl (by decide) rfl (fun ls hl => ?_)
      refine lv_iconst (v := 1) hx hb dL_harm_15 (by decide) ?_
      exact k_iret C hr hlk hP hD hS 0 (Or.inl ⟨rfl, rfl, c_4⟩) [0, 1, 2] rfl rfl (Nat.le_of_ble_eq_true rfl) (Nat.le_of_ble_eq_true rfl) dL_harm_16
    ·
      have hP : va_P G.1 vwCl [(aout, .inl (G.2.2.2.2, 1, .inr (.inl fJ))), (h0, .inr (11, ofL 17 Fh0)), (ap, .inr (7, ofL 5 Fap))] H := hP
      have hD : va_D A [(aout, .inl (G.2.2.2.2, 1, .inr (.inl fJ))), (h0, .inr (11, ofL 17 Fh0)), (ap, .inr (7, ofL 5 Fap))] := hD
      refine k_catch1 C htab (by decide) (by decide) tw_992 tw_1002 hc1 hc2 hc3 ?_
      refine lv_astore (lv' := [(4, .ref q9), (0, .ref h0), (1, .int n0), (2, .int n1), (3, .ref aout)]) hx hb dL_harm_13 hl (by decide) rfl (fun ls hl => ?_)
      refine lv_iconst (v := 1) hx hb dL_harm_15 (by decide) ?_
      exact k_iret C hr hlk hP hD hS 1 (Or.inr (⟨rfl, rfl, c_5⟩)) [0, 1, 2] rfl rfl (Nat.le_of_ble_eq_true rfl) (Nat.le_of_ble_eq_true rfl) dL_harm_16
  · exact hw1.elim
set_option maxHeartbeats 4000000 in
set_option maxRecDepth 100000 in
theorem c_L_pair (l : Launch) (hst : l.stackTraces = false) (G : kG) (sz : Nat) (h0 : Nat) (n0 : Int32) (aout : Nat) (Fh0 : Nat → Value) (atr : Nat) (Fatr : Nat → Value) (ad : Nat) (al : Nat) (Fad : Nat → Value) (ap : Nat) (Fap : Nat → Value) (Fal : Nat → Value) (fJ : Nat → Int64) (e_h0_9 : Fh0 9 = .ref atr) (e_atr_0 : Fatr 0 = .ref ad) (e_atr_2 : Fatr 2 = .ref al) (e_ad_7 : Fad 7 = .ref ap) (e_ap_2 : Fap 2 = .int 0) : kMH l yL_pair cL_pair 4 (some .int) [(0, 9, 12, 18)] { frames := 9, cells := 1, slots := 6, locals := 175 } G [.ref h0, .int n0, .ref aout] [(h0, .inr (11, ofL 17 Fh0)), (atr, .inr (10, ofL 7 Fatr)), (ad, .inr (1, ofL 10 Fad)), (ap, .inr (7, ofL 5 Fap)), (al, .inr (4, ofL 3 Fal)), (aout, .inl (G.2.2.2.2, 1, .inr (.inl fJ)))] sz (kQi G (S := Nat) (fun r u => (u = 0 ∧ r = 1 ∧ n0 < 0) ∨ (u = 1 ∧ r = 1 ∧ ¬ n0 < 0 ∧ ¬ n0 < 2) ∨ (u = 2 ∧ r = 0 ∧ ¬ n0 < 0 ∧ n0 < 2)) (fun u => match u with | 0 => [(aout, .inl (G.2.2.2.2, 1, .inr (.inl fJ))), (h0, .inr (11, ofL 17 Fh0)), (atr, .inr (10, ofL 7 Fatr)), (ad, .inr (1, ofL 10 Fad)), (ap, .inr (7, ofL 5 Fap)), (al, .inr (4, ofL 3 Fal))] | 1 => [(aout, .inl (G.2.2.2.2, 1, .inr (.inl fJ))), (h0, .inr (11, ofL 17 Fh0)), (atr, .inr (10, ofL 7 Fatr)), (ad, .inr (1, ofL 10 Fad)), (ap, .inr (7, ofL 5 Fap)), (al, .inr (4, ofL 3 Fal))] | _ => [(aout, .inl (G.2.2.2.2, 1, .inr (.inl (vp_updL fJ 0 (-1))))), (h0, .inr (11, ofL 17 Fh0)), (atr, .inr (10, ofL 7 Fatr)), (ad, .inr (1, ofL 10 Fad)), (ap, .inr (7, ofL 5 Fap)), (al, .inr (4, ofL 3 (updV Fal 0 (.int 0))))])) := by
  refine kMH.of (by decide) (Nat.le_of_ble_eq_true rfl) ?_
  intro p e s m below meth c A ls H C hr hlk htab hP hD hS hl
  have C : kC G p s m c cL_pair 4 RL A := C
  have hx := C.1
  have hb := C.2.1
  have hl : lv_has ls 4 [(0, .ref h0), (1, .int n0), (2, .ref aout)] := hl
  refine lv_aload_n hx hb dL_pair_0 rfl (lv_at hl 2 rfl) ?_
  refine lv_iconst (v := 0) hx hb dL_pair_1 (by decide) ?_
  refine lv_aload_n hx hb dL_pair_2 rfl (lv_at hl 0 rfl) ?_
  refine lv_iload_n hx hb dL_pair_3 rfl (lv_at hl 1 rfl) ?_
  refine k_xcallVi (wr := [(aout, .inl (G.2.2.2.2, 1, .inr (.inl fJ)))]) (rest := [.int 0, .ref aout]) li_L_97 C (c_X11_pair l hst G H.size h0 n0 Fh0 atr Fatr ad al Fad ap Fap Fal e_h0_9 e_atr_0 e_atr_2 e_ad_7 e_ap_2) (kR rfl) hP hD hS [0, 1, 2, 3, 4] [5] rfl rfl rfl rfl (by decide) 0 11 rfl rfl rfl hl.1 rfl (Nat.le_of_ble_eq_true rfl) dL_pair_4 (fun E ce q9 uu3 H locs hw1 hP hD hS hc1 hc2 hc3 => ?_) (fun rr2 uu3 H locs hw1 hP hD hS => ?_)
  ·
    rcases hw1 with ⟨rfl, rfl, c_4⟩ | ⟨rfl, rfl, c_5, c_6⟩
    ·
      have hP : va_P G.1 vwCl [(aout, .inl (G.2.2.2.2, 1, .inr (.inl fJ))), (h0, .inr (11, ofL 17 Fh0)), (atr, .inr (10, ofL 7 Fatr)), (ad, .inr (1, ofL 10 Fad)), (ap, .inr (7, ofL 5 Fap)), (al, .inr (4, ofL 3 Fal))] H := hP
      have hD : va_D A [(aout, .inl (G.2.2.2.2, 1, .inr (.inl fJ))), (h0, .inr (11, ofL 17 Fh0)), (atr, .inr (10, ofL 7 Fatr)), (ad, .inr (1, ofL 10 Fad)), (ap, .inr (7, ofL 5 Fap)), (al, .inr (4, ofL 3 Fal))] := hD
      refine k_catch1 C htab (by decide) (by decide) tw_992 tw_1002 hc1 hc2 hc3 ?_
      refine lv_astore_n (lv' := [(3, .ref q9), (0, .ref h0), (1, .int n0), (2, .ref aout)]) hx hb dL_pair_12 rfl hl (by decide) rfl (fun ls hl => ?_)
      refine lv_iconst (v := 1) hx hb dL_pair_13 (by decide) ?_
      exact k_iret C hr hlk hP hD hS 0 (Or.inl ⟨rfl, rfl, c_4⟩) [0, 1, 2, 3, 4, 5] rfl rfl (Nat.le_of_ble_eq_true rfl) (Nat.le_of_ble_eq_true rfl) dL_pair_14
    ·
      have hP : va_P G.1 vwCl [(aout, .inl (G.2.2.2.2, 1, .inr (.inl fJ))), (h0, .inr (11, ofL 17 Fh0)), (atr, .inr (10, ofL 7 Fatr)), (ad, .inr (1, ofL 10 Fad)), (ap, .inr (7, ofL 5 Fap)), (al, .inr (4, ofL 3 Fal))] H := hP
      have hD : va_D A [(aout, .inl (G.2.2.2.2, 1, .inr (.inl fJ))), (h0, .inr (11, ofL 17 Fh0)), (atr, .inr (10, ofL 7 Fatr)), (ad, .inr (1, ofL 10 Fad)), (ap, .inr (7, ofL 5 Fap)), (al, .inr (4, ofL 3 Fal))] := hD
      refine k_catch1 C htab (by decide) (by decide) tw_992 tw_1002 hc1 hc2 hc3 ?_
      refine lv_astore_n (lv' := [(3, .ref q9), (0, .ref h0), (1, .int n0), (2, .ref aout)]) hx hb dL_pair_12 rfl hl (by decide) rfl (fun ls hl => ?_)
      refine lv_iconst (v := 1) hx hb dL_pair_13 (by decide) ?_
      exact k_iret C hr hlk hP hD hS 1 (Or.inr (Or.inl ⟨rfl, rfl, c_5, c_6⟩)) [0, 1, 2, 3, 4, 5] rfl rfl (Nat.le_of_ble_eq_true rfl) (Nat.le_of_ble_eq_true rfl) dL_pair_14
  obtain ⟨rfl, c_7, c_8⟩ := hw1
  have hP : va_P G.1 vwCl [(aout, .inl (G.2.2.2.2, 1, .inr (.inl fJ))), (h0, .inr (11, ofL 17 Fh0)), (atr, .inr (10, ofL 7 Fatr)), (ad, .inr (1, ofL 10 Fad)), (ap, .inr (7, ofL 5 Fap)), (al, .inr (4, ofL 3 (updV Fal 0 (.int 0))))] H := hP
  have hD : va_D A [(aout, .inl (G.2.2.2.2, 1, .inr (.inl fJ))), (h0, .inr (11, ofL 17 Fh0)), (atr, .inr (10, ofL 7 Fatr)), (ad, .inr (1, ofL 10 Fad)), (ap, .inr (7, ofL 5 Fap)), (al, .inr (4, ofL 3 (updV Fal 0 (.int 0))))] := hD
  refine lv_i2l (v := -1) hx hb dL_pair_7 (by decide) ?_
  refine k_last C hP hD hS 0 rfl (k_in (by decide)) dL_pair_8 (fun H locs hP hD hS => ?_)
  have hP : va_P G.1 vwCl [(aout, .inl (G.2.2.2.2, 1, .inr (.inl (vp_updL fJ 0 (-1))))), (h0, .inr (11, ofL 17 Fh0)), (atr, .inr (10, ofL 7 Fatr)), (ad, .inr (1, ofL 10 Fad)), (ap, .inr (7, ofL 5 Fap)), (al, .inr (4, ofL 3 (updV Fal 0 (.int 0))))] H := hP
  have hD : va_D A [(aout, .inl (G.2.2.2.2, 1, .inr (.inl (vp_updL fJ 0 (-1))))), (h0, .inr (11, ofL 17 Fh0)), (atr, .inr (10, ofL 7 Fatr)), (ad, .inr (1, ofL 10 Fad)), (ap, .inr (7, ofL 5 Fap)), (al, .inr (4, ofL 3 (updV Fal 0 (.int 0))))] := hD
  refine lv_goto (tgt := 15) hx hb dL_pair_9 (by decide) ?_
  refine lv_iconst (v := 0) hx hb dL_pair_15 (by decide) ?_
  exact k_iret C hr hlk hP hD hS 2 (Or.inr (Or.inr (⟨rfl, rfl, c_7, c_8⟩))) [0, 1, 2, 3, 4, 5] rfl rfl (Nat.le_of_ble_eq_true rfl) (Nat.le_of_ble_eq_true rfl) dL_pair_16
set_option maxHeartbeats 4000000 in
set_option maxRecDepth 100000 in
theorem c_L_pause (l : Launch) (hst : l.stackTraces = false) (G : kG) (sz : Nat) (h0 : Nat) (n0 : Int32) (n1 : Int32) (aout : Nat) (Fh0 : Nat → Value) (atr : Nat) (Fatr : Nat → Value) (ad : Nat) (al : Nat) (Fad : Nat → Value) (ap : Nat) (Fap : Nat → Value) (Fal : Nat → Value) (fJ : Nat → Int64) (e_h0_9 : Fh0 9 = .ref atr) (e_atr_0 : Fatr 0 = .ref ad) (e_atr_2 : Fatr 2 = .ref al) (e_ad_7 : Fad 7 = .ref ap) (e_ap_2 : Fap 2 = .int 0) : kMH l yL_pause cL_pause 5 (some .int) [(0, 10, 13, 18), (0, 10, 17, 13)] { frames := 9, cells := 2, slots := 12, locals := 177 } G [.ref h0, .int n0, .int n1, .ref aout] [(h0, .inr (11, ofL 17 Fh0)), (atr, .inr (10, ofL 7 Fatr)), (ad, .inr (1, ofL 10 Fad)), (ap, .inr (7, ofL 5 Fap)), (al, .inr (4, ofL 3 Fal)), (aout, .inl (G.2.2.2.2, 1, .inr (.inl fJ)))] sz (kQi G (S := Nat) (fun r u => (u = 0 ∧ r = 1 ∧ n1 < 0) ∨ (u = 1 ∧ r = 1 ∧ ¬ n1 < 0 ∧ ¬ n1 < 2) ∨ (u = 2 ∧ r = 2 ∧ ¬ n1 < 0 ∧ n1 < 2 ∧ n0 < 1) ∨ (u = 3 ∧ r = 2 ∧ ¬ n1 < 0 ∧ n1 < 2 ∧ ¬ n0 < 1 ∧ ¬ n0 ≤ 30) ∨ (u = 4 ∧ r = 0 ∧ ¬ n1 < 0 ∧ n1 < 2 ∧ ¬ n0 < 1 ∧ n0 ≤ 30)) (fun u => match u with | 0 => [(aout, .inl (G.2.2.2.2, 1, .inr (.inl fJ))), (h0, .inr (11, ofL 17 Fh0)), (atr, .inr (10, ofL 7 Fatr)), (ad, .inr (1, ofL 10 Fad)), (ap, .inr (7, ofL 5 Fap)), (al, .inr (4, ofL 3 Fal))] | 1 => [(aout, .inl (G.2.2.2.2, 1, .inr (.inl fJ))), (h0, .inr (11, ofL 17 Fh0)), (atr, .inr (10, ofL 7 Fatr)), (ad, .inr (1, ofL 10 Fad)), (ap, .inr (7, ofL 5 Fap)), (al, .inr (4, ofL 3 Fal))] | 2 => [(aout, .inl (G.2.2.2.2, 1, .inr (.inl fJ))), (h0, .inr (11, ofL 17 Fh0)), (atr, .inr (10, ofL 7 Fatr)), (ad, .inr (1, ofL 10 Fad)), (ap, .inr (7, ofL 5 Fap)), (al, .inr (4, ofL 3 Fal))] | 3 => [(aout, .inl (G.2.2.2.2, 1, .inr (.inl fJ))), (h0, .inr (11, ofL 17 Fh0)), (atr, .inr (10, ofL 7 Fatr)), (ad, .inr (1, ofL 10 Fad)), (ap, .inr (7, ofL 5 Fap)), (al, .inr (4, ofL 3 Fal))] | _ => [(aout, .inl (G.2.2.2.2, 1, .inr (.inl (vp_updL fJ 0 (-1))))), (h0, .inr (11, ofL 17 Fh0)), (atr, .inr (10, ofL 7 Fatr)), (ad, .inr (1, ofL 10 Fad)), (ap, .inr (7, ofL 5 Fap)), (al, .inr (4, ofL 3 (updV Fal 0 (.int 0))))])) := by
  refine kMH.of (by decide) (Nat.le_of_ble_eq_true rfl) ?_
  intro p e s m below meth c A ls H C hr hlk htab hP hD hS hl
  have C : kC G p s m c cL_pause 5 RL A := C
  have hx := C.1
  have hb := C.2.1
  have hl : lv_has ls 5 [(0, .ref h0), (1, .int n0), (2, .int n1), (3, .ref aout)] := hl
  refine lv_aload_n hx hb dL_pause_0 rfl (lv_at hl 3 rfl) ?_
  refine lv_iconst (v := 0) hx hb dL_pause_1 (by decide) ?_
  refine lv_aload_n hx hb dL_pause_2 rfl (lv_at hl 0 rfl) ?_
  refine lv_iload_n hx hb dL_pause_3 rfl (lv_at hl 1 rfl) ?_
  refine lv_iload_n hx hb dL_pause_4 rfl (lv_at hl 2 rfl) ?_
  refine k_xcallVi (wr := [(aout, .inl (G.2.2.2.2, 1, .inr (.inl fJ)))]) (rest := [.int 0, .ref aout]) li_L_100 C (c_X11_pause l hst G H.size h0 n0 n1 Fh0 atr Fatr ad al Fad ap Fap Fal e_h0_9 e_atr_0 e_atr_2 e_ad_7 e_ap_2) (kR rfl) hP hD hS [0, 1, 2, 3, 4] [5] rfl rfl rfl rfl (by decide) 0 11 rfl rfl rfl hl.1 rfl (Nat.le_of_ble_eq_true rfl) dL_pause_5 (fun E ce q9 uu3 H locs hw1 hP hD hS hc1 hc2 hc3 => ?_) (fun rr2 uu3 H locs hw1 hP hD hS => ?_)
  ·
    rcases hw1 with ⟨rfl, rfl, c_4⟩ | ⟨rfl, rfl, c_5, c_6⟩ | ⟨rfl, rfl, c_7, c_8, c_9⟩ | ⟨rfl, rfl, c_10, c_11, c_12, c_13⟩
    ·
      have hP : va_P G.1 vwCl [(aout, .inl (G.2.2.2.2, 1, .inr (.inl fJ))), (h0, .inr (11, ofL 17 Fh0)), (atr, .inr (10, ofL 7 Fatr)), (ad, .inr (1, ofL 10 Fad)), (ap, .inr (7, ofL 5 Fap)), (al, .inr (4, ofL 3 Fal))] H := hP
      have hD : va_D A [(aout, .inl (G.2.2.2.2, 1, .inr (.inl fJ))), (h0, .inr (11, ofL 17 Fh0)), (atr, .inr (10, ofL 7 Fatr)), (ad, .inr (1, ofL 10 Fad)), (ap, .inr (7, ofL 5 Fap)), (al, .inr (4, ofL 3 Fal))] := hD
      refine k_catch1 C htab (by decide) (by decide) tw_992 tw_1002 hc1 hc2 hc3 ?_
      refine lv_astore (lv' := [(4, .ref q9), (0, .ref h0), (1, .int n0), (2, .int n1), (3, .ref aout)]) hx hb dL_pause_13 hl (by decide) rfl (fun ls hl => ?_)
      refine lv_iconst (v := 1) hx hb dL_pause_15 (by decide) ?_
      exact k_iret C hr hlk hP hD hS 0 (Or.inl ⟨rfl, rfl, c_4⟩) [0, 1, 2, 3, 4, 5] rfl rfl (Nat.le_of_ble_eq_true rfl) (Nat.le_of_ble_eq_true rfl) dL_pause_16
    ·
      have hP : va_P G.1 vwCl [(aout, .inl (G.2.2.2.2, 1, .inr (.inl fJ))), (h0, .inr (11, ofL 17 Fh0)), (atr, .inr (10, ofL 7 Fatr)), (ad, .inr (1, ofL 10 Fad)), (ap, .inr (7, ofL 5 Fap)), (al, .inr (4, ofL 3 Fal))] H := hP
      have hD : va_D A [(aout, .inl (G.2.2.2.2, 1, .inr (.inl fJ))), (h0, .inr (11, ofL 17 Fh0)), (atr, .inr (10, ofL 7 Fatr)), (ad, .inr (1, ofL 10 Fad)), (ap, .inr (7, ofL 5 Fap)), (al, .inr (4, ofL 3 Fal))] := hD
      refine k_catch1 C htab (by decide) (by decide) tw_992 tw_1002 hc1 hc2 hc3 ?_
      refine lv_astore (lv' := [(4, .ref q9), (0, .ref h0), (1, .int n0), (2, .int n1), (3, .ref aout)]) hx hb dL_pause_13 hl (by decide) rfl (fun ls hl => ?_)
      refine lv_iconst (v := 1) hx hb dL_pause_15 (by decide) ?_
      exact k_iret C hr hlk hP hD hS 1 (Or.inr (Or.inl ⟨rfl, rfl, c_5, c_6⟩)) [0, 1, 2, 3, 4, 5] rfl rfl (Nat.le_of_ble_eq_true rfl) (Nat.le_of_ble_eq_true rfl) dL_pause_16
    ·
      have hP : va_P G.1 vwCl [(aout, .inl (G.2.2.2.2, 1, .inr (.inl fJ))), (h0, .inr (11, ofL 17 Fh0)), (atr, .inr (10, ofL 7 Fatr)), (ad, .inr (1, ofL 10 Fad)), (ap, .inr (7, ofL 5 Fap)), (al, .inr (4, ofL 3 Fal))] H := hP
      have hD : va_D A [(aout, .inl (G.2.2.2.2, 1, .inr (.inl fJ))), (h0, .inr (11, ofL 17 Fh0)), (atr, .inr (10, ofL 7 Fatr)), (ad, .inr (1, ofL 10 Fad)), (ap, .inr (7, ofL 5 Fap)), (al, .inr (4, ofL 3 Fal))] := hD
      refine k_catch2 C htab (by decide) tw_992 (by decide) (by decide) tw_732 tw_739 hc1 hc2 hc3 ?_
      refine lv_astore (lv' := [(4, .ref q9), (0, .ref h0), (1, .int n0), (2, .int n1), (3, .ref aout)]) hx hb dL_pause_17 hl (by decide) rfl (fun ls hl => ?_)
      refine lv_iconst (v := 2) hx hb dL_pause_19 (by decide) ?_
      exact k_iret C hr hlk hP hD hS 2 (Or.inr (Or.inr (Or.inl ⟨rfl, rfl, c_7, c_8, c_9⟩))) [0, 1, 2, 3, 4, 5] rfl rfl (Nat.le_of_ble_eq_true rfl) (Nat.le_of_ble_eq_true rfl) dL_pause_20
    ·
      have hP : va_P G.1 vwCl [(aout, .inl (G.2.2.2.2, 1, .inr (.inl fJ))), (h0, .inr (11, ofL 17 Fh0)), (atr, .inr (10, ofL 7 Fatr)), (ad, .inr (1, ofL 10 Fad)), (ap, .inr (7, ofL 5 Fap)), (al, .inr (4, ofL 3 Fal))] H := hP
      have hD : va_D A [(aout, .inl (G.2.2.2.2, 1, .inr (.inl fJ))), (h0, .inr (11, ofL 17 Fh0)), (atr, .inr (10, ofL 7 Fatr)), (ad, .inr (1, ofL 10 Fad)), (ap, .inr (7, ofL 5 Fap)), (al, .inr (4, ofL 3 Fal))] := hD
      refine k_catch2 C htab (by decide) tw_992 (by decide) (by decide) tw_732 tw_739 hc1 hc2 hc3 ?_
      refine lv_astore (lv' := [(4, .ref q9), (0, .ref h0), (1, .int n0), (2, .int n1), (3, .ref aout)]) hx hb dL_pause_17 hl (by decide) rfl (fun ls hl => ?_)
      refine lv_iconst (v := 2) hx hb dL_pause_19 (by decide) ?_
      exact k_iret C hr hlk hP hD hS 3 (Or.inr (Or.inr (Or.inr (Or.inl ⟨rfl, rfl, c_10, c_11, c_12, c_13⟩)))) [0, 1, 2, 3, 4, 5] rfl rfl (Nat.le_of_ble_eq_true rfl) (Nat.le_of_ble_eq_true rfl) dL_pause_20
  obtain ⟨rfl, c_14, c_15, c_16, c_17⟩ := hw1
  have hP : va_P G.1 vwCl [(aout, .inl (G.2.2.2.2, 1, .inr (.inl fJ))), (h0, .inr (11, ofL 17 Fh0)), (atr, .inr (10, ofL 7 Fatr)), (ad, .inr (1, ofL 10 Fad)), (ap, .inr (7, ofL 5 Fap)), (al, .inr (4, ofL 3 (updV Fal 0 (.int 0))))] H := hP
  have hD : va_D A [(aout, .inl (G.2.2.2.2, 1, .inr (.inl fJ))), (h0, .inr (11, ofL 17 Fh0)), (atr, .inr (10, ofL 7 Fatr)), (ad, .inr (1, ofL 10 Fad)), (ap, .inr (7, ofL 5 Fap)), (al, .inr (4, ofL 3 (updV Fal 0 (.int 0))))] := hD
  refine lv_i2l (v := -1) hx hb dL_pause_8 (by decide) ?_
  refine k_last C hP hD hS 0 rfl (k_in (by decide)) dL_pause_9 (fun H locs hP hD hS => ?_)
  have hP : va_P G.1 vwCl [(aout, .inl (G.2.2.2.2, 1, .inr (.inl (vp_updL fJ 0 (-1))))), (h0, .inr (11, ofL 17 Fh0)), (atr, .inr (10, ofL 7 Fatr)), (ad, .inr (1, ofL 10 Fad)), (ap, .inr (7, ofL 5 Fap)), (al, .inr (4, ofL 3 (updV Fal 0 (.int 0))))] H := hP
  have hD : va_D A [(aout, .inl (G.2.2.2.2, 1, .inr (.inl (vp_updL fJ 0 (-1))))), (h0, .inr (11, ofL 17 Fh0)), (atr, .inr (10, ofL 7 Fatr)), (ad, .inr (1, ofL 10 Fad)), (ap, .inr (7, ofL 5 Fap)), (al, .inr (4, ofL 3 (updV Fal 0 (.int 0))))] := hD
  refine lv_goto (tgt := 21) hx hb dL_pause_10 (by decide) ?_
  refine lv_iconst (v := 0) hx hb dL_pause_21 (by decide) ?_
  exact k_iret C hr hlk hP hD hS 4 (Or.inr (Or.inr (Or.inr (Or.inr (⟨rfl, rfl, c_14, c_15, c_16, c_17⟩))))) [0, 1, 2, 3, 4, 5] rfl rfl (Nat.le_of_ble_eq_true rfl) (Nat.le_of_ble_eq_true rfl) dL_pause_22
